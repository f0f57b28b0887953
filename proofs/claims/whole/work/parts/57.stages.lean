/-! the pure part: STAGES -/
def imx (a b : Int) : Int := if a < b then b else a
def imn (a b : Int) : Int := if b < a then b else a
def sA (nx : Int → Int → Int → Int) (w v a : Int) : Int := if 0 ≤ a then nx w v a else 31
def sLG (nx : Int → Int → Int → Int) (all sh w v a : Int) : Int := imn (if 0 < v then imx (imx (all - sh + sA nx w v (a - sh)) (all + sA nx w (v - 1) a)) (sA nx w (v - 1) (a - all)) else all - sh + sA nx w v (a - sh)) 31
def sLW (pw : Int → Int → Int) (g v a : Int) : Int := if pw v (imn 30 (a + g)) = 31 then 31 else imx 0 (pw v (imn 30 (a + g)) - g)
def sW (nx : Int → Int → Int → Int) (all sh g : Int) : Nat → Int → Int → Int
  | 0, v, a => imn (sLG nx all sh 0 v a) 31
  | w + 1, v, a => imn (sLG nx all sh ((w + 1 : Nat) : Int) v a) (sLW (sW nx all sh g w) g v a)
def shr (c t : Int) : Int := Int.tdiv (wr (c * t)) 10
def sL (cs tn : Int → Int) (g n : Int) : Nat → Int → Int → Int → Int
  | 0, _, _, _ => 0
  | d + 1, w, v, a => sW (sL cs tn g n d) (cs (n - ((d + 1 : Nat) : Int))) (shr (cs (n - ((d + 1 : Nat) : Int))) (tn (n - ((d + 1 : Nat) : Int)))) g w.toNat v a
theorem shr_rg {c t : Int} (hc : 0 ≤ c ∧ c ≤ 30) (ht : 0 ≤ t ∧ t ≤ 10) : 0 ≤ shr c t ∧ shr c t ≤ c := by
  have h1 : 0 ≤ c * t := Int.mul_nonneg hc.1 ht.1
  have h2 : c * t ≤ c * 10 := Int.mul_le_mul_of_nonneg_left ht.2 hc.1
  unfold shr
  rw [wr_id (by omega) (by omega), Int.tdiv_eq_ediv_of_nonneg h1]
  omega
theorem sLG_rg {nx : Int → Int → Int → Int} {all sh w v a : Int} (hn : ∀ w v a, 0 ≤ nx w v a ∧ nx w v a ≤ 31) (hs : 0 ≤ sh ∧ sh ≤ all) : 0 ≤ sLG nx all sh w v a ∧ sLG nx all sh w v a ≤ 31 := by
  have h1 := hn w v (a - sh)
  have h2 := hn w (v - 1) a
  have h3 := hn w (v - 1) (a - all)
  unfold sLG sA imn imx
  constructor <;> (repeat' split) <;> omega
theorem sW_rg {nx : Int → Int → Int → Int} {all sh g : Int} (hn : ∀ w v a, 0 ≤ nx w v a ∧ nx w v a ≤ 31) (hs : 0 ≤ sh ∧ sh ≤ all) (hg : 0 ≤ g) : ∀ (w : Nat) (v a : Int), 0 ≤ sW nx all sh g w v a ∧ sW nx all sh g w v a ≤ 31
  | 0, v, a => by
    have := sLG_rg (w := 0) (v := v) (a := a) hn hs
    unfold sW imn
    split <;> omega
  | w + 1, v, a => by
    have h1 := sLG_rg (w := ((w + 1 : Nat) : Int)) (v := v) (a := a) hn hs
    have h2 := sW_rg hn hs hg w v (imn 30 (a + g))
    have h3 : 0 ≤ sLW (sW nx all sh g w) g v a ∧ sLW (sW nx all sh g w) g v a ≤ 31 := by
      unfold sLW
      generalize sW nx all sh g w v (imn 30 (a + g)) = x at h2 ⊢
      unfold imx
      repeat' split
      all_goals omega
    unfold sW
    generalize sLW (sW nx all sh g w) g v a = y at h3 ⊢
    generalize sLG nx all sh ((w + 1 : Nat) : Int) v a = z at h1 ⊢
    unfold imn
    split <;> omega
theorem sL_rg {cs tn : Int → Int} {g n : Int} (hc : ∀ s, 0 ≤ s → s < n → (0 ≤ cs s ∧ cs s ≤ 30) ∧ (0 ≤ tn s ∧ tn s ≤ 10)) (hg : 0 ≤ g) : ∀ (d : Nat), (d : Int) ≤ n → ∀ (w v a : Int), 0 ≤ sL cs tn g n d w v a ∧ sL cs tn g n d w v a ≤ 31
  | 0, _, _, _, _ => by unfold sL; omega
  | d + 1, h, w, v, a => by
    have h1 := hc (n - ((d + 1 : Nat) : Int)) (by omega) (by omega)
    exact sW_rg (sL_rg hc hg d (by omega)) (shr_rg h1.1 h1.2) hg _ _ _
/-- the reference's way -/
theorem goes_iff {nx : Int → Int → Int → Int} {all sh w v a b : Int} (hn : ∀ w v a, 0 ≤ nx w v a ∧ nx w v a ≤ 31) (hs : 0 ≤ sh ∧ sh ≤ all) (ha : 0 ≤ a ∧ a ≤ 30) (hb : 0 ≤ b ∧ b ≤ 30) (hv : 0 ≤ v) :
    (((0 ≤ a - sh ∧ 0 ≤ b - all + sh) ∧ nx w v (a - sh) ≤ b - all + sh) ∧ (v = 0 ∨ (((0 ≤ a ∧ 0 ≤ b - all) ∧ nx w (v - 1) a ≤ b - all) ∧ ((0 ≤ a - all ∧ 0 ≤ b) ∧ nx w (v - 1) (a - all) ≤ b)))) ↔ sLG nx all sh w v a ≤ b := by
  have h1 := hn w v (a - sh)
  have h2 := hn w (v - 1) a
  have h3 := hn w (v - 1) (a - all)
  unfold sLG sA imn imx
  repeat' split
  all_goals omega
theorem waits_iff {pw : Int → Int → Int} {g v a b : Int} (hp : ∀ v a, 0 ≤ pw v a ∧ pw v a ≤ 31) (hg : 0 ≤ g ∧ g ≤ 9) (ha : 0 ≤ a ∧ a ≤ 30) (hb : 0 ≤ b ∧ b ≤ 30) : pw v (imn 30 (a + g)) ≤ imn 30 (b + g) ↔ sLW pw g v a ≤ b := by
  have h1 := hp v (imn 30 (a + g))
  unfold sLW
  generalize pw v (imn 30 (a + g)) = x at h1 ⊢
  unfold imn imx
  repeat' split
  all_goals omega
section St
variable {N : Nat} {σ : St}
theorem row111 (hX : WXr σ.1 σ.2.2) {i : Int} (hi : 0 ≤ i ∧ i ≤ 8) : σ.2.2 111 (Int.tmod (wr i) 2) = (if i % 2 = 0 then 112 else 113) ∧ 0 ≤ Int.tmod (wr i) 2 ∧ Int.tmod (wr i) 2 < 2 := by
  rw [wr_id (by omega) (by omega), Int.tmod_eq_emod_of_nonneg hi.1]
  refine ⟨?_, by omega, by omega⟩
  split
  · rename_i h
    rw [h]; exact hX.2 111 0 112 rfl
  · have : i % 2 = 1 := by omega
    rw [this]; exact hX.2 111 1 113 rfl
/-- what the class reads -/
def lA (σ : St) (i w v a : Int) : Int := if (0 ≤ i ∧ i ≤ fI σ 108 0) ∧ (0 ≤ w ∧ w ≤ 4) ∧ (0 ≤ v ∧ v ≤ 6) ∧ (0 ≤ a ∧ a ≤ 30) then (if i = fI σ 108 0 then 0 else σ.2.1 (if i % 2 = 0 then 112 else 113) ((w * 7 + v) * 31 + a)) else 31
theorem leastAt_eq (hX : WXr σ.1 σ.2.2) (hn : 0 ≤ fI σ 108 0 ∧ fI σ 108 0 ≤ 8) {i w v a : Int} (hi : -10 ≤ i ∧ i ≤ 10) (hw : -10 ≤ w ∧ w ≤ 10) (hv : -10 ≤ v ∧ v ≤ 10) (ha : -100 ≤ a ∧ a ≤ 100) : f_X5_leastAt N σ 108 i w v a = some (σ, lA σ i w v a) := by
  have H : Ok (f_X5_leastAt N σ 108 i w v a) (fun q => q = (σ, lA σ i w v a)) := by
    unfold f_X5_leastAt lA
    refine sx_gI hX rfl rfl ?_
    refine ok_within (by omega) (by omega) (by omega) (fun h1 => ?_) (fun h1 => ?_)
    · refine st_Jn (st_Jn (ok_z1 ?_))
      refine ok_within (by omega) (by omega) (by omega) (fun h2 => ?_) (fun h2 => ?_)
      · refine ok_z1 ?_
        refine ok_within (by omega) (by omega) (by omega) (fun h3 => ?_) (fun h3 => ?_)
        · refine ok_z1 ?_
          refine ok_within (by omega) (by omega) (by omega) (fun h4 => ?_) (fun h4 => ?_)
          · refine ok_z1 (st_Jn (ok_z1 ?_))
            refine sx_gI hX rfl rfl ?_
            have hv0 : (if (0 ≤ i ∧ i ≤ fI σ 108 0) ∧ (0 ≤ w ∧ w ≤ 4) ∧ (0 ≤ v ∧ v ≤ 6) ∧ (0 ≤ a ∧ a ≤ 30) then (if i = fI σ 108 0 then 0 else σ.2.1 (if i % 2 = 0 then 112 else 113) ((w * 7 + v) * 31 + a)) else 31) = (if i = fI σ 108 0 then 0 else σ.2.1 (if i % 2 = 0 then 112 else 113) ((w * 7 + v) * 31 + a)) := if_pos ⟨h1, h2, h3, h4⟩
            rw [hv0]
            refine ok_weq (by omega) (by omega) (fun h5 => ok_z1 (ok_some (by rw [if_pos h5]))) (fun h5 => ?_)
            obtain ⟨r1, r2, r3⟩ := row111 hX (i := i) (by omega)
            have e1 : wr (Int.tmod (wr i) 2) = Int.tmod (wr i) 2 := wr_id (by omega) (by omega)
            refine sx_gR hX rfl rfl rfl ?_
            refine sx_aR hX rfl rfl (by decide) r2 (by omega) r1 ?_
            by_cases h6 : i % 2 = 0
            · rw [if_pos h6]
              exact sx_aI hX rfl rfl (by decide) (by omega) (by omega) (ok_some (by rw [if_neg h5]))
            · rw [if_neg h6]
              exact sx_aI hX rfl rfl (by decide) (by omega) (by omega) (ok_some (by rw [if_neg h5]))
          · refine ok_z0 (st_Jn (ok_z0 (ok_z0 (ok_some ?_))))
            rw [if_neg (by omega)]
        · refine ok_z0 (st_Jn (ok_z0 (ok_z0 (ok_some ?_))))
          rw [if_neg (by omega)]
      · refine ok_z0 (st_Jn (ok_z0 (ok_z0 (ok_some ?_))))
        rw [if_neg (by omega)]
    · refine st_Jn (st_Jn (ok_z0 (st_Jn (ok_z0 (ok_z0 (ok_some ?_))))))
      rw [if_neg (by omega)]
  obtain ⟨q, e, rfl⟩ := H
  exact e
/-- what is known of the rows -/
def nxOf (σ : St) (d : Nat) : Int → Int → Int → Int := sL (σ.2.1 109) (σ.2.1 110) (fI σ 108 1) (fI σ 108 0) d
/-- stage i's row, up to a game -/
def RowT (σ τ : St) (i lim : Int) : Prop := ∀ w v a : Int, (0 ≤ w ∧ w ≤ 4) → (0 ≤ v ∧ v ≤ 6) → (0 ≤ a ∧ a ≤ 30) → (w * 7 + v) * 31 + a < lim → τ.2.1 (if i % 2 = 0 then 112 else 113) ((w * 7 + v) * 31 + a) = nxOf σ (fI σ 108 0 - i).toNat w v a
def SgOk (σ : St) : Prop := (0 ≤ fI σ 108 0 ∧ fI σ 108 0 ≤ 8) ∧ (0 ≤ fI σ 108 1 ∧ fI σ 108 1 ≤ 9) ∧ (0 ≤ fI σ 108 2 ∧ fI σ 108 2 ≤ 4) ∧ ∀ s : Int, 0 ≤ s → s < fI σ 108 0 → (0 ≤ σ.2.1 109 s ∧ σ.2.1 109 s ≤ 30) ∧ (0 ≤ σ.2.1 110 s ∧ σ.2.1 110 s ≤ 10)
theorem IStg.sg {σm : St} (h : IStg σ σm) : SgOk σ := ⟨h.1.2, h.2.1.2, h.2.2.1.2, fun s a b => ⟨(h.2.2.2 s a b).2.1 |> fun q => ⟨q, (h.2.2.2 s a b).2.2.1⟩, (h.2.2.2 s a b).2.2.2.2⟩⟩
theorem nx_rg (h : SgOk σ) {d : Nat} (hd : (d : Int) ≤ fI σ 108 0) (w v a : Int) : 0 ≤ nxOf σ d w v a ∧ nxOf σ d w v a ≤ 31 := sL_rg (fun s a b => h.2.2.2 s a b) h.2.1.1 d hd w v a
/-- two states alike but for the rows -/
def Lk (σ τ : St) : Prop := WXr τ.1 τ.2.2 ∧ (fI τ 108 0 = fI σ 108 0 ∧ fI τ 108 1 = fI σ 108 1 ∧ fI τ 108 2 = fI σ 108 2) ∧ τ.2.1 109 = σ.2.1 109 ∧ τ.2.1 110 = σ.2.1 110
/-- what the class reads of the next stage's row -/
theorem lA_next {τ : St} (hs : SgOk σ) (hL : Lk σ τ) {i : Int} (hi : 0 ≤ i ∧ i < fI σ 108 0) (hR : i + 1 < fI σ 108 0 → RowT σ τ (i + 1) 1085) {w v a : Int} (hw : 0 ≤ w ∧ w ≤ 4) (hv : 0 ≤ v ∧ v ≤ 6) (ha : a ≤ 30) : lA τ (i + 1) w v a = sA (nxOf σ (fI σ 108 0 - (i + 1)).toNat) w v a := by
  unfold lA sA
  rw [hL.2.1.1]
  by_cases h1 : 0 ≤ a
  · rw [if_pos (by omega), if_pos h1]
    by_cases h2 : i + 1 = fI σ 108 0
    · rw [if_pos h2, show (fI σ 108 0 - (i + 1)).toNat = 0 by omega]; rfl
    · rw [if_neg h2]
      exact hR (by omega) w v a hw hv ⟨h1, ha⟩ (by omega)
  · rw [if_neg (by omega), if_neg h1]
theorem goingOn_eq {τ : St} (hs : SgOk σ) (hL : Lk σ τ) {i : Int} (hi : 0 ≤ i ∧ i < fI σ 108 0) (hR : i + 1 < fI σ 108 0 → RowT σ τ (i + 1) 1085) {w v a : Int} (hw : 0 ≤ w ∧ w ≤ 4) (hv : 0 ≤ v ∧ v ≤ 6) (ha : 0 ≤ a ∧ a ≤ 30) : f_X5_leastGoingOn N τ 108 i w v a = some (τ, sLG (nxOf σ (fI σ 108 0 - (i + 1)).toNat) (σ.2.1 109 i) (shr (σ.2.1 109 i) (σ.2.1 110 i)) w v a) := by
  obtain ⟨hX, ⟨l1, l2, l3⟩, l4, l5⟩ := hL
  have hn := hs.1
  obtain ⟨c1, c2⟩ := hs.2.2.2 i hi.1 hi.2
  have hsr := shr_rg c1 c2
  have nr := nx_rg hs (d := (fI σ 108 0 - (i + 1)).toNat) (by omega)
  have H : Ok (f_X5_leastGoingOn N τ 108 i w v a) (fun q => q = (τ, sLG (nxOf σ (fI σ 108 0 - (i + 1)).toNat) (σ.2.1 109 i) (shr (σ.2.1 109 i) (σ.2.1 110 i)) w v a)) := by
    unfold f_X5_leastGoingOn
    refine sx_gI hX rfl rfl ?_
    rw [l1]
    refine ok_within (by omega) (by omega) (by omega) (fun h1 => ?_) (fun h1 => by exfalso; omega)
    refine ok_z1 ?_
    refine sx_gR hX rfl rfl rfl ?_
    refine sx_aI hX rfl rfl (by decide) (by omega) (by omega) ?_
    refine sx_gR hX rfl rfl rfl ?_
    refine sx_aI hX rfl rfl (by decide) (by omega) (by omega) ?_
    rw [l4, l5]
    refine st_Lt (st_Lt ?_)
    show Ok (Option.bind (rcv shx τ 5 108 (f_X5_leastAt N τ 108 (i + 1) w v (a - shr (σ.2.1 109 i) (σ.2.1 110 i)))) fun q9 => Lt ((σ.2.1 109 i - shr (σ.2.1 109 i) (σ.2.1 110 i)) + q9.2) fun x10 => Jn (fun t11 : Int => some (τ, (mnZ t11 31))) fun J113_11 => (if 0 < wr v then Option.bind (rcv shx τ 5 108 (f_X5_leastAt N τ 108 (i + 1) w (v - 1) a)) fun q13 => Lt (mxZ x10 (σ.2.1 109 i + q13.2)) fun x14 => Option.bind (rcv shx τ 5 108 (f_X5_leastAt N τ 108 (i + 1) w (v - 1) (a - σ.2.1 109 i))) fun q15 => Lt (mxZ x14 q15.2) fun x16 => J113_11 x16 else J113_11 x10)) _
    generalize hall : σ.2.1 109 i = all at c1 hsr ⊢
    generalize hsh : shr all (σ.2.1 110 i) = sh at hsr ⊢
    have n1 := nr w v (a - sh)
    have n2 := nr w (v - 1) a
    have n3 := nr w (v - 1) (a - all)
    refine sx_rcv hX rfl rfl (ok_rw (leastAt_eq hX (by omega) (by omega) (by omega) (by omega) (by omega)) ?_)
    dsimp only
    rw [lA_next hs ⟨hX, ⟨l1, l2, l3⟩, l4, l5⟩ hi hR hw hv (by omega)]
    refine st_Lt (st_Jn ?_)
    unfold sLG
    refine ok_w0lt (by omega) (fun h2 => ?_) (fun h2 => ?_)
    · rw [if_pos h2]
      refine sx_rcv hX rfl rfl (ok_rw (leastAt_eq hX (by omega) (by omega) (by omega) (by omega) (by omega)) ?_)
      dsimp only
      rw [lA_next hs ⟨hX, ⟨l1, l2, l3⟩, l4, l5⟩ hi hR hw (by omega) (by omega)]
      refine st_Lt ?_
      refine sx_rcv hX rfl rfl (ok_rw (leastAt_eq hX (by omega) (by omega) (by omega) (by omega) (by omega)) ?_)
      dsimp only
      rw [lA_next hs ⟨hX, ⟨l1, l2, l3⟩, l4, l5⟩ hi hR hw (by omega) (by omega)]
      refine st_Lt (ok_some ?_)
      have m1 : 0 ≤ sA (nxOf σ (fI σ 108 0 - (i + 1)).toNat) w v (a - sh) ∧ sA (nxOf σ (fI σ 108 0 - (i + 1)).toNat) w v (a - sh) ≤ 31 := by unfold sA; split <;> omega
      have m2 : 0 ≤ sA (nxOf σ (fI σ 108 0 - (i + 1)).toNat) w (v - 1) a ∧ sA (nxOf σ (fI σ 108 0 - (i + 1)).toNat) w (v - 1) a ≤ 31 := by unfold sA; split <;> omega
      have m3 : 0 ≤ sA (nxOf σ (fI σ 108 0 - (i + 1)).toNat) w (v - 1) (a - all) ∧ sA (nxOf σ (fI σ 108 0 - (i + 1)).toNat) w (v - 1) (a - all) ≤ 31 := by unfold sA; split <;> omega
      generalize sA (nxOf σ (fI σ 108 0 - (i + 1)).toNat) w v (a - sh) = A1 at m1 ⊢
      generalize sA (nxOf σ (fI σ 108 0 - (i + 1)).toNat) w (v - 1) a = A2 at m2 ⊢
      generalize sA (nxOf σ (fI σ 108 0 - (i + 1)).toNat) w (v - 1) (a - all) = A3 at m3 ⊢
      rw [mxZ_eq (a := all - sh + A1) (by omega) (by omega)]
      have m4 : 0 ≤ (if all - sh + A1 < all + A2 then all + A2 else all - sh + A1) ∧ (if all - sh + A1 < all + A2 then all + A2 else all - sh + A1) ≤ 100 := by split <;> omega
      show (τ, mnZ (mxZ (imx (all - sh + A1) (all + A2)) A3) 31) = _
      have m5 : 0 ≤ imx (all - sh + A1) (all + A2) ∧ imx (all - sh + A1) (all + A2) ≤ 100 := m4
      rw [mxZ_eq (by omega) (by omega)]
      have m6 : 0 ≤ imx (imx (all - sh + A1) (all + A2)) A3 ∧ imx (imx (all - sh + A1) (all + A2)) A3 ≤ 100 := by
        generalize imx (all - sh + A1) (all + A2) = y at m5 ⊢
        unfold imx; split <;> omega
      show (τ, mnZ (imx (imx (all - sh + A1) (all + A2)) A3) 31) = _
      rw [mnZ_eq (by omega) (by omega)]; rfl
    · rw [if_neg (by omega)]
      refine ok_some ?_
      have m1 : 0 ≤ sA (nxOf σ (fI σ 108 0 - (i + 1)).toNat) w v (a - sh) ∧ sA (nxOf σ (fI σ 108 0 - (i + 1)).toNat) w v (a - sh) ≤ 31 := by unfold sA; split <;> omega
      rw [mnZ_eq (by omega) (by omega)]; rfl
  obtain ⟨q, e, rfl⟩ := H
  exact e
end St
