/-! the pure part: STAGES, the class's rows -/
section St
variable {N : Nat} {σ : St}
theorem Lk.sg {τ : St} (h : Lk σ τ) (hs : SgOk σ) : SgOk τ := by
  obtain ⟨hX, ⟨l1, l2, l3⟩, l4, l5⟩ := h
  unfold SgOk at hs ⊢
  rw [l1, l2, l3, l4, l5]; exact hs
theorem Lk.nx {τ : St} (h : Lk σ τ) (d : Nat) : nxOf τ d = nxOf σ d := by
  obtain ⟨hX, ⟨l1, l2, l3⟩, l4, l5⟩ := h
  unfold nxOf
  rw [l1, l2, l4, l5]
theorem nx_succ {i : Int} (hi : 0 ≤ i ∧ i < fI σ 108 0) (w v a : Int) : nxOf σ (fI σ 108 0 - i).toNat w v a = sW (nxOf σ (fI σ 108 0 - (i + 1)).toNat) (σ.2.1 109 i) (shr (σ.2.1 109 i) (σ.2.1 110 i)) (fI σ 108 1) w.toNat v a := by
  have e : (fI σ 108 0 - i).toNat = (fI σ 108 0 - (i + 1)).toNat + 1 := by omega
  have e2 : fI σ 108 0 - (((fI σ 108 0 - (i + 1)).toNat + 1 : Nat) : Int) = i := by omega
  rw [e]
  unfold nxOf
  show sW _ (σ.2.1 109 (fI σ 108 0 - (((fI σ 108 0 - (i + 1)).toNat + 1 : Nat) : Int))) (shr (σ.2.1 109 (fI σ 108 0 - (((fI σ 108 0 - (i + 1)).toNat + 1 : Nat) : Int))) (σ.2.1 110 (fI σ 108 0 - (((fI σ 108 0 - (i + 1)).toNat + 1 : Nat) : Int)))) _ _ _ _ = _
  rw [e2]
/-- what waiting is worth -/
def wtV (σ : St) (i w v a : Int) : Int := if w = 0 then 31 else sLW (fun v a => nxOf σ (fI σ 108 0 - i).toNat (w - 1) v a) (fI σ 108 1) v a
theorem imn30 {x : Int} (h : 0 ≤ x) : 0 ≤ imn 30 x ∧ imn 30 x ≤ 30 := by unfold imn; split <;> omega
theorem waiting_eq {τ : St} (hs : SgOk σ) (hL : Lk σ τ) {i : Int} (hi : 0 ≤ i ∧ i < fI σ 108 0) {w v a : Int} {lim : Int} (hR : RowT σ τ i lim) (hw : 0 ≤ w ∧ w ≤ 4) (hv : 0 ≤ v ∧ v ≤ 6) (ha : 0 ≤ a ∧ a ≤ 30) (hlim : (w * 7 + v) * 31 + a ≤ lim) : f_X5_leastWaiting N τ 108 i w v a = some (τ, wtV σ i w v a) := by
  obtain ⟨hX, ⟨l1, l2, l3⟩, l4, l5⟩ := hL
  have hn := hs.1
  have hg := hs.2.1
  have H : Ok (f_X5_leastWaiting N τ 108 i w v a) (fun q => q = (τ, wtV σ i w v a)) := by
    unfold f_X5_leastWaiting wtV
    refine sx_gI hX rfl rfl ?_
    rw [l2, mnZ_eq (by omega) (by omega)]
    have hc := imn30 (x := a + fI σ 108 1) (by omega)
    show Ok (Option.bind (rcv shx τ 5 108 (f_X5_leastAt N τ 108 i (w - 1) v (imn 30 (a + fI σ 108 1)))) _) _
    refine sx_rcv hX rfl rfl (ok_rw (leastAt_eq hX (by omega) (by omega) (by omega) (by omega) (by omega)) ?_)
    dsimp only
    by_cases h0 : w = 0
    · rw [if_pos h0, show lA τ i (w - 1) v (imn 30 (a + fI σ 108 1)) = 31 from if_neg (by omega)]
      exact ok_weq (by omega) (by omega) (fun _ => ok_some rfl) (fun h => absurd rfl h)
    · have e : lA τ i (w - 1) v (imn 30 (a + fI σ 108 1)) = nxOf σ (fI σ 108 0 - i).toNat (w - 1) v (imn 30 (a + fI σ 108 1)) := by
        unfold lA
        rw [if_pos (by omega), if_neg (by omega)]
        exact hR (w - 1) v _ (by omega) hv hc (by omega)
      have nr := nx_rg hs (d := (fI σ 108 0 - i).toNat) (by omega) (w - 1) v (imn 30 (a + fI σ 108 1))
      rw [if_neg h0, e]
      unfold sLW
      refine ok_weq (by omega) (by omega) (fun h => ok_some (by rw [if_pos h])) (fun h => ?_)
      refine sx_gI hX rfl rfl (ok_some ?_)
      rw [if_neg h, l2, mxZ_eq (by omega) (by omega)]; rfl
  obtain ⟨q, e, rfl⟩ := H
  exact e
theorem sLW_rg {pw : Int → Int → Int} {g v a : Int} (hp : 0 ≤ pw v (imn 30 (a + g)) ∧ pw v (imn 30 (a + g)) ≤ 31) (hg : 0 ≤ g) : 0 ≤ sLW pw g v a ∧ sLW pw g v a ≤ 31 := by
  unfold sLW
  generalize pw v (imn 30 (a + g)) = x at hp ⊢
  unfold imx
  repeat' split
  all_goals omega
theorem wt_rg (hs : SgOk σ) {i : Int} (hi : 0 ≤ i ∧ i < fI σ 108 0) (w v a : Int) : 0 ≤ wtV σ i w v a ∧ wtV σ i w v a ≤ 31 := by
  have nr := nx_rg hs (d := (fI σ 108 0 - i).toNat) (by omega) (w - 1) v (imn 30 (a + fI σ 108 1))
  have hg := hs.2.1
  unfold wtV
  split
  · omega
  · exact sLW_rg nr hg.1
theorem nx_wt {i : Int} (hi : 0 ≤ i ∧ i < fI σ 108 0) {w : Int} (hw : 0 ≤ w) (v a : Int) : nxOf σ (fI σ 108 0 - i).toNat w v a = imn (sLG (nxOf σ (fI σ 108 0 - (i + 1)).toNat) (σ.2.1 109 i) (shr (σ.2.1 109 i) (σ.2.1 110 i)) w v a) (wtV σ i w v a) := by
  rw [nx_succ hi]
  unfold wtV
  by_cases h0 : w = 0
  · subst h0
    rw [if_pos rfl]; rfl
  · obtain ⟨k, hk⟩ : ∃ k : Nat, w = ((k + 1 : Nat) : Int) := ⟨w.toNat - 1, by omega⟩
    rw [if_neg h0]
    subst hk
    rw [show (((k + 1 : Nat) : Int)).toNat = k + 1 by omega]
    have e : (fun v a => nxOf σ (fI σ 108 0 - i).toNat (((k + 1 : Nat) : Int) - 1) v a) = sW (nxOf σ (fI σ 108 0 - (i + 1)).toNat) (σ.2.1 109 i) (shr (σ.2.1 109 i) (σ.2.1 110 i)) (fI σ 108 1) k := by
      funext v a
      rw [nx_succ hi, show (((k + 1 : Nat) : Int) - 1).toNat = k by omega]
    rw [e]; rfl
theorem findGame_eq {τ : St} (hs : SgOk σ) (hL : Lk σ τ) {i : Int} (hi : 0 ≤ i ∧ i < fI σ 108 0) (hN1 : i + 1 < fI σ 108 0 → RowT σ τ (i + 1) 1085) {g : Int} (hg : 0 ≤ g ∧ g < 1085) (hR : RowT σ τ i g) : f_X5_findGame N τ 108 i g = some (uI τ (if i % 2 = 0 then 112 else 113) g (nxOf σ (fI σ 108 0 - i).toNat (g / 31 / 7) (g / 31 % 7) (g % 31)), 0) := by
  have hX := hL.1
  have hn := hs.1
  have H : Ok (f_X5_findGame N τ 108 i g) (fun q => q = (uI τ (if i % 2 = 0 then 112 else 113) g (nxOf σ (fI σ 108 0 - i).toNat (g / 31 / 7) (g / 31 % 7) (g % 31)), 0)) := by
    unfold f_X5_findGame
    refine st_Lt (st_Lt (st_Lt ?_))
    have e1 : Int.tmod (wr g) 31 = g % 31 := by rw [wr_id (by omega) (by omega), Int.tmod_eq_emod_of_nonneg hg.1]
    have e2 : Int.tdiv (wr g) 31 = g / 31 := by rw [wr_id (by omega) (by omega), Int.tdiv_eq_ediv_of_nonneg hg.1]
    have e3 : Int.tmod (wr (g / 31)) 7 = g / 31 % 7 := by rw [wr_id (by omega) (by omega), Int.tmod_eq_emod_of_nonneg (by omega)]
    have e4 : Int.tdiv (wr (g / 31)) 7 = g / 31 / 7 := by rw [wr_id (by omega) (by omega), Int.tdiv_eq_ediv_of_nonneg (by omega)]
    rw [e1, e2, e3, e4]
    have hgi : (g / 31 / 7 * 7 + g / 31 % 7) * 31 + g % 31 = g := by omega
    refine sx_rcv hX rfl rfl (ok_rw (goingOn_eq hs hL hi hN1 (by omega) (by omega) (by omega)) ?_)
    dsimp only
    refine sx_gR hX rfl rfl rfl ?_
    obtain ⟨r1, r2, r3⟩ := row111 hX (i := i) (by omega)
    have e5 : wr (Int.tmod (wr i) 2) = Int.tmod (wr i) 2 := wr_id (by omega) (by omega)
    refine sx_aR hX rfl rfl (by decide) r2 (by omega) r1 ?_
    refine sx_rcv hX rfl rfl (ok_rw (waiting_eq hs hL hi hR (by omega) (by omega) (by omega) (by omega)) ?_)
    dsimp only
    obtain ⟨c1, c2⟩ := hs.2.2.2 i hi.1 hi.2
    have nr := nx_rg hs (d := (fI σ 108 0 - (i + 1)).toNat) (by omega)
    have g1 := sLG_rg (w := g / 31 / 7) (v := g / 31 % 7) (a := g % 31) nr (shr_rg c1 c2)
    have g2 := wt_rg hs hi (g / 31 / 7) (g / 31 % 7) (g % 31)
    rw [mnZ_eq (by omega) (by omega), nx_wt hi (by omega)]
    by_cases h6 : i % 2 = 0
    · rw [if_pos h6]
      exact sx_sI hX rfl rfl (by decide) hg.1 (by omega) (ok_some rfl)
    · rw [if_neg h6]
      exact sx_sI hX rfl rfl (by decide) hg.1 (by omega) (ok_some rfl)
  obtain ⟨q, e, rfl⟩ := H
  exact e
theorem Lk.uR {τ : St} (h : Lk σ τ) {k : Nat} (hk : k = 112 ∨ k = 113) {i v : Int} : Lk σ (uI τ k i v) := by
  obtain ⟨hX, ⟨l1, l2, l3⟩, l4, l5⟩ := h
  have : k ≠ 108 ∧ k ≠ 109 ∧ k ≠ 110 := by omega
  refine ⟨hX, ⟨?_, ?_, ?_⟩, ?_, ?_⟩
  · rw [fI_uk (by omega)]; exact l1
  · rw [fI_uk (by omega)]; exact l2
  · rw [fI_uk (by omega)]; exact l3
  · rw [uI_cell (by omega)]; exact l4
  · rw [uI_cell (by omega)]; exact l5
theorem fl26 (hs : SgOk σ) {τ0 : St} (hL : Lk σ τ0) (hf : FX [108, 112, 113] σ τ0) (hk : fI τ0 108 3 = 1) {i : Int} (hi : 0 ≤ i ∧ i < fI σ 108 0) (hN1 : i + 1 < fI σ 108 0 → RowT σ τ0 (i + 1) 1085) {t5 : St × Int} (h5 : t5.2 = i) {J : St → Option (St × Int)} {Q : St × Int → Prop} (hN : 2000 < N) (h : ∀ τ, Lk σ τ → FX [108, 112, 113] σ τ → fI τ 108 3 = 1 → RowT σ τ i 1085 → (i + 1 < fI σ 108 0 → RowT σ τ (i + 1) 1085) → Ok (J τ) Q) : Ok (L_X5_findLeast_26 N 108 t5 J (τ0, 0)) Q := by
  have hpar : (if i % 2 = 0 then 112 else 113) ≠ (if (i + 1) % 2 = 0 then 112 else 113) := by
    by_cases h6 : i % 2 = 0
    · rw [if_pos h6, if_neg (by omega)]; decide
    · rw [if_neg h6, if_pos (by omega)]; decide
  have hrow : (if i % 2 = 0 then 112 else 113) = 112 ∨ (if i % 2 = 0 then 112 else 113) = 113 := by split <;> simp
  unfold L_X5_findLeast_26
  refine ok_fix (fun w => Lk σ w.1 ∧ FX [108, 112, 113] σ w.1 ∧ fI w.1 108 3 = 1 ∧ (0 ≤ w.2 ∧ w.2 ≤ 1085) ∧ RowT σ w.1 i w.2 ∧ (i + 1 < fI σ 108 0 → RowT σ w.1 (i + 1) 1085)) (fun w => (1085 - w.2).toNat) (fun back w hI hback => ?_) _ ⟨hL, hf, hk, by dsimp only; omega, fun w v a hw hv ha hx => by dsimp only at hx; omega, hN1⟩ (by dsimp only; omega)
  obtain ⟨τ, g⟩ := w
  obtain ⟨g1, g2, g3, g4, g5, g6⟩ := hI
  dsimp only at g1 g2 g3 g4 g5 g6 hback ⊢
  refine ok_wlt (by omega) (by omega) (fun h1 => ?_) (fun h1 => ?_)
  · rw [h5]
    refine sx_rcv g1.1 rfl rfl (ok_rw (findGame_eq hs g1 hi g6 ⟨g4.1, h1⟩ g5) ?_)
    refine st_Lt ?_
    dsimp only
    generalize hrw : (if i % 2 = 0 then 112 else 113) = r at hpar hrow ⊢
    refine hback _ ⟨g1.uR hrow, g2.uI (by rcases hrow with e | e <;> rw [e] <;> simp), by dsimp only; rw [fI_uk (by omega)]; exact g3, by dsimp only; omega, fun w v a hw hv ha hx => ?_, fun hn w v a hw hv ha hx => ?_⟩ (by dsimp only; omega)
    · dsimp only at hx ⊢
      rw [hrw, uW_at]
      by_cases hq : (w * 7 + v) * 31 + a = g
      · rw [if_pos hq, show g / 31 / 7 = w by omega, show g / 31 % 7 = v by omega, show g % 31 = a by omega]
      · rw [if_neg hq, ← hrw]; exact g5 w v a hw hv ha (by omega)
    · dsimp only
      rw [uI_k (Ne.symm hpar)]
      exact g6 hn w v a hw hv ha hx
  · have : g = 1085 := by omega
    subst this
    exact h τ g1 g2 g3 g5 g6
theorem findLeast_eq (hX : WXr σ.1 σ.2.2) (hs : SgOk σ) (hk : fI σ 108 3 = 0 ∨ (fI σ 108 3 = 1 ∧ (0 < fI σ 108 0 → RowT σ σ 0 1085) ∧ (1 < fI σ 108 0 → RowT σ σ 1 1085))) (hN : 2000 < N) : ∃ τ, f_X5_findLeast N σ 108 = some (τ, 0) ∧ Lk σ τ ∧ FX [108, 112, 113] σ τ ∧ fI τ 108 3 = 1 ∧ (0 < fI σ 108 0 → RowT σ τ 0 1085) ∧ (1 < fI σ 108 0 → RowT σ τ 1 1085) := by
  have hn := hs.1
  have H : Ok (f_X5_findLeast N σ 108) (fun q => q.2 = 0 ∧ Lk σ q.1 ∧ FX [108, 112, 113] σ q.1 ∧ fI q.1 108 3 = 1 ∧ (0 < fI σ 108 0 → RowT σ q.1 0 1085) ∧ (1 < fI σ 108 0 → RowT σ q.1 1 1085)) := by
    unfold f_X5_findLeast
    refine sx_gI hX rfl rfl ?_
    rcases hk with hk | ⟨hk, k1, k2⟩
    · rw [hk]
      refine ok_z0 ?_
      refine sx_pI hX rfl rfl ?_
      refine sx_gI (σ := uF σ 108 3 1) hX rfl rfl ?_
      rw [fI_j (by decide)]
      refine st_Lt ?_
      have hL0 : Lk σ (uF σ 108 3 1) := ⟨hX, ⟨fI_j (by decide), fI_j (by decide), fI_j (by decide)⟩, uF_cell (by decide), uF_cell (by decide)⟩
      unfold L_X5_findLeast_20
      refine ok_fix (fun w => Lk σ w.1 ∧ FX [108, 112, 113] σ w.1 ∧ fI w.1 108 3 = 1 ∧ (-1 ≤ w.2 ∧ w.2 < fI σ 108 0) ∧ (w.2 + 1 < fI σ 108 0 → RowT σ w.1 (w.2 + 1) 1085) ∧ (w.2 + 2 < fI σ 108 0 → w.2 = -1 → RowT σ w.1 (w.2 + 2) 1085)) (fun w => (w.2 + 1).toNat) (fun back w hI hback => ?_) _ ⟨hL0, FX.refl.uF (by simp), fI_eq, by dsimp only; omega, fun hh => by dsimp only at hh; omega, fun hh => by dsimp only at hh; omega⟩ (by dsimp only; omega)
      obtain ⟨τ, i⟩ := w
      obtain ⟨g1, g2, g3, g4, g5, g6⟩ := hI
      dsimp only at g1 g2 g3 g4 g5 g6 hback ⊢
      refine ok_wlt0 (by omega) (fun h1 => ?_) (fun h1 => ?_)
      · have : i = -1 := by omega
        subst this
        exact ok_some ⟨rfl, g1, g2, g3, g5, fun hh => g6 (by omega) rfl⟩
      · refine st_Jn ?_
        refine fl26 hs g1 g2 g3 ⟨h1, g4.2⟩ g5 rfl hN (fun τ q1 q2 q3 q4 q5 => ?_)
        refine st_Lt ?_
        refine hback _ ⟨q1, q2, q3, by dsimp only; omega, fun _ => ?_, fun hh e => ?_⟩ (by dsimp only; omega)
        · dsimp only; rw [show i + -1 + 1 = i by omega]; exact q4
        · dsimp only at hh e ⊢; rw [show i + -1 + 2 = i + 1 by omega]; exact q5 (by omega)
    · rw [hk]
      exact ok_z1 (ok_some ⟨rfl, ⟨hX, ⟨rfl, rfl, rfl⟩, rfl, rfl⟩, FX.refl, hk, k1, k2⟩)
  obtain ⟨⟨τ, v⟩, e, h1, h2⟩ := H
  dsimp only at h1 h2
  subst h1
  exact ⟨τ, e, h2⟩
end St
