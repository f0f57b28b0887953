/-! the pure part: STAGES, the reference's table; safe, bears, should -/
section St
variable {N : Nat} {σ σm : St}
def six (i w v a b : Int) : Int := (((((((i * 5) + w) * 7) + v) * 31) + a) * 31) + b
/-- stage i's part of the table, up to a place -/
def Tb (σ τ : St) (i lim : Int) : Prop := ∀ w v a b : Int, (0 ≤ w ∧ w ≤ fI σ 108 2) → (0 ≤ v ∧ v ≤ 6) → (0 ≤ a ∧ a ≤ 30) → (0 ≤ b ∧ b ≤ 30) → six 0 w v a b < lim → wz (τ.2.1 51 (six i w v a b)) = if nxOf σ (fI σ 108 0 - i).toNat w v a ≤ b then 1 else 0
def Mk (σ σm τ : St) : Prop := WMr τ.1 τ.2.2 ∧ FM [51] [] σm τ
theorem paid_eq {τ : St} (hM : WMr τ.1 τ.2.2) {i : Int} (hi : 0 ≤ i ∧ i ≤ 8) (hs : SgOk σ) (hT : Tb σ τ i 33635) {w v a b : Int} (hw : 0 ≤ w ∧ w ≤ fI σ 108 2) (hv : 0 ≤ v ∧ v ≤ 6) (ha : -100 ≤ a ∧ a ≤ 30) (hb : -100 ≤ b ∧ b ≤ 30) : f_X12_paid N τ 1 i w v a b = some (τ, if (0 ≤ a ∧ 0 ≤ b) ∧ nxOf σ (fI σ 108 0 - i).toNat w v a ≤ b then 1 else 0) := by
  have hsl := hs.2.2.1
  have H : Ok (f_X12_paid N τ 1 i w v a b) (fun q => q = (τ, if (0 ≤ a ∧ 0 ≤ b) ∧ nxOf σ (fI σ 108 0 - i).toNat w v a ≤ b then 1 else 0)) := by
    unfold f_X12_paid
    refine ok_wlt0 (by omega) (fun h1 => ok_some (by rw [if_neg (by omega)])) (fun h1 => ?_)
    refine ok_wlt0 (by omega) (fun h2 => ok_some (by rw [if_neg (by omega)])) (fun h2 => ?_)
    refine sm_gR hM rfl ?_
    refine st_Jn ?_
    refine ok_wlt0 (by omega) (fun h3 => by exfalso; omega) (fun _ => ?_)
    refine st_Jn ?_
    refine ok_wlt0 (by omega) (fun h3 => by exfalso; omega) (fun _ => ?_)
    unfold f_X12_stateOf
    refine ok_bind (ok_some ?_)
    refine sm_aI hM rfl rfl (by decide) (by dsimp only; omega) (by dsimp only; omega) ?_
    have := hT w v a b hw hv ⟨h1, ha.2⟩ ⟨h2, hb.2⟩ (by unfold six; omega)
    unfold six at this
    dsimp only
    rw [this]
    by_cases h4 : nxOf σ (fI σ 108 0 - i).toNat w v a ≤ b
    · rw [if_pos h4]
      exact ok_z1 (ok_some (by rw [if_pos ⟨⟨h1, h2⟩, h4⟩]))
    · rw [if_neg h4]
      exact ok_z0 (ok_some (by rw [if_neg (fun q => h4 q.2)]))
  obtain ⟨q, e, rfl⟩ := H
  exact e
theorem goes_eq {τ : St} (hM : WMr τ.1 τ.2.2) (hS : IStg σ τ) {i : Int} (hi : 0 ≤ i ∧ i < fI σ 108 0) (hT : Tb σ τ (i + 1) 33635) {w v a b : Int} (hw : 0 ≤ w ∧ w ≤ fI σ 108 2) (hv : 0 ≤ v ∧ v ≤ 6) (ha : 0 ≤ a ∧ a ≤ 30) (hb : 0 ≤ b ∧ b ≤ 30) : f_X12_goesOn N τ 1 i w v a b = some (τ, if sLG (nxOf σ (fI σ 108 0 - (i + 1)).toNat) (σ.2.1 109 i) (shr (σ.2.1 109 i) (σ.2.1 110 i)) w v a ≤ b then 1 else 0) := by
  have hs := hS.sg
  have hn := hs.1
  have hsl := hs.2.2.1
  obtain ⟨c1, c2⟩ := hs.2.2.2 i hi.1 hi.2
  have hsr := shr_rg c1 c2
  have nr := nx_rg hs (d := (fI σ 108 0 - (i + 1)).toNat) (by omega)
  have st := hS.2.2.2 i hi.1 hi.2
  have gi := goes_iff (w := w) (a := a) (b := b) nr hsr ha hb hv.1
  have H : Ok (f_X12_goesOn N τ 1 i w v a b) (fun q => q = (τ, if sLG (nxOf σ (fI σ 108 0 - (i + 1)).toNat) (σ.2.1 109 i) (shr (σ.2.1 109 i) (σ.2.1 110 i)) w v a ≤ b then 1 else 0)) := by
    unfold f_X12_goesOn
    refine sm_gR hM rfl ?_
    refine sm_aI hM rfl rfl (by decide) (by omega) (by omega) ?_
    refine sm_gR hM rfl ?_
    refine sm_aI hM rfl rfl (by decide) (by omega) (by omega) ?_
    rw [st.1, st.2.2.2.1]
    refine st_Lt ?_
    show Ok (Option.bind (rcv shm τ 12 1 (f_X12_paid N τ 1 (i + 1) w v (a - shr (σ.2.1 109 i) (σ.2.1 110 i)) ((b - σ.2.1 109 i) + shr (σ.2.1 109 i) (σ.2.1 110 i)))) _) _
    generalize hall : σ.2.1 109 i = all at c1 hsr gi ⊢
    generalize hsh : shr all (σ.2.1 110 i) = sh at hsr gi ⊢
    refine sm_rcv hM (ok_rw (paid_eq hM (by omega) hs hT hw hv (by omega) (by omega)) ?_)
    dsimp only
    by_cases p1 : (0 ≤ a - sh ∧ 0 ≤ b - all + sh) ∧ nxOf σ (fI σ 108 0 - (i + 1)).toNat w v (a - sh) ≤ b - all + sh
    · rw [if_pos p1]
      refine ok_z1 ?_
      refine ok_weqc (by omega) (fun h2 => ok_some (by rw [if_pos (gi.mp ⟨p1, .inl h2⟩)])) (fun h2 => ?_)
      refine sm_rcv hM (ok_rw (paid_eq hM (by omega) hs hT hw (by omega) (by omega) (by omega)) ?_)
      dsimp only
      by_cases p2 : (0 ≤ a ∧ 0 ≤ b - all) ∧ nxOf σ (fI σ 108 0 - (i + 1)).toNat w (v - 1) a ≤ b - all
      · rw [if_pos p2]
        refine ok_z1 ?_
        refine sm_rcv hM (ok_rw (paid_eq hM (by omega) hs hT hw (by omega) (by omega) (by omega)) ?_)
        dsimp only
        by_cases p3 : (0 ≤ a - all ∧ 0 ≤ b) ∧ nxOf σ (fI σ 108 0 - (i + 1)).toNat w (v - 1) (a - all) ≤ b
        · rw [if_pos p3]
          exact ok_z1 (ok_some (by rw [if_pos (gi.mp ⟨p1, .inr ⟨p2, p3⟩⟩)]))
        · rw [if_neg p3]
          exact ok_z0 (ok_some (by rw [if_neg (fun q => by rcases (gi.mpr q).2 with h | h; exact h2 h; exact p3 h.2)]))
      · rw [if_neg p2]
        exact ok_z0 (ok_some (by rw [if_neg (fun q => by rcases (gi.mpr q).2 with h | h; exact h2 h; exact p2 h.1)]))
    · rw [if_neg p1]
      exact ok_z0 (ok_some (by rw [if_neg (fun q => p1 (gi.mpr q).1)]))
  obtain ⟨q, e, rfl⟩ := H
  exact e
theorem capped_eq (N : Nat) (τ : St) {x : Int} (h : 0 ≤ x ∧ x ≤ 1000) : f_X12_capped N τ x = some (τ, imn 30 x) := by
  have H : Ok (f_X12_capped N τ x) (fun q => q = (τ, imn 30 x)) := by
    unfold f_X12_capped imn
    refine ok_wlt (by omega) (by omega) (fun h1 => ok_some (by rw [if_neg (by omega)])) (fun h1 => ok_some ?_)
    split
    · rfl
    · rw [show x = 30 by omega]
  obtain ⟨q, e, rfl⟩ := H
  exact e
theorem waitsM_eq {τ : St} (hM : WMr τ.1 τ.2.2) (hS : IStg σ τ) {i lim : Int} (hi : 0 ≤ i ∧ i < fI σ 108 0) (hT : Tb σ τ i lim) {w v a b : Int} (hw : 0 ≤ w ∧ w ≤ fI σ 108 2) (hv : 0 ≤ v ∧ v ≤ 6) (ha : 0 ≤ a ∧ a ≤ 30) (hb : 0 ≤ b ∧ b ≤ 30) (hl : six 0 w v a b ≤ lim) : f_X12_waits N τ 1 i w v a b = some (τ, if wtV σ i w v a ≤ b then 1 else 0) := by
  have hs := hS.sg
  have hn := hs.1
  have hg := hs.2.1
  have hsl := hs.2.2.1
  have H : Ok (f_X12_waits N τ 1 i w v a b) (fun q => q = (τ, if wtV σ i w v a ≤ b then 1 else 0)) := by
    unfold f_X12_waits wtV
    refine ok_w0lt (by omega) (fun h1 => ?_) (fun h1 => ?_)
    · rw [if_neg (show ¬ w = 0 by omega)]
      have wi := waits_iff (pw := fun v a => nxOf σ (fI σ 108 0 - i).toNat (w - 1) v a) (v := v) (fun v a => nx_rg hs (d := (fI σ 108 0 - i).toNat) (by omega) (w - 1) v a) hg ha hb
      have i1 := imn30 (x := a + fI σ 108 1) (by omega)
      have i2 := imn30 (x := b + fI σ 108 1) (by omega)
      refine sm_gR hM rfl ?_
      refine sm_gI hM ?_
      rw [hS.2.1.1]
      refine ok_rw (capped_eq N τ (by omega)) ?_
      refine sm_gI hM ?_
      rw [hS.2.1.1]
      refine ok_rw (capped_eq N τ (by omega)) ?_
      unfold f_X12_stateOf
      refine ok_bind (ok_some ?_)
      dsimp only
      generalize imn 30 (a + fI σ 108 1) = A at i1 wi ⊢
      generalize imn 30 (b + fI σ 108 1) = B at i2 wi ⊢
      refine sm_aI hM rfl rfl (by decide) (by omega) (by omega) ?_
      have := hT (w - 1) v A B (by omega) hv i1 i2 (by unfold six at hl ⊢; omega)
      unfold six at this
      rw [this]
      by_cases h4 : nxOf σ (fI σ 108 0 - i).toNat (w - 1) v A ≤ B
      · rw [if_pos h4]
        exact ok_z1 (ok_some (by rw [if_pos (wi.mp h4)]))
      · rw [if_neg h4]
        exact ok_z0 (ok_some (by rw [if_neg (fun q => h4 (wi.mpr q))]))
    · rw [if_pos (show w = 0 by omega)]
      exact ok_some (by rw [if_neg (by omega)])
  obtain ⟨q, e, rfl⟩ := H
  exact e
end St
