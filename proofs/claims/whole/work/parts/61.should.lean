/-! the pure part: should -/
section St
variable {N : Nat} {σ σm : St}
theorem safeM_eq (hM : WMr σm.1 σm.2.2) (hS : IStg σ σm) {a b c : Int} (ha : 0 ≤ a ∧ a ≤ 30) (hb : 0 ≤ b ∧ b ≤ 30) (hc : 0 ≤ c ∧ c ≤ 6) (hN : 2000 < N) : ∃ υ, f_X12_safe N σm 1 a b c = some (υ, sfV σ (fI σ 108 2) c a b) ∧ FM [51] [] σm υ ∧ ∀ j, 0 ≤ j → j ≤ fI σ 108 0 → Tb σ υ j 33635 := by
  have hsg := hS.sg
  have hsl := hsg.2.2.1
  obtain ⟨υ, u1, u2, u3⟩ := lay_eq (N := N) hS hM (by omega)
  have hM' := u2.M hM
  have H : Ok (f_X12_safe N σm 1 a b c) (fun q => q = (υ, sfV σ (fI σ 108 2) c a b)) := by
    unfold f_X12_safe f_X12_isMoney
    refine ok_bind ?_
    refine ok_isIn (by omega) (by omega) (by omega) (fun h1 => ok_z1 ?_) (fun h1 => by exfalso; omega)
    refine ok_isIn (by omega) (by omega) (by omega) (fun h1 => ok_z1 (ok_some (ok_z1 ?_))) (fun h1 => by exfalso; omega)
    refine ok_isIn (by omega) (by omega) (by omega) (fun h1 => ok_z1 ?_) (fun h1 => by exfalso; omega)
    refine sm_rcv hM (ok_rw u1 ?_)
    dsimp only
    refine sm_gR hM' rfl ?_
    refine sm_gI hM' ?_
    rw [u2.f (by simp), hS.2.2.1.1]
    unfold f_X12_stateOf
    refine ok_bind (ok_some ?_)
    dsimp only
    refine sm_aI hM' rfl rfl (by decide) (by omega) (by omega) ?_
    rw [tab_eq u3 hsg ha hb hc]
    rcases sfV_or (σ := σ) (fI σ 108 2) c a b with h | h
    · rw [h]; exact ok_z0 (ok_some rfl)
    · rw [h]; exact ok_z1 (ok_some rfl)
  obtain ⟨q, e, rfl⟩ := H
  exact ⟨υ, e, u2, u3⟩
theorem op_should (hX : WXr σ.1 σ.2.2) (hM : WMr σm.1 σm.2.2) (hS : IStg σ σm) (hk : IKn σ) {a b c : Int} (ha : wr a = a) (hb : wr b = b) (hc : wr c = c) (hN : 2000 < N) : Ok (f_X11_should N σ 1 a b c) (fun v => Ok (f_X12_should N σm 1 a b c) (fun w => wr v.2 = wr w.2 ∧ FX [108, 112, 113] σ v.1 ∧ FM [51] [] σm w.1 ∧ Lk σ v.1 ∧ IKn v.1)) := by
  have hr := wr_rg ha
  have hs := wr_rg hb
  have ht := wr_rg hc
  have hsg := hS.sg
  have hn := hsg.1
  have hsl := hsg.2.2.1
  have lk0 : Lk σ σ := ⟨hX, ⟨rfl, rfl, rfl⟩, rfl, rfl⟩
  by_cases hv : (0 ≤ a ∧ a ≤ 30) ∧ (0 ≤ b ∧ b ≤ 30) ∧ (0 ≤ c ∧ c ≤ 6)
  · obtain ⟨τ, t1, t2, t3, t4, t5, t6⟩ := findLeast_eq (N := N) hX hsg hk hN
    have ikn := kn_of t2 t4 t5 t6
    unfold f_X11_should
    refine ok_money hr (fun h1 => ok_z1 ?_) (fun h1 => by exfalso; omega)
    refine ok_money hs (fun h1 => ok_z1 ?_) (fun h1 => by exfalso; omega)
    refine ok_within (by omega) (by omega) (by omega) (fun h1 => ok_z1 ?_) (fun h1 => by exfalso; omega)
    refine sx_gR hX rfl rfl rfl ?_
    refine sx_rcv hX rfl rfl (ok_bind ?_)
    unfold f_X5_firstYear
    refine sx_rcv hX rfl rfl (ok_rw t1 ?_)
    dsimp only
    refine sx_gI t2.1 rfl rfl ?_
    rw [t2.2.1.1]
    refine ok_weqc (by omega) (fun h2 => ok_some (ok_some ?_)) (fun h2 => ?_)
    · unfold f_X12_should
      refine sm_gI hM ?_
      rw [hS.1.1, h2]
      exact ok_z0 (ok_some ⟨rfl, t3, FM.refl, t2, ikn⟩)
    · obtain ⟨υ, u1, u2, u3⟩ := safeM_eq (N := N) hM hS hv.1 hv.2.1 hv.2.2 hN
      have hM' := u2.M hM
      have hS' : IStg σ υ := hS.keep rfl rfl rfl (u2.f (by simp)) (u2.f (by simp)) (u2.f (by simp)) (u2.2.2.1 49 (by decide) (by decide)) (u2.2.2.1 50 (by decide) (by decide))
      obtain ⟨c1, c2⟩ := hsg.2.2.2 0 (by omega) (by omega)
      have nr := nx_rg hsg (d := (fI σ 108 0 - (0 + 1)).toNat) (by omega)
      have g1 := sLG_rg (w := fI σ 108 2) (v := c) (a := a) nr (shr_rg c1 c2)
      have g2 := wt_rg hsg (i := 0) (by omega) (fI σ 108 2) c a
      have nw := nx_wt (σ := σ) (i := 0) (by omega) hsl.1 c a
      rw [Int.sub_zero] at nw
      have key : ∀ x y : Int, imn x y ≤ b ↔ (x ≤ b ∨ y ≤ b) := fun x y => by unfold imn; split <;> omega
      have mpart : ∀ x : Int, ((x = 1 ∧ sLG (nxOf σ (fI σ 108 0 - (0 + 1)).toNat) (σ.2.1 109 0) (shr (σ.2.1 109 0) (σ.2.1 110 0)) (fI σ 108 2) c a ≤ b) ∨ (x = 0 ∧ ¬ sLG (nxOf σ (fI σ 108 0 - (0 + 1)).toNat) (σ.2.1 109 0) (shr (σ.2.1 109 0) (σ.2.1 110 0)) (fI σ 108 2) c a ≤ b ∧ wtV σ 0 (fI σ 108 2) c a ≤ b) ∨ (x = -1 ∧ ¬ sLG (nxOf σ (fI σ 108 0 - (0 + 1)).toNat) (σ.2.1 109 0) (shr (σ.2.1 109 0) (σ.2.1 110 0)) (fI σ 108 2) c a ≤ b ∧ ¬ wtV σ 0 (fI σ 108 2) c a ≤ b)) → Ok (f_X12_should N σm 1 a b c) (fun w => wr x = wr w.2 ∧ FX [108, 112, 113] σ τ ∧ FM [51] [] σm w.1 ∧ Lk σ τ ∧ IKn τ) := fun x hx => by
        unfold f_X12_should
        refine sm_gI hM ?_
        rw [hS.1.1]
        refine ok_weqc (by omega) (fun h3 => absurd h3 h2) (fun _ => ?_)
        refine sm_rcv hM (ok_rw u1 ?_)
        dsimp only
        have hsf : sfV σ (fI σ 108 2) c a b = if (sLG (nxOf σ (fI σ 108 0 - (0 + 1)).toNat) (σ.2.1 109 0) (shr (σ.2.1 109 0) (σ.2.1 110 0)) (fI σ 108 2) c a ≤ b ∨ wtV σ 0 (fI σ 108 2) c a ≤ b) then 1 else 0 := by
          unfold sfV
          rw [nw]
          by_cases hq : (sLG (nxOf σ (fI σ 108 0 - (0 + 1)).toNat) (σ.2.1 109 0) (shr (σ.2.1 109 0) (σ.2.1 110 0)) (fI σ 108 2) c a ≤ b ∨ wtV σ 0 (fI σ 108 2) c a ≤ b)
          · rw [if_pos hq, if_pos ((key _ _).mpr hq)]
          · rw [if_neg hq, if_neg (fun q => hq ((key _ _).mp q))]
        have goes := goes_eq (N := N) hM' hS' (i := 0) (by omega) (u3 (0 + 1) (by omega) (by omega)) (w := fI σ 108 2) (v := c) (a := a) (b := b) ⟨hsl.1, Int.le_refl _⟩ hv.2.2 hv.1 hv.2.1
        rcases hx with ⟨rfl, h3⟩ | ⟨rfl, h3, h4⟩ | ⟨rfl, h3, h4⟩
        · have e1 : sfV σ (fI σ 108 2) c a b = 1 := by rw [hsf, if_pos (.inl h3)]
          rw [e1]
          refine ok_wlt (by omega) (by omega) (fun h5 => by exfalso; omega) (fun _ => ?_)
          refine sm_gI hM' ?_
          rw [hS'.2.2.1.1]
          refine sm_rcv hM' (ok_rw goes ?_)
          dsimp only
          rw [if_pos h3]
          exact ok_z1 (ok_some ⟨rfl, t3, u2, t2, ikn⟩)
        · have e1 : sfV σ (fI σ 108 2) c a b = 1 := by rw [hsf, if_pos (.inr h4)]
          rw [e1]
          refine ok_wlt (by omega) (by omega) (fun h5 => by exfalso; omega) (fun _ => ?_)
          refine sm_gI hM' ?_
          rw [hS'.2.2.1.1]
          refine sm_rcv hM' (ok_rw goes ?_)
          dsimp only
          rw [if_neg h3]
          exact ok_z0 (ok_some ⟨rfl, t3, u2, t2, ikn⟩)
        · have e1 : sfV σ (fI σ 108 2) c a b = 0 := by rw [hsf, if_neg (fun q => by rcases q with h | h; exact h3 h; exact h4 h)]
          rw [e1]
          exact ok_wlt (by omega) (by omega) (fun _ => ok_some ⟨rfl, t3, u2, t2, ikn⟩) (fun h5 => by exfalso; omega)
      refine sx_gI t2.1 rfl rfl ?_
      rw [t2.2.1.2.2]
      refine sx_rcv t2.1 rfl rfl (ok_rw (goingOn_eq hsg t2 ⟨Int.le_refl _, by omega⟩ (fun hh => t6 hh) hsl hv.2.2 hv.1) ?_)
      dsimp only
      refine ok_wlt (by omega) (by omega) (fun h3 => ?_) (fun h3 => ok_some (ok_some (mpart 1 (.inl ⟨rfl, h3⟩))))
      refine sx_gI t2.1 rfl rfl ?_
      rw [t2.2.1.2.2]
      refine sx_rcv t2.1 rfl rfl (ok_rw (waiting_eq hsg t2 ⟨Int.le_refl _, by omega⟩ (t5 (by omega)) hsl hv.2.2 hv.1 (by omega)) ?_)
      dsimp only
      refine ok_wlt (by omega) (by omega) (fun h4 => ok_some (ok_some (mpart (-1) (.inr (.inr ⟨rfl, by omega, by omega⟩))))) (fun h4 => ok_some (ok_some (mpart 0 (.inr (.inl ⟨rfl, by omega, h4⟩)))))
  · have bad : f_X12_safe N σm 1 a b c = some (σm, -1) := by
      have H : Ok (f_X12_safe N σm 1 a b c) (fun q => q = (σm, -1)) := by
        unfold f_X12_safe f_X12_isMoney
        repeat' first
          | with_reducible apply st_Lt
          | with_reducible apply st_Jn
          | ((with_reducible apply ok_some); try dsimp only)
          | with_reducible apply ok_z0
          | with_reducible apply ok_z1
          | ((with_reducible apply om_gF_hit); exact hM)
          | ((with_reducible apply ok_gF_j); decide)
          | ((with_reducible apply ok_gF_k); (first | decide | omega))
          | ((with_reducible apply ok_gU_k); (first | decide | omega))
          | ((with_reducible apply ok_aF_k); (first | decide | omega))
          | ((with_reducible apply ok_aU_k); (first | decide | omega))
          | (with_reducible apply ok_rF)
          | (with_reducible apply ok_rU)
          | (with_reducible apply ok_qF)
          | (with_reducible apply ok_qU)
          | ((with_reducible apply sm_gI); exact hM)
          | ((with_reducible apply sm_gR); exact hM; exact rfl)
          | ((with_reducible apply sm_pI); exact hM)
          | ((with_reducible apply sm_rcv); exact hM)
          | ((with_reducible apply sm_aI); exact hM; exact rfl; exact rfl; exact (by decide); omega; omega)
          | ((with_reducible apply sm_sI); exact hM; exact rfl; exact rfl; exact (by decide); omega; omega)
          | ((with_reducible apply ok_rZ); (first | exact .inl rfl | exact .inr rfl))
          | ((with_reducible refine ok_within ?_ ?_ ?_ (fun hc => ?_) (fun hc => ?_)); omega; omega; omega)
          | ((with_reducible refine ok_month ?_ (fun hc => ?_) (fun hc => ?_)); omega)
          | ((with_reducible refine ok_tongue ?_ (fun hc => ?_) (fun hc => ?_)); omega)
          | ((with_reducible refine ok_money ?_ (fun hc => ?_) (fun hc => ?_)); omega)
          | ((with_reducible refine ok_isIn ?_ ?_ ?_ (fun hc => ?_) (fun hc => ?_)); omega; omega; omega)
          | ((with_reducible refine ok_wltp ?_ ?_ ?_ ?_); omega; omega; omega)
          | ((with_reducible refine ok_wltn ?_ ?_ ?_ ?_); omega; omega; omega)
          | ((with_reducible refine ok_wlt ?_ ?_ (fun hc => ?_) (fun hc => ?_)); omega; omega)
          | ((with_reducible refine ok_wlt0 ?_ (fun hc => ?_) (fun hc => ?_)); omega)
          | ((with_reducible refine ok_w0lt ?_ (fun hc => ?_) (fun hc => ?_)); omega)
          | ((with_reducible refine ok_weq ?_ ?_ (fun hc => ?_) (fun hc => ?_)); omega; omega)
          | ((with_reducible refine ok_weqc ?_ (fun hc => ?_) (fun hc => ?_)); omega)
          | (with_reducible apply ok_bind)
        all_goals first | (exfalso; omega) | rfl
      obtain ⟨q, e, rfl⟩ := H
      exact e
    have h0 := hS.1
    unfold f_X11_should f_X12_should
    repeat' first
      | with_reducible apply st_Lt
      | with_reducible apply st_Jn
      | ((with_reducible apply ok_some); try dsimp only)
      | with_reducible apply ok_z0
      | with_reducible apply ok_z1
      | (refine ok_rw bad ?_; try dsimp only)
      | ((with_reducible apply ok_gF_hit); exact hX; exact rfl; exact rfl)
      | ((with_reducible apply om_gF_hit); exact hM)
      | ((with_reducible apply ok_gF_j); decide)
      | ((with_reducible apply ok_gF_k); (first | decide | omega))
      | ((with_reducible apply ok_gU_k); (first | decide | omega))
      | ((with_reducible apply ok_aF_k); (first | decide | omega))
      | ((with_reducible apply ok_aU_k); (first | decide | omega))
      | (with_reducible apply ok_rF)
      | (with_reducible apply ok_rU)
      | (with_reducible apply ok_qF)
      | (with_reducible apply ok_qU)
      | ((with_reducible apply sx_gI); exact hX; exact rfl; exact rfl)
      | ((with_reducible apply sx_gR); exact hX; exact rfl; exact rfl; exact rfl)
      | ((with_reducible apply sx_pI); exact hX; exact rfl; exact rfl)
      | ((with_reducible apply sx_rcv); exact hX; exact rfl; exact rfl)
      | ((with_reducible apply sx_aI); exact hX; exact rfl; exact rfl; exact (by decide); omega; omega)
      | ((with_reducible apply sx_sI); exact hX; exact rfl; exact rfl; exact (by decide); omega; omega)
      | ((with_reducible apply sm_gI); exact hM)
      | ((with_reducible apply sm_gR); exact hM; exact rfl)
      | ((with_reducible apply sm_pI); exact hM)
      | ((with_reducible apply sm_rcv); exact hM)
      | ((with_reducible apply sm_aI); exact hM; exact rfl; exact rfl; exact (by decide); omega; omega)
      | ((with_reducible apply sm_sI); exact hM; exact rfl; exact rfl; exact (by decide); omega; omega)
      | ((with_reducible apply ok_rZ); (first | exact .inl rfl | exact .inr rfl))
      | ((with_reducible refine ok_within ?_ ?_ ?_ (fun hc => ?_) (fun hc => ?_)); omega; omega; omega)
      | ((with_reducible refine ok_month ?_ (fun hc => ?_) (fun hc => ?_)); omega)
      | ((with_reducible refine ok_tongue ?_ (fun hc => ?_) (fun hc => ?_)); omega)
      | ((with_reducible refine ok_money ?_ (fun hc => ?_) (fun hc => ?_)); omega)
      | ((with_reducible refine ok_isIn ?_ ?_ ?_ (fun hc => ?_) (fun hc => ?_)); omega; omega; omega)
      | ((with_reducible refine ok_wltp ?_ ?_ ?_ ?_); omega; omega; omega)
      | ((with_reducible refine ok_wltn ?_ ?_ ?_ ?_); omega; omega; omega)
      | ((with_reducible refine ok_wlt ?_ ?_ (fun hc => ?_) (fun hc => ?_)); omega; omega)
      | ((with_reducible refine ok_wlt0 ?_ (fun hc => ?_) (fun hc => ?_)); omega)
      | ((with_reducible refine ok_w0lt ?_ (fun hc => ?_) (fun hc => ?_)); omega)
      | ((with_reducible refine ok_weq ?_ ?_ (fun hc => ?_) (fun hc => ?_)); omega; omega)
      | ((with_reducible refine ok_weqc ?_ (fun hc => ?_) (fun hc => ?_)); omega)
    all_goals first | (exfalso; omega) | exact ⟨rfl, FX.refl, FM.refl, lk0, hk⟩
end St
