/-! the pure part: the plain calls -/
section Ops
variable {N : Nat} {σx σm : St}
theorem op_end (hX : WXr σx.1 σx.2.2) (hM : WMr σm.1 σm.2.2) (hT : ITape σx σm) {a : Int} (ha : wr a = a) : Ok (f_X11_end N σx 1 a) (fun v => Ok (f_X12_end N σm 1 a) (fun w => wr v.2 = wr w.2 ∧ FX [2] σx v.1 ∧ FM [] [2] σm w.1 ∧ ITape v.1 w.1)) := by
  have hr := wr_rg ha
  have hT' := hT
  obtain ⟨t1, t2, t3, t4, t5, t6, t7, t8, t9, t10⟩ := hT
  unfold f_X11_end f_X12_end
  repeat' first
    | with_reducible apply st_Lt
    | with_reducible apply st_Jn
    | ((with_reducible apply ok_some); try dsimp only)
    | with_reducible apply ok_z0
    | with_reducible apply ok_z1
    | ((with_reducible apply ok_gF_hit); exact hX; exact rfl; exact rfl)
    | ((with_reducible apply om_gF_hit); exact hM)
    | ((with_reducible apply ok_gF_j); decide)
    | ((with_reducible apply ok_gF_k); (first | decide | omega))
    | ((with_reducible apply ok_gU_k); (first | decide | omega))
    | ((with_reducible apply ok_aF_k); (first | decide | omega))
    | ((with_reducible apply ok_aU_k); (first | decide | omega))
    | (with_reducible apply ok_rF)
    | (with_reducible apply ok_rU)
    | (with_reducible apply ok_qF)
    | (with_reducible apply ok_qU)
    | ((with_reducible apply sx_gI); exact hX; exact rfl; exact rfl)
    | ((with_reducible apply sx_gR); exact hX; exact rfl; exact rfl; exact rfl)
    | ((with_reducible apply sx_pI); exact hX; exact rfl; exact rfl)
    | ((with_reducible apply sx_rcv); exact hX; exact rfl; exact rfl)
    | ((with_reducible apply sx_aI); exact hX; exact rfl; exact rfl; exact (by decide); omega; omega)
    | ((with_reducible apply sx_sI); exact hX; exact rfl; exact rfl; exact (by decide); omega; omega)
    | ((with_reducible apply sm_gI); exact hM)
    | ((with_reducible apply sm_gR); exact hM; exact rfl)
    | ((with_reducible apply sm_pI); exact hM)
    | ((with_reducible apply sm_rcv); exact hM)
    | ((with_reducible apply sm_aI); exact hM; exact rfl; exact rfl; exact (by decide); omega; omega)
    | ((with_reducible apply sm_sI); exact hM; exact rfl; exact rfl; exact (by decide); omega; omega)
    | ((with_reducible apply ok_rZ); (first | exact .inl rfl | exact .inr rfl))
    | ((with_reducible refine ok_within ?_ ?_ ?_ (fun hc => ?_) (fun hc => ?_)); omega; omega; omega)
    | ((with_reducible refine ok_month ?_ (fun hc => ?_) (fun hc => ?_)); omega)
    | ((with_reducible refine ok_tongue ?_ (fun hc => ?_) (fun hc => ?_)); omega)
    | ((with_reducible refine ok_money ?_ (fun hc => ?_) (fun hc => ?_)); omega)
    | ((with_reducible refine ok_isIn ?_ ?_ ?_ (fun hc => ?_) (fun hc => ?_)); omega; omega; omega)
    | ((with_reducible refine ok_wltp ?_ ?_ ?_ ?_); omega; omega; omega)
    | ((with_reducible refine ok_wltn ?_ ?_ ?_ ?_); omega; omega; omega)
    | ((with_reducible refine ok_wlt ?_ ?_ (fun hc => ?_) (fun hc => ?_)); omega; omega)
    | ((with_reducible refine ok_wlt0 ?_ (fun hc => ?_) (fun hc => ?_)); omega)
    | ((with_reducible refine ok_w0lt ?_ (fun hc => ?_) (fun hc => ?_)); omega)
    | ((with_reducible refine ok_weq ?_ ?_ (fun hc => ?_) (fun hc => ?_)); omega; omega)
    | ((with_reducible refine ok_weqc ?_ (fun hc => ?_) (fun hc => ?_)); omega)
  all_goals first | (exfalso; omega) | exact ⟨rfl, FX.refl, FM.refl, hT'⟩ | skip
  refine ⟨rfl, FX.refl.uF (by decide), FM.refl.uF (by decide), ?_⟩
  unfold ITape
  simp only [fI_eq, fI_k, fI_j, fI_uk, uF_k, uI_k, uW_at, uA_k, ne_eq, Nat.reduceEqDiff, not_false_eq_true, reduceCtorEq] 
  exact ⟨trivial, by omega, by omega, fun j h0 h1 => t4 j h0 (by omega), t5, t6, t7, t8, t9, t10⟩
theorem op_fault (hX : WXr σx.1 σx.2.2) (hM : WMr σm.1 σm.2.2) (hT : ITape σx σm) {a : Int} (ha : wr a = a) : Ok (f_X11_fault N σx 1 a) (fun v => Ok (f_X12_fault N σm 1 a) (fun w => wr v.2 = wr w.2 ∧ v.1 = σx ∧ w.1 = σm)) := by
  have hr := wr_rg ha
  obtain ⟨t1, t2, t3, t4, t5, t6, t7, t8, t9, t10⟩ := hT
  unfold f_X11_fault f_X12_fault
  repeat' first
    | with_reducible apply st_Lt
    | with_reducible apply st_Jn
    | ((with_reducible apply ok_some); try dsimp only)
    | with_reducible apply ok_z0
    | with_reducible apply ok_z1
    | ((with_reducible apply ok_gF_hit); exact hX; exact rfl; exact rfl)
    | ((with_reducible apply om_gF_hit); exact hM)
    | ((with_reducible apply ok_gF_j); decide)
    | ((with_reducible apply ok_gF_k); (first | decide | omega))
    | ((with_reducible apply ok_gU_k); (first | decide | omega))
    | ((with_reducible apply ok_aF_k); (first | decide | omega))
    | ((with_reducible apply ok_aU_k); (first | decide | omega))
    | (with_reducible apply ok_rF)
    | (with_reducible apply ok_rU)
    | (with_reducible apply ok_qF)
    | (with_reducible apply ok_qU)
    | ((with_reducible apply sx_gI); exact hX; exact rfl; exact rfl)
    | ((with_reducible apply sx_gR); exact hX; exact rfl; exact rfl; exact rfl)
    | ((with_reducible apply sx_pI); exact hX; exact rfl; exact rfl)
    | ((with_reducible apply sx_rcv); exact hX; exact rfl; exact rfl)
    | ((with_reducible apply sx_aI); exact hX; exact rfl; exact rfl; exact (by decide); omega; omega)
    | ((with_reducible apply sx_sI); exact hX; exact rfl; exact rfl; exact (by decide); omega; omega)
    | ((with_reducible apply sm_gI); exact hM)
    | ((with_reducible apply sm_gR); exact hM; exact rfl)
    | ((with_reducible apply sm_pI); exact hM)
    | ((with_reducible apply sm_rcv); exact hM)
    | ((with_reducible apply sm_aI); exact hM; exact rfl; exact rfl; exact (by decide); omega; omega)
    | ((with_reducible apply sm_sI); exact hM; exact rfl; exact rfl; exact (by decide); omega; omega)
    | ((with_reducible apply ok_rZ); (first | exact .inl rfl | exact .inr rfl))
    | ((with_reducible refine ok_within ?_ ?_ ?_ (fun hc => ?_) (fun hc => ?_)); omega; omega; omega)
    | ((with_reducible refine ok_month ?_ (fun hc => ?_) (fun hc => ?_)); omega)
    | ((with_reducible refine ok_tongue ?_ (fun hc => ?_) (fun hc => ?_)); omega)
    | ((with_reducible refine ok_money ?_ (fun hc => ?_) (fun hc => ?_)); omega)
    | ((with_reducible refine ok_isIn ?_ ?_ ?_ (fun hc => ?_) (fun hc => ?_)); omega; omega; omega)
    | ((with_reducible refine ok_wltp ?_ ?_ ?_ ?_); omega; omega; omega)
    | ((with_reducible refine ok_wltn ?_ ?_ ?_ ?_); omega; omega; omega)
    | ((with_reducible refine ok_wlt ?_ ?_ (fun hc => ?_) (fun hc => ?_)); omega; omega)
    | ((with_reducible refine ok_wlt0 ?_ (fun hc => ?_) (fun hc => ?_)); omega)
    | ((with_reducible refine ok_w0lt ?_ (fun hc => ?_) (fun hc => ?_)); omega)
    | ((with_reducible refine ok_weq ?_ ?_ (fun hc => ?_) (fun hc => ?_)); omega; omega)
    | ((with_reducible refine ok_weqc ?_ (fun hc => ?_) (fun hc => ?_)); omega)
  all_goals first | (exfalso; omega) | exact ⟨rfl, rfl, rfl⟩ | exact ⟨by rw [t5], rfl, rfl⟩ | exact ⟨by rw [t6], rfl, rfl⟩
theorem op_later (hX : WXr σx.1 σx.2.2) (hM : WMr σm.1 σm.2.2) (hF : IFacts σx σm) {a : Int} (ha : wr a = a) : Ok (f_X11_later N σx 1 a) (fun v => Ok (f_X12_later N σm 1 a) (fun w => wr v.2 = wr w.2 ∧ FX [66] σx v.1 ∧ FM [] [68] σm w.1 ∧ IFacts v.1 w.1)) := by
  have hr := wr_rg ha
  have hF' := hF
  obtain ⟨⟨f1, f2, f3⟩, ⟨f4, f5, f6⟩, f7⟩ := hF
  unfold f_X11_later f_X12_later
  repeat' first
    | with_reducible apply st_Lt
    | with_reducible apply st_Jn
    | ((with_reducible apply ok_some); try dsimp only)
    | with_reducible apply ok_z0
    | with_reducible apply ok_z1
    | ((with_reducible apply ok_gF_hit); exact hX; exact rfl; exact rfl)
    | ((with_reducible apply om_gF_hit); exact hM)
    | ((with_reducible apply ok_gF_j); decide)
    | ((with_reducible apply ok_gF_k); (first | decide | omega))
    | ((with_reducible apply ok_gU_k); (first | decide | omega))
    | ((with_reducible apply ok_aF_k); (first | decide | omega))
    | ((with_reducible apply ok_aU_k); (first | decide | omega))
    | (with_reducible apply ok_rF)
    | (with_reducible apply ok_rU)
    | (with_reducible apply ok_qF)
    | (with_reducible apply ok_qU)
    | ((with_reducible apply sx_gI); exact hX; exact rfl; exact rfl)
    | ((with_reducible apply sx_gR); exact hX; exact rfl; exact rfl; exact rfl)
    | ((with_reducible apply sx_pI); exact hX; exact rfl; exact rfl)
    | ((with_reducible apply sx_rcv); exact hX; exact rfl; exact rfl)
    | ((with_reducible apply sx_aI); exact hX; exact rfl; exact rfl; exact (by decide); omega; omega)
    | ((with_reducible apply sx_sI); exact hX; exact rfl; exact rfl; exact (by decide); omega; omega)
    | ((with_reducible apply sm_gI); exact hM)
    | ((with_reducible apply sm_gR); exact hM; exact rfl)
    | ((with_reducible apply sm_pI); exact hM)
    | ((with_reducible apply sm_rcv); exact hM)
    | ((with_reducible apply sm_aI); exact hM; exact rfl; exact rfl; exact (by decide); omega; omega)
    | ((with_reducible apply sm_sI); exact hM; exact rfl; exact rfl; exact (by decide); omega; omega)
    | ((with_reducible apply ok_rZ); (first | exact .inl rfl | exact .inr rfl))
    | ((with_reducible refine ok_within ?_ ?_ ?_ (fun hc => ?_) (fun hc => ?_)); omega; omega; omega)
    | ((with_reducible refine ok_month ?_ (fun hc => ?_) (fun hc => ?_)); omega)
    | ((with_reducible refine ok_tongue ?_ (fun hc => ?_) (fun hc => ?_)); omega)
    | ((with_reducible refine ok_money ?_ (fun hc => ?_) (fun hc => ?_)); omega)
    | ((with_reducible refine ok_isIn ?_ ?_ ?_ (fun hc => ?_) (fun hc => ?_)); omega; omega; omega)
    | ((with_reducible refine ok_wltp ?_ ?_ ?_ ?_); omega; omega; omega)
    | ((with_reducible refine ok_wltn ?_ ?_ ?_ ?_); omega; omega; omega)
    | ((with_reducible refine ok_wlt ?_ ?_ (fun hc => ?_) (fun hc => ?_)); omega; omega)
    | ((with_reducible refine ok_wlt0 ?_ (fun hc => ?_) (fun hc => ?_)); omega)
    | ((with_reducible refine ok_w0lt ?_ (fun hc => ?_) (fun hc => ?_)); omega)
    | ((with_reducible refine ok_weq ?_ ?_ (fun hc => ?_) (fun hc => ?_)); omega; omega)
    | ((with_reducible refine ok_weqc ?_ (fun hc => ?_) (fun hc => ?_)); omega)
    | ((with_reducible apply ok_bind); unfold f_X1_letPass)
  all_goals first | (exfalso; omega) | exact ⟨rfl, FX.refl, FM.refl, hF'⟩ | skip
  refine ⟨by rw [f4], FX.refl.uF (by decide), FM.refl.uF (by decide), ?_⟩
  unfold IFacts
  simp only [fI_eq, fI_k, fI_j, fI_uk, uF_k, uI_k, uW_at, uA_k, ne_eq, Nat.reduceEqDiff, not_false_eq_true, reduceCtorEq] 
  exact ⟨⟨f1, f2, f3⟩, ⟨by omega, by omega, by omega⟩, f7⟩
theorem tell_ok (hX : WXr σx.1 σx.2.2) (hM : WMr σm.1 σm.2.2) (hF : IFacts σx σm) {kd mo va one two : Int} (hk : 0 ≤ kd ∧ kd ≤ 2) (hm : 0 ≤ mo ∧ mo ≤ 199) (hv : 0 ≤ va ∧ va ≤ 99999) (h0 : kd = 0 → one = va ∧ two = mo ∧ va ≤ 11) (h1 : kd ≠ 0 → one = mo ∧ two = va) (h2 : kd = 2 → 1 ≤ va ∧ va ≤ 255) :
    Ok (f_X1_tell N σx 66 kd mo va) (fun v => Ok (f_X12_tell N σm 1 kd one two) (fun w => wr v.2 = wr w.2 ∧ FX [66, 67, 68, 69, 70, 71] σx v.1 ∧ FM [33, 34, 35, 36, 37] [67] σm w.1 ∧ IFacts v.1 w.1)) := by
  have hF' := hF
  obtain ⟨⟨f1, f2, f3⟩, ⟨f4, f5, f6⟩, f7⟩ := hF
  unfold f_X1_tell f_X12_tell
  repeat' first
    | with_reducible apply st_Lt
    | with_reducible apply st_Jn
    | ((with_reducible apply ok_some); try dsimp only)
    | with_reducible apply ok_z0
    | with_reducible apply ok_z1
    | ((with_reducible apply ok_gF_hit); exact hX; exact rfl; exact rfl)
    | ((with_reducible apply om_gF_hit); exact hM)
    | ((with_reducible apply ok_gF_j); decide)
    | ((with_reducible apply ok_gF_k); (first | decide | omega))
    | ((with_reducible apply ok_gU_k); (first | decide | omega))
    | ((with_reducible apply ok_aF_k); (first | decide | omega))
    | ((with_reducible apply ok_aU_k); (first | decide | omega))
    | (with_reducible apply ok_rF)
    | (with_reducible apply ok_rU)
    | (with_reducible apply ok_qF)
    | (with_reducible apply ok_qU)
    | ((with_reducible apply sx_gI); exact hX; exact rfl; exact rfl)
    | ((with_reducible apply sx_gR); exact hX; exact rfl; exact rfl; exact rfl)
    | ((with_reducible apply sx_pI); exact hX; exact rfl; exact rfl)
    | ((with_reducible apply sx_rcv); exact hX; exact rfl; exact rfl)
    | ((with_reducible apply sx_aI); exact hX; exact rfl; exact rfl; exact (by decide); omega; omega)
    | ((with_reducible apply sx_sI); exact hX; exact rfl; exact rfl; exact (by decide); omega; omega)
    | ((with_reducible apply sm_gI); exact hM)
    | ((with_reducible apply sm_gR); exact hM; exact rfl)
    | ((with_reducible apply sm_pI); exact hM)
    | ((with_reducible apply sm_rcv); exact hM)
    | ((with_reducible apply sm_aI); exact hM; exact rfl; exact rfl; exact (by decide); omega; omega)
    | ((with_reducible apply sm_sI); exact hM; exact rfl; exact rfl; exact (by decide); omega; omega)
    | ((with_reducible apply ok_rZ); (first | exact .inl rfl | exact .inr rfl))
    | ((with_reducible refine ok_within ?_ ?_ ?_ (fun hc => ?_) (fun hc => ?_)); omega; omega; omega)
    | ((with_reducible refine ok_month ?_ (fun hc => ?_) (fun hc => ?_)); omega)
    | ((with_reducible refine ok_tongue ?_ (fun hc => ?_) (fun hc => ?_)); omega)
    | ((with_reducible refine ok_money ?_ (fun hc => ?_) (fun hc => ?_)); omega)
    | ((with_reducible refine ok_isIn ?_ ?_ ?_ (fun hc => ?_) (fun hc => ?_)); omega; omega; omega)
    | ((with_reducible refine ok_wltp ?_ ?_ ?_ ?_); omega; omega; omega)
    | ((with_reducible refine ok_wltn ?_ ?_ ?_ ?_); omega; omega; omega)
    | ((with_reducible refine ok_wlt ?_ ?_ (fun hc => ?_) (fun hc => ?_)); omega; omega)
    | ((with_reducible refine ok_wlt0 ?_ (fun hc => ?_) (fun hc => ?_)); omega)
    | ((with_reducible refine ok_w0lt ?_ (fun hc => ?_) (fun hc => ?_)); omega)
    | ((with_reducible refine ok_weq ?_ ?_ (fun hc => ?_) (fun hc => ?_)); omega; omega)
    | ((with_reducible refine ok_weqc ?_ (fun hc => ?_) (fun hc => ?_)); omega)
  all_goals first | (exfalso; omega) | exact ⟨rfl, FX.refl, FM.refl, hF'⟩ | skip
  refine ⟨by rw [f1], (((((FX.refl.uI (by decide)).uI (by decide)).uI (by decide)).uI (by decide)).uI (by decide)).uF (by decide), (((((FM.refl.uI (by decide) (by decide)).uI (by decide) (by decide)).uI (by decide) (by decide)).uI (by decide) (by decide)).uI (by decide) (by decide)).uF (by decide), ?_⟩
  unfold IFacts
  simp only [fI_eq, fI_k, fI_j, fI_uk, uF_k, uI_k, uW_at, uA_k, ne_eq, Nat.reduceEqDiff, not_false_eq_true, reduceCtorEq] 
  refine ⟨⟨by omega, by omega, by omega⟩, ⟨f4, f5, f6⟩, fun f g0 g1 => ?_⟩
  rw [f1]
  by_cases hf : f = fI σx 66 0
  · simp only [hf, if_true]
    refine ⟨⟨trivial, by omega, by omega⟩, ⟨f4, f5, f6⟩, ⟨trivial, by omega, by omega⟩, by omega, fun e => ?_, fun e => ?_, by omega, h2⟩
    · have := h0 e; omega
    · have := h1 e; omega
  · simp only [hf, if_false]
    exact f7 f g0 (by omega)
theorem op_change (hX : WXr σx.1 σx.2.2) (hM : WMr σm.1 σm.2.2) {m : Nat} {bk : Int} (hI : IMach m bk σx σm) (hF : IFacts σx σm) {a b : Int} (ha : wr a = a) (hb : wr b = b) : Ok (f_X11_change N σx 1 a b) (fun v => Ok (f_X12_change N σm 1 a b) (fun w => wr v.2 = wr w.2 ∧ FX [66, 67, 68, 69, 70, 71] σx v.1 ∧ FM [33, 34, 35, 36, 37] [67] σm w.1 ∧ IFacts v.1 w.1)) := by
  have hr := wr_rg ha
  have hs := wr_rg hb
  obtain ⟨i1, i2, i3, i4, ⟨r1, r2, r3, r4, r5⟩, i6⟩ := hI
  have hp : 0 ≤ fI σx m 1 ∧ fI σx m 1 ≤ 12 := r2.2
  have hq := r2.1
  by_cases hv : 0 ≤ a ∧ a < fI σx m 1 ∧ 0 ≤ b ∧ b ≤ 199
  · obtain ⟨v, ev, w, ew, h⟩ := tell_ok (N := N) hX hM hF (kd := 0) (mo := b) (va := a) (one := a) (two := b) (by omega) (by omega) (by omega) (fun _ => ⟨rfl, rfl, by omega⟩) (fun e => absurd rfl e) (fun e => by omega)
    unfold f_X11_change f_X12_change
    repeat' first
      | with_reducible apply st_Lt
      | with_reducible apply st_Jn
      | ((with_reducible apply ok_some); try dsimp only)
      | with_reducible apply ok_z0
      | with_reducible apply ok_z1
      | ((with_reducible apply ok_gF_hit); exact hX; exact rfl; exact rfl)
      | ((with_reducible apply om_gF_hit); exact hM)
      | ((with_reducible apply ok_gF_j); decide)
      | ((with_reducible apply ok_gF_k); (first | decide | omega))
      | ((with_reducible apply ok_gU_k); (first | decide | omega))
      | ((with_reducible apply ok_aF_k); (first | decide | omega))
      | ((with_reducible apply ok_aU_k); (first | decide | omega))
      | (with_reducible apply ok_rF)
      | (with_reducible apply ok_rU)
      | (with_reducible apply ok_qF)
      | (with_reducible apply ok_qU)
      | ((with_reducible apply sx_gI); exact hX; exact rfl; exact rfl)
      | ((with_reducible apply sx_gR); exact hX; exact rfl; exact rfl; exact rfl)
      | ((with_reducible apply sx_pI); exact hX; exact rfl; exact rfl)
      | ((with_reducible apply sx_rcv); exact hX; exact rfl; exact rfl)
      | ((with_reducible apply sx_aI); exact hX; exact rfl; exact rfl; exact (by decide); omega; omega)
      | ((with_reducible apply sx_sI); exact hX; exact rfl; exact rfl; exact (by decide); omega; omega)
      | ((with_reducible apply sm_gI); exact hM)
      | ((with_reducible apply sm_gR); exact hM; exact rfl)
      | ((with_reducible apply sm_pI); exact hM)
      | ((with_reducible apply sm_rcv); exact hM)
      | ((with_reducible apply sm_aI); exact hM; exact rfl; exact rfl; exact (by decide); omega; omega)
      | ((with_reducible apply sm_sI); exact hM; exact rfl; exact rfl; exact (by decide); omega; omega)
      | ((with_reducible apply ok_rZ); (first | exact .inl rfl | exact .inr rfl))
      | ((with_reducible refine ok_within ?_ ?_ ?_ (fun hc => ?_) (fun hc => ?_)); omega; omega; omega)
      | ((with_reducible refine ok_month ?_ (fun hc => ?_) (fun hc => ?_)); omega)
      | ((with_reducible refine ok_tongue ?_ (fun hc => ?_) (fun hc => ?_)); omega)
      | ((with_reducible refine ok_money ?_ (fun hc => ?_) (fun hc => ?_)); omega)
      | ((with_reducible refine om_month ?_ (fun hc => ?_) (fun hc => ?_)); omega)
      | ((with_reducible refine om_tongue ?_ (fun hc => ?_) (fun hc => ?_)); omega)
      | ((with_reducible refine ok_isIn ?_ ?_ ?_ (fun hc => ?_) (fun hc => ?_)); omega; omega; omega)
      | ((with_reducible refine ok_wltp ?_ ?_ ?_ ?_); omega; omega; omega)
      | ((with_reducible refine ok_wltn ?_ ?_ ?_ ?_); omega; omega; omega)
      | ((with_reducible refine ok_wlt ?_ ?_ (fun hc => ?_) (fun hc => ?_)); omega; omega)
      | ((with_reducible refine ok_wlt0 ?_ (fun hc => ?_) (fun hc => ?_)); omega)
      | ((with_reducible refine ok_w0lt ?_ (fun hc => ?_) (fun hc => ?_)); omega)
      | ((with_reducible refine ok_weq ?_ ?_ (fun hc => ?_) (fun hc => ?_)); omega; omega)
      | ((with_reducible refine ok_weqc ?_ (fun hc => ?_) (fun hc => ?_)); omega)
      | (refine ok_part hX i1 i2 hp (by omega) (fun hc => ?_) (fun hc => ?_))
      | (refine om_part hM i3 i4 hq hp (by omega) (fun hc => ?_) (fun hc => ?_))
      | (refine ok_rw ev ?_; try dsimp only)
      | (refine ok_rw ew ?_; try dsimp only)
    all_goals first | (exfalso; omega) | exact h
  · unfold f_X11_change f_X12_change
    repeat' first
      | with_reducible apply st_Lt
      | with_reducible apply st_Jn
      | ((with_reducible apply ok_some); try dsimp only)
      | with_reducible apply ok_z0
      | with_reducible apply ok_z1
      | ((with_reducible apply ok_gF_hit); exact hX; exact rfl; exact rfl)
      | ((with_reducible apply om_gF_hit); exact hM)
      | ((with_reducible apply ok_gF_j); decide)
      | ((with_reducible apply ok_gF_k); (first | decide | omega))
      | ((with_reducible apply ok_gU_k); (first | decide | omega))
      | ((with_reducible apply ok_aF_k); (first | decide | omega))
      | ((with_reducible apply ok_aU_k); (first | decide | omega))
      | (with_reducible apply ok_rF)
      | (with_reducible apply ok_rU)
      | (with_reducible apply ok_qF)
      | (with_reducible apply ok_qU)
      | ((with_reducible apply sx_gI); exact hX; exact rfl; exact rfl)
      | ((with_reducible apply sx_gR); exact hX; exact rfl; exact rfl; exact rfl)
      | ((with_reducible apply sx_pI); exact hX; exact rfl; exact rfl)
      | ((with_reducible apply sx_rcv); exact hX; exact rfl; exact rfl)
      | ((with_reducible apply sx_aI); exact hX; exact rfl; exact rfl; exact (by decide); omega; omega)
      | ((with_reducible apply sx_sI); exact hX; exact rfl; exact rfl; exact (by decide); omega; omega)
      | ((with_reducible apply sm_gI); exact hM)
      | ((with_reducible apply sm_gR); exact hM; exact rfl)
      | ((with_reducible apply sm_pI); exact hM)
      | ((with_reducible apply sm_rcv); exact hM)
      | ((with_reducible apply sm_aI); exact hM; exact rfl; exact rfl; exact (by decide); omega; omega)
      | ((with_reducible apply sm_sI); exact hM; exact rfl; exact rfl; exact (by decide); omega; omega)
      | ((with_reducible apply ok_rZ); (first | exact .inl rfl | exact .inr rfl))
      | ((with_reducible refine ok_within ?_ ?_ ?_ (fun hc => ?_) (fun hc => ?_)); omega; omega; omega)
      | ((with_reducible refine ok_month ?_ (fun hc => ?_) (fun hc => ?_)); omega)
      | ((with_reducible refine ok_tongue ?_ (fun hc => ?_) (fun hc => ?_)); omega)
      | ((with_reducible refine ok_money ?_ (fun hc => ?_) (fun hc => ?_)); omega)
      | ((with_reducible refine om_month ?_ (fun hc => ?_) (fun hc => ?_)); omega)
      | ((with_reducible refine om_tongue ?_ (fun hc => ?_) (fun hc => ?_)); omega)
      | ((with_reducible refine ok_isIn ?_ ?_ ?_ (fun hc => ?_) (fun hc => ?_)); omega; omega; omega)
      | ((with_reducible refine ok_wltp ?_ ?_ ?_ ?_); omega; omega; omega)
      | ((with_reducible refine ok_wltn ?_ ?_ ?_ ?_); omega; omega; omega)
      | ((with_reducible refine ok_wlt ?_ ?_ (fun hc => ?_) (fun hc => ?_)); omega; omega)
      | ((with_reducible refine ok_wlt0 ?_ (fun hc => ?_) (fun hc => ?_)); omega)
      | ((with_reducible refine ok_w0lt ?_ (fun hc => ?_) (fun hc => ?_)); omega)
      | ((with_reducible refine ok_weq ?_ ?_ (fun hc => ?_) (fun hc => ?_)); omega; omega)
      | ((with_reducible refine ok_weqc ?_ (fun hc => ?_) (fun hc => ?_)); omega)
      | (refine ok_part hX i1 i2 hp (by omega) (fun hc => ?_) (fun hc => ?_))
      | (refine om_part hM i3 i4 hq hp (by omega) (fun hc => ?_) (fun hc => ?_))
    all_goals first | (exfalso; omega) | exact ⟨rfl, FX.refl, FM.refl, hF⟩
theorem op_estimate (hX : WXr σx.1 σx.2.2) (hM : WMr σm.1 σm.2.2) (hF : IFacts σx σm) {a b : Int} (ha : wr a = a) (hb : wr b = b) : Ok (f_X11_estimate N σx 1 a b) (fun v => Ok (f_X12_estimate N σm 1 a b) (fun w => wr v.2 = wr w.2 ∧ FX [66, 67, 68, 69, 70, 71] σx v.1 ∧ FM [33, 34, 35, 36, 37] [67] σm w.1 ∧ IFacts v.1 w.1)) := by
  have hr := wr_rg ha
  have hs := wr_rg hb
  by_cases hv : 0 ≤ a ∧ a ≤ 199 ∧ 0 ≤ b ∧ b ≤ 99999
  · obtain ⟨v, ev, w, ew, h⟩ := tell_ok (N := N) hX hM hF (kd := 1) (mo := a) (va := b) (one := a) (two := b) (by omega) (by omega) (by omega) (fun e => by omega) (fun e => ⟨rfl, rfl⟩) (fun e => by omega)
    unfold f_X11_estimate f_X12_estimate
    repeat' first
      | with_reducible apply st_Lt
      | with_reducible apply st_Jn
      | ((with_reducible apply ok_some); try dsimp only)
      | with_reducible apply ok_z0
      | with_reducible apply ok_z1
      | ((with_reducible apply ok_gF_hit); exact hX; exact rfl; exact rfl)
      | ((with_reducible apply om_gF_hit); exact hM)
      | ((with_reducible apply ok_gF_j); decide)
      | ((with_reducible apply ok_gF_k); (first | decide | omega))
      | ((with_reducible apply ok_gU_k); (first | decide | omega))
      | ((with_reducible apply ok_aF_k); (first | decide | omega))
      | ((with_reducible apply ok_aU_k); (first | decide | omega))
      | (with_reducible apply ok_rF)
      | (with_reducible apply ok_rU)
      | (with_reducible apply ok_qF)
      | (with_reducible apply ok_qU)
      | ((with_reducible apply sx_gI); exact hX; exact rfl; exact rfl)
      | ((with_reducible apply sx_gR); exact hX; exact rfl; exact rfl; exact rfl)
      | ((with_reducible apply sx_pI); exact hX; exact rfl; exact rfl)
      | ((with_reducible apply sx_rcv); exact hX; exact rfl; exact rfl)
      | ((with_reducible apply sx_aI); exact hX; exact rfl; exact rfl; exact (by decide); omega; omega)
      | ((with_reducible apply sx_sI); exact hX; exact rfl; exact rfl; exact (by decide); omega; omega)
      | ((with_reducible apply sm_gI); exact hM)
      | ((with_reducible apply sm_gR); exact hM; exact rfl)
      | ((with_reducible apply sm_pI); exact hM)
      | ((with_reducible apply sm_rcv); exact hM)
      | ((with_reducible apply sm_aI); exact hM; exact rfl; exact rfl; exact (by decide); omega; omega)
      | ((with_reducible apply sm_sI); exact hM; exact rfl; exact rfl; exact (by decide); omega; omega)
      | ((with_reducible apply ok_rZ); (first | exact .inl rfl | exact .inr rfl))
      | ((with_reducible refine ok_within ?_ ?_ ?_ (fun hc => ?_) (fun hc => ?_)); omega; omega; omega)
      | ((with_reducible refine ok_month ?_ (fun hc => ?_) (fun hc => ?_)); omega)
      | ((with_reducible refine ok_tongue ?_ (fun hc => ?_) (fun hc => ?_)); omega)
      | ((with_reducible refine ok_money ?_ (fun hc => ?_) (fun hc => ?_)); omega)
      | ((with_reducible refine om_month ?_ (fun hc => ?_) (fun hc => ?_)); omega)
      | ((with_reducible refine om_tongue ?_ (fun hc => ?_) (fun hc => ?_)); omega)
      | ((with_reducible refine ok_isIn ?_ ?_ ?_ (fun hc => ?_) (fun hc => ?_)); omega; omega; omega)
      | ((with_reducible refine ok_wltp ?_ ?_ ?_ ?_); omega; omega; omega)
      | ((with_reducible refine ok_wltn ?_ ?_ ?_ ?_); omega; omega; omega)
      | ((with_reducible refine ok_wlt ?_ ?_ (fun hc => ?_) (fun hc => ?_)); omega; omega)
      | ((with_reducible refine ok_wlt0 ?_ (fun hc => ?_) (fun hc => ?_)); omega)
      | ((with_reducible refine ok_w0lt ?_ (fun hc => ?_) (fun hc => ?_)); omega)
      | ((with_reducible refine ok_weq ?_ ?_ (fun hc => ?_) (fun hc => ?_)); omega; omega)
      | ((with_reducible refine ok_weqc ?_ (fun hc => ?_) (fun hc => ?_)); omega)
      | (refine ok_rw ev ?_; try dsimp only)
      | (refine ok_rw ew ?_; try dsimp only)
    all_goals first | (exfalso; omega) | exact h
  · unfold f_X11_estimate f_X12_estimate
    repeat' first
      | with_reducible apply st_Lt
      | with_reducible apply st_Jn
      | ((with_reducible apply ok_some); try dsimp only)
      | with_reducible apply ok_z0
      | with_reducible apply ok_z1
      | ((with_reducible apply ok_gF_hit); exact hX; exact rfl; exact rfl)
      | ((with_reducible apply om_gF_hit); exact hM)
      | ((with_reducible apply ok_gF_j); decide)
      | ((with_reducible apply ok_gF_k); (first | decide | omega))
      | ((with_reducible apply ok_gU_k); (first | decide | omega))
      | ((with_reducible apply ok_aF_k); (first | decide | omega))
      | ((with_reducible apply ok_aU_k); (first | decide | omega))
      | (with_reducible apply ok_rF)
      | (with_reducible apply ok_rU)
      | (with_reducible apply ok_qF)
      | (with_reducible apply ok_qU)
      | ((with_reducible apply sx_gI); exact hX; exact rfl; exact rfl)
      | ((with_reducible apply sx_gR); exact hX; exact rfl; exact rfl; exact rfl)
      | ((with_reducible apply sx_pI); exact hX; exact rfl; exact rfl)
      | ((with_reducible apply sx_rcv); exact hX; exact rfl; exact rfl)
      | ((with_reducible apply sx_aI); exact hX; exact rfl; exact rfl; exact (by decide); omega; omega)
      | ((with_reducible apply sx_sI); exact hX; exact rfl; exact rfl; exact (by decide); omega; omega)
      | ((with_reducible apply sm_gI); exact hM)
      | ((with_reducible apply sm_gR); exact hM; exact rfl)
      | ((with_reducible apply sm_pI); exact hM)
      | ((with_reducible apply sm_rcv); exact hM)
      | ((with_reducible apply sm_aI); exact hM; exact rfl; exact rfl; exact (by decide); omega; omega)
      | ((with_reducible apply sm_sI); exact hM; exact rfl; exact rfl; exact (by decide); omega; omega)
      | ((with_reducible apply ok_rZ); (first | exact .inl rfl | exact .inr rfl))
      | ((with_reducible refine ok_within ?_ ?_ ?_ (fun hc => ?_) (fun hc => ?_)); omega; omega; omega)
      | ((with_reducible refine ok_month ?_ (fun hc => ?_) (fun hc => ?_)); omega)
      | ((with_reducible refine ok_tongue ?_ (fun hc => ?_) (fun hc => ?_)); omega)
      | ((with_reducible refine ok_money ?_ (fun hc => ?_) (fun hc => ?_)); omega)
      | ((with_reducible refine om_month ?_ (fun hc => ?_) (fun hc => ?_)); omega)
      | ((with_reducible refine om_tongue ?_ (fun hc => ?_) (fun hc => ?_)); omega)
      | ((with_reducible refine ok_isIn ?_ ?_ ?_ (fun hc => ?_) (fun hc => ?_)); omega; omega; omega)
      | ((with_reducible refine ok_wltp ?_ ?_ ?_ ?_); omega; omega; omega)
      | ((with_reducible refine ok_wltn ?_ ?_ ?_ ?_); omega; omega; omega)
      | ((with_reducible refine ok_wlt ?_ ?_ (fun hc => ?_) (fun hc => ?_)); omega; omega)
      | ((with_reducible refine ok_wlt0 ?_ (fun hc => ?_) (fun hc => ?_)); omega)
      | ((with_reducible refine ok_w0lt ?_ (fun hc => ?_) (fun hc => ?_)); omega)
      | ((with_reducible refine ok_weq ?_ ?_ (fun hc => ?_) (fun hc => ?_)); omega; omega)
      | ((with_reducible refine ok_weqc ?_ (fun hc => ?_) (fun hc => ?_)); omega)
    all_goals first | (exfalso; omega) | exact ⟨rfl, FX.refl, FM.refl, hF⟩
theorem op_show (hX : WXr σx.1 σx.2.2) (hM : WMr σm.1 σm.2.2) (hF : IFacts σx σm) {a b : Int} (ha : wr a = a) (hb : wr b = b) : Ok (f_X11_show N σx 1 a b) (fun v => Ok (f_X12_show N σm 1 a b) (fun w => wr v.2 = wr w.2 ∧ FX [66, 67, 68, 69, 70, 71] σx v.1 ∧ FM [33, 34, 35, 36, 37] [67] σm w.1 ∧ IFacts v.1 w.1)) := by
  have hr := wr_rg ha
  have hs := wr_rg hb
  by_cases hv : 0 ≤ a ∧ a ≤ 199 ∧ 1 ≤ b ∧ b ≤ 255
  · obtain ⟨v, ev, w, ew, h⟩ := tell_ok (N := N) hX hM hF (kd := 2) (mo := a) (va := b) (one := a) (two := b) (by omega) (by omega) (by omega) (fun e => by omega) (fun e => ⟨rfl, rfl⟩) (fun e => by omega)
    unfold f_X11_show f_X12_show
    repeat' first
      | with_reducible apply st_Lt
      | with_reducible apply st_Jn
      | ((with_reducible apply ok_some); try dsimp only)
      | with_reducible apply ok_z0
      | with_reducible apply ok_z1
      | ((with_reducible apply ok_gF_hit); exact hX; exact rfl; exact rfl)
      | ((with_reducible apply om_gF_hit); exact hM)
      | ((with_reducible apply ok_gF_j); decide)
      | ((with_reducible apply ok_gF_k); (first | decide | omega))
      | ((with_reducible apply ok_gU_k); (first | decide | omega))
      | ((with_reducible apply ok_aF_k); (first | decide | omega))
      | ((with_reducible apply ok_aU_k); (first | decide | omega))
      | (with_reducible apply ok_rF)
      | (with_reducible apply ok_rU)
      | (with_reducible apply ok_qF)
      | (with_reducible apply ok_qU)
      | ((with_reducible apply sx_gI); exact hX; exact rfl; exact rfl)
      | ((with_reducible apply sx_gR); exact hX; exact rfl; exact rfl; exact rfl)
      | ((with_reducible apply sx_pI); exact hX; exact rfl; exact rfl)
      | ((with_reducible apply sx_rcv); exact hX; exact rfl; exact rfl)
      | ((with_reducible apply sx_aI); exact hX; exact rfl; exact rfl; exact (by decide); omega; omega)
      | ((with_reducible apply sx_sI); exact hX; exact rfl; exact rfl; exact (by decide); omega; omega)
      | ((with_reducible apply sm_gI); exact hM)
      | ((with_reducible apply sm_gR); exact hM; exact rfl)
      | ((with_reducible apply sm_pI); exact hM)
      | ((with_reducible apply sm_rcv); exact hM)
      | ((with_reducible apply sm_aI); exact hM; exact rfl; exact rfl; exact (by decide); omega; omega)
      | ((with_reducible apply sm_sI); exact hM; exact rfl; exact rfl; exact (by decide); omega; omega)
      | ((with_reducible apply ok_rZ); (first | exact .inl rfl | exact .inr rfl))
      | ((with_reducible refine ok_within ?_ ?_ ?_ (fun hc => ?_) (fun hc => ?_)); omega; omega; omega)
      | ((with_reducible refine ok_month ?_ (fun hc => ?_) (fun hc => ?_)); omega)
      | ((with_reducible refine ok_tongue ?_ (fun hc => ?_) (fun hc => ?_)); omega)
      | ((with_reducible refine ok_money ?_ (fun hc => ?_) (fun hc => ?_)); omega)
      | ((with_reducible refine om_month ?_ (fun hc => ?_) (fun hc => ?_)); omega)
      | ((with_reducible refine om_tongue ?_ (fun hc => ?_) (fun hc => ?_)); omega)
      | ((with_reducible refine ok_isIn ?_ ?_ ?_ (fun hc => ?_) (fun hc => ?_)); omega; omega; omega)
      | ((with_reducible refine ok_wltp ?_ ?_ ?_ ?_); omega; omega; omega)
      | ((with_reducible refine ok_wltn ?_ ?_ ?_ ?_); omega; omega; omega)
      | ((with_reducible refine ok_wlt ?_ ?_ (fun hc => ?_) (fun hc => ?_)); omega; omega)
      | ((with_reducible refine ok_wlt0 ?_ (fun hc => ?_) (fun hc => ?_)); omega)
      | ((with_reducible refine ok_w0lt ?_ (fun hc => ?_) (fun hc => ?_)); omega)
      | ((with_reducible refine ok_weq ?_ ?_ (fun hc => ?_) (fun hc => ?_)); omega; omega)
      | ((with_reducible refine ok_weqc ?_ (fun hc => ?_) (fun hc => ?_)); omega)
      | (refine ok_rw ev ?_; try dsimp only)
      | (refine ok_rw ew ?_; try dsimp only)
    all_goals first | (exfalso; omega) | exact h
  · unfold f_X11_show f_X12_show
    repeat' first
      | with_reducible apply st_Lt
      | with_reducible apply st_Jn
      | ((with_reducible apply ok_some); try dsimp only)
      | with_reducible apply ok_z0
      | with_reducible apply ok_z1
      | ((with_reducible apply ok_gF_hit); exact hX; exact rfl; exact rfl)
      | ((with_reducible apply om_gF_hit); exact hM)
      | ((with_reducible apply ok_gF_j); decide)
      | ((with_reducible apply ok_gF_k); (first | decide | omega))
      | ((with_reducible apply ok_gU_k); (first | decide | omega))
      | ((with_reducible apply ok_aF_k); (first | decide | omega))
      | ((with_reducible apply ok_aU_k); (first | decide | omega))
      | (with_reducible apply ok_rF)
      | (with_reducible apply ok_rU)
      | (with_reducible apply ok_qF)
      | (with_reducible apply ok_qU)
      | ((with_reducible apply sx_gI); exact hX; exact rfl; exact rfl)
      | ((with_reducible apply sx_gR); exact hX; exact rfl; exact rfl; exact rfl)
      | ((with_reducible apply sx_pI); exact hX; exact rfl; exact rfl)
      | ((with_reducible apply sx_rcv); exact hX; exact rfl; exact rfl)
      | ((with_reducible apply sx_aI); exact hX; exact rfl; exact rfl; exact (by decide); omega; omega)
      | ((with_reducible apply sx_sI); exact hX; exact rfl; exact rfl; exact (by decide); omega; omega)
      | ((with_reducible apply sm_gI); exact hM)
      | ((with_reducible apply sm_gR); exact hM; exact rfl)
      | ((with_reducible apply sm_pI); exact hM)
      | ((with_reducible apply sm_rcv); exact hM)
      | ((with_reducible apply sm_aI); exact hM; exact rfl; exact rfl; exact (by decide); omega; omega)
      | ((with_reducible apply sm_sI); exact hM; exact rfl; exact rfl; exact (by decide); omega; omega)
      | ((with_reducible apply ok_rZ); (first | exact .inl rfl | exact .inr rfl))
      | ((with_reducible refine ok_within ?_ ?_ ?_ (fun hc => ?_) (fun hc => ?_)); omega; omega; omega)
      | ((with_reducible refine ok_month ?_ (fun hc => ?_) (fun hc => ?_)); omega)
      | ((with_reducible refine ok_tongue ?_ (fun hc => ?_) (fun hc => ?_)); omega)
      | ((with_reducible refine ok_money ?_ (fun hc => ?_) (fun hc => ?_)); omega)
      | ((with_reducible refine om_month ?_ (fun hc => ?_) (fun hc => ?_)); omega)
      | ((with_reducible refine om_tongue ?_ (fun hc => ?_) (fun hc => ?_)); omega)
      | ((with_reducible refine ok_isIn ?_ ?_ ?_ (fun hc => ?_) (fun hc => ?_)); omega; omega; omega)
      | ((with_reducible refine ok_wltp ?_ ?_ ?_ ?_); omega; omega; omega)
      | ((with_reducible refine ok_wltn ?_ ?_ ?_ ?_); omega; omega; omega)
      | ((with_reducible refine ok_wlt ?_ ?_ (fun hc => ?_) (fun hc => ?_)); omega; omega)
      | ((with_reducible refine ok_wlt0 ?_ (fun hc => ?_) (fun hc => ?_)); omega)
      | ((with_reducible refine ok_w0lt ?_ (fun hc => ?_) (fun hc => ?_)); omega)
      | ((with_reducible refine ok_weq ?_ ?_ (fun hc => ?_) (fun hc => ?_)); omega; omega)
      | ((with_reducible refine ok_weqc ?_ (fun hc => ?_) (fun hc => ?_)); omega)
    all_goals first | (exfalso; omega) | exact ⟨rfl, FX.refl, FM.refl, hF⟩
theorem op_untell (hX : WXr σx.1 σx.2.2) (hM : WMr σm.1 σm.2.2) (hF : IFacts σx σm) {a : Int} (ha : wr a = a) : Ok (f_X11_untell N σx 1 a) (fun v => Ok (f_X12_untell N σm 1 a) (fun w => wr v.2 = wr w.2 ∧ FX [71] σx v.1 ∧ FM [37] [] σm w.1 ∧ IFacts v.1 w.1)) := by
  have hr := wr_rg ha
  have hF' := hF
  obtain ⟨⟨f1, f2, f3⟩, ⟨f4, f5, f6⟩, f7⟩ := hF
  by_cases hv : 0 ≤ a ∧ a < fI σx 66 0
  · obtain ⟨g1, g2, ⟨g3, g4, g5⟩, g6⟩ := f7 a hv.1 hv.2
    unfold f_X11_untell f_X12_untell
    repeat' first
      | with_reducible apply st_Lt
      | with_reducible apply st_Jn
      | ((with_reducible apply ok_some); try dsimp only)
      | with_reducible apply ok_z0
      | with_reducible apply ok_z1
      | ((with_reducible apply ok_gF_hit); exact hX; exact rfl; exact rfl)
      | ((with_reducible apply om_gF_hit); exact hM)
      | ((with_reducible apply ok_gF_j); decide)
      | ((with_reducible apply ok_gF_k); (first | decide | omega))
      | ((with_reducible apply ok_gU_k); (first | decide | omega))
      | ((with_reducible apply ok_aF_k); (first | decide | omega))
      | ((with_reducible apply ok_aU_k); (first | decide | omega))
      | (with_reducible apply ok_rF)
      | (with_reducible apply ok_rU)
      | (with_reducible apply ok_qF)
      | (with_reducible apply ok_qU)
      | ((with_reducible apply sx_gI); exact hX; exact rfl; exact rfl)
      | ((with_reducible apply sx_gR); exact hX; exact rfl; exact rfl; exact rfl)
      | ((with_reducible apply sx_pI); exact hX; exact rfl; exact rfl)
      | ((with_reducible apply sx_rcv); exact hX; exact rfl; exact rfl)
      | ((with_reducible apply sx_aI); exact hX; exact rfl; exact rfl; exact (by decide); omega; omega)
      | ((with_reducible apply sx_sI); exact hX; exact rfl; exact rfl; exact (by decide); omega; omega)
      | ((with_reducible apply sm_gI); exact hM)
      | ((with_reducible apply sm_gR); exact hM; exact rfl)
      | ((with_reducible apply sm_pI); exact hM)
      | ((with_reducible apply sm_rcv); exact hM)
      | ((with_reducible apply sm_aI); exact hM; exact rfl; exact rfl; exact (by decide); omega; omega)
      | ((with_reducible apply sm_sI); exact hM; exact rfl; exact rfl; exact (by decide); omega; omega)
      | ((with_reducible apply ok_rZ); (first | exact .inl rfl | exact .inr rfl))
      | ((with_reducible refine ok_within ?_ ?_ ?_ (fun hc => ?_) (fun hc => ?_)); omega; omega; omega)
      | ((with_reducible refine ok_month ?_ (fun hc => ?_) (fun hc => ?_)); omega)
      | ((with_reducible refine ok_tongue ?_ (fun hc => ?_) (fun hc => ?_)); omega)
      | ((with_reducible refine ok_money ?_ (fun hc => ?_) (fun hc => ?_)); omega)
      | ((with_reducible refine ok_isIn ?_ ?_ ?_ (fun hc => ?_) (fun hc => ?_)); omega; omega; omega)
      | ((with_reducible refine ok_wltp ?_ ?_ ?_ ?_); omega; omega; omega)
      | ((with_reducible refine ok_wltn ?_ ?_ ?_ ?_); omega; omega; omega)
      | ((with_reducible refine ok_wlt ?_ ?_ (fun hc => ?_) (fun hc => ?_)); omega; omega)
      | ((with_reducible refine ok_wlt0 ?_ (fun hc => ?_) (fun hc => ?_)); omega)
      | ((with_reducible refine ok_w0lt ?_ (fun hc => ?_) (fun hc => ?_)); omega)
      | ((with_reducible refine ok_weq ?_ ?_ (fun hc => ?_) (fun hc => ?_)); omega; omega)
      | ((with_reducible refine ok_weqc ?_ (fun hc => ?_) (fun hc => ?_)); omega)
      | ((with_reducible apply ok_bind); unfold f_X1_takeBack)
    all_goals first | (exfalso; omega) | exact ⟨rfl, FX.refl, FM.refl, hF'⟩ | skip
    refine ⟨rfl, FX.refl.uI (by decide), FM.refl.uI (by decide) (by decide), ?_⟩
    unfold IFacts
    simp only [fI_eq, fI_k, fI_j, fI_uk, uF_k, uI_k, uW_at, uA_k, ne_eq, Nat.reduceEqDiff, not_false_eq_true, reduceCtorEq] 
    refine ⟨⟨f1, f2, f3⟩, ⟨f4, f5, f6⟩, fun f h0 h1 => ?_⟩
    obtain ⟨k1, k2, k3, k4⟩ := f7 f h0 h1
    by_cases hf : f = a
    · subst hf
      simp only [if_true]
      exact ⟨k1, k2, ⟨f4, by omega, by omega⟩, k4⟩
    · simp only [hf, if_false]
      exact ⟨k1, k2, k3, k4⟩
  · unfold f_X11_untell f_X12_untell
    repeat' first
      | with_reducible apply st_Lt
      | with_reducible apply st_Jn
      | ((with_reducible apply ok_some); try dsimp only)
      | with_reducible apply ok_z0
      | with_reducible apply ok_z1
      | ((with_reducible apply ok_gF_hit); exact hX; exact rfl; exact rfl)
      | ((with_reducible apply om_gF_hit); exact hM)
      | ((with_reducible apply ok_gF_j); decide)
      | ((with_reducible apply ok_gF_k); (first | decide | omega))
      | ((with_reducible apply ok_gU_k); (first | decide | omega))
      | ((with_reducible apply ok_aF_k); (first | decide | omega))
      | ((with_reducible apply ok_aU_k); (first | decide | omega))
      | (with_reducible apply ok_rF)
      | (with_reducible apply ok_rU)
      | (with_reducible apply ok_qF)
      | (with_reducible apply ok_qU)
      | ((with_reducible apply sx_gI); exact hX; exact rfl; exact rfl)
      | ((with_reducible apply sx_gR); exact hX; exact rfl; exact rfl; exact rfl)
      | ((with_reducible apply sx_pI); exact hX; exact rfl; exact rfl)
      | ((with_reducible apply sx_rcv); exact hX; exact rfl; exact rfl)
      | ((with_reducible apply sx_aI); exact hX; exact rfl; exact rfl; exact (by decide); omega; omega)
      | ((with_reducible apply sx_sI); exact hX; exact rfl; exact rfl; exact (by decide); omega; omega)
      | ((with_reducible apply sm_gI); exact hM)
      | ((with_reducible apply sm_gR); exact hM; exact rfl)
      | ((with_reducible apply sm_pI); exact hM)
      | ((with_reducible apply sm_rcv); exact hM)
      | ((with_reducible apply sm_aI); exact hM; exact rfl; exact rfl; exact (by decide); omega; omega)
      | ((with_reducible apply sm_sI); exact hM; exact rfl; exact rfl; exact (by decide); omega; omega)
      | ((with_reducible apply ok_rZ); (first | exact .inl rfl | exact .inr rfl))
      | ((with_reducible refine ok_within ?_ ?_ ?_ (fun hc => ?_) (fun hc => ?_)); omega; omega; omega)
      | ((with_reducible refine ok_month ?_ (fun hc => ?_) (fun hc => ?_)); omega)
      | ((with_reducible refine ok_tongue ?_ (fun hc => ?_) (fun hc => ?_)); omega)
      | ((with_reducible refine ok_money ?_ (fun hc => ?_) (fun hc => ?_)); omega)
      | ((with_reducible refine ok_isIn ?_ ?_ ?_ (fun hc => ?_) (fun hc => ?_)); omega; omega; omega)
      | ((with_reducible refine ok_wltp ?_ ?_ ?_ ?_); omega; omega; omega)
      | ((with_reducible refine ok_wltn ?_ ?_ ?_ ?_); omega; omega; omega)
      | ((with_reducible refine ok_wlt ?_ ?_ (fun hc => ?_) (fun hc => ?_)); omega; omega)
      | ((with_reducible refine ok_wlt0 ?_ (fun hc => ?_) (fun hc => ?_)); omega)
      | ((with_reducible refine ok_w0lt ?_ (fun hc => ?_) (fun hc => ?_)); omega)
      | ((with_reducible refine ok_weq ?_ ?_ (fun hc => ?_) (fun hc => ?_)); omega; omega)
      | ((with_reducible refine ok_weqc ?_ (fun hc => ?_) (fun hc => ?_)); omega)
      | ((with_reducible apply ok_bind); unfold f_X1_takeBack)
    all_goals first | (exfalso; omega) | exact ⟨rfl, FX.refl, FM.refl, hF'⟩
theorem op_bounds (hX : WXr σx.1 σx.2.2) (hM : WMr σm.1 σm.2.2) (hF : IFly σx σm) {a b : Int} (ha : wr a = a) (hb : wr b = b) : Ok (f_X11_bounds N σx 1 a b) (fun v => Ok (f_X12_bounds N σm 1 a b) (fun w => wr v.2 = wr w.2 ∧ FX [73, 74, 75] σx v.1 ∧ FM [39, 40] [73] σm w.1 ∧ IFly v.1 w.1 ∧ (v.1 = σx ∨ fI v.1 73 2 = -1))) := by
  have hr := wr_rg ha
  have hs := wr_rg hb
  have hF' := hF
  obtain ⟨⟨f1, f2, f3⟩, ⟨f4, f5, f6⟩, f7⟩ := hF
  unfold f_X11_bounds f_X12_bounds
  repeat' first
    | with_reducible apply st_Lt
    | with_reducible apply st_Jn
    | ((with_reducible apply ok_some); try dsimp only)
    | with_reducible apply ok_z0
    | with_reducible apply ok_z1
    | ((with_reducible apply ok_gF_hit); exact hX; exact rfl; exact rfl)
    | ((with_reducible apply om_gF_hit); exact hM)
    | ((with_reducible apply ok_gF_j); decide)
    | ((with_reducible apply ok_gF_k); (first | decide | omega))
    | ((with_reducible apply ok_gU_k); (first | decide | omega))
    | ((with_reducible apply ok_aF_k); (first | decide | omega))
    | ((with_reducible apply ok_aU_k); (first | decide | omega))
    | (with_reducible apply ok_rF)
    | (with_reducible apply ok_rU)
    | (with_reducible apply ok_qF)
    | (with_reducible apply ok_qU)
    | ((with_reducible apply sx_gI); exact hX; exact rfl; exact rfl)
    | ((with_reducible apply sx_gR); exact hX; exact rfl; exact rfl; exact rfl)
    | ((with_reducible apply sx_pI); exact hX; exact rfl; exact rfl)
    | ((with_reducible apply sx_rcv); exact hX; exact rfl; exact rfl)
    | ((with_reducible apply sx_aI); exact hX; exact rfl; exact rfl; exact (by decide); omega; omega)
    | ((with_reducible apply sx_sI); exact hX; exact rfl; exact rfl; exact (by decide); omega; omega)
    | ((with_reducible apply sm_gI); exact hM)
    | ((with_reducible apply sm_gR); exact hM; exact rfl)
    | ((with_reducible apply sm_pI); exact hM)
    | ((with_reducible apply sm_rcv); exact hM)
    | ((with_reducible apply sm_aI); exact hM; exact rfl; exact rfl; exact (by decide); omega; omega)
    | ((with_reducible apply sm_sI); exact hM; exact rfl; exact rfl; exact (by decide); omega; omega)
    | ((with_reducible apply ok_rZ); (first | exact .inl rfl | exact .inr rfl))
    | ((with_reducible refine ok_within ?_ ?_ ?_ (fun hc => ?_) (fun hc => ?_)); omega; omega; omega)
    | ((with_reducible refine ok_month ?_ (fun hc => ?_) (fun hc => ?_)); omega)
    | ((with_reducible refine ok_tongue ?_ (fun hc => ?_) (fun hc => ?_)); omega)
    | ((with_reducible refine ok_money ?_ (fun hc => ?_) (fun hc => ?_)); omega)
    | ((with_reducible refine ok_isIn ?_ ?_ ?_ (fun hc => ?_) (fun hc => ?_)); omega; omega; omega)
    | ((with_reducible refine ok_wltp ?_ ?_ ?_ ?_); omega; omega; omega)
    | ((with_reducible refine ok_wltn ?_ ?_ ?_ ?_); omega; omega; omega)
    | ((with_reducible refine ok_wlt ?_ ?_ (fun hc => ?_) (fun hc => ?_)); omega; omega)
    | ((with_reducible refine ok_wlt0 ?_ (fun hc => ?_) (fun hc => ?_)); omega)
    | ((with_reducible refine ok_w0lt ?_ (fun hc => ?_) (fun hc => ?_)); omega)
    | ((with_reducible refine ok_weq ?_ ?_ (fun hc => ?_) (fun hc => ?_)); omega; omega)
    | ((with_reducible refine ok_weqc ?_ (fun hc => ?_) (fun hc => ?_)); omega)
    | ((with_reducible apply ok_bind); unfold f_X2_addStep)
  all_goals first | (exfalso; omega) | exact ⟨rfl, FX.refl, FM.refl, hF', .inl rfl⟩ | skip
  refine ⟨by rw [f1], ((((FX.refl.uI (by decide)).uI (by decide)).uF (by decide)).uF (by decide)), (((FM.refl.uI (by decide) (by decide)).uI (by decide) (by decide)).uF (by decide)), ?_, .inr fI_eq⟩
  unfold IFly
  simp only [fI_eq, fI_k, fI_j, fI_uk, uF_k, uI_k, uW_at, uA_k, ne_eq, Nat.reduceEqDiff, not_false_eq_true, reduceCtorEq] 
  refine ⟨⟨by omega, by omega, by omega⟩, ⟨f4, f5, f6⟩, fun s g0 g1 => ?_⟩
  rw [f1]
  by_cases hf : s = fI σx 73 0
  · simp only [hf, if_true]
    exact ⟨trivial, by omega, by omega, trivial, by omega, by omega⟩
  · simp only [hf, if_false]
    exact f7 s g0 (by omega)
theorem op_land (hX : WXr σx.1 σx.2.2) (hM : WMr σm.1 σm.2.2) (hF : IFly σx σm) : Ok (f_X11_land N σx 1) (fun v => Ok (f_X12_land N σm 1) (fun w => wr v.2 = wr w.2 ∧ FX [73] σx v.1 ∧ FM [] [73] σm w.1 ∧ IFly v.1 w.1 ∧ fI v.1 73 2 = -1)) := by
  obtain ⟨⟨f1, f2, f3⟩, ⟨f4, f5, f6⟩, f7⟩ := hF
  unfold f_X11_land f_X12_land
  repeat' first
    | with_reducible apply st_Lt
    | with_reducible apply st_Jn
    | ((with_reducible apply ok_some); try dsimp only)
    | with_reducible apply ok_z0
    | with_reducible apply ok_z1
    | ((with_reducible apply ok_gF_hit); exact hX; exact rfl; exact rfl)
    | ((with_reducible apply om_gF_hit); exact hM)
    | ((with_reducible apply ok_gF_j); decide)
    | ((with_reducible apply ok_gF_k); (first | decide | omega))
    | ((with_reducible apply ok_gU_k); (first | decide | omega))
    | ((with_reducible apply ok_aF_k); (first | decide | omega))
    | ((with_reducible apply ok_aU_k); (first | decide | omega))
    | (with_reducible apply ok_rF)
    | (with_reducible apply ok_rU)
    | (with_reducible apply ok_qF)
    | (with_reducible apply ok_qU)
    | ((with_reducible apply sx_gI); exact hX; exact rfl; exact rfl)
    | ((with_reducible apply sx_gR); exact hX; exact rfl; exact rfl; exact rfl)
    | ((with_reducible apply sx_pI); exact hX; exact rfl; exact rfl)
    | ((with_reducible apply sx_rcv); exact hX; exact rfl; exact rfl)
    | ((with_reducible apply sx_aI); exact hX; exact rfl; exact rfl; exact (by decide); omega; omega)
    | ((with_reducible apply sx_sI); exact hX; exact rfl; exact rfl; exact (by decide); omega; omega)
    | ((with_reducible apply sm_gI); exact hM)
    | ((with_reducible apply sm_gR); exact hM; exact rfl)
    | ((with_reducible apply sm_pI); exact hM)
    | ((with_reducible apply sm_rcv); exact hM)
    | ((with_reducible apply sm_aI); exact hM; exact rfl; exact rfl; exact (by decide); omega; omega)
    | ((with_reducible apply sm_sI); exact hM; exact rfl; exact rfl; exact (by decide); omega; omega)
    | ((with_reducible apply ok_rZ); (first | exact .inl rfl | exact .inr rfl))
    | ((with_reducible refine ok_within ?_ ?_ ?_ (fun hc => ?_) (fun hc => ?_)); omega; omega; omega)
    | ((with_reducible refine ok_month ?_ (fun hc => ?_) (fun hc => ?_)); omega)
    | ((with_reducible refine ok_tongue ?_ (fun hc => ?_) (fun hc => ?_)); omega)
    | ((with_reducible refine ok_money ?_ (fun hc => ?_) (fun hc => ?_)); omega)
    | ((with_reducible refine ok_isIn ?_ ?_ ?_ (fun hc => ?_) (fun hc => ?_)); omega; omega; omega)
    | ((with_reducible refine ok_wltp ?_ ?_ ?_ ?_); omega; omega; omega)
    | ((with_reducible refine ok_wltn ?_ ?_ ?_ ?_); omega; omega; omega)
    | ((with_reducible refine ok_wlt ?_ ?_ (fun hc => ?_) (fun hc => ?_)); omega; omega)
    | ((with_reducible refine ok_wlt0 ?_ (fun hc => ?_) (fun hc => ?_)); omega)
    | ((with_reducible refine ok_w0lt ?_ (fun hc => ?_) (fun hc => ?_)); omega)
    | ((with_reducible refine ok_weq ?_ ?_ (fun hc => ?_) (fun hc => ?_)); omega; omega)
    | ((with_reducible refine ok_weqc ?_ (fun hc => ?_) (fun hc => ?_)); omega)
    | ((with_reducible apply ok_bind); unfold f_X2_dropSteps)
  refine ⟨by rw [f1], (FX.refl.uF (by decide)).uF (by decide), FM.refl.uF (by decide), ?_, fI_eq⟩
  unfold IFly
  simp only [fI_eq, fI_k, fI_j, fI_uk, uF_k, uI_k, uW_at, uA_k, ne_eq, Nat.reduceEqDiff, not_false_eq_true, reduceCtorEq] 
  exact ⟨⟨trivial, by omega, by omega⟩, ⟨f4, f5, f6⟩, fun s g0 g1 => by omega⟩
theorem op_pump (hX : WXr σx.1 σx.2.2) (hM : WMr σm.1 σm.2.2) (hF : IFly σx σm) {a : Int} (ha : wr a = a) : Ok (f_X11_pump N σx 1 a) (fun v => Ok (f_X12_pump N σm 1 a) (fun w => wr v.2 = wr w.2 ∧ FX [73] σx v.1 ∧ FM [] [74] σm w.1 ∧ IFly v.1 w.1 ∧ (v.1 = σx ∨ fI v.1 73 2 = -1))) := by
  have hr := wr_rg ha
  have hF' := hF
  obtain ⟨⟨f1, f2, f3⟩, ⟨f4, f5, f6⟩, f7⟩ := hF
  unfold f_X11_pump f_X12_pump
  repeat' first
    | with_reducible apply st_Lt
    | with_reducible apply st_Jn
    | ((with_reducible apply ok_some); try dsimp only)
    | with_reducible apply ok_z0
    | with_reducible apply ok_z1
    | ((with_reducible apply ok_gF_hit); exact hX; exact rfl; exact rfl)
    | ((with_reducible apply om_gF_hit); exact hM)
    | ((with_reducible apply ok_gF_j); decide)
    | ((with_reducible apply ok_gF_k); (first | decide | omega))
    | ((with_reducible apply ok_gU_k); (first | decide | omega))
    | ((with_reducible apply ok_aF_k); (first | decide | omega))
    | ((with_reducible apply ok_aU_k); (first | decide | omega))
    | (with_reducible apply ok_rF)
    | (with_reducible apply ok_rU)
    | (with_reducible apply ok_qF)
    | (with_reducible apply ok_qU)
    | ((with_reducible apply sx_gI); exact hX; exact rfl; exact rfl)
    | ((with_reducible apply sx_gR); exact hX; exact rfl; exact rfl; exact rfl)
    | ((with_reducible apply sx_pI); exact hX; exact rfl; exact rfl)
    | ((with_reducible apply sx_rcv); exact hX; exact rfl; exact rfl)
    | ((with_reducible apply sx_aI); exact hX; exact rfl; exact rfl; exact (by decide); omega; omega)
    | ((with_reducible apply sx_sI); exact hX; exact rfl; exact rfl; exact (by decide); omega; omega)
    | ((with_reducible apply sm_gI); exact hM)
    | ((with_reducible apply sm_gR); exact hM; exact rfl)
    | ((with_reducible apply sm_pI); exact hM)
    | ((with_reducible apply sm_rcv); exact hM)
    | ((with_reducible apply sm_aI); exact hM; exact rfl; exact rfl; exact (by decide); omega; omega)
    | ((with_reducible apply sm_sI); exact hM; exact rfl; exact rfl; exact (by decide); omega; omega)
    | ((with_reducible apply ok_rZ); (first | exact .inl rfl | exact .inr rfl))
    | ((with_reducible refine ok_within ?_ ?_ ?_ (fun hc => ?_) (fun hc => ?_)); omega; omega; omega)
    | ((with_reducible refine ok_month ?_ (fun hc => ?_) (fun hc => ?_)); omega)
    | ((with_reducible refine ok_tongue ?_ (fun hc => ?_) (fun hc => ?_)); omega)
    | ((with_reducible refine ok_money ?_ (fun hc => ?_) (fun hc => ?_)); omega)
    | ((with_reducible refine ok_isIn ?_ ?_ ?_ (fun hc => ?_) (fun hc => ?_)); omega; omega; omega)
    | ((with_reducible refine ok_wltp ?_ ?_ ?_ ?_); omega; omega; omega)
    | ((with_reducible refine ok_wltn ?_ ?_ ?_ ?_); omega; omega; omega)
    | ((with_reducible refine ok_wlt ?_ ?_ (fun hc => ?_) (fun hc => ?_)); omega; omega)
    | ((with_reducible refine ok_wlt0 ?_ (fun hc => ?_) (fun hc => ?_)); omega)
    | ((with_reducible refine ok_w0lt ?_ (fun hc => ?_) (fun hc => ?_)); omega)
    | ((with_reducible refine ok_weq ?_ ?_ (fun hc => ?_) (fun hc => ?_)); omega; omega)
    | ((with_reducible refine ok_weqc ?_ (fun hc => ?_) (fun hc => ?_)); omega)
    | ((with_reducible apply ok_bind); unfold f_X2_setPump)
  all_goals first | (exfalso; omega) | exact ⟨rfl, FX.refl, FM.refl, hF', .inl rfl⟩ | skip
  refine ⟨rfl, (FX.refl.uF (by decide)).uF (by decide), FM.refl.uF (by decide), ?_, .inr fI_eq⟩
  unfold IFly
  simp only [fI_eq, fI_k, fI_j, fI_uk, uF_k, uI_k, uW_at, uA_k, ne_eq, Nat.reduceEqDiff, not_false_eq_true, reduceCtorEq] 
  exact ⟨⟨f1, f2, f3⟩, ⟨trivial, by omega, by omega⟩, f7⟩
theorem op_airline (hX : WXr σx.1 σx.2.2) (hM : WMr σm.1 σm.2.2) (hF : IAir σx σm) {a b : Int} (ha : wr a = a) (hb : wr b = b) : Ok (f_X11_airline N σx 1 a b) (fun v => Ok (f_X12_airline N σm 1 a b) (fun w => wr v.2 = wr w.2 ∧ FX [100, 101, 102] σx v.1 ∧ FM [44, 45] [81] σm w.1 ∧ IAir v.1 w.1)) := by
  have hr := wr_rg ha
  have hs := wr_rg hb
  have hF' := hF
  obtain ⟨f1, f2, f3, f7⟩ := hF
  unfold f_X11_airline f_X12_airline
  repeat' first
    | with_reducible apply st_Lt
    | with_reducible apply st_Jn
    | ((with_reducible apply ok_some); try dsimp only)
    | with_reducible apply ok_z0
    | with_reducible apply ok_z1
    | ((with_reducible apply ok_gF_hit); exact hX; exact rfl; exact rfl)
    | ((with_reducible apply om_gF_hit); exact hM)
    | ((with_reducible apply ok_gF_j); decide)
    | ((with_reducible apply ok_gF_k); (first | decide | omega))
    | ((with_reducible apply ok_gU_k); (first | decide | omega))
    | ((with_reducible apply ok_aF_k); (first | decide | omega))
    | ((with_reducible apply ok_aU_k); (first | decide | omega))
    | (with_reducible apply ok_rF)
    | (with_reducible apply ok_rU)
    | (with_reducible apply ok_qF)
    | (with_reducible apply ok_qU)
    | ((with_reducible apply sx_gI); exact hX; exact rfl; exact rfl)
    | ((with_reducible apply sx_gR); exact hX; exact rfl; exact rfl; exact rfl)
    | ((with_reducible apply sx_pI); exact hX; exact rfl; exact rfl)
    | ((with_reducible apply sx_rcv); exact hX; exact rfl; exact rfl)
    | ((with_reducible apply sx_aI); exact hX; exact rfl; exact rfl; exact (by decide); omega; omega)
    | ((with_reducible apply sx_sI); exact hX; exact rfl; exact rfl; exact (by decide); omega; omega)
    | ((with_reducible apply sm_gI); exact hM)
    | ((with_reducible apply sm_gR); exact hM; exact rfl)
    | ((with_reducible apply sm_pI); exact hM)
    | ((with_reducible apply sm_rcv); exact hM)
    | ((with_reducible apply sm_aI); exact hM; exact rfl; exact rfl; exact (by decide); omega; omega)
    | ((with_reducible apply sm_sI); exact hM; exact rfl; exact rfl; exact (by decide); omega; omega)
    | ((with_reducible apply ok_rZ); (first | exact .inl rfl | exact .inr rfl))
    | ((with_reducible refine ok_within ?_ ?_ ?_ (fun hc => ?_) (fun hc => ?_)); omega; omega; omega)
    | ((with_reducible refine ok_month ?_ (fun hc => ?_) (fun hc => ?_)); omega)
    | ((with_reducible refine ok_tongue ?_ (fun hc => ?_) (fun hc => ?_)); omega)
    | ((with_reducible refine ok_money ?_ (fun hc => ?_) (fun hc => ?_)); omega)
    | ((with_reducible refine om_month ?_ (fun hc => ?_) (fun hc => ?_)); omega)
    | ((with_reducible refine om_tongue ?_ (fun hc => ?_) (fun hc => ?_)); omega)
    | ((with_reducible refine ok_isIn ?_ ?_ ?_ (fun hc => ?_) (fun hc => ?_)); omega; omega; omega)
    | ((with_reducible refine ok_wltp ?_ ?_ ?_ ?_); omega; omega; omega)
    | ((with_reducible refine ok_wltn ?_ ?_ ?_ ?_); omega; omega; omega)
    | ((with_reducible refine ok_wlt ?_ ?_ (fun hc => ?_) (fun hc => ?_)); omega; omega)
    | ((with_reducible refine ok_wlt0 ?_ (fun hc => ?_) (fun hc => ?_)); omega)
    | ((with_reducible refine ok_w0lt ?_ (fun hc => ?_) (fun hc => ?_)); omega)
    | ((with_reducible refine ok_weq ?_ ?_ (fun hc => ?_) (fun hc => ?_)); omega; omega)
    | ((with_reducible refine ok_weqc ?_ (fun hc => ?_) (fun hc => ?_)); omega)
    | ((with_reducible apply ok_bind); unfold f_X0_add)
  all_goals first | (exfalso; omega) | exact ⟨rfl, FX.refl, FM.refl, hF'⟩ | skip
  refine ⟨by rw [f1], (((FX.refl.uI (by decide)).uI (by decide)).uF (by decide)), (((FM.refl.uI (by decide) (by decide)).uI (by decide) (by decide)).uF (by decide)), ?_⟩
  unfold IAir
  simp only [fI_eq, fI_k, fI_j, fI_uk, uF_k, uI_k, uW_at, uA_k, ne_eq, Nat.reduceEqDiff, not_false_eq_true, reduceCtorEq] 
  refine ⟨by omega, by omega, by omega, fun s g0 g1 => ?_⟩
  rw [f1]
  by_cases hf : s = fI σx 100 0
  · simp only [hf, if_true]
    exact ⟨trivial, by omega, by omega, trivial, by omega, by omega⟩
  · simp only [hf, if_false]
    exact f7 s g0 (by omega)
theorem op_stage (hX : WXr σx.1 σx.2.2) (hM : WMr σm.1 σm.2.2) (hF : IStg σx σm) {a b : Int} (ha : wr a = a) (hb : wr b = b) : Ok (f_X11_stage N σx 1 a b) (fun v => Ok (f_X12_stage N σm 1 a b) (fun w => wr v.2 = wr w.2 ∧ FX [108, 109, 110] σx v.1 ∧ FM [49, 50] [91] σm w.1 ∧ IStg v.1 w.1 ∧ (v.1 = σx ∨ fI v.1 108 3 = 0))) := by
  have hr := wr_rg ha
  have hs := wr_rg hb
  have hF' := hF
  obtain ⟨⟨f1, f2, f3⟩, f4, f5, f7⟩ := hF
  unfold f_X11_stage f_X12_stage
  repeat' first
    | with_reducible apply st_Lt
    | with_reducible apply st_Jn
    | ((with_reducible apply ok_some); try dsimp only)
    | with_reducible apply ok_z0
    | with_reducible apply ok_z1
    | ((with_reducible apply ok_gF_hit); exact hX; exact rfl; exact rfl)
    | ((with_reducible apply om_gF_hit); exact hM)
    | ((with_reducible apply ok_gF_j); decide)
    | ((with_reducible apply ok_gF_k); (first | decide | omega))
    | ((with_reducible apply ok_gU_k); (first | decide | omega))
    | ((with_reducible apply ok_aF_k); (first | decide | omega))
    | ((with_reducible apply ok_aU_k); (first | decide | omega))
    | (with_reducible apply ok_rF)
    | (with_reducible apply ok_rU)
    | (with_reducible apply ok_qF)
    | (with_reducible apply ok_qU)
    | ((with_reducible apply sx_gI); exact hX; exact rfl; exact rfl)
    | ((with_reducible apply sx_gR); exact hX; exact rfl; exact rfl; exact rfl)
    | ((with_reducible apply sx_pI); exact hX; exact rfl; exact rfl)
    | ((with_reducible apply sx_rcv); exact hX; exact rfl; exact rfl)
    | ((with_reducible apply sx_aI); exact hX; exact rfl; exact rfl; exact (by decide); omega; omega)
    | ((with_reducible apply sx_sI); exact hX; exact rfl; exact rfl; exact (by decide); omega; omega)
    | ((with_reducible apply sm_gI); exact hM)
    | ((with_reducible apply sm_gR); exact hM; exact rfl)
    | ((with_reducible apply sm_pI); exact hM)
    | ((with_reducible apply sm_rcv); exact hM)
    | ((with_reducible apply sm_aI); exact hM; exact rfl; exact rfl; exact (by decide); omega; omega)
    | ((with_reducible apply sm_sI); exact hM; exact rfl; exact rfl; exact (by decide); omega; omega)
    | ((with_reducible apply ok_rZ); (first | exact .inl rfl | exact .inr rfl))
    | ((with_reducible refine ok_within ?_ ?_ ?_ (fun hc => ?_) (fun hc => ?_)); omega; omega; omega)
    | ((with_reducible refine ok_month ?_ (fun hc => ?_) (fun hc => ?_)); omega)
    | ((with_reducible refine ok_tongue ?_ (fun hc => ?_) (fun hc => ?_)); omega)
    | ((with_reducible refine ok_money ?_ (fun hc => ?_) (fun hc => ?_)); omega)
    | ((with_reducible refine om_month ?_ (fun hc => ?_) (fun hc => ?_)); omega)
    | ((with_reducible refine om_tongue ?_ (fun hc => ?_) (fun hc => ?_)); omega)
    | ((with_reducible refine ok_isIn ?_ ?_ ?_ (fun hc => ?_) (fun hc => ?_)); omega; omega; omega)
    | ((with_reducible refine ok_wltp ?_ ?_ ?_ ?_); omega; omega; omega)
    | ((with_reducible refine ok_wltn ?_ ?_ ?_ ?_); omega; omega; omega)
    | ((with_reducible refine ok_wlt ?_ ?_ (fun hc => ?_) (fun hc => ?_)); omega; omega)
    | ((with_reducible refine ok_wlt0 ?_ (fun hc => ?_) (fun hc => ?_)); omega)
    | ((with_reducible refine ok_w0lt ?_ (fun hc => ?_) (fun hc => ?_)); omega)
    | ((with_reducible refine ok_weq ?_ ?_ (fun hc => ?_) (fun hc => ?_)); omega; omega)
    | ((with_reducible refine ok_weqc ?_ (fun hc => ?_) (fun hc => ?_)); omega)
    | ((with_reducible apply ok_bind); unfold f_X5_add)
  all_goals first | (exfalso; omega) | exact ⟨rfl, FX.refl, FM.refl, hF', .inl rfl⟩ | skip
  refine ⟨by rw [f1], ((((FX.refl.uI (by decide)).uI (by decide)).uF (by decide)).uF (by decide)), (((FM.refl.uI (by decide) (by decide)).uI (by decide) (by decide)).uF (by decide)), ?_, .inr fI_eq⟩
  unfold IStg
  simp only [fI_eq, fI_k, fI_j, fI_uk, uF_k, uI_k, uW_at, uA_k, ne_eq, Nat.reduceEqDiff, not_false_eq_true, reduceCtorEq] 
  refine ⟨⟨by omega, by omega, by omega⟩, f4, f5, fun s g0 g1 => ?_⟩
  rw [f1]
  by_cases hf : s = fI σx 108 0
  · simp only [hf, if_true]
    exact ⟨trivial, by omega, by omega, trivial, by omega, by omega⟩
  · simp only [hf, if_false]
    exact f7 s g0 (by omega)
theorem op_grant (hX : WXr σx.1 σx.2.2) (hM : WMr σm.1 σm.2.2) (hF : IStg σx σm) {a b : Int} (ha : wr a = a) (hb : wr b = b) : Ok (f_X11_grant N σx 1 a b) (fun v => Ok (f_X12_grant N σm 1 a b) (fun w => wr v.2 = wr w.2 ∧ FX [108] σx v.1 ∧ FM [] [92, 93] σm w.1 ∧ IStg v.1 w.1 ∧ (v.1 = σx ∨ fI v.1 108 3 = 0))) := by
  have hr := wr_rg ha
  have hs := wr_rg hb
  have hF' := hF
  obtain ⟨f1, f4, f5, f7⟩ := hF
  unfold f_X11_grant f_X12_grant
  repeat' first
    | with_reducible apply st_Lt
    | with_reducible apply st_Jn
    | ((with_reducible apply ok_some); try dsimp only)
    | with_reducible apply ok_z0
    | with_reducible apply ok_z1
    | ((with_reducible apply ok_gF_hit); exact hX; exact rfl; exact rfl)
    | ((with_reducible apply om_gF_hit); exact hM)
    | ((with_reducible apply ok_gF_j); decide)
    | ((with_reducible apply ok_gF_k); (first | decide | omega))
    | ((with_reducible apply ok_gU_k); (first | decide | omega))
    | ((with_reducible apply ok_aF_k); (first | decide | omega))
    | ((with_reducible apply ok_aU_k); (first | decide | omega))
    | (with_reducible apply ok_rF)
    | (with_reducible apply ok_rU)
    | (with_reducible apply ok_qF)
    | (with_reducible apply ok_qU)
    | ((with_reducible apply sx_gI); exact hX; exact rfl; exact rfl)
    | ((with_reducible apply sx_gR); exact hX; exact rfl; exact rfl; exact rfl)
    | ((with_reducible apply sx_pI); exact hX; exact rfl; exact rfl)
    | ((with_reducible apply sx_rcv); exact hX; exact rfl; exact rfl)
    | ((with_reducible apply sx_aI); exact hX; exact rfl; exact rfl; exact (by decide); omega; omega)
    | ((with_reducible apply sx_sI); exact hX; exact rfl; exact rfl; exact (by decide); omega; omega)
    | ((with_reducible apply sm_gI); exact hM)
    | ((with_reducible apply sm_gR); exact hM; exact rfl)
    | ((with_reducible apply sm_pI); exact hM)
    | ((with_reducible apply sm_rcv); exact hM)
    | ((with_reducible apply sm_aI); exact hM; exact rfl; exact rfl; exact (by decide); omega; omega)
    | ((with_reducible apply sm_sI); exact hM; exact rfl; exact rfl; exact (by decide); omega; omega)
    | ((with_reducible apply ok_rZ); (first | exact .inl rfl | exact .inr rfl))
    | ((with_reducible refine ok_within ?_ ?_ ?_ (fun hc => ?_) (fun hc => ?_)); omega; omega; omega)
    | ((with_reducible refine ok_month ?_ (fun hc => ?_) (fun hc => ?_)); omega)
    | ((with_reducible refine ok_tongue ?_ (fun hc => ?_) (fun hc => ?_)); omega)
    | ((with_reducible refine ok_money ?_ (fun hc => ?_) (fun hc => ?_)); omega)
    | ((with_reducible refine om_month ?_ (fun hc => ?_) (fun hc => ?_)); omega)
    | ((with_reducible refine om_tongue ?_ (fun hc => ?_) (fun hc => ?_)); omega)
    | ((with_reducible refine ok_isIn ?_ ?_ ?_ (fun hc => ?_) (fun hc => ?_)); omega; omega; omega)
    | ((with_reducible refine ok_wltp ?_ ?_ ?_ ?_); omega; omega; omega)
    | ((with_reducible refine ok_wltn ?_ ?_ ?_ ?_); omega; omega; omega)
    | ((with_reducible refine ok_wlt ?_ ?_ (fun hc => ?_) (fun hc => ?_)); omega; omega)
    | ((with_reducible refine ok_wlt0 ?_ (fun hc => ?_) (fun hc => ?_)); omega)
    | ((with_reducible refine ok_w0lt ?_ (fun hc => ?_) (fun hc => ?_)); omega)
    | ((with_reducible refine ok_weq ?_ ?_ (fun hc => ?_) (fun hc => ?_)); omega; omega)
    | ((with_reducible refine ok_weqc ?_ (fun hc => ?_) (fun hc => ?_)); omega)
    | ((with_reducible apply ok_bind); unfold f_X5_setGrant)
  all_goals first | (exfalso; omega) | exact ⟨rfl, FX.refl, FM.refl, hF', .inl rfl⟩ | skip
  refine ⟨rfl, (((FX.refl.uF (by decide)).uF (by decide)).uF (by decide)), (FM.refl.uF (by decide)).uF (by decide), ?_, .inr fI_eq⟩
  unfold IStg
  simp only [fI_eq, fI_k, fI_j, fI_uk, uF_k, uI_k, uW_at, uA_k, ne_eq, Nat.reduceEqDiff, not_false_eq_true, reduceCtorEq] 
  exact ⟨f1, ⟨trivial, by omega, by omega⟩, ⟨trivial, by omega, by omega⟩, f7⟩
theorem op_about (hX : WXr σx.1 σx.2.2) (hM : WMr σm.1 σm.2.2) {m : Nat} {bk : Int} (hI : IMach m bk σx σm) (hF : IFacts σx σm) (hL : IFly σx σm) (hA : IAir σx σm) (hT : ITape σx σm) (hS : IStg σx σm) {t : Int → Nat} (hR : ITrs t σx σm) {a : Int} (ha : wr a = a) : Ok (f_X11_about N σx 1 a) (fun v => Ok (f_X12_about N σm 1 a) (fun w => wr v.2 = wr w.2 ∧ v.1 = σx ∧ w.1 = σm)) := by
  have hr := wr_rg ha
  obtain ⟨i1, i2, i3, i4, ⟨r1, r2, r3, r4, r5⟩, i6⟩ := hI
  have e1 := r2.1
  have e2 := r3.1
  have e3 := r4.1
  have e4 := r5.1
  have e5 := hF.1.1
  have e6 := hL.1.1
  have e7 := hA.1
  have e8 := hF.2.1.1
  have e9 := hT.1
  have e10 := hS.1.1
  unfold f_X11_about f_X12_about
  repeat' first
    | with_reducible apply st_Lt
    | with_reducible apply st_Jn
    | ((with_reducible apply ok_some); try dsimp only)
    | with_reducible apply ok_z0
    | with_reducible apply ok_z1
    | ((with_reducible apply ok_gF_hit); exact hX; exact rfl; exact rfl)
    | ((with_reducible apply om_gF_hit); exact hM)
    | ((with_reducible apply mx_gF_hit); exact hX; exact i1)
    | ((with_reducible apply ok_gF_j); decide)
    | ((with_reducible apply ok_gF_k); (first | decide | omega))
    | ((with_reducible apply ok_gU_k); (first | decide | omega))
    | ((with_reducible apply ok_aF_k); (first | decide | omega))
    | ((with_reducible apply ok_aU_k); (first | decide | omega))
    | (with_reducible apply ok_rF)
    | (with_reducible apply ok_rU)
    | (with_reducible apply ok_qF)
    | (with_reducible apply ok_qU)
    | ((with_reducible apply sx_gI); exact hX; exact rfl; exact rfl)
    | ((with_reducible apply sx_gR); exact hX; exact rfl; exact rfl; exact rfl)
    | ((with_reducible apply sx_pI); exact hX; exact rfl; exact rfl)
    | ((with_reducible apply sx_rcv); exact hX; exact rfl; exact rfl)
    | ((with_reducible apply sx_aI); exact hX; exact rfl; exact rfl; exact (by decide); omega; omega)
    | ((with_reducible apply sx_sI); exact hX; exact rfl; exact rfl; exact (by decide); omega; omega)
    | ((with_reducible apply sx_gR1); exact hX; exact i2)
    | ((with_reducible apply mx_gI); exact hX; exact i1)
    | ((with_reducible apply mx_gR); exact hX; exact i1; exact rfl)
    | ((with_reducible apply mx_pI); exact hX; exact i1)
    | ((with_reducible apply mx_rcv); exact hX; exact i1)
    | ((with_reducible apply mx_aI); exact hX; exact i1; exact rfl; exact (by decide); omega; omega)
    | ((with_reducible apply mx_sI); exact hX; exact i1; exact rfl; exact (by decide); omega; omega)
    | ((with_reducible apply sm_gI); exact hM)
    | ((with_reducible apply sm_gR); exact hM; exact rfl)
    | ((with_reducible apply sm_pI); exact hM)
    | ((with_reducible apply sm_rcv); exact hM)
    | ((with_reducible apply sm_aI); exact hM; exact rfl; exact rfl; exact (by decide); omega; omega)
    | ((with_reducible apply sm_sI); exact hM; exact rfl; exact rfl; exact (by decide); omega; omega)
    | ((with_reducible apply ok_rZ); (first | exact .inl rfl | exact .inr rfl))
    | ((with_reducible refine ok_within ?_ ?_ ?_ (fun hc => ?_) (fun hc => ?_)); omega; omega; omega)
    | ((with_reducible refine ok_month ?_ (fun hc => ?_) (fun hc => ?_)); omega)
    | ((with_reducible refine ok_tongue ?_ (fun hc => ?_) (fun hc => ?_)); omega)
    | ((with_reducible refine ok_money ?_ (fun hc => ?_) (fun hc => ?_)); omega)
    | ((with_reducible refine om_month ?_ (fun hc => ?_) (fun hc => ?_)); omega)
    | ((with_reducible refine om_tongue ?_ (fun hc => ?_) (fun hc => ?_)); omega)
    | ((with_reducible refine ok_isIn ?_ ?_ ?_ (fun hc => ?_) (fun hc => ?_)); omega; omega; omega)
    | ((with_reducible refine ok_wltp ?_ ?_ ?_ ?_); omega; omega; omega)
    | ((with_reducible refine ok_wltn ?_ ?_ ?_ ?_); omega; omega; omega)
    | ((with_reducible refine ok_wlt ?_ ?_ (fun hc => ?_) (fun hc => ?_)); omega; omega)
    | ((with_reducible refine ok_wlt0 ?_ (fun hc => ?_) (fun hc => ?_)); omega)
    | ((with_reducible refine ok_w0lt ?_ (fun hc => ?_) (fun hc => ?_)); omega)
    | ((with_reducible refine ok_weq ?_ ?_ (fun hc => ?_) (fun hc => ?_)); omega; omega)
    | ((with_reducible refine ok_weqc ?_ (fun hc => ?_) (fun hc => ?_)); omega)
    | (refine ok_rw (parts_eq hM i3 i4) ?_; dsimp only)
    | (refine ok_rw (joins_eq hM i3 i4) ?_; dsimp only)
    | (refine ok_rw (tanks_eq hM i3 i4) ?_; dsimp only)
    | (refine sx_aR hX rfl rfl (by decide) (by omega) (by omega) (hR.1 _ (by omega) (by omega)).2 ?_)
    | (refine tx_gI hX (hR.1 _ (by omega) (by omega)).1 ?_)
    | (refine sm_aI hM rfl rfl (by decide) (by rw [i3]; omega) (by rw [i3]; omega) ?_)
  all_goals first | (exfalso; omega) | exact ⟨rfl, rfl, rfl⟩ | exact ⟨by rw [e1], rfl, rfl⟩ | exact ⟨by rw [e2], rfl, rfl⟩ | exact ⟨by rw [i3, e3], rfl, rfl⟩ | exact ⟨by rw [e4], rfl, rfl⟩ | exact ⟨by rw [e5], rfl, rfl⟩ | exact ⟨by rw [e6], rfl, rfl⟩ | exact ⟨by rw [e7], rfl, rfl⟩ | exact ⟨by rw [e8], rfl, rfl⟩ | exact ⟨by rw [e9], rfl, rfl⟩ | exact ⟨by rw [e10], rfl, rfl⟩ | exact ⟨by rw [(hR.2 _ (by omega) (by omega)).1], rfl, rfl⟩
end Ops
