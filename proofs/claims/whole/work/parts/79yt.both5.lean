/-! the pure part: a line of a machine, both sides together (4) -/
section F
variable {N : Nat} {σ τ υ σm τm w : St} {z : Zs} {r : RS} {m : Nat} {bk : Int}
theorem line_tank {k : Int} (hz : Str z) (hm : isM m) (hk : bk = 0 ∨ bk = 1) (h : ML z m bk k σ σm) (kd : kZ z k = 11) (hP : fI σ m 15 < 3) (hN : 2000 < N) : ∃ x, f_X3_readTank N σ m 2 = some (x, 0) ∧ FA (CAf m) σ x ∧ ∀ y, MR z (.inr (nxt z k)) y → FM [] [4, 5, 6, 7, 8, 9, 10] σm y → ∃ (x' : St) (rx : RS), f_X12_readTank N y 1 = some (x', 0) ∧ MR z rx x' ∧ fI x' 1 32 = bk ∧ ∀ w, MR z (opX z 59 rx) w → FA (fun k i => (k = 1 ∧ (i < 0 ∨ (4 ≤ i ∧ i ≤ 10))) ∨ (k = 4 ∧ i = bk)) x' w → w.2.1 4 bk = x'.2.1 4 bk + 1 → FA (RAf bk) σm w ∧ ((∃ d, XR z (.inl d) x ∧ MR z (.inl d) w) ∨ ∃ k', k < k' ∧ ML z m bk k' (uF x m 0 (fI x m 0 + 1)) w) := by
  obtain ⟨⟨hx, hmr, hb⟩, ⟨⟨⟨l1, l2, l3⟩, ⟨p1, p2, p3⟩, ⟨j1, j2, j3⟩, ⟨v1, v2, v3⟩, ⟨t1, t2, t3⟩⟩, hp, hj, hv, ht, hg⟩, hnr, hto, hl⟩ := id h
  have hml := isM_le hm
  have kr := hx.kd.1
  obtain ⟨n1, n2⟩ := nx1 hz kr (by omega)
  obtain ⟨x, ex, Fx, xr, vx⟩ := tankX (N := N) hz hm hx rfl ⟨t2, hP⟩
  refine ⟨x, ex, Fx.mono fun k i q => by unfold CAf; omega, fun y my fy => ?_⟩
  obtain ⟨x', ex', Fx', mx', cx', vx'⟩ := tankM (N := N) hz my ((fy.f (by decide)).trans hb) hk ((fy.c (by decide) (by simp)).trans t1) ⟨t2, hP⟩ hN
  refine ⟨x', _, ex', mx', (Fx'.f (by omega)).trans ((fy.f (by decide)).trans hb), fun w mw Fw lw => ?_⟩
  have mw : MR z (rT3 z k) w := mw
  have Fm : FA (RAf bk) σm w := ((f7 fy (A := RAf bk) fun i q => .inl ⟨rfl, by omega⟩).trans (Fx'.mono fun k i q => by unfold RAf; omega)).trans (Fw.mono fun k i q => by unfold RAf; omega)
  refine ⟨Fm, ?_⟩
  match hr : rT3 z k, xr, mw with
  | .inl d, xr, mw => exact .inl ⟨d, xr, mw⟩
  | .inr k', xr, mw =>
    have kg := RG.T3 hz kr (by omega) k' hr
    refine .inr ⟨k', by omega, ?_⟩
    obtain ⟨u1, u2, u3, u4⟩ := vx k' hr
    obtain ⟨a6, hr6, _, _⟩ := opX_al hr
    obtain ⟨y1, y2⟩ := vx' a6 hr6
    have X : ∀ (d : Nat) (i : Int), 1 ≤ d → ¬ (12 ≤ d ∧ d ≤ 13 ∧ i = fI σ m 15) → (uF x m 0 (fI x m 0 + 1)).2.1 (m + d) i = σ.2.1 (m + d) i := fun d i d1 q => (uF_k (by omega)).trans (Fx.c (by omega))
    have X0 : ∀ j : Nat, j ≠ 0 → j ≠ 15 → fI (uF x m 0 (fI x m 0 + 1)) m j = fI σ m j := fun j a b => (fI_j a).trans (Fx.f (by omega))
    have X1 : ∀ (d : Nat), 1 ≤ d → (uF x m 0 (fI x m 0 + 1)).2.1 (m + d) (fI σ m 15) = x.2.1 (m + d) (fI σ m 15) := fun d d1 => uF_k (by omega)
    have Y : ∀ (k : Nat) (i : Int), k ≠ 1 → k ≠ 4 → ¬ (k = 8 ∧ i = bk) → ¬ (19 ≤ k ∧ k ≤ 20 ∧ i = 3 * bk + fI σ m 15) → w.2.1 k i = σm.2.1 k i := fun k i a b c d => (Fw.c (by omega)).trans ((Fx'.c (by omega)).trans (fy.c a (by simp)))
    have Y1 : ∀ (k : Nat), k ≠ 1 → k ≠ 4 → w.2.1 k (3 * bk + fI σ m 15) = x'.2.1 k (3 * bk + fI σ m 15) := fun k a b => Fw.c (by omega)
    have e15 : fI (uF x m 0 (fI x m 0 + 1)) m 15 = fI σ m 15 + 1 := (fI_j (by decide)).trans u1
    have e1 := X0 1 (by decide) (by decide)
    have e7 := X0 7 (by decide) (by decide)
    have e11 := X0 11 (by decide) (by decide)
    have e18 := X0 18 (by decide) (by decide)
    have w8 : w.2.1 8 bk = fI σ m 15 + 1 := (Fw.c (by omega)).trans cx'
    have w5 : w.2.1 5 bk = σm.2.1 5 bk := Y 5 bk (by decide) (by decide) (by omega) (by omega)
    have w6 : w.2.1 6 bk = σm.2.1 6 bk := Y 6 bk (by decide) (by decide) (by omega) (by omega)
    have w7 : w.2.1 7 bk = σm.2.1 7 bk := Y 7 bk (by decide) (by decide) (by omega) (by omega)
    have w4 : w.2.1 4 bk = σm.2.1 4 bk + 1 := by rw [lw, Fx'.c (by omega), fy.c (by decide) (by simp)]
    refine ML_st hz h n2 (xr.wF (by omega)) mw ((Fw.f (by omega)).trans ((Fx'.f (by omega)).trans ((fy.f (by decide)).trans hb))) ⟨?_, w4⟩ (by omega) ⟨by rw [w5, e1]; exact p1, by omega, by omega⟩ ⟨by rw [w6, e7]; exact j1, by omega, by omega⟩ ⟨by rw [w7, e11]; exact v1, by omega, by omega⟩ ⟨by rw [w8, e15], by omega, by omega⟩ ?_ ?_ ?_ ?_ ?_ ?_ ?_
    · rw [fI_eq, Fx.f (by omega)]
    · exact RMp_st hp (fun d i a b c e => X d i (by omega) (by omega)) (fun k i a b c e => Y k _ (by omega) (by omega) (by omega) (by omega)) (fun i a b c => by omega)
    · exact RMj_st hj (by omega) (fun d i a b c e => X d i (by omega) (by omega)) (fun k i a b c e => Y k _ (by omega) (by omega) (by omega) (by omega)) (fun i a b c => by omega)
    · exact RMv_st hv (by omega) (fun d i a b c e => X d i (by omega) (by omega)) (fun k i a b c e => Y k _ (by omega) (by omega) (by omega) (by omega)) (fun i a b c => by omega)
    · refine RMt_st ht (by omega) (fun d i a b c e => X d i (by omega) (by omega)) (fun k i a b c e => Y k _ (by omega) (by omega) (by omega) (by omega)) (fun i a b c => ?_)
      have ei : i = fI σ m 15 := by omega
      subst ei
      rw [X1 12 (by decide), X1 13 (by decide), Y1 19 (by decide) (by decide), Y1 20 (by decide) (by decide), u2.1, u3]
      exact ⟨y1, u2.2.1, u2.2.2, y2, u4⟩
    · exact RMg_st hg fun c a b => .inl ⟨X 14 c (by decide) (by omega), Y 21 _ (by decide) (by decide) (by omega) (by omega)⟩
    · rw [e1]
      refine ⟨fun i a b => ?_, fun i j a b c => ?_⟩
      · rw [X 1 i (by decide) (by omega), Y 23 _ (by decide) (by decide) (by omega) (by omega)]
        exact hnr.1 i a (by omega)
      · rw [X 1 i (by decide) (by omega), X 1 j (by decide) (by omega)]
        exact hnr.2 i j a b (by omega)
    · refine ⟨by rw [e18]; exact hto.1, fun r a b => ?_⟩
      rw [e18, Y 22 _ (by decide) (by decide) (by omega) (by omega)]
      exact hto.2 r a b
end F
