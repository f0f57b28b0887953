/-! the pure part: a line of a machine, both sides together (5) -/
section F
variable {N : Nat} {σ τ υ σm τm w : St} {z : Zs} {r : RS} {m : Nat} {bk : Int}
theorem line_row {k : Int} (hz : Str z) (hm : isM m) (hk : bk = 0 ∨ bk = 1) (h : ML z m bk k σ σm) (kd : kZ z k = 14) (hN : 2000 < N) : ∃ x, f_X3_readRow N σ m 2 = some (x, 0) ∧ FA (CAf m) σ x ∧ ∀ y, MR z (.inr (nxt z k)) y → FM [] [4, 5, 6, 7, 8, 9, 10] σm y → ∃ (x' : St) (rx : RS), f_X12_readRow N y 1 = some (x', 0) ∧ MR z rx x' ∧ fI x' 1 32 = bk ∧ ∀ w, MR z (opX z 59 rx) w → FA (fun k i => (k = 1 ∧ (i < 0 ∨ (4 ≤ i ∧ i ≤ 10))) ∨ (k = 4 ∧ i = bk)) x' w → w.2.1 4 bk = x'.2.1 4 bk + 1 → FA (RAf bk) σm w ∧ ((∃ d, XR z (.inl d) x ∧ MR z (.inl d) w) ∨ ∃ k', k < k' ∧ ML z m bk k' (uF x m 0 (fI x m 0 + 1)) w) := by
  obtain ⟨⟨hx, hmr, hb⟩, ⟨⟨⟨l1, l2, l3⟩, ⟨p1, p2, p3⟩, ⟨j1, j2, j3⟩, ⟨v1, v2, v3⟩, ⟨t1, t2, t3⟩⟩, hp, hj, hv, ht, hg⟩, hnr, hto, hl⟩ := id h
  have hml := isM_le hm
  have kr := hx.kd.1
  obtain ⟨n1, n2⟩ := nx1 hz kr (by omega)
  have h18 : 0 ≤ fI σ m 18 ∧ fI σ m 18 < 256 := hto.1
  have tb : ∀ r : Int, 0 ≤ r → r ≤ 7 → andZ (shrZ (fI σ m 18) r) 1 = 0 ∨ andZ (shrZ (fI σ m 18) r) 1 = 1 := fun r a b => by
    have := told_01 (fI σ m 18).toNat (by omega) r.toNat (by omega)
    rw [show (((fI σ m 18).toNat : Nat) : Int) = fI σ m 18 by omega, show ((r.toNat : Nat) : Int) = r by omega] at this
    exact this
  obtain ⟨x, ex, Fx, xr, vx⟩ := rowX (N := N) (tb := fun r => andZ (shrZ (fI σ m 18) r) 1) hz hm hx rfl (fun r a b => ⟨rfl, tb r a b⟩) (by omega)
  refine ⟨x, ex, Fx.mono fun k i q => by unfold CAf; omega, fun y my fy => ?_⟩
  obtain ⟨x', ex', Fx', mx', vx'⟩ := rowM (N := N) (tb := fun r => andZ (shrZ (fI σ m 18) r) 1) hz my ((fy.f (by decide)).trans hb) hk (fun r a b => ⟨by rw [fy.c (by decide) (by simp)]; exact hto.2 r a b, tb r a b⟩) hN
  refine ⟨x', _, ex', mx', (Fx'.f (by omega)).trans ((fy.f (by decide)).trans hb), fun w mw Fw lw => ?_⟩
  have mw : MR z (rR3 z (fun r => andZ (shrZ (fI σ m 18) r) 1) k) w := mw
  have Fm : FA (RAf bk) σm w := ((f7 fy (A := RAf bk) fun i q => .inl ⟨rfl, by omega⟩).trans (Fx'.mono fun k i q => by unfold RAf; omega)).trans (Fw.mono fun k i q => by unfold RAf; omega)
  refine ⟨Fm, ?_⟩
  match hr : rR3 z (fun r => andZ (shrZ (fI σ m 18) r) 1) k, xr, mw with
  | .inl d, xr, mw => exact .inl ⟨d, xr, mw⟩
  | .inr k', xr, mw =>
    have kg := RG.R3 hz kr (by omega) _ k' hr
    refine .inr ⟨k', by omega, ?_⟩
    obtain ⟨u1, u2, u3, u4⟩ := vx k' hr
    obtain ⟨a6, hr6, _, _⟩ := opX_al hr
    obtain ⟨y1, y2, y3⟩ := vx' a6 hr6
    obtain ⟨a5, hr5, _, hgd, _⟩ := opW_al hr6
    obtain ⟨a4, hr4, _, _, e4⟩ := opN_al hr5
    obtain ⟨e3, _⟩ := rR0_al hr4
    rw [e4, e3] at hgd
    have gd := gdB_iff.mp hgd
    have X : ∀ (d : Nat) (i : Int), 1 ≤ d → d ≠ 14 → (uF x m 0 (fI x m 0 + 1)).2.1 (m + d) i = σ.2.1 (m + d) i := fun d i d1 q => (uF_k (by omega)).trans (Fx.c (by omega))
    have X0 : ∀ j : Nat, j ≠ 0 → j ≠ 18 → fI (uF x m 0 (fI x m 0 + 1)) m j = fI σ m j := fun j a b => (fI_j a).trans (Fx.f (by omega))
    have X1 : ∀ i, (uF x m 0 (fI x m 0 + 1)).2.1 (m + 14) i = x.2.1 (m + 14) i := fun i => uF_k (by omega)
    have Y : ∀ (k : Nat) (i : Int), k ≠ 1 → k ≠ 4 → k ≠ 21 → k ≠ 22 → w.2.1 k i = σm.2.1 k i := fun k i a b c d => (Fw.c (by omega)).trans ((Fx'.c (by omega)).trans (fy.c a (by simp)))
    have Y1 : ∀ (k : Nat) (i : Int), k ≠ 1 → k ≠ 4 → w.2.1 k i = x'.2.1 k i := fun k i a b => Fw.c (by omega)
    have e1 := X0 1 (by decide) (by decide)
    have e7 := X0 7 (by decide) (by decide)
    have e11 := X0 11 (by decide) (by decide)
    have e15 := X0 15 (by decide) (by decide)
    have e18 : fI (uF x m 0 (fI x m 0 + 1)) m 18 = orZ (fI σ m 18) (shlZ 1 (wZ z (nxt z k))) := (fI_j (by decide)).trans u2
    have w5 : w.2.1 5 bk = σm.2.1 5 bk := Y 5 bk (by decide) (by decide) (by decide) (by decide)
    have w6 : w.2.1 6 bk = σm.2.1 6 bk := Y 6 bk (by decide) (by decide) (by decide) (by decide)
    have w7 : w.2.1 7 bk = σm.2.1 7 bk := Y 7 bk (by decide) (by decide) (by decide) (by decide)
    have w8 : w.2.1 8 bk = σm.2.1 8 bk := Y 8 bk (by decide) (by decide) (by decide) (by decide)
    have w4 : w.2.1 4 bk = σm.2.1 4 bk + 1 := by rw [lw, Fx'.c (by omega), fy.c (by decide) (by simp)]
    have tt := told_bits (fI σ m 18).toNat (by omega) (wZ z (nxt z k)).toNat (by omega)
    rw [show (((fI σ m 18).toNat : Nat) : Int) = fI σ m 18 by omega, show (((wZ z (nxt z k)).toNat : Nat) : Int) = wZ z (nxt z k) by omega] at tt
    refine ML_st hz h n2 (xr.wF (by omega)) mw ((Fw.f (by omega)).trans ((Fx'.f (by omega)).trans ((fy.f (by decide)).trans hb))) ⟨?_, w4⟩ (by omega) ⟨by rw [w5, e1]; exact p1, by omega, by omega⟩ ⟨by rw [w6, e7]; exact j1, by omega, by omega⟩ ⟨by rw [w7, e11]; exact v1, by omega, by omega⟩ ⟨by rw [w8, e15]; exact t1, by omega, by omega⟩ ?_ ?_ ?_ ?_ ?_ ?_ ?_
    · rw [fI_eq, Fx.f (by omega)]
    · exact RMp_st hp (fun d i a b c e => X d i (by omega) (by omega)) (fun k i a b c e => Y k _ (by omega) (by omega) (by omega) (by omega)) (fun i a b c => by omega)
    · exact RMj_st hj (by omega) (fun d i a b c e => X d i (by omega) (by omega)) (fun k i a b c e => Y k _ (by omega) (by omega) (by omega) (by omega)) (fun i a b c => by omega)
    · exact RMv_st hv (by omega) (fun d i a b c e => X d i (by omega) (by omega)) (fun k i a b c e => Y k _ (by omega) (by omega) (by omega) (by omega)) (fun i a b c => by omega)
    · exact RMt_st ht (by omega) (fun d i a b c e => X d i (by omega) (by omega)) (fun k i a b c e => Y k _ (by omega) (by omega) (by omega) (by omega)) (fun i a b c => by omega)
    · refine RMg_st hg fun c a b => ?_
      rw [X1, Y1 21 _ (by decide) (by decide)]
      by_cases q : c < 8 * wZ z (nxt z k) ∨ 8 * wZ z (nxt z k) + 8 ≤ c
      · exact .inl ⟨u3 c q, (y2 c a b q).trans (fy.c (by decide) (by simp))⟩
      · obtain ⟨X8, hX8, rfl⟩ : ∃ X8 : Nat, X8 < 8 ∧ c = 8 * wZ z (nxt z k) + (X8 : Int) := ⟨(c - 8 * wZ z (nxt z k)).toNat, by omega, by omega⟩
        have := gd X8 hX8
        rw [u4 X8 hX8, ← Int.add_assoc, y3 X8 hX8]
        exact .inr ⟨rfl, by omega, by omega⟩
    · rw [e1]
      refine ⟨fun i a b => ?_, fun i j a b c => ?_⟩
      · rw [X 1 i (by decide) (by omega), Y 23 _ (by decide) (by decide) (by omega) (by omega)]
        exact hnr.1 i a (by omega)
      · rw [X 1 i (by decide) (by omega), X 1 j (by decide) (by omega)]
        exact hnr.2 i j a b (by omega)
    · refine ⟨by rw [e18]; exact tt.1, fun r a b => ?_⟩
      rw [e18, Y1 22 _ (by decide) (by decide), y1 r a b]
      have t2 := tt.2 r.toNat (by omega)
      rw [show ((r.toNat : Nat) : Int) = r by omega] at t2
      rw [t2]
      by_cases q : r = wZ z (nxt z k)
      · rw [if_pos q, if_pos (by rw [q])]
      · rw [if_neg q, if_neg (by omega)]
end F
