/-! the pure part: a line of a machine, both sides together -/
section F
variable {N : Nat} {σ τ υ σm τm w : St} {z : Zs} {r : RS} {m : Nat} {bk : Int}
/-- how far a reader is at least -/
def RG (z : Zs) (k0 : Int) (r : RS) : Prop := ∀ k, r = .inr k → k0 ≤ k ∧ k < KZ z
theorem nxt_ge {k : Int} (h : k < KZ z) : k ≤ nxt z k := by unfold nxt; split <;> omega
theorem RG.at {k0 k : Int} (h : k0 ≤ k ∧ k < KZ z) : RG z k0 (.inr k) := fun k' e => by cases e; exact h
theorem RG.nx (hz : Str z) {k0 : Int} (h0 : 0 ≤ k0) (h : RG z k0 r) {k k' : Int} (e : r = .inr k) (e' : k' = nxt z k) : k0 ≤ k' ∧ k' < KZ z := by
  obtain ⟨a, b⟩ := h k e
  have := nxt_ge b
  have := nxt_rg hz (k := k) (by omega)
  omega
theorem RG.opC (hz : Str z) {k0 : Int} (h0 : 0 ≤ k0) (h : RG z k0 r) (c : Int → Bool) : RG z k0 (opC z c r) := fun k' e => by
  obtain ⟨k, e1, _, e2⟩ := opC_al e
  exact h.nx hz h0 e1 e2
theorem RG.opX (hz : Str z) {k0 : Int} (h0 : 0 ≤ k0) (h : RG z k0 r) (v : Int) : RG z k0 (opX z v r) := h.opC hz h0 _
theorem RG.opN (hz : Str z) {k0 : Int} (h0 : 0 ≤ k0) (h : RG z k0 r) (lo hi : Int) : RG z k0 (opN z lo hi r) := fun k' e => by
  obtain ⟨k, e1, _, _, e2⟩ := opN_al e
  exact h.nx hz h0 e1 e2
theorem RG.opNew (hz : Str z) {k0 : Int} (h0 : 0 ≤ k0) (h : RG z k0 r) (nm : Int → Int) (P : Int) : RG z k0 (opNew z nm P r) := fun k' e => by
  obtain ⟨k, e1, _, _, e2⟩ := opNew_al e
  exact h.nx hz h0 e1 e2
theorem RG.opOld (hz : Str z) {k0 : Int} (h0 : 0 ≤ k0) (h : RG z k0 r) (nm : Int → Int) (P b : Int) : RG z k0 (opOld z nm P b r) := fun k' e => by
  obtain ⟨k, e1, _, _, e2⟩ := opOld_al e
  exact h.nx hz h0 e1 e2
theorem RG.opW (hz : Str z) {k0 : Int} (h0 : 0 ≤ k0) (h : RG z k0 r) : RG z k0 (opW z r) := fun k' e => by
  obtain ⟨k, e1, _, _, e2⟩ := opW_al e
  exact h.nx hz h0 e1 e2
theorem nx1 (hz : Str z) {k : Int} (hk : 0 ≤ k ∧ k < KZ z) (kd : kZ z k ≠ 102) : nxt z k = k + 1 ∧ k + 1 < KZ z := by
  have := (hz.rg hk).2.2 kd
  unfold nxt
  rw [if_pos this]
  exact ⟨rfl, this⟩
theorem RG.P7 (hz : Str z) {k : Int} (hk : 0 ≤ k ∧ k < KZ z) (kd : kZ z k ≠ 102) (nm : Int → Int) (P : Int) : RG z (k + 1) (rP7 z nm P k) := by
  obtain ⟨e, l⟩ := nx1 hz hk kd
  have g : RG z (k + 1) (.inr (nxt z k)) := RG.at (by omega)
  unfold rP7 rP6 rP5 rP4 rP3 rP2 rP1
  have h0 : 0 ≤ k + 1 := by omega
  exact (((((((((((g.opNew hz h0 _ _).opX hz h0 _).opN hz h0 _ _).opX hz h0 _).opN hz h0 _ _).opC hz h0 _).opX hz h0 _).opN hz h0 _ _).opX hz h0 _).opN hz h0 _ _).opX hz h0 _)
theorem RG.J4 (hz : Str z) {k : Int} (hk : 0 ≤ k ∧ k < KZ z) (kd : kZ z k ≠ 102) (nm : Int → Int) (P v hi : Int) : RG z (k + 1) (rJ4 z nm P k v hi) := by
  obtain ⟨e, l⟩ := nx1 hz hk kd
  have g : RG z (k + 1) (.inr (nxt z k)) := RG.at (by omega)
  unfold rJ4 rJ3 rJ2 rJ1
  have h0 : 0 ≤ k + 1 := by omega
  exact (((((g.opOld hz h0 _ _ _).opOld hz h0 _ _ _).opX hz h0 _).opN hz h0 _ _).opX hz h0 _)
theorem RG.T3 (hz : Str z) {k : Int} (hk : 0 ≤ k ∧ k < KZ z) (kd : kZ z k ≠ 102) : RG z (k + 1) (rT3 z k) := by
  obtain ⟨e, l⟩ := nx1 hz hk kd
  have g : RG z (k + 1) (.inr (nxt z k)) := RG.at (by omega)
  unfold rT3 rT2 rT1
  have h0 : 0 ≤ k + 1 := by omega
  exact (((((g.opX hz h0 _).opN hz h0 _ _).opX hz h0 _).opN hz h0 _ _).opX hz h0 _)
theorem RG.R3 (hz : Str z) {k : Int} (hk : 0 ≤ k ∧ k < KZ z) (kd : kZ z k ≠ 102) (tb : Int → Int) : RG z (k + 1) (rR3 z tb k) := by
  obtain ⟨e, l⟩ := nx1 hz hk kd
  have g : RG z (k + 1) (rR0 z tb (nxt z k)) := fun k' q => by
    obtain ⟨rfl, _⟩ := rR0_al q
    omega
  unfold rR3 rR2 rR1
  have h0 : 0 ≤ k + 1 := by omega
  exact (((g.opN hz h0 _ _).opW hz h0).opX hz h0 _)
theorem ML_st {k k' : Int} (hz : Str z) (h : ML z m bk k σ σm) (kl : k + 1 < KZ z) (hx : XR z (.inr k') τ) (hmr : MR z (.inr k') w) (hb : fI w 1 32 = bk) (l : fI τ m 0 = fI σ m 0 + 1 ∧ w.2.1 4 bk = σm.2.1 4 bk + 1) (kk : k + 1 ≤ k') (c1 : w.2.1 5 bk = fI τ m 1 ∧ 0 ≤ fI τ m 1 ∧ fI τ m 1 ≤ 12) (c7 : w.2.1 6 bk = fI τ m 7 ∧ 0 ≤ fI τ m 7 ∧ fI τ m 7 ≤ 16) (c11 : w.2.1 7 bk = fI τ m 11 ∧ 0 ≤ fI τ m 11 ∧ fI τ m 11 ≤ 16) (c15 : w.2.1 8 bk = fI τ m 15 ∧ 0 ≤ fI τ m 15 ∧ fI τ m 15 ≤ 3) (p : RMp m bk τ w) (j : RMj m bk τ w) (v : RMv m bk τ w) (t : RMt m bk τ w) (g : RMg m bk τ w) (nr : NmR (τ.2.1 (m + 1)) (fI τ m 1) bk w) (to : RTo m bk τ w) : ML z m bk k' τ w := by
  have zn := hz.1
  have zK := hz.2.2.1
  obtain ⟨_, ⟨⟨⟨h1, h2, h3⟩, _⟩, _⟩, _, _, h5⟩ := h
  exact ⟨⟨hx, hmr, hb⟩, ⟨⟨⟨by rw [l.2, h1, l.1], by omega, by omega⟩, c1, c7, c11, c15⟩, p, j, v, t, g⟩, nr, to, by omega⟩
theorem line_part {k : Int} (hz : Str z) (hm : isM m) (hk : bk = 0 ∨ bk = 1) (h : ML z m bk k σ σm) (kd : kZ z k = 0) (hP : fI σ m 1 < 12) (hN : 2000 < N) : ∃ x, f_X3_readPart N σ m 2 = some (x, 0) ∧ FA (CAf m) σ x ∧ ∀ y, MR z (.inr (nxt z k)) y → FM [] [4, 5, 6, 7, 8, 9, 10] σm y → ∃ (x' : St) (rx : RS), f_X12_readPart N y 1 = some (x', 0) ∧ MR z rx x' ∧ fI x' 1 32 = bk ∧ ∀ w, MR z (opX z 59 rx) w → FA (fun k i => (k = 1 ∧ (i < 0 ∨ (4 ≤ i ∧ i ≤ 10))) ∨ (k = 4 ∧ i = bk)) x' w → w.2.1 4 bk = x'.2.1 4 bk + 1 → FA (RAf bk) σm w ∧ ((∃ d, XR z (.inl d) x ∧ MR z (.inl d) w) ∨ ∃ k', k < k' ∧ ML z m bk k' (uF x m 0 (fI x m 0 + 1)) w) := by
  obtain ⟨⟨hx, hmr, hb⟩, ⟨⟨⟨l1, l2, l3⟩, ⟨p1, p2, p3⟩, ⟨j1, j2, j3⟩, ⟨v1, v2, v3⟩, ⟨t1, t2, t3⟩⟩, hp, hj, hv, ht, hg⟩, hnr, hto, hl⟩ := id h
  have hml := isM_le hm
  have kr := hx.kd.1
  obtain ⟨n1, n2⟩ := nx1 hz kr (by omega)
  obtain ⟨x, ex, Fx, xr, vx⟩ := partX (N := N) (nm := σ.2.1 (m + 1)) hz hm hx rfl ⟨p2, hP⟩ (fun _ _ _ => rfl) (by omega)
  refine ⟨x, ex, Fx.mono fun k i q => by unfold CAf; omega, fun y my fy => ?_⟩
  obtain ⟨x', ex', Fx', mx', cx', vx'⟩ := partM (N := N) (nm := σ.2.1 (m + 1)) hz my ((fy.f (by decide)).trans hb) hk ((fy.c (by decide) (by simp)).trans p1) ⟨p2, hP⟩ (hnr.keep fun i a b => fy.c (by decide) (by simp)) hN
  refine ⟨x', _, ex', mx', (Fx'.f (by omega)).trans ((fy.f (by decide)).trans hb), fun w mw Fw lw => ?_⟩
  have mw : MR z (rP7 z (σ.2.1 (m + 1)) (fI σ m 1) k) w := mw
  have Fm : FA (RAf bk) σm w := ((f7 fy (A := RAf bk) fun i q => .inl ⟨rfl, by omega⟩).trans (Fx'.mono fun k i q => by unfold RAf; omega)).trans (Fw.mono fun k i q => by unfold RAf; omega)
  refine ⟨Fm, ?_⟩
  match hr : rP7 z (σ.2.1 (m + 1)) (fI σ m 1) k, xr, mw with
  | .inl d, xr, mw => exact .inl ⟨d, xr, mw⟩
  | .inr k', xr, mw =>
    have kg := RG.P7 hz kr (by omega) _ _ k' hr
    refine .inr ⟨k', by omega, ?_⟩
    obtain ⟨u1, u2, u3, u4, u5, u6⟩ := vx k' hr
    obtain ⟨a6, hr6, _, _⟩ := opX_al hr
    obtain ⟨y1, y2, y3, y4, y5⟩ := vx' a6 hr6
    have X : ∀ (d : Nat) (i : Int), 1 ≤ d → ¬ (d ≤ 5 ∧ i = fI σ m 1) → (uF x m 0 (fI x m 0 + 1)).2.1 (m + d) i = σ.2.1 (m + d) i := fun d i d1 q => (uF_k (by omega)).trans (Fx.c (by omega))
    have X0 : ∀ j : Nat, j ≠ 0 → j ≠ 1 → fI (uF x m 0 (fI x m 0 + 1)) m j = fI σ m j := fun j a b => (fI_j a).trans (Fx.f (by omega))
    have X1 : ∀ (d : Nat), 1 ≤ d → (uF x m 0 (fI x m 0 + 1)).2.1 (m + d) (fI σ m 1) = x.2.1 (m + d) (fI σ m 1) := fun d d1 => uF_k (by omega)
    have Y : ∀ (k : Nat) (i : Int), k ≠ 1 → k ≠ 4 → ¬ (k = 5 ∧ i = bk) → ¬ ((9 ≤ k ∧ k ≤ 12 ∨ k = 23) ∧ i = 12 * bk + fI σ m 1) → w.2.1 k i = σm.2.1 k i := fun k i a b c d => (Fw.c (by omega)).trans ((Fx'.c (by omega)).trans (fy.c a (by simp)))
    have Y1 : ∀ (k : Nat), k ≠ 1 → k ≠ 4 → w.2.1 k (12 * bk + fI σ m 1) = x'.2.1 k (12 * bk + fI σ m 1) := fun k a b => Fw.c (by omega)
    have e1 : fI (uF x m 0 (fI x m 0 + 1)) m 1 = fI σ m 1 + 1 := (fI_j (by decide)).trans u1
    have e7 := X0 7 (by decide) (by decide)
    have e11 := X0 11 (by decide) (by decide)
    have e15 := X0 15 (by decide) (by decide)
    have e18 := X0 18 (by decide) (by decide)
    have w5 : w.2.1 5 bk = fI σ m 1 + 1 := (Fw.c (by omega)).trans cx'
    have w6 : w.2.1 6 bk = σm.2.1 6 bk := Y 6 bk (by decide) (by decide) (by omega) (by omega)
    have w7 : w.2.1 7 bk = σm.2.1 7 bk := Y 7 bk (by decide) (by decide) (by omega) (by omega)
    have w8 : w.2.1 8 bk = σm.2.1 8 bk := Y 8 bk (by decide) (by decide) (by omega) (by omega)
    have w4 : w.2.1 4 bk = σm.2.1 4 bk + 1 := by rw [lw, Fx'.c (by omega), fy.c (by decide) (by simp)]
    refine ML_st hz h n2 (xr.wF (by omega)) mw ((Fw.f (by omega)).trans ((Fx'.f (by omega)).trans ((fy.f (by decide)).trans hb))) ⟨?_, w4⟩ (by omega) ⟨by rw [w5, e1], by omega, by omega⟩ ⟨by rw [w6, e7]; exact j1, by omega, by omega⟩ ⟨by rw [w7, e11]; exact v1, by omega, by omega⟩ ⟨by rw [w8, e15]; exact t1, by omega, by omega⟩ ?_ ?_ ?_ ?_ ?_ ?_ ?_
    · rw [fI_eq, Fx.f (by omega)]
    · refine RMp_st hp (fun d i a b c e => X d i (by omega) (by omega)) (fun k i a b c e => Y k _ (by omega) (by omega) (by omega) (by omega)) (fun i a b c => ?_)
      have ei : i = fI σ m 1 := by omega
      subst ei
      rw [X1 2 (by decide), X1 3 (by decide), X1 4 (by decide), X1 5 (by decide), Y1 9 (by decide) (by decide), Y1 10 (by decide) (by decide), Y1 11 (by decide) (by decide), Y1 12 (by decide) (by decide), u3.1, u4.1, u5.1, u6.1]
      exact ⟨⟨y2, u3.2⟩, ⟨y3, u4.2⟩, ⟨y4, u5.2⟩, y5, u6.2⟩
    · exact RMj_st hj (by omega) (fun d i a b c e => X d i (by omega) (by omega)) (fun k i a b c e => Y k _ (by omega) (by omega) (by omega) (by omega)) (fun i a b c => by omega)
    · exact RMv_st hv (by omega) (fun d i a b c e => X d i (by omega) (by omega)) (fun k i a b c e => Y k _ (by omega) (by omega) (by omega) (by omega)) (fun i a b c => by omega)
    · exact RMt_st ht (by omega) (fun d i a b c e => X d i (by omega) (by omega)) (fun k i a b c e => Y k _ (by omega) (by omega) (by omega) (by omega)) (fun i a b c => by omega)
    · exact RMg_st hg fun c a b => .inl ⟨X 14 c (by decide) (by omega), Y 21 _ (by decide) (by decide) (by omega) (by omega)⟩
    · rw [e1]
      refine ⟨fun i a b => ?_, fun i j a b c => ?_⟩
      · by_cases q : i = fI σ m 1
        · subst q
          rw [X1 1 (by decide), Y1 23 (by decide) (by decide), u2]
          exact y1
        · rw [X 1 i (by decide) (by omega), Y 23 _ (by decide) (by decide) (by omega) (by omega)]
          exact hnr.1 i a (by omega)
      · by_cases q : j = fI σ m 1
        · subst q
          rw [X 1 i (by decide) (by omega), X1 1 (by decide), u2]
          obtain ⟨c5, hc5, _, _⟩ := opN_al hr6
          obtain ⟨c4, hc4, _, _⟩ := opX_al hc5
          obtain ⟨c3, hc3, _, _⟩ := opN_al hc4
          obtain ⟨b3, hb3, _, _⟩ := opX_al hc3
          obtain ⟨c2, hc2, _, _⟩ := opC_al hb3
          obtain ⟨c1, hc1, _, _⟩ := opN_al hc2
          obtain ⟨c0, hc0, _, _⟩ := opX_al hc1
          obtain ⟨b2, hb2, _, _⟩ := opN_al hc0
          obtain ⟨b1, hb1, _, _⟩ := opX_al hb2
          obtain ⟨b0, hb0, _, hfd, _⟩ := opNew_al hb1
          cases hb0
          rcases fdW_spec (σ.2.1 (m + 1)) (wZ z (nxt z k)) (fI σ m 1).toNat with ⟨_, f2⟩ | ⟨f1, _⟩
          · exact fun q => f2 i a (by omega) (by rw [q])
          · omega
        · rw [X 1 i (by decide) (by omega), X 1 j (by decide) (by omega)]
          exact hnr.2 i j a b (by omega)
    · refine ⟨by rw [e18]; exact hto.1, fun r a b => ?_⟩
      rw [e18, Y 22 _ (by decide) (by decide) (by omega) (by omega)]
      exact hto.2 r a b
end F
