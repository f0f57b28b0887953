/-! the pure part: the lines of a machine, the reference: JOINS, MOVES, TANKS -/
section F
variable {N : Nat} {σ τ υ : St} {z : Zs} {r : RS}
/-- a JOIN's line but for its end -/
theorem joinM {P C k rb : Int} {nm : Int → Int} (hz : Str z) (h : MR z (.inr (nxt z k)) σ) (hb0 : fI σ 1 32 = rb) (hrb : rb = 0 ∨ rb = 1) (hP : σ.2.1 5 rb = P) (hr : 0 ≤ P ∧ P ≤ 12) (hn : NmR nm P rb σ) (hC : σ.2.1 6 rb = C) (hc : 0 ≤ C ∧ C < 16) (hN : 2000 < N) : ∃ τ, f_X12_readJoin N σ 1 = some (τ, 0) ∧ FA (fun k i => (k = 1 ∧ (i < 0 ∨ (4 ≤ i ∧ i ≤ 10))) ∨ (k = 6 ∧ i = rb) ∨ (13 ≤ k ∧ k ≤ 15 ∧ i = 16 * rb + C)) σ τ ∧ MR z (rJ3 z nm P k 8 99) τ ∧ τ.2.1 6 rb = C + 1 ∧ ∀ k', rJ3 z nm P k 8 99 = .inr k' → τ.2.1 13 (16 * rb + C) = vA z nm P k ∧ τ.2.1 14 (16 * rb + C) = vB z nm P k ∧ τ.2.1 15 (16 * rb + C) = vG z nm P k 8 := by
  have H : Ok (f_X12_readJoin N σ 1) (fun q => q.2 = 0 ∧ FA (fun k i => (k = 1 ∧ (i < 0 ∨ (4 ≤ i ∧ i ≤ 10))) ∨ (k = 6 ∧ i = rb) ∨ (13 ≤ k ∧ k ≤ 15 ∧ i = 16 * rb + C)) σ q.1 ∧ MR z (rJ3 z nm P k 8 99) q.1 ∧ q.1.2.1 6 rb = C + 1 ∧ ∀ k', rJ3 z nm P k 8 99 = .inr k' → q.1.2.1 13 (16 * rb + C) = vA z nm P k ∧ q.1.2.1 14 (16 * rb + C) = vB z nm P k ∧ q.1.2.1 15 (16 * rb + C) = vG z nm P k 8) := by
    unfold f_X12_readJoin
    refine sm_gI h.1 ?_
    refine sm_gR h.1 rfl ?_
    refine sm_gI h.1 ?_
    rw [hb0]
    refine sm_aI h.1 rfl rfl (by decide) (by omega) (by omega) ?_
    rw [hC]
    refine st_Lt ?_
    refine sm_gR h.1 rfl ?_
    obtain ⟨t1, v1, e1, m1, f1, g1⟩ := oldM (N := N) (b := -1) hz h hb0 hrb hP hr hn (fun _ _ => by omega) hN
    refine sm_rcv h.1 (ok_rw e1 ?_)
    have m1 : MR z (rJ1 z nm P k) t1 := m1
    have F1 : FA (fun k i => (k = 1 ∧ (i < 0 ∨ (4 ≤ i ∧ i ≤ 10))) ∨ (13 ≤ k ∧ k ≤ 15 ∧ i = 16 * rb + C)) σ t1 := f7 f1 fun i q => .inl ⟨rfl, q⟩
    refine sm_sI m1.1 rfl rfl (by decide) (by omega) (by omega) ?_
    have m2 := m1.wI (k := 13) (i := 16 * rb + C) (v := v1) (by decide)
    have F2 : FA (fun k i => (k = 1 ∧ (i < 0 ∨ (4 ≤ i ∧ i ≤ 10))) ∨ (13 ≤ k ∧ k ≤ 15 ∧ i = 16 * rb + C)) σ (uI t1 13 (16 * rb + C) v1) := F1.wI (.inr ⟨by decide, by decide, rfl⟩)
    have w2 : (uI t1 13 (16 * rb + C) v1).2.1 13 (16 * rb + C) = v1 := uI_eq
    generalize uI t1 13 (16 * rb + C) v1 = t2 at m2 F2 w2 ⊢
    refine sm_gR m2.1 rfl ?_
    refine sm_gR m2.1 rfl ?_
    refine sm_aI m2.1 rfl rfl (by decide) (by omega) (by omega) ?_
    rw [w2]
    have vr : ∀ k2, rJ1 z nm P k = .inr k2 → v1 = vA z nm P k ∧ -1 ≤ v1 ∧ v1 ≤ 12 := fun k2 q => by
      have e := g1 _ q
      have rf := fdW_rg nm (wZ z (nxt z k)) P.toNat
      have ee : v1 = fdW nm (wZ z (nxt z k)) P.toNat := e
      exact ⟨e, by omega, by omega⟩
    obtain ⟨t3, v3, e3, m3, f3, g3⟩ := oldM (N := N) (b := v1) hz m2 ((F2.f (by omega)).trans hb0) hrb ((F2.c (by omega)).trans hP) hr (hn.keep fun i a b => F2.c (by omega)) (fun k2 q => (vr k2 q).2) hN
    refine sm_rcv m2.1 (ok_rw e3 ?_)
    have same : opOld z nm P v1 (rJ1 z nm P k) = rJ2 z nm P k := opOld_any fun k q => (vr k q).1
    rw [same] at m3 g3
    have F3 := F2.trans (f7 f3 fun i q => .inl ⟨rfl, q⟩)
    refine sm_sI m3.1 rfl rfl (by decide) (by omega) (by omega) ?_
    have m4 := m3.wI (k := 14) (i := 16 * rb + C) (v := v3) (by decide)
    have F4 : FA (fun k i => (k = 1 ∧ (i < 0 ∨ (4 ≤ i ∧ i ≤ 10))) ∨ (13 ≤ k ∧ k ≤ 15 ∧ i = 16 * rb + C)) σ (uI t3 14 (16 * rb + C) v3) := F3.wI (.inr ⟨by decide, by decide, rfl⟩)
    have w4 : (uI t3 14 (16 * rb + C) v3).2.1 14 (16 * rb + C) = v3 := uI_eq
    have n4 : (uI t3 14 (16 * rb + C) v3).2.1 13 (16 * rb + C) = v1 := (uI_k (by decide)).trans ((f3.c (by decide) (by simp)).trans w2)
    generalize uI t3 14 (16 * rb + C) v3 = t4 at m4 F4 w4 n4 ⊢
    refine ok_wm hz m4 (j := 8) (by decide) rfl hN (fun t5 m5 f5 => ?_)
    refine sm_gR m5.1 rfl ?_
    obtain ⟨t6, v6, e6, m6, f6, g6⟩ := numeral_eq (N := N) hz m5 (lo := 0) (hi := 99) (by decide) hN
    refine sm_rcv m5.1 (ok_rw e6 ?_)
    have m6 : MR z (rJ3 z nm P k 8 99) t6 := m6
    have f6 := f5.trans f6
    have F6 := F4.trans (f7 f6 fun i q => .inl ⟨rfl, q⟩)
    refine sm_sI m6.1 rfl rfl (by decide) (by omega) (by omega) ?_
    have m7 := m6.wI (k := 15) (i := 16 * rb + C) (v := v6) (by decide)
    have F7 : FA (fun k i => (k = 1 ∧ (i < 0 ∨ (4 ≤ i ∧ i ≤ 10))) ∨ (13 ≤ k ∧ k ≤ 15 ∧ i = 16 * rb + C)) σ (uI t6 15 (16 * rb + C) v6) := F6.wI (.inr ⟨by decide, by decide, rfl⟩)
    have w7 : (uI t6 15 (16 * rb + C) v6).2.1 15 (16 * rb + C) = v6 := uI_eq
    have n7 : ∀ d, d ≠ 1 → d ≠ 15 → (uI t6 15 (16 * rb + C) v6).2.1 d (16 * rb + C) = t4.2.1 d (16 * rb + C) := fun d d1 d2 => (uI_k d2).trans (f6.c d1 (by simp))
    generalize uI t6 15 (16 * rb + C) v6 = t7 at m7 F7 w7 n7 ⊢
    refine sm_gR m7.1 rfl ?_
    refine sm_gI m7.1 ?_
    rw [show fI t7 1 32 = rb from (F7.f (by omega)).trans hb0]
    refine sm_aI m7.1 rfl rfl (by decide) (by omega) (by omega) ?_
    rw [show t7.2.1 6 rb = C from (F7.c (by omega)).trans hC]
    refine sm_sI m7.1 rfl rfl (by decide) (by omega) (by omega) (ok_some ⟨rfl, (F7.mono fun k i q => by omega).wI (.inr (.inl ⟨rfl, rfl⟩)), m7.wI (by decide), uI_eq, fun k' hr3 => ?_⟩)
    obtain ⟨a2, r2, _, _⟩ := opN_al hr3
    obtain ⟨b2, s2, _, _⟩ := opX_al r2
    obtain ⟨a1, r1, _, _⟩ := opOld_al s2
    have eb : ∀ d, d ≠ 6 → (uI t7 6 rb (C + 1)).2.1 d (16 * rb + C) = t7.2.1 d (16 * rb + C) := fun d hd => uI_k hd
    dsimp only
    refine ⟨?_, ?_, ?_⟩
    · rw [eb 13 (by decide), n7 13 (by decide) (by decide), n4]
      exact (vr _ r1).1
    · rw [eb 14 (by decide), n7 14 (by decide) (by decide), w4]
      exact g3 _ s2
    · rw [eb 15 (by decide), w7]
      exact g6 _ hr3
  obtain ⟨⟨τ, v⟩, e, h1, h2⟩ := H
  dsimp only at h1 h2
  subst h1
  exact ⟨τ, e, h2⟩
/-- a MOVE's line but for its end -/
theorem movesM {P C k rb : Int} {nm : Int → Int} (hz : Str z) (h : MR z (.inr (nxt z k)) σ) (hb0 : fI σ 1 32 = rb) (hrb : rb = 0 ∨ rb = 1) (hP : σ.2.1 5 rb = P) (hr : 0 ≤ P ∧ P ≤ 12) (hn : NmR nm P rb σ) (hC : σ.2.1 7 rb = C) (hc : 0 ≤ C ∧ C < 16) (hN : 2000 < N) : ∃ τ, f_X12_readMoves N σ 1 = some (τ, 0) ∧ FA (fun k i => (k = 1 ∧ (i < 0 ∨ (4 ≤ i ∧ i ≤ 10))) ∨ (k = 7 ∧ i = rb) ∨ (16 ≤ k ∧ k ≤ 18 ∧ i = 16 * rb + C)) σ τ ∧ MR z (rJ3 z nm P k 10 24) τ ∧ τ.2.1 7 rb = C + 1 ∧ ∀ k', rJ3 z nm P k 10 24 = .inr k' → τ.2.1 16 (16 * rb + C) = vA z nm P k ∧ τ.2.1 17 (16 * rb + C) = vB z nm P k ∧ τ.2.1 18 (16 * rb + C) = vG z nm P k 10 := by
  have H : Ok (f_X12_readMoves N σ 1) (fun q => q.2 = 0 ∧ FA (fun k i => (k = 1 ∧ (i < 0 ∨ (4 ≤ i ∧ i ≤ 10))) ∨ (k = 7 ∧ i = rb) ∨ (16 ≤ k ∧ k ≤ 18 ∧ i = 16 * rb + C)) σ q.1 ∧ MR z (rJ3 z nm P k 10 24) q.1 ∧ q.1.2.1 7 rb = C + 1 ∧ ∀ k', rJ3 z nm P k 10 24 = .inr k' → q.1.2.1 16 (16 * rb + C) = vA z nm P k ∧ q.1.2.1 17 (16 * rb + C) = vB z nm P k ∧ q.1.2.1 18 (16 * rb + C) = vG z nm P k 10) := by
    unfold f_X12_readMoves
    refine sm_gI h.1 ?_
    refine sm_gR h.1 rfl ?_
    refine sm_gI h.1 ?_
    rw [hb0]
    refine sm_aI h.1 rfl rfl (by decide) (by omega) (by omega) ?_
    rw [hC]
    refine st_Lt ?_
    refine sm_gR h.1 rfl ?_
    obtain ⟨t1, v1, e1, m1, f1, g1⟩ := oldM (N := N) (b := -1) hz h hb0 hrb hP hr hn (fun _ _ => by omega) hN
    refine sm_rcv h.1 (ok_rw e1 ?_)
    have m1 : MR z (rJ1 z nm P k) t1 := m1
    have F1 : FA (fun k i => (k = 1 ∧ (i < 0 ∨ (4 ≤ i ∧ i ≤ 10))) ∨ (16 ≤ k ∧ k ≤ 18 ∧ i = 16 * rb + C)) σ t1 := f7 f1 fun i q => .inl ⟨rfl, q⟩
    refine sm_sI m1.1 rfl rfl (by decide) (by omega) (by omega) ?_
    have m2 := m1.wI (k := 16) (i := 16 * rb + C) (v := v1) (by decide)
    have F2 : FA (fun k i => (k = 1 ∧ (i < 0 ∨ (4 ≤ i ∧ i ≤ 10))) ∨ (16 ≤ k ∧ k ≤ 18 ∧ i = 16 * rb + C)) σ (uI t1 16 (16 * rb + C) v1) := F1.wI (.inr ⟨by decide, by decide, rfl⟩)
    have w2 : (uI t1 16 (16 * rb + C) v1).2.1 16 (16 * rb + C) = v1 := uI_eq
    generalize uI t1 16 (16 * rb + C) v1 = t2 at m2 F2 w2 ⊢
    refine sm_gR m2.1 rfl ?_
    refine sm_gR m2.1 rfl ?_
    refine sm_aI m2.1 rfl rfl (by decide) (by omega) (by omega) ?_
    rw [w2]
    have vr : ∀ k2, rJ1 z nm P k = .inr k2 → v1 = vA z nm P k ∧ -1 ≤ v1 ∧ v1 ≤ 12 := fun k2 q => by
      have e := g1 _ q
      have rf := fdW_rg nm (wZ z (nxt z k)) P.toNat
      have ee : v1 = fdW nm (wZ z (nxt z k)) P.toNat := e
      exact ⟨e, by omega, by omega⟩
    obtain ⟨t3, v3, e3, m3, f3, g3⟩ := oldM (N := N) (b := v1) hz m2 ((F2.f (by omega)).trans hb0) hrb ((F2.c (by omega)).trans hP) hr (hn.keep fun i a b => F2.c (by omega)) (fun k2 q => (vr k2 q).2) hN
    refine sm_rcv m2.1 (ok_rw e3 ?_)
    have same : opOld z nm P v1 (rJ1 z nm P k) = rJ2 z nm P k := opOld_any fun k q => (vr k q).1
    rw [same] at m3 g3
    have F3 := F2.trans (f7 f3 fun i q => .inl ⟨rfl, q⟩)
    refine sm_sI m3.1 rfl rfl (by decide) (by omega) (by omega) ?_
    have m4 := m3.wI (k := 17) (i := 16 * rb + C) (v := v3) (by decide)
    have F4 : FA (fun k i => (k = 1 ∧ (i < 0 ∨ (4 ≤ i ∧ i ≤ 10))) ∨ (16 ≤ k ∧ k ≤ 18 ∧ i = 16 * rb + C)) σ (uI t3 17 (16 * rb + C) v3) := F3.wI (.inr ⟨by decide, by decide, rfl⟩)
    have w4 : (uI t3 17 (16 * rb + C) v3).2.1 17 (16 * rb + C) = v3 := uI_eq
    have n4 : (uI t3 17 (16 * rb + C) v3).2.1 16 (16 * rb + C) = v1 := (uI_k (by decide)).trans ((f3.c (by decide) (by simp)).trans w2)
    generalize uI t3 17 (16 * rb + C) v3 = t4 at m4 F4 w4 n4 ⊢
    refine ok_wm hz m4 (j := 10) (by decide) rfl hN (fun t5 m5 f5 => ?_)
    refine sm_gR m5.1 rfl ?_
    obtain ⟨t6, v6, e6, m6, f6, g6⟩ := numeral_eq (N := N) hz m5 (lo := 0) (hi := 24) (by decide) hN
    refine sm_rcv m5.1 (ok_rw e6 ?_)
    have m6 : MR z (rJ3 z nm P k 10 24) t6 := m6
    have f6 := f5.trans f6
    have F6 := F4.trans (f7 f6 fun i q => .inl ⟨rfl, q⟩)
    refine sm_sI m6.1 rfl rfl (by decide) (by omega) (by omega) ?_
    have m7 := m6.wI (k := 18) (i := 16 * rb + C) (v := v6) (by decide)
    have F7 : FA (fun k i => (k = 1 ∧ (i < 0 ∨ (4 ≤ i ∧ i ≤ 10))) ∨ (16 ≤ k ∧ k ≤ 18 ∧ i = 16 * rb + C)) σ (uI t6 18 (16 * rb + C) v6) := F6.wI (.inr ⟨by decide, by decide, rfl⟩)
    have w7 : (uI t6 18 (16 * rb + C) v6).2.1 18 (16 * rb + C) = v6 := uI_eq
    have n7 : ∀ d, d ≠ 1 → d ≠ 18 → (uI t6 18 (16 * rb + C) v6).2.1 d (16 * rb + C) = t4.2.1 d (16 * rb + C) := fun d d1 d2 => (uI_k d2).trans (f6.c d1 (by simp))
    generalize uI t6 18 (16 * rb + C) v6 = t7 at m7 F7 w7 n7 ⊢
    refine sm_gR m7.1 rfl ?_
    refine sm_gI m7.1 ?_
    rw [show fI t7 1 32 = rb from (F7.f (by omega)).trans hb0]
    refine sm_aI m7.1 rfl rfl (by decide) (by omega) (by omega) ?_
    rw [show t7.2.1 7 rb = C from (F7.c (by omega)).trans hC]
    refine sm_sI m7.1 rfl rfl (by decide) (by omega) (by omega) (ok_some ⟨rfl, (F7.mono fun k i q => by omega).wI (.inr (.inl ⟨rfl, rfl⟩)), m7.wI (by decide), uI_eq, fun k' hr3 => ?_⟩)
    obtain ⟨a2, r2, _, _⟩ := opN_al hr3
    obtain ⟨b2, s2, _, _⟩ := opX_al r2
    obtain ⟨a1, r1, _, _⟩ := opOld_al s2
    have eb : ∀ d, d ≠ 7 → (uI t7 7 rb (C + 1)).2.1 d (16 * rb + C) = t7.2.1 d (16 * rb + C) := fun d hd => uI_k hd
    dsimp only
    refine ⟨?_, ?_, ?_⟩
    · rw [eb 16 (by decide), n7 16 (by decide) (by decide), n4]
      exact (vr _ r1).1
    · rw [eb 17 (by decide), n7 17 (by decide) (by decide), w4]
      exact g3 _ s2
    · rw [eb 18 (by decide), w7]
      exact g6 _ hr3
  obtain ⟨⟨τ, v⟩, e, h1, h2⟩ := H
  dsimp only at h1 h2
  subst h1
  exact ⟨τ, e, h2⟩
/-- a TANK's line but for its end -/
theorem tankM {C k rb : Int} (hz : Str z) (h : MR z (.inr (nxt z k)) σ) (hb0 : fI σ 1 32 = rb) (hrb : rb = 0 ∨ rb = 1) (hC : σ.2.1 8 rb = C) (hc : 0 ≤ C ∧ C < 3) (hN : 2000 < N) : ∃ τ, f_X12_readTank N σ 1 = some (τ, 0) ∧ FA (fun k i => (k = 1 ∧ (i < 0 ∨ (4 ≤ i ∧ i ≤ 10))) ∨ (k = 8 ∧ i = rb) ∨ (19 ≤ k ∧ k ≤ 20 ∧ i = 3 * rb + C)) σ τ ∧ MR z (rT2 z k) τ ∧ τ.2.1 8 rb = C + 1 ∧ ∀ k', rT2 z k = .inr k' → τ.2.1 19 (3 * rb + C) = vT1 z k ∧ τ.2.1 20 (3 * rb + C) = vT2 z k := by
  have H : Ok (f_X12_readTank N σ 1) (fun q => q.2 = 0 ∧ FA (fun k i => (k = 1 ∧ (i < 0 ∨ (4 ≤ i ∧ i ≤ 10))) ∨ (k = 8 ∧ i = rb) ∨ (19 ≤ k ∧ k ≤ 20 ∧ i = 3 * rb + C)) σ q.1 ∧ MR z (rT2 z k) q.1 ∧ q.1.2.1 8 rb = C + 1 ∧ ∀ k', rT2 z k = .inr k' → q.1.2.1 19 (3 * rb + C) = vT1 z k ∧ q.1.2.1 20 (3 * rb + C) = vT2 z k) := by
    unfold f_X12_readTank
    refine sm_gI h.1 ?_
    refine sm_gR h.1 rfl ?_
    refine sm_gI h.1 ?_
    rw [hb0]
    refine sm_aI h.1 rfl rfl (by decide) (by omega) (by omega) ?_
    rw [hC]
    refine st_Lt ?_
    refine ok_wm hz h (j := 12) (by decide) rfl hN (fun t0 m0 f0 => ?_)
    refine sm_gR m0.1 rfl ?_
    obtain ⟨t1, v1, e1, m1, f1, g1⟩ := numeral_eq (N := N) hz m0 (lo := 0) (hi := 99) (by decide) hN
    refine sm_rcv m0.1 (ok_rw e1 ?_)
    have m1 : MR z (rT1 z k) t1 := m1
    have F1 : FA (fun k i => (k = 1 ∧ (i < 0 ∨ (4 ≤ i ∧ i ≤ 10))) ∨ (19 ≤ k ∧ k ≤ 20 ∧ i = 3 * rb + C)) σ t1 := f7 (f0.trans f1) fun i q => .inl ⟨rfl, q⟩
    refine sm_sI m1.1 rfl rfl (by decide) (by omega) (by omega) ?_
    have m2 := m1.wI (k := 19) (i := 3 * rb + C) (v := v1) (by decide)
    have F2 : FA (fun k i => (k = 1 ∧ (i < 0 ∨ (4 ≤ i ∧ i ≤ 10))) ∨ (19 ≤ k ∧ k ≤ 20 ∧ i = 3 * rb + C)) σ (uI t1 19 (3 * rb + C) v1) := F1.wI (.inr ⟨by decide, by decide, rfl⟩)
    have w2 : (uI t1 19 (3 * rb + C) v1).2.1 19 (3 * rb + C) = v1 := uI_eq
    generalize uI t1 19 (3 * rb + C) v1 = t4 at m2 F2 w2 ⊢
    refine ok_wm hz m2 (j := 13) (by decide) rfl hN (fun t5 m5 f5 => ?_)
    refine sm_gR m5.1 rfl ?_
    obtain ⟨t6, v6, e6, m6, f6, g6⟩ := numeral_eq (N := N) hz m5 (lo := 1) (hi := 15) (by decide) hN
    refine sm_rcv m5.1 (ok_rw e6 ?_)
    have m6 : MR z (rT2 z k) t6 := m6
    have f6 := f5.trans f6
    have F6 := F2.trans (f7 f6 fun i q => .inl ⟨rfl, q⟩)
    refine sm_sI m6.1 rfl rfl (by decide) (by omega) (by omega) ?_
    have m7 := m6.wI (k := 20) (i := 3 * rb + C) (v := v6) (by decide)
    have F7 : FA (fun k i => (k = 1 ∧ (i < 0 ∨ (4 ≤ i ∧ i ≤ 10))) ∨ (19 ≤ k ∧ k ≤ 20 ∧ i = 3 * rb + C)) σ (uI t6 20 (3 * rb + C) v6) := F6.wI (.inr ⟨by decide, by decide, rfl⟩)
    have w7 : (uI t6 20 (3 * rb + C) v6).2.1 20 (3 * rb + C) = v6 := uI_eq
    have n7 : ∀ d, d ≠ 1 → d ≠ 20 → (uI t6 20 (3 * rb + C) v6).2.1 d (3 * rb + C) = t4.2.1 d (3 * rb + C) := fun d d1 d2 => (uI_k d2).trans (f6.c d1 (by simp))
    generalize uI t6 20 (3 * rb + C) v6 = t7 at m7 F7 w7 n7 ⊢
    refine sm_gR m7.1 rfl ?_
    refine sm_gI m7.1 ?_
    rw [show fI t7 1 32 = rb from (F7.f (by omega)).trans hb0]
    refine sm_aI m7.1 rfl rfl (by decide) (by omega) (by omega) ?_
    rw [show t7.2.1 8 rb = C from (F7.c (by omega)).trans hC]
    refine sm_sI m7.1 rfl rfl (by decide) (by omega) (by omega) (ok_some ⟨rfl, (F7.mono fun k i q => by omega).wI (.inr (.inl ⟨rfl, rfl⟩)), m7.wI (by decide), uI_eq, fun k' hr3 => ?_⟩)
    obtain ⟨a2, r2, _, _⟩ := opN_al hr3
    obtain ⟨b2, s2, _, _⟩ := opX_al r2
    have eb : ∀ d, d ≠ 8 → (uI t7 8 rb (C + 1)).2.1 d (3 * rb + C) = t7.2.1 d (3 * rb + C) := fun d hd => uI_k hd
    dsimp only
    refine ⟨?_, ?_⟩
    · rw [eb 19 (by decide), n7 19 (by decide) (by decide), w2]
      exact g1 _ s2
    · rw [eb 20 (by decide), w7]
      exact g6 _ hr3
  obtain ⟨⟨τ, v⟩, e, h1, h2⟩ := H
  dsimp only at h1 h2
  subst h1
  exact ⟨τ, e, h2⟩
end F
