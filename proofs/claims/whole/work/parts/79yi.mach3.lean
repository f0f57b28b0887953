/-! the pure part: the lines of a machine, the class: JOINS, MOVES, TANKS -/
section F
variable {N : Nat} {σ τ υ : St} {z : Zs} {r : RS}
def rJ1 (z : Zs) (nm : Int → Int) (P k : Int) : RS := opOld z nm P (-1) (.inr (nxt z k))
def vA (z : Zs) (nm : Int → Int) (P k : Int) : Int := valO z nm P (.inr (nxt z k))
def rJ2 (z : Zs) (nm : Int → Int) (P k : Int) : RS := opOld z nm P (vA z nm P k) (rJ1 z nm P k)
def vB (z : Zs) (nm : Int → Int) (P k : Int) : Int := valO z nm P (rJ1 z nm P k)
def rJ3 (z : Zs) (nm : Int → Int) (P k w hi : Int) : RS := opN z 0 hi (opX z w (rJ2 z nm P k))
def vG (z : Zs) (nm : Int → Int) (P k w : Int) : Int := valN z (opX z w (rJ2 z nm P k))
def rJ4 (z : Zs) (nm : Int → Int) (P k w hi : Int) : RS := opX z 59 (rJ3 z nm P k w hi)
def rT1 (z : Zs) (k : Int) : RS := opN z 0 99 (opX z 12 (.inr (nxt z k)))
def vT1 (z : Zs) (k : Int) : Int := valN z (opX z 12 (.inr (nxt z k)))
def rT2 (z : Zs) (k : Int) : RS := opN z 1 15 (opX z 13 (rT1 z k))
def vT2 (z : Zs) (k : Int) : Int := valN z (opX z 13 (rT1 z k))
def rT3 (z : Zs) (k : Int) : RS := opX z 59 (rT2 z k)
/-- a JOIN's line -/
theorem joinX {m : Nat} {P C k : Int} {nm : Int → Int} (hz : Str z) (hm : isM m) (h : XR z (.inr k) σ) (hP : fI σ m 1 = P) (hr : 0 ≤ P ∧ P ≤ 12) (hn : ∀ i : Int, 0 ≤ i → i < P → σ.2.1 (m + 1) i = nm i) (hC : fI σ m 7 = C) (hc : 0 ≤ C ∧ C < 16) (hN : 100 < N) : ∃ τ, f_X3_readJoin N σ m 2 = some (τ, 0) ∧ FA (fun k i => k = 2 ∨ (m + 6 ≤ k ∧ k ≤ m + 8 ∧ i = C) ∨ (k = m ∧ i = 7)) σ τ ∧ XR z (rJ4 z nm P k 8 99) τ ∧ ∀ k', rJ4 z nm P k 8 99 = .inr k' → fI τ m 7 = C + 1 ∧ (τ.2.1 (m + 6) C = vA z nm P k ∧ 0 ≤ vA z nm P k ∧ vA z nm P k < P) ∧ (τ.2.1 (m + 7) C = vB z nm P k ∧ 0 ≤ vB z nm P k ∧ vB z nm P k < P) ∧ vA z nm P k ≠ vB z nm P k ∧ τ.2.1 (m + 8) C = vG z nm P k 8 ∧ 0 ≤ vG z nm P k 8 ∧ vG z nm P k 8 ≤ 99 := by
  have hml := isM_le hm
  have hX := h.1
  have H : Ok (f_X3_readJoin N σ m 2) (fun q => q.2 = 0 ∧ FA (fun k i => k = 2 ∨ (m + 6 ≤ k ∧ k ≤ m + 8 ∧ i = C) ∨ (k = m ∧ i = 7)) σ q.1 ∧ XR z (rJ4 z nm P k 8 99) q.1 ∧ ∀ k', rJ4 z nm P k 8 99 = .inr k' → fI q.1 m 7 = C + 1 ∧ (q.1.2.1 (m + 6) C = vA z nm P k ∧ 0 ≤ vA z nm P k ∧ vA z nm P k < P) ∧ (q.1.2.1 (m + 7) C = vB z nm P k ∧ 0 ≤ vB z nm P k ∧ vB z nm P k < P) ∧ vA z nm P k ≠ vB z nm P k ∧ q.1.2.1 (m + 8) C = vG z nm P k 8 ∧ 0 ≤ vG z nm P k 8 ∧ vG z nm P k 8 ≤ 99) := by
    unfold f_X3_readJoin
    refine mx_gI hX hm ?_
    rw [hC]
    refine ok_wlt (by omega) (by omega) (fun _ => ?_) (fun q => by omega)
    obtain ⟨t1, e1, x1, f1⟩ := adv_eq (N := N) hz h
    refine sx_rcv hX rfl rfl (ok_rw e1 ?_)
    have F1 : FA (fun k i => k = 2 ∨ (m + 6 ≤ k ∧ k ≤ m + 8 ∧ i = C)) σ t1 := f1.fa fun _ => .inl rfl
    have C1 : fI t1 m 7 = C := (F1.f (by omega)).trans hC
    have P1 : fI t1 m 1 = P := (F1.f (by omega)).trans hP
    refine mx_gR x1.1 hm rfl ?_
    refine mx_gI x1.1 hm ?_
    rw [C1]
    obtain ⟨t2, v2, e2, x2, f2, g2⟩ := oldX (N := N) (nm := nm) (b := -1) hz hm x1 P1 hr (fun i a b => (F1.c (by omega)).trans (hn i a b)) (fun _ _ => by omega) hN
    refine mx_rcv x1.1 hm (ok_rw e2 ?_)
    have F2 := F1.trans (f2.fa fun _ => .inl rfl)
    have x2 : XR z (rJ1 z nm P k) t2 := x2
    refine mx_sI x2.1 hm rfl (by decide) (by omega) (by omega) ?_
    have x3 : XR z (rJ1 z nm P k) (uI t2 (m + 6) C v2) := x2.wI (by omega)
    have F3 : FA (fun k i => k = 2 ∨ (m + 6 ≤ k ∧ k ≤ m + 8 ∧ i = C)) σ (uI t2 (m + 6) C v2) := F2.wI (by omega)
    have w3 : (uI t2 (m + 6) C v2).2.1 (m + 6) C = v2 := uI_eq
    generalize uI t2 (m + 6) C v2 = t3 at x3 F3 w3 ⊢
    have C3 : fI t3 m 7 = C := (F3.f (by omega)).trans hC
    have P3 : fI t3 m 1 = P := (F3.f (by omega)).trans hP
    refine mx_gR x3.1 hm rfl ?_
    refine mx_gI x3.1 hm ?_
    refine mx_gR x3.1 hm rfl ?_
    refine mx_gI x3.1 hm ?_
    rw [C3]
    refine mx_aI x3.1 hm rfl (by decide) (by omega) (by omega) ?_
    rw [w3]
    obtain ⟨t4, v4, e4, x4, f4, g4⟩ := oldX (N := N) (nm := nm) (b := v2) hz hm x3 P3 hr (fun i a b => (F3.c (by omega)).trans (hn i a b)) (fun k q => by have := (g2 k q).2.1; omega) hN
    refine mx_rcv x3.1 hm (ok_rw e4 ?_)
    have F4 := F3.trans (f4.fa fun _ => .inl rfl)
    have same : opOld z nm P v2 (rJ1 z nm P k) = rJ2 z nm P k := opOld_any fun k q => (g2 k q).1
    rw [same] at x4 g4
    refine mx_sI x4.1 hm rfl (by decide) (by omega) (by omega) ?_
    have x5 : XR z (rJ2 z nm P k) (uI t4 (m + 7) C v4) := x4.wI (by omega)
    have F5 : FA (fun k i => k = 2 ∨ (m + 6 ≤ k ∧ k ≤ m + 8 ∧ i = C)) σ (uI t4 (m + 7) C v4) := F4.wI (by omega)
    have w5 : (uI t4 (m + 7) C v4).2.1 (m + 7) C = v4 := uI_eq
    have n5 : (uI t4 (m + 7) C v4).2.1 (m + 6) C = v2 := (uI_k (by omega)).trans ((f4.c (by omega) (by simp)).trans w3)
    generalize uI t4 (m + 7) C v4 = t5 at x5 F5 w5 n5 ⊢
    have C5 : fI t5 m 7 = C := (F5.f (by omega)).trans hC
    refine mx_gR x5.1 hm rfl ?_
    refine mx_gI x5.1 hm ?_
    rw [C5]
    obtain ⟨t6, v6, e6, x6, f6, g6⟩ := behind_eq (N := N) hz x5 (w := 8) (lo := 0) (hi := 99) (by decide) (by decide)
    refine sx_rcv x5.1 rfl rfl (ok_rw e6 ?_)
    have F6 := F5.trans (f6.fa fun _ => .inl rfl)
    have x6 : XR z (rJ3 z nm P k 8 99) t6 := x6
    refine mx_sI x6.1 hm rfl (by decide) (by omega) (by omega) ?_
    have x7 : XR z (rJ3 z nm P k 8 99) (uI t6 (m + 8) C v6) := x6.wI (by omega)
    have F7 : FA (fun k i => k = 2 ∨ (m + 6 ≤ k ∧ k ≤ m + 8 ∧ i = C)) σ (uI t6 (m + 8) C v6) := F6.wI (by omega)
    have w7 : (uI t6 (m + 8) C v6).2.1 (m + 8) C = v6 := uI_eq
    have n7 : ∀ d, d ≤ m + 7 → d ≠ 2 → (uI t6 (m + 8) C v6).2.1 d C = t5.2.1 d C := fun d hd d2 => (uI_k (by omega)).trans (f6.c d2 (by simp))
    generalize uI t6 (m + 8) C v6 = t7 at x7 F7 w7 n7 ⊢
    obtain ⟨t8, e8, x8, f8⟩ := expect_eq (N := N) hz x7 (w := 59) (by decide)
    refine sx_rcv x7.1 rfl rfl (ok_rw e8 ?_)
    have x8 : XR z (rJ4 z nm P k 8 99) t8 := x8
    have F8 := F7.trans (f8.fa fun _ => .inl rfl)
    have n8 : ∀ d, d ≠ 2 → t8.2.1 d C = t7.2.1 d C := fun d d2 => f8.c d2 (by simp)
    have C8 : fI t8 m 7 = C := (F8.f (by omega)).trans hC
    refine sx_rcv x8.1 rfl rfl (ok_rw (sound_eq x8) ?_)
    have G8 : FA (fun k i => k = 2 ∨ (m + 6 ≤ k ∧ k ≤ m + 8 ∧ i = C) ∨ (k = m ∧ i = 7)) σ t8 := F8.mono fun k i q => by omega
    match hr4 : rJ4 z nm P k 8 99, x8 with
    | .inl d, x8 => exact ok_z0 (ok_some ⟨rfl, G8, x8, fun k' q => by cases q⟩)
    | .inr kk, x8 =>
      refine ok_z1 ?_
      refine mx_gI x8.1 hm ?_
      rw [C8]
      refine mx_pI x8.1 hm (ok_some ⟨rfl, G8.wF (.inr (.inr ⟨rfl, rfl⟩)), x8.wF (by omega), fun k' _ => ?_⟩)
      obtain ⟨a3, r3, _, _⟩ := opX_al hr4
      obtain ⟨b3, s3, _, u3, _⟩ := opN_al r3
      obtain ⟨a2, r2, _, _⟩ := opX_al s3
      obtain ⟨b2, s2, _, u2, _⟩ := opOld_al r2
      have q2 := g2 _ s2
      have q4 := g4 _ r2
      have q6 := g6 _ r3
      have eA : vA z nm P k = v2 := q2.1.symm
      have eB : vB z nm P k = v4 := q4.1.symm
      have eG : vG z nm P k 8 = v6 := q6.1.symm
      have cc : ∀ d : Nat, d ≠ 0 → (uF t8 m 7 (C + 1)).2.1 (m + d) C = t8.2.1 (m + d) C := fun d hd => uF_k (by omega)
      rw [eA, eB, eG]
      refine ⟨fI_eq, ⟨?_, q2.2.1⟩, ⟨?_, q4.2.1⟩, fun e => q4.2.2 e.symm, ?_, q6.2⟩
      · rw [cc 6 (by decide), n8 _ (by omega), n7 _ (by omega) (by omega), n5]
      · rw [cc 7 (by decide), n8 _ (by omega), n7 _ (by omega) (by omega), w5]
      · rw [cc 8 (by decide), n8 _ (by omega), w7]
  obtain ⟨⟨τ, v⟩, e, h1, h2⟩ := H
  dsimp only at h1 h2
  subst h1
  exact ⟨τ, e, h2⟩
/-- a MOVE's line -/
theorem movesX {m : Nat} {P C k : Int} {nm : Int → Int} (hz : Str z) (hm : isM m) (h : XR z (.inr k) σ) (hP : fI σ m 1 = P) (hr : 0 ≤ P ∧ P ≤ 12) (hn : ∀ i : Int, 0 ≤ i → i < P → σ.2.1 (m + 1) i = nm i) (hC : fI σ m 11 = C) (hc : 0 ≤ C ∧ C < 16) (hN : 100 < N) : ∃ τ, f_X3_readMoves N σ m 2 = some (τ, 0) ∧ FA (fun k i => k = 2 ∨ (m + 9 ≤ k ∧ k ≤ m + 11 ∧ i = C) ∨ (k = m ∧ i = 11)) σ τ ∧ XR z (rJ4 z nm P k 10 24) τ ∧ ∀ k', rJ4 z nm P k 10 24 = .inr k' → fI τ m 11 = C + 1 ∧ (τ.2.1 (m + 9) C = vA z nm P k ∧ 0 ≤ vA z nm P k ∧ vA z nm P k < P) ∧ (τ.2.1 (m + 10) C = vB z nm P k ∧ 0 ≤ vB z nm P k ∧ vB z nm P k < P) ∧ vA z nm P k ≠ vB z nm P k ∧ τ.2.1 (m + 11) C = vG z nm P k 10 ∧ 0 ≤ vG z nm P k 10 ∧ vG z nm P k 10 ≤ 24 := by
  have hml := isM_le hm
  have hX := h.1
  have H : Ok (f_X3_readMoves N σ m 2) (fun q => q.2 = 0 ∧ FA (fun k i => k = 2 ∨ (m + 9 ≤ k ∧ k ≤ m + 11 ∧ i = C) ∨ (k = m ∧ i = 11)) σ q.1 ∧ XR z (rJ4 z nm P k 10 24) q.1 ∧ ∀ k', rJ4 z nm P k 10 24 = .inr k' → fI q.1 m 11 = C + 1 ∧ (q.1.2.1 (m + 9) C = vA z nm P k ∧ 0 ≤ vA z nm P k ∧ vA z nm P k < P) ∧ (q.1.2.1 (m + 10) C = vB z nm P k ∧ 0 ≤ vB z nm P k ∧ vB z nm P k < P) ∧ vA z nm P k ≠ vB z nm P k ∧ q.1.2.1 (m + 11) C = vG z nm P k 10 ∧ 0 ≤ vG z nm P k 10 ∧ vG z nm P k 10 ≤ 24) := by
    unfold f_X3_readMoves
    refine mx_gI hX hm ?_
    rw [hC]
    refine ok_wlt (by omega) (by omega) (fun _ => ?_) (fun q => by omega)
    obtain ⟨t1, e1, x1, f1⟩ := adv_eq (N := N) hz h
    refine sx_rcv hX rfl rfl (ok_rw e1 ?_)
    have F1 : FA (fun k i => k = 2 ∨ (m + 9 ≤ k ∧ k ≤ m + 11 ∧ i = C)) σ t1 := f1.fa fun _ => .inl rfl
    have C1 : fI t1 m 11 = C := (F1.f (by omega)).trans hC
    have P1 : fI t1 m 1 = P := (F1.f (by omega)).trans hP
    refine mx_gR x1.1 hm rfl ?_
    refine mx_gI x1.1 hm ?_
    rw [C1]
    obtain ⟨t2, v2, e2, x2, f2, g2⟩ := oldX (N := N) (nm := nm) (b := -1) hz hm x1 P1 hr (fun i a b => (F1.c (by omega)).trans (hn i a b)) (fun _ _ => by omega) hN
    refine mx_rcv x1.1 hm (ok_rw e2 ?_)
    have F2 := F1.trans (f2.fa fun _ => .inl rfl)
    have x2 : XR z (rJ1 z nm P k) t2 := x2
    refine mx_sI x2.1 hm rfl (by decide) (by omega) (by omega) ?_
    have x3 : XR z (rJ1 z nm P k) (uI t2 (m + 9) C v2) := x2.wI (by omega)
    have F3 : FA (fun k i => k = 2 ∨ (m + 9 ≤ k ∧ k ≤ m + 11 ∧ i = C)) σ (uI t2 (m + 9) C v2) := F2.wI (by omega)
    have w3 : (uI t2 (m + 9) C v2).2.1 (m + 9) C = v2 := uI_eq
    generalize uI t2 (m + 9) C v2 = t3 at x3 F3 w3 ⊢
    have C3 : fI t3 m 11 = C := (F3.f (by omega)).trans hC
    have P3 : fI t3 m 1 = P := (F3.f (by omega)).trans hP
    refine mx_gR x3.1 hm rfl ?_
    refine mx_gI x3.1 hm ?_
    refine mx_gR x3.1 hm rfl ?_
    refine mx_gI x3.1 hm ?_
    rw [C3]
    refine mx_aI x3.1 hm rfl (by decide) (by omega) (by omega) ?_
    rw [w3]
    obtain ⟨t4, v4, e4, x4, f4, g4⟩ := oldX (N := N) (nm := nm) (b := v2) hz hm x3 P3 hr (fun i a b => (F3.c (by omega)).trans (hn i a b)) (fun k q => by have := (g2 k q).2.1; omega) hN
    refine mx_rcv x3.1 hm (ok_rw e4 ?_)
    have F4 := F3.trans (f4.fa fun _ => .inl rfl)
    have same : opOld z nm P v2 (rJ1 z nm P k) = rJ2 z nm P k := opOld_any fun k q => (g2 k q).1
    rw [same] at x4 g4
    refine mx_sI x4.1 hm rfl (by decide) (by omega) (by omega) ?_
    have x5 : XR z (rJ2 z nm P k) (uI t4 (m + 10) C v4) := x4.wI (by omega)
    have F5 : FA (fun k i => k = 2 ∨ (m + 9 ≤ k ∧ k ≤ m + 11 ∧ i = C)) σ (uI t4 (m + 10) C v4) := F4.wI (by omega)
    have w5 : (uI t4 (m + 10) C v4).2.1 (m + 10) C = v4 := uI_eq
    have n5 : (uI t4 (m + 10) C v4).2.1 (m + 9) C = v2 := (uI_k (by omega)).trans ((f4.c (by omega) (by simp)).trans w3)
    generalize uI t4 (m + 10) C v4 = t5 at x5 F5 w5 n5 ⊢
    have C5 : fI t5 m 11 = C := (F5.f (by omega)).trans hC
    refine mx_gR x5.1 hm rfl ?_
    refine mx_gI x5.1 hm ?_
    rw [C5]
    obtain ⟨t6, v6, e6, x6, f6, g6⟩ := behind_eq (N := N) hz x5 (w := 10) (lo := 0) (hi := 24) (by decide) (by decide)
    refine sx_rcv x5.1 rfl rfl (ok_rw e6 ?_)
    have F6 := F5.trans (f6.fa fun _ => .inl rfl)
    have x6 : XR z (rJ3 z nm P k 10 24) t6 := x6
    refine mx_sI x6.1 hm rfl (by decide) (by omega) (by omega) ?_
    have x7 : XR z (rJ3 z nm P k 10 24) (uI t6 (m + 11) C v6) := x6.wI (by omega)
    have F7 : FA (fun k i => k = 2 ∨ (m + 9 ≤ k ∧ k ≤ m + 11 ∧ i = C)) σ (uI t6 (m + 11) C v6) := F6.wI (by omega)
    have w7 : (uI t6 (m + 11) C v6).2.1 (m + 11) C = v6 := uI_eq
    have n7 : ∀ d, d ≤ m + 10 → d ≠ 2 → (uI t6 (m + 11) C v6).2.1 d C = t5.2.1 d C := fun d hd d2 => (uI_k (by omega)).trans (f6.c d2 (by simp))
    generalize uI t6 (m + 11) C v6 = t7 at x7 F7 w7 n7 ⊢
    obtain ⟨t8, e8, x8, f8⟩ := expect_eq (N := N) hz x7 (w := 59) (by decide)
    refine sx_rcv x7.1 rfl rfl (ok_rw e8 ?_)
    have x8 : XR z (rJ4 z nm P k 10 24) t8 := x8
    have F8 := F7.trans (f8.fa fun _ => .inl rfl)
    have n8 : ∀ d, d ≠ 2 → t8.2.1 d C = t7.2.1 d C := fun d d2 => f8.c d2 (by simp)
    have C8 : fI t8 m 11 = C := (F8.f (by omega)).trans hC
    refine sx_rcv x8.1 rfl rfl (ok_rw (sound_eq x8) ?_)
    have G8 : FA (fun k i => k = 2 ∨ (m + 9 ≤ k ∧ k ≤ m + 11 ∧ i = C) ∨ (k = m ∧ i = 11)) σ t8 := F8.mono fun k i q => by omega
    match hr4 : rJ4 z nm P k 10 24, x8 with
    | .inl d, x8 => exact ok_z0 (ok_some ⟨rfl, G8, x8, fun k' q => by cases q⟩)
    | .inr kk, x8 =>
      refine ok_z1 ?_
      refine mx_gI x8.1 hm ?_
      rw [C8]
      refine mx_pI x8.1 hm (ok_some ⟨rfl, G8.wF (.inr (.inr ⟨rfl, rfl⟩)), x8.wF (by omega), fun k' _ => ?_⟩)
      obtain ⟨a3, r3, _, _⟩ := opX_al hr4
      obtain ⟨b3, s3, _, u3, _⟩ := opN_al r3
      obtain ⟨a2, r2, _, _⟩ := opX_al s3
      obtain ⟨b2, s2, _, u2, _⟩ := opOld_al r2
      have q2 := g2 _ s2
      have q4 := g4 _ r2
      have q6 := g6 _ r3
      have eA : vA z nm P k = v2 := q2.1.symm
      have eB : vB z nm P k = v4 := q4.1.symm
      have eG : vG z nm P k 10 = v6 := q6.1.symm
      have cc : ∀ d : Nat, d ≠ 0 → (uF t8 m 11 (C + 1)).2.1 (m + d) C = t8.2.1 (m + d) C := fun d hd => uF_k (by omega)
      rw [eA, eB, eG]
      refine ⟨fI_eq, ⟨?_, q2.2.1⟩, ⟨?_, q4.2.1⟩, fun e => q4.2.2 e.symm, ?_, q6.2⟩
      · rw [cc 9 (by decide), n8 _ (by omega), n7 _ (by omega) (by omega), n5]
      · rw [cc 10 (by decide), n8 _ (by omega), n7 _ (by omega) (by omega), w5]
      · rw [cc 11 (by decide), n8 _ (by omega), w7]
  obtain ⟨⟨τ, v⟩, e, h1, h2⟩ := H
  dsimp only at h1 h2
  subst h1
  exact ⟨τ, e, h2⟩
/-- a TANK's line -/
theorem tankX {m : Nat} {C k : Int} (hz : Str z) (hm : isM m) (h : XR z (.inr k) σ) (hC : fI σ m 15 = C) (hc : 0 ≤ C ∧ C < 3) : ∃ τ, f_X3_readTank N σ m 2 = some (τ, 0) ∧ FA (fun k i => k = 2 ∨ (m + 12 ≤ k ∧ k ≤ m + 13 ∧ i = C) ∨ (k = m ∧ i = 15)) σ τ ∧ XR z (rT3 z k) τ ∧ ∀ k', rT3 z k = .inr k' → fI τ m 15 = C + 1 ∧ (τ.2.1 (m + 12) C = vT1 z k ∧ 0 ≤ vT1 z k ∧ vT1 z k ≤ 99) ∧ τ.2.1 (m + 13) C = vT2 z k ∧ 1 ≤ vT2 z k ∧ vT2 z k ≤ 15 := by
  have hml := isM_le hm
  have hX := h.1
  have H : Ok (f_X3_readTank N σ m 2) (fun q => q.2 = 0 ∧ FA (fun k i => k = 2 ∨ (m + 12 ≤ k ∧ k ≤ m + 13 ∧ i = C) ∨ (k = m ∧ i = 15)) σ q.1 ∧ XR z (rT3 z k) q.1 ∧ ∀ k', rT3 z k = .inr k' → fI q.1 m 15 = C + 1 ∧ (q.1.2.1 (m + 12) C = vT1 z k ∧ 0 ≤ vT1 z k ∧ vT1 z k ≤ 99) ∧ q.1.2.1 (m + 13) C = vT2 z k ∧ 1 ≤ vT2 z k ∧ vT2 z k ≤ 15) := by
    unfold f_X3_readTank
    refine mx_gI hX hm ?_
    rw [hC]
    refine ok_wlt (by omega) (by omega) (fun _ => ?_) (fun q => by omega)
    obtain ⟨t1, e1, x1, f1⟩ := adv_eq (N := N) hz h
    refine sx_rcv hX rfl rfl (ok_rw e1 ?_)
    have F1 : FA (fun k i => k = 2 ∨ (m + 12 ≤ k ∧ k ≤ m + 13 ∧ i = C)) σ t1 := f1.fa fun _ => .inl rfl
    have C1 : fI t1 m 15 = C := (F1.f (by omega)).trans hC
    refine mx_gR x1.1 hm rfl ?_
    refine mx_gI x1.1 hm ?_
    rw [C1]
    obtain ⟨t2, v2, e2, x2, f2, g2⟩ := behind_eq (N := N) hz x1 (w := 12) (lo := 0) (hi := 99) (by decide) (by decide)
    refine sx_rcv x1.1 rfl rfl (ok_rw e2 ?_)
    have F2 := F1.trans (f2.fa fun _ => .inl rfl)
    have x2 : XR z (rT1 z k) t2 := x2
    refine mx_sI x2.1 hm rfl (by decide) (by omega) (by omega) ?_
    have x3 : XR z (rT1 z k) (uI t2 (m + 12) C v2) := x2.wI (by omega)
    have F3 : FA (fun k i => k = 2 ∨ (m + 12 ≤ k ∧ k ≤ m + 13 ∧ i = C)) σ (uI t2 (m + 12) C v2) := F2.wI (by omega)
    have w3 : (uI t2 (m + 12) C v2).2.1 (m + 12) C = v2 := uI_eq
    generalize uI t2 (m + 12) C v2 = t3 at x3 F3 w3 ⊢
    have C3 : fI t3 m 15 = C := (F3.f (by omega)).trans hC
    refine mx_gR x3.1 hm rfl ?_
    refine mx_gI x3.1 hm ?_
    rw [C3]
    obtain ⟨t6, v6, e6, x6, f6, g6⟩ := behind_eq (N := N) hz x3 (w := 13) (lo := 1) (hi := 15) (by decide) (by decide)
    refine sx_rcv x3.1 rfl rfl (ok_rw e6 ?_)
    have F6 := F3.trans (f6.fa fun _ => .inl rfl)
    have x6 : XR z (rT2 z k) t6 := x6
    refine mx_sI x6.1 hm rfl (by decide) (by omega) (by omega) ?_
    have x7 : XR z (rT2 z k) (uI t6 (m + 13) C v6) := x6.wI (by omega)
    have F7 : FA (fun k i => k = 2 ∨ (m + 12 ≤ k ∧ k ≤ m + 13 ∧ i = C)) σ (uI t6 (m + 13) C v6) := F6.wI (by omega)
    have w7 : (uI t6 (m + 13) C v6).2.1 (m + 13) C = v6 := uI_eq
    have n7 : (uI t6 (m + 13) C v6).2.1 (m + 12) C = v2 := (uI_k (by omega)).trans ((f6.c (by omega) (by simp)).trans w3)
    generalize uI t6 (m + 13) C v6 = t7 at x7 F7 w7 n7 ⊢
    obtain ⟨t8, e8, x8, f8⟩ := expect_eq (N := N) hz x7 (w := 59) (by decide)
    refine sx_rcv x7.1 rfl rfl (ok_rw e8 ?_)
    have x8 : XR z (rT3 z k) t8 := x8
    have F8 := F7.trans (f8.fa fun _ => .inl rfl)
    have n8 : ∀ d, d ≠ 2 → t8.2.1 d C = t7.2.1 d C := fun d d2 => f8.c d2 (by simp)
    have C8 : fI t8 m 15 = C := (F8.f (by omega)).trans hC
    refine sx_rcv x8.1 rfl rfl (ok_rw (sound_eq x8) ?_)
    have G8 : FA (fun k i => k = 2 ∨ (m + 12 ≤ k ∧ k ≤ m + 13 ∧ i = C) ∨ (k = m ∧ i = 15)) σ t8 := F8.mono fun k i q => by omega
    match hr4 : rT3 z k, x8 with
    | .inl d, x8 => exact ok_z0 (ok_some ⟨rfl, G8, x8, fun k' q => by cases q⟩)
    | .inr kk, x8 =>
      refine ok_z1 ?_
      refine mx_gI x8.1 hm ?_
      rw [C8]
      refine mx_pI x8.1 hm (ok_some ⟨rfl, G8.wF (.inr (.inr ⟨rfl, rfl⟩)), x8.wF (by omega), fun k' _ => ?_⟩)
      obtain ⟨a3, r3, _, _⟩ := opX_al hr4
      obtain ⟨b3, s3, _, u3, _⟩ := opN_al r3
      obtain ⟨a2, r2, _, _⟩ := opX_al s3
      have q2 := g2 _ r2
      have q6 := g6 _ r3
      have e1 : vT1 z k = v2 := q2.1.symm
      have e2 : vT2 z k = v6 := q6.1.symm
      have cc : ∀ d : Nat, d ≠ 0 → (uF t8 m 15 (C + 1)).2.1 (m + d) C = t8.2.1 (m + d) C := fun d hd => uF_k (by omega)
      rw [e1, e2]
      refine ⟨fI_eq, ⟨?_, q2.2⟩, ?_, q6.2⟩
      · rw [cc 12 (by decide), n8 _ (by omega), n7]
      · rw [cc 13 (by decide), n8 _ (by omega), w7]
  obtain ⟨⟨τ, v⟩, e, h1, h2⟩ := H
  dsimp only at h1 h2
  subst h1
  exact ⟨τ, e, h2⟩
end F
