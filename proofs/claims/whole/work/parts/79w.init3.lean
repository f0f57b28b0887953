/-! the pure part: the relation holds at first (2) -/
theorem init_R : ∃ (σ σm : St) (r r2 : Int), f_X11_init NN z1 1 = some (σ, r) ∧ f_X12_init NN z1 1 = some (σm, r2) ∧ InvR 8 0 tF 58 σ σm ∧ σ.2.2 1 ((2 : Nat) : Int) = 23 := by
  obtain ⟨⟨σ, r⟩, e, h⟩ := okB_of initX_3
  obtain ⟨⟨σm, r2⟩, e2, g⟩ := okB_of initM_3
  dsimp only at h g
  simp only [Bool.and_eq_true] at h g
  obtain ⟨⟨h1, h2⟩, ⟨⟨⟨⟨⟨⟨⟨⟨⟨⟨⟨⟨⟨⟨⟨h3, h4⟩, h5⟩, h6⟩, h7⟩, h8⟩, h9⟩, h10⟩, h11⟩, ⟨⟨h12, h13⟩, h14⟩⟩, ⟨h15, h16⟩⟩, ⟨⟨h17, h18⟩, h19⟩⟩, h20⟩, h21⟩, h22⟩, h23⟩, h24⟩ := h
  obtain ⟨⟨g1, g2⟩, ⟨⟨⟨⟨⟨g3, g4⟩, g5⟩, g6⟩, g7⟩, g8⟩, g9⟩ := g
  have hX : WXr σ.1 σ.2.2 := ⟨eq_of_beq h1, fun k j v q => by
    have lt := rxT_lt q
    have a := List.all_eq_true.mp h2 k (List.mem_range.mpr lt.1)
    have b := List.all_eq_true.mp a j (List.mem_range.mpr lt.2)
    rw [q] at b
    exact eq_of_beq b⟩
  have hM : WMr σm.1 σm.2.2 := ⟨eq_of_beq g1, fun j v q => by
    have b := List.all_eq_true.mp g2 j (List.mem_range.mpr (rmT_lt q))
    rw [q] at b
    exact eq_of_beq b⟩
  have s0 : ∀ j, j ∈ [2, 4, 31, 67, 68, 73, 81, 91, 92, 93] → fI σm 1 j = 0 := fun j q => eq_of_beq (List.all_eq_true.mp g3 j q)
  have m0 : ∀ j, j ∈ [0, 1, 7, 11, 15] → fI σ 8 j = 0 := fun j q => eq_of_beq (List.all_eq_true.mp h9 j q)
  have c0 : ∀ k, k ∈ [4, 5, 6, 7, 8] → σm.2.1 k 0 = 0 := fun k q => eq_of_beq (List.all_eq_true.mp g6 k q)
  have st0 : ∀ j, j ∈ [0, 1, 2, 3] → fI σ 108 j = 0 := fun j q => eq_of_beq (List.all_eq_true.mp h22 j q)
  have i2 := eq_of_beq h12
  have i12 := eq_of_beq h13
  have i13 := eq_of_beq h14
  have f0 := eq_of_beq h15
  have f1 := eq_of_beq h16
  have y0 := eq_of_beq h17
  have y1 := eq_of_beq h18
  have y2 := eq_of_beq h19
  have a0 := eq_of_beq h20
  have w1 := eq_of_beq h21
  have e5 := eq_of_beq g5
  have e74 := eq_of_beq g4
  refine ⟨σ, σm, r, r2, e, e2, ⟨⟨hX, hM⟩, ?_, ?_, ?_, ?_, ⟨?_, .inl y2⟩, ⟨?_, .inl (st0 3 (by decide))⟩, ?_, ?_, .inl w1⟩, eq_of_beq h4⟩
  · have z2 := s0 2 (by decide)
    have z4 := s0 4 (by decide)
    exact ⟨by omega, by omega, by omega, fun j x y => by omega, by omega, by omega, by omega, by omega, by omega, by omega⟩
  · have k0 := m0 0 (by decide)
    have k1 := m0 1 (by decide)
    have k7 := m0 7 (by decide)
    have k11 := m0 11 (by decide)
    have k15 := m0 15 (by decide)
    have q4 := c0 4 (by decide)
    have q5 := c0 5 (by decide)
    have q6 := c0 6 (by decide)
    have q7 := c0 7 (by decide)
    have q8 := c0 8 (by decide)
    refine ⟨.inl rfl, eq_of_beq h3, s0 31 (by decide), .inl rfl, ⟨⟨by omega, by omega, by omega⟩, ⟨by omega, by omega, by omega⟩, ⟨by omega, by omega, by omega⟩, ⟨by omega, by omega, by omega⟩, ⟨by omega, by omega, by omega⟩⟩, fun i x y => by omega, fun i x y => by omega, fun i x y => by omega, fun t x y => ⟨fun z => by omega, fun _ => ?_⟩, fun c x y => ?_⟩
    · have a := List.all_eq_true.mp h10 t.toNat (List.mem_range.mpr (by omega))
      rw [Bool.and_eq_true, show ((t.toNat : Nat) : Int) = t by omega] at a
      exact ⟨eq_of_beq a.1, eq_of_beq a.2⟩
    · have a := List.all_eq_true.mp h11 c.toNat (List.mem_range.mpr (by omega))
      have b := List.all_eq_true.mp g7 c.toNat (List.mem_range.mpr (by omega))
      rw [show ((c.toNat : Nat) : Int) = c by omega] at a b
      have a' : σ.2.1 (8 + 14) c = 0 := eq_of_beq a
      have b' := eq_of_beq b
      rw [show (64 : Int) * 0 + c = c by omega]
      omega
  · have z1 := s0 67 (by decide)
    have z2 := s0 68 (by decide)
    exact ⟨⟨by omega, by omega, by omega⟩, ⟨by omega, by omega, by omega⟩, fun f x y => by omega⟩
  · have z1 := s0 81 (by decide)
    exact ⟨by omega, by omega, by omega, fun f x y => by omega⟩
  · have z1 := s0 73 (by decide)
    exact ⟨⟨by omega, by omega, by omega⟩, ⟨by omega, by omega, by omega⟩, fun f x y => by omega⟩
  · have z1 := s0 91 (by decide)
    have z2 := s0 92 (by decide)
    have z3 := s0 93 (by decide)
    have t0 := st0 0 (by decide)
    have t1 := st0 1 (by decide)
    have t2 := st0 2 (by decide)
    exact ⟨⟨by omega, by omega, by omega⟩, ⟨by omega, by omega, by omega⟩, ⟨by omega, by omega, by omega⟩, fun f x y => by omega⟩
  · have tin : ∀ i : Int, 0 ≤ i → i < 3 → tF i ∈ [40, 46, 52] := fun i x y => by
      have : i = 0 ∨ i = 1 ∨ i = 2 := by omega
      rcases this with rfl | rfl | rfl <;> decide
    have tt : ∀ i : Int, 0 ≤ i → i < 3 → fI σ (tF i) 0 = 0 ∧ ∀ n : Int, 0 ≤ n → n < 4 → σ.2.1 (tF i + 2) n = -1 := fun i x y => by
      have a := List.all_eq_true.mp h23 (tF i) (tin i x y)
      rw [Bool.and_eq_true] at a
      refine ⟨eq_of_beq a.1, fun n p q => ?_⟩
      have b := List.all_eq_true.mp a.2 n.toNat (List.mem_range.mpr (by omega))
      rw [show ((n.toNat : Nat) : Int) = n by omega] at b
      exact eq_of_beq b
    refine ⟨⟨fun i x y => ?_, fun i x y => ?_⟩, fun i x y n p q => .inl ⟨(tt i x y).2 n p q, ?_⟩, ⟨.inr (.inr (.inr rfl)), eq_of_beq h5⟩, fun i x y => ?_, by decide, by decide, by decide⟩
    · have : i = 0 ∨ i = 1 ∨ i = 2 := by omega
      rcases this with rfl | rfl | rfl
      · exact ⟨.inl rfl, eq_of_beq h6⟩
      · exact ⟨.inr (.inl rfl), eq_of_beq h7⟩
      · exact ⟨.inr (.inr (.inl rfl)), eq_of_beq h8⟩
    · have a := List.all_eq_true.mp g8 i.toNat (List.mem_range.mpr (by omega))
      rw [show ((i.toNat : Nat) : Int) = i by omega] at a
      have a' := eq_of_beq a
      have b := (tt i x y).1
      omega
    · have a := List.all_eq_true.mp g9 (4 * i + n).toNat (List.mem_range.mpr (by omega))
      rw [show (((4 * i + n).toNat : Nat) : Int) = 4 * i + n by omega] at a
      have a' := eq_of_beq a
      rw [a']; rfl
    · have : i = 0 ∨ i = 1 ∨ i = 2 := by omega
      rcases this with rfl | rfl | rfl <;> decide
  · intro a b x y
    have u : ∀ j : Int, 0 ≤ j → j < 18 → σ.2.1 65 j = -2 := fun j p q => by
      have c := List.all_eq_true.mp h24 j.toNat (List.mem_range.mpr (by omega))
      rw [show ((j.toNat : Nat) : Int) = j by omega] at c
      exact eq_of_beq c
    exact ⟨.inl (u _ (by omega) (by omega)), .inl (u _ (by omega) (by omega))⟩
