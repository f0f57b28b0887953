/-! the pure part: WORKS, the sums of sets -/
def Sg (w : Nat → Int) : Nat → (Nat → Bool) → Int
  | 0, _ => 0
  | k + 1, b => Sg w k b + (if b k = true then w k else 0)
def Ms : Nat → (Nat → Bool) → Nat
  | 0, _ => 0
  | k + 1, b => Ms k b + (if b k = true then 2 ^ k else 0)
def SubB (k : Nat) (t b : Nat → Bool) : Prop := ∀ i, i < k → t i = true → b i = true
def offb (b : Nat → Bool) (j : Nat) : Nat → Bool := fun i => if i = j then false else b i
theorem Sg_congr {w : Nat → Int} {b c : Nat → Bool} : ∀ k : Nat, (∀ i, i < k → b i = c i) → Sg w k b = Sg w k c
  | 0, _ => rfl
  | k + 1, h => by
    unfold Sg
    rw [Sg_congr k fun i hi => h i (by omega), h k (by omega)]
theorem Ms_congr {b c : Nat → Bool} : ∀ k : Nat, (∀ i, i < k → b i = c i) → Ms k b = Ms k c
  | 0, _ => rfl
  | k + 1, h => by
    unfold Ms
    rw [Ms_congr k fun i hi => h i (by omega), h k (by omega)]
theorem Ms_lt (b : Nat → Bool) : ∀ k : Nat, Ms k b < 2 ^ k
  | 0 => by unfold Ms; decide
  | k + 1 => by
    have := Ms_lt b k
    unfold Ms
    rw [Nat.pow_succ]
    split <;> omega
theorem Ms_bit (b : Nat → Bool) : ∀ k i : Nat, i < k → (Ms k b).testBit i = b i
  | 0, i, h => by omega
  | k + 1, i, h => by
    have lt := Ms_lt b k
    unfold Ms
    by_cases hi : i = k
    · subst hi
      by_cases hb : b i = true
      · rw [if_pos hb, Nat.add_comm, Nat.testBit_two_pow_add_eq, Nat.testBit_lt_two_pow lt, hb]; rfl
      · rw [if_neg hb, Nat.add_zero, Nat.testBit_lt_two_pow lt]; simp at hb; exact hb.symm
    · by_cases hb : b k = true
      · rw [if_pos hb, Nat.add_comm, Nat.testBit_two_pow_add_gt (by omega), Ms_bit b k i (by omega)]
      · rw [if_neg hb, Nat.add_zero, Ms_bit b k i (by omega)]
theorem Ms_of : ∀ k s : Nat, s < 2 ^ k → Ms k s.testBit = s
  | 0, s, h => by unfold Ms; simp at h; exact h.symm
  | k + 1, s, h => by
    unfold Ms
    by_cases hs : s < 2 ^ k
    · rw [Ms_of k s hs, if_neg (by rw [Nat.testBit_lt_two_pow hs]; decide)]; omega
    · rw [Nat.pow_succ] at h
      obtain ⟨u, rfl⟩ : ∃ u, s = 2 ^ k + u := ⟨s - 2 ^ k, by omega⟩
      have hu : u < 2 ^ k := by omega
      rw [Nat.testBit_two_pow_add_eq, Nat.testBit_lt_two_pow hu]
      rw [Ms_congr (c := u.testBit) k fun i hi => Nat.testBit_two_pow_add_gt hi u, Ms_of k u hu]
      simp
      omega
theorem Sg_nonneg {w : Nat → Int} (hw : ∀ i, 0 ≤ w i) (b : Nat → Bool) : ∀ k : Nat, 0 ≤ Sg w k b
  | 0 => Int.le_refl _
  | k + 1 => by
    have := Sg_nonneg hw b k
    have := hw k
    unfold Sg
    split <;> omega
theorem Sg_mono {w : Nat → Int} (hw : ∀ i, 0 ≤ w i) {t b : Nat → Bool} : ∀ k : Nat, SubB k t b → Sg w k t ≤ Sg w k b
  | 0, _ => Int.le_refl _
  | k + 1, h => by
    have h1 := Sg_mono hw k fun i hi => h i (by omega)
    have h2 := h k (by omega)
    have := hw k
    unfold Sg
    by_cases ht : t k = true
    · rw [if_pos ht, if_pos (h2 ht)]; omega
    · rw [if_neg ht]
      split <;> omega
theorem Sg_off {w : Nat → Int} {b : Nat → Bool} {j : Nat} (hb : b j = true) : ∀ k : Nat, j < k → Sg w k b = Sg w k (offb b j) + w j
  | 0, h => by omega
  | k + 1, h => by
    unfold Sg
    by_cases hj : j = k
    · subst hj
      rw [if_pos hb, Sg_congr (b := offb b j) (c := b) j fun i hi => by unfold offb; rw [if_neg (by omega)]]
      unfold offb
      rw [if_pos rfl, if_neg (by decide)]
      omega
    · rw [Sg_off hb k (by omega)]
      unfold offb
      rw [if_neg (show ¬ k = j by omega)]
      omega
theorem Ms_off {b : Nat → Bool} {j : Nat} (hb : b j = true) : ∀ k : Nat, j < k → Ms k b = Ms k (offb b j) + 2 ^ j
  | 0, h => by omega
  | k + 1, h => by
    unfold Ms
    by_cases hj : j = k
    · subst hj
      rw [if_pos hb, Ms_congr (b := offb b j) (c := b) j fun i hi => by unfold offb; rw [if_neg (by omega)]]
      unfold offb
      rw [if_pos rfl, if_neg (by decide)]
      omega
    · rw [Ms_off hb k (by omega)]
      unfold offb
      rw [if_neg (show ¬ k = j by omega)]
      omega
/-- the most of a set's sets within a room -/
def PM (w : Nat → Int) (k : Nat) (r : Int) (b : Nat → Bool) (M : Int) : Prop := (∃ t, SubB k t b ∧ Sg w k t ≤ r ∧ Sg w k t = M) ∧ ∀ t, SubB k t b → Sg w k t ≤ r → Sg w k t ≤ M
theorem PM.full {w : Nat → Int} (hw : ∀ i, 0 ≤ w i) {k : Nat} {r : Int} {b : Nat → Bool} (h : Sg w k b ≤ r) : PM w k r b (Sg w k b) := ⟨⟨b, fun _ _ h => h, h, rfl⟩, fun _ ht _ => Sg_mono hw k ht⟩
theorem Sg_zero (w : Nat → Int) : ∀ k : Nat, Sg w k (fun _ => false) = 0
  | 0 => rfl
  | k + 1 => by unfold Sg; rw [Sg_zero w k, if_neg Bool.false_ne_true]; rfl
/-- the most that two can make alone -/
def Mx2 (w : Nat → Int) (k : Nat) (r0 r1 M : Int) : Prop := (∃ s t, SubB k t (fun i => !s i) ∧ Sg w k s ≤ r0 ∧ Sg w k t ≤ r1 ∧ Sg w k s + Sg w k t = M) ∧ ∀ s t, SubB k t (fun i => !s i) → Sg w k s ≤ r0 → Sg w k t ≤ r1 → Sg w k s + Sg w k t ≤ M
theorem Mx2.uniq {w : Nat → Int} {k : Nat} {r0 r1 M M' : Int} (h : Mx2 w k r0 r1 M) (h' : Mx2 w k r0 r1 M') : M = M' := by
  obtain ⟨⟨s, t, a1, a2, a3, a4⟩, b⟩ := h
  obtain ⟨⟨s', t', a1', a2', a3', a4'⟩, b'⟩ := h'
  have := b s' t' a1' a2' a3'
  have := b' s t a1 a2 a3
  omega
set_option maxRecDepth 100000 in
theorem bit_and : ∀ s : Nat, s < 4096 → ∀ j : Nat, j < 12 → (andZ (s : Int) (shlZ 1 (j : Int)) = 0 ↔ s.testBit j = false) := by decide +kernel
theorem bit_shl : ∀ j : Nat, j < 12 → shlZ 1 (j : Int) = ((2 ^ j : Nat) : Int) := by decide
