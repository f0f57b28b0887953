/-! the pure part: rows told, and a word's letters -/
set_option maxRecDepth 100000 in
theorem told_bits : ∀ x : Nat, x < 256 → ∀ s : Nat, s < 8 → (0 ≤ orZ (x : Int) (shlZ 1 (s : Int)) ∧ orZ (x : Int) (shlZ 1 (s : Int)) < 256) ∧ ∀ r : Nat, r < 8 → andZ (shrZ (orZ (x : Int) (shlZ 1 (s : Int))) (r : Int)) 1 = if r = s then 1 else andZ (shrZ (x : Int) (r : Int)) 1 := by decide +kernel
theorem told_01 : ∀ x : Nat, x < 256 → ∀ r : Nat, r < 8 → andZ (shrZ (x : Int) (r : Int)) 1 = 0 ∨ andZ (shrZ (x : Int) (r : Int)) 1 = 1 := by decide +kernel
theorem told_0 : ∀ r : Nat, r < 8 → andZ (shrZ 0 (r : Int)) 1 = 0 := by decide +kernel
def ltr (w : Int) (x : Nat) : Int := (w / (32 : Int) ^ (7 - x)) % 32
theorem and31 {y : Int64} {Y : Nat} (h : y.toBitVec.toNat = Y) : (y &&& Int64.ofInt 31).toInt = ((Y % 32 : Nat) : Int) := by
  have l : (y &&& Int64.ofInt 31).toInt = (y.toBitVec &&& 31#64).toInt := rfl
  have e : (y.toBitVec &&& 31#64).toNat = Y % 32 := by
    rw [BitVec.toNat_and, h]
    exact Nat.and_two_pow_sub_one_eq_mod Y 5
  have e4 := BitVec.toInt_eq_toNat_cond (y.toBitVec &&& 31#64)
  rw [l, e4, e]
  split <;> omega
theorem sh64 (x : Int64) : (x >>> ((Int32.ofInt 35).toInt64 &&& 63)).toBitVec = x.toBitVec.sshiftRight 35 ∧ (x >>> ((Int32.ofInt 30).toInt64 &&& 63)).toBitVec = x.toBitVec.sshiftRight 30 ∧ (x >>> ((Int32.ofInt 25).toInt64 &&& 63)).toBitVec = x.toBitVec.sshiftRight 25 ∧ (x >>> ((Int32.ofInt 20).toInt64 &&& 63)).toBitVec = x.toBitVec.sshiftRight 20 ∧ (x >>> ((Int32.ofInt 15).toInt64 &&& 63)).toBitVec = x.toBitVec.sshiftRight 15 ∧ (x >>> ((Int32.ofInt 10).toInt64 &&& 63)).toBitVec = x.toBitVec.sshiftRight 10 ∧ (x >>> ((Int32.ofInt 5).toInt64 &&& 63)).toBitVec = x.toBitVec.sshiftRight 5 ∧ (x >>> ((Int32.ofInt 0).toInt64 &&& 63)).toBitVec = x.toBitVec.sshiftRight 0 := ⟨rfl, rfl, rfl, rfl, rfl, rfl, rfl, rfl⟩
theorem ltr_eq {w : Int} (hw : 0 ≤ w ∧ w < 1099511627776) {x : Nat} (hx : x < 8) : landZ (lshrZ w (5 * (7 - (x : Int)))) 31 = ltr w x := by
  obtain ⟨W, rfl⟩ : ∃ W : Nat, w = (W : Int) := ⟨w.toNat, by omega⟩
  have key : ∀ (s : Nat) (y : Int64), y.toBitVec = (Int64.ofInt (W : Int)).toBitVec.sshiftRight s → (Int64.ofInt y.toInt &&& Int64.ofInt 31).toInt = (((W >>> s) % 32 : Nat) : Int) := fun s y h => by
    rw [Int64.ofInt_toInt]
    refine and31 ?_
    have b : (Int64.ofInt (W : Int)).toBitVec = BitVec.ofNat 64 W := by
      show BitVec.ofInt 64 (W : Int) = _
      exact BitVec.ofInt_natCast ..
    have m : (BitVec.ofNat 64 W).msb = false := by
      rw [BitVec.msb_eq_decide, BitVec.toNat_ofNat, Nat.mod_eq_of_lt (by omega)]
      simp
      omega
    rw [h, b, BitVec.sshiftRight_eq_of_msb_false m, BitVec.toNat_ushiftRight, BitVec.toNat_ofNat, Nat.mod_eq_of_lt (by omega)]
  unfold landZ lshrZ ltr
  obtain ⟨s0, s1, s2, s3, s4, s5, s6, s7⟩ := sh64 (Int64.ofInt (W : Int))
  have : x = 0 ∨ x = 1 ∨ x = 2 ∨ x = 3 ∨ x = 4 ∨ x = 5 ∨ x = 6 ∨ x = 7 := by omega
  rcases this with rfl | rfl | rfl | rfl | rfl | rfl | rfl | rfl
  · refine (key 35 _ s0).trans ?_
    rw [Nat.shiftRight_eq_div_pow]; simp
  · refine (key 30 _ s1).trans ?_
    rw [Nat.shiftRight_eq_div_pow]; simp
  · refine (key 25 _ s2).trans ?_
    rw [Nat.shiftRight_eq_div_pow]; simp
  · refine (key 20 _ s3).trans ?_
    rw [Nat.shiftRight_eq_div_pow]; simp
  · refine (key 15 _ s4).trans ?_
    rw [Nat.shiftRight_eq_div_pow]; simp
  · refine (key 10 _ s5).trans ?_
    rw [Nat.shiftRight_eq_div_pow]; simp
  · refine (key 5 _ s6).trans ?_
    rw [Nat.shiftRight_eq_div_pow]; simp
  · refine (key 0 _ s7).trans ?_
    rw [Nat.shiftRight_eq_div_pow]; simp
/-- the letters of a packed word -/
theorem ltr_lt {T : Int → Int} {a : Int} {m : Nat} (h : Lts T a m) (hm : m ≤ 7) : ltr (pkA T a m) 0 = 0 := by
  have l := pkA_lo m h
  have u := pkA_hi m h
  unfold ltr
  have : m = 0 ∨ m = 1 ∨ m = 2 ∨ m = 3 ∨ m = 4 ∨ m = 5 ∨ m = 6 ∨ m = 7 := by omega
  rcases this with rfl | rfl | rfl | rfl | rfl | rfl | rfl | rfl <;> omega
theorem ltr_8 {T : Int → Int} {a : Int} (h : Lts T a 8) {x : Nat} (hx : x < 8) : ltr (pkA T a 8) x = T (a + (x : Int)) - 96 := by
  have h0 := h 0 (by decide)
  have h1 := h 1 (by decide)
  have h2 := h 2 (by decide)
  have h3 := h 3 (by decide)
  have h4 := h 4 (by decide)
  have h5 := h 5 (by decide)
  have h6 := h 6 (by decide)
  have h7 := h 7 (by decide)
  have e : pkA T a 8 = (((((((((0 * 32 + (T (a + ((0 : Nat) : Int)) - 96)) * 32 + (T (a + ((1 : Nat) : Int)) - 96)) * 32 + (T (a + ((2 : Nat) : Int)) - 96)) * 32 + (T (a + ((3 : Nat) : Int)) - 96)) * 32 + (T (a + ((4 : Nat) : Int)) - 96)) * 32 + (T (a + ((5 : Nat) : Int)) - 96)) * 32 + (T (a + ((6 : Nat) : Int)) - 96)) * 32 + (T (a + ((7 : Nat) : Int)) - 96))) := rfl
  rw [e]
  unfold ltr
  have : x = 0 ∨ x = 1 ∨ x = 2 ∨ x = 3 ∨ x = 4 ∨ x = 5 ∨ x = 6 ∨ x = 7 := by omega
  rcases this with rfl | rfl | rfl | rfl | rfl | rfl | rfl | rfl <;> omega
def gdB (w : Int) : Bool := decide (∀ x : Nat, x < 8 → 1 ≤ ltr w x ∧ ltr w x ≤ 8)
theorem gdB_iff {w : Int} : gdB w = true ↔ ∀ x : Nat, x < 8 → 1 ≤ ltr w x ∧ ltr w x ≤ 8 := by unfold gdB; exact decide_eq_true_iff
/-- a word of letters up to h -/
theorem gdB_word {T : Int → Int} {a : Int} {m : Nat} (h : Lts T a m) (hm : m ≤ 8) : gdB (pkA T a m) = true ↔ m = 8 ∧ ∀ x : Nat, x < m → T (a + (x : Int)) ≤ 104 := by
  rw [gdB_iff]
  constructor
  · intro g
    have m8 : m = 8 := by
      by_cases q : m ≤ 7
      · have := (g 0 (by decide)).1
        rw [ltr_lt h q] at this
        omega
      · omega
    subst m8
    refine ⟨rfl, fun x hx => ?_⟩
    have := (g x hx).2
    rw [ltr_8 h hx] at this
    omega
  · rintro ⟨rfl, g⟩ x hx
    rw [ltr_8 h hx]
    have := g x hx
    have := h x hx
    omega
