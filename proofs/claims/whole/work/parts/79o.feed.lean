/-! the pure part: FEED, a byte -/
theorem sh_a (x : Int32) : (x >>> (Int32.ofInt 0 &&& 31)).toBitVec = x.toBitVec.sshiftRight 0 ∧ (x >>> (Int32.ofInt 8 &&& 31)).toBitVec = x.toBitVec.sshiftRight 8 ∧ (x >>> (Int32.ofInt 16 &&& 31)).toBitVec = x.toBitVec.sshiftRight 16 ∧ (x >>> (Int32.ofInt 24 &&& 31)).toBitVec = x.toBitVec.sshiftRight 24 := ⟨rfl, rfl, rfl, rfl⟩
theorem sh_u (x : Int32) : ((x.toUInt32 >>> ((Int32.ofInt 0).toUInt32 &&& Int32.toUInt32 31)).toInt32).toBitVec = x.toBitVec >>> 0 ∧ ((x.toUInt32 >>> ((Int32.ofInt 8).toUInt32 &&& Int32.toUInt32 31)).toInt32).toBitVec = x.toBitVec >>> 8 ∧ ((x.toUInt32 >>> ((Int32.ofInt 16).toUInt32 &&& Int32.toUInt32 31)).toInt32).toBitVec = x.toBitVec >>> 16 ∧ ((x.toUInt32 >>> ((Int32.ofInt 24).toUInt32 &&& Int32.toUInt32 31)).toInt32).toBitVec = x.toBitVec >>> 24 := ⟨rfl, rfl, rfl, rfl⟩
theorem i2b_bv (x : Int32) : x.toInt8.toInt32.toBitVec = (x.toBitVec.signExtend 8).signExtend 32 := rfl
theorem low_a (b : BitVec 32) : ((b.signExtend 8).signExtend 32).toInt % 256 = b.toInt % 256 := by
  have e1 : ((b.signExtend 8).signExtend 32).toInt = (b.signExtend 8).toInt := BitVec.toInt_signExtend_of_le (by decide)
  have e2 : b.signExtend 8 = b.setWidth 8 := BitVec.signExtend_eq_setWidth_of_le b (by decide)
  have e3 : (b.setWidth 8).toNat = b.toNat % 256 := BitVec.toNat_setWidth ..
  have e4 := BitVec.toInt_eq_toNat_cond (b.setWidth 8)
  have e5 := BitVec.toInt_eq_toNat_cond b
  rw [e1, e2]
  rw [e4, e5]
  split <;> split <;> omega
theorem low_u (b : BitVec 32) : (b &&& 255#32).toInt = ((b.toNat % 256 : Nat) : Int) := by
  have e : (b &&& 255#32).toNat = b.toNat % 256 := by
    rw [BitVec.toNat_and]
    exact Nat.and_two_pow_sub_one_eq_mod b.toNat 8
  have e4 := BitVec.toInt_eq_toNat_cond (b &&& 255#32)
  rw [e4]
  split <;> omega
theorem byte_eq (a s : Int) (hs : s = 0 ∨ s = 8 ∨ s = 16 ∨ s = 24) : andZ (ushrZ a s) 255 = i2bZ (shrZ a s) % 256 := by
  have key : ∀ x y : Int32, x.toBitVec.toInt % 256 = ((y.toBitVec.toNat % 256 : Nat) : Int) → (Int32.ofInt y.toInt &&& Int32.ofInt 255).toInt = (Int32.ofInt x.toInt).toInt8.toInt32.toInt % 256 := fun x y h => by
    rw [Int32.ofInt_toInt, Int32.ofInt_toInt]
    have l : (y &&& Int32.ofInt 255).toInt = (y.toBitVec &&& 255#32).toInt := rfl
    have r : x.toInt8.toInt32.toInt = ((x.toBitVec.signExtend 8).signExtend 32).toInt := rfl
    rw [l, r, low_u, low_a, h]
  have sh : ∀ (b : BitVec 32) (n : Nat), (n = 0 ∨ n = 8 ∨ n = 16 ∨ n = 24) → (b.sshiftRight n).toInt % 256 = (((b >>> n).toNat % 256 : Nat) : Int) := fun b n hn => by
    rw [BitVec.toInt_sshiftRight, BitVec.toNat_ushiftRight, Int.shiftRight_eq_div_pow, Nat.shiftRight_eq_div_pow, BitVec.toInt_eq_toNat_cond]
    have := b.isLt
    rcases hn with rfl | rfl | rfl | rfl <;> split <;> omega
  unfold andZ ushrZ i2bZ shrZ
  generalize Int32.ofInt a = x
  rcases hs with rfl | rfl | rfl | rfl
  · refine key _ _ ?_
    rw [(sh_a x).1, (sh_u x).1]
    exact sh _ 0 (by decide)
  · refine key _ _ ?_
    rw [(sh_a x).2.1, (sh_u x).2.1]
    exact sh _ 8 (by decide)
  · refine key _ _ ?_
    rw [(sh_a x).2.2.1, (sh_u x).2.2.1]
    exact sh _ 16 (by decide)
  · refine key _ _ ?_
    rw [(sh_a x).2.2.2, (sh_u x).2.2.2]
    exact sh _ 24 (by decide)
