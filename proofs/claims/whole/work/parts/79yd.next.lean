/-! the pure part: the reference goes to the next TOKEN -/
section F
variable {N : Nat} {σ τ υ : St} {A J : List Nat}
def TkM (T : Int → Int) (a kd w tk nu na : Int) : Prop := (kd = 102 ∧ tk = 0) ∨ (kd = 103 ∧ tk = 1) ∨ (kd = 100 ∧ tk = 2 ∧ Nm w na) ∨ ((0 ≤ kd ∧ kd ≤ 33) ∧ tk = 3 ∧ na = wB kd) ∨ (kd = 101 ∧ tk = 4 ∧ nu = w) ∨ (isSg kd ∧ tk = 5 ∧ T a = kd)
def MTx (T : Int → Int) (n : Int) (σ : St) : Prop := fI σ 1 3 = n ∧ (0 ≤ n ∧ n ≤ 1300) ∧ ∀ j : Int, 0 ≤ j → j < n → andZ (wb (σ.2.1 3 j)) 255 = T j ∧ 0 ≤ T j ∧ T j ≤ 255
theorem MTx.fm {T : Int → Int} {n : Int} (h : MTx T n σ) (f : FM A J σ τ) (h3 : 3 ∉ A) (j3 : 3 ∉ J) : MTx T n τ := ⟨(f.f j3).trans h.1, h.2.1, fun j x y => by rw [f.c (by decide) h3]; exact h.2.2 j x y⟩
def sgn (T : Int → Int) (n p : Int) : Int := if p < n then T p else 0
theorem MTx.sg {T : Int → Int} {n : Int} (h : MTx T n σ) {p : Int} (hp : 0 ≤ p) : 0 ≤ sgn T n p ∧ sgn T n p ≤ 255 := by
  unfold sgn
  split
  · rename_i c
    exact (h.2.2 p hp c).2
  · decide
section S
variable {α : Type} {Q : α → Prop} {T : Int → Int} {n : Int}
theorem ok_sign (hM : WMr σ.1 σ.2.2) (ht : MTx T n σ) {p : Int} (hp : 0 ≤ p ∧ p ≤ 9999) {f : St × Int → Option α} (h : Ok (f (σ, sgn T n p)) Q) : Ok (Option.bind (rcv shm σ 12 1 (f_X12_sign N σ 1 p)) f) Q := by
  have e := ht.1
  have r := ht.2.1
  refine sm_rcv hM (ok_bind ?_)
  unfold f_X12_sign
  unfold sgn at h
  refine sm_gI hM ?_
  rw [e]
  refine ok_wlt (by omega) (by omega) (fun c => ?_) (fun c => ?_)
  · refine sm_gR hM rfl ?_
    refine sm_aI hM rfl rfl (by decide) (by omega) (by omega) (ok_some ?_)
    rw [(ht.2.2 p (by omega) c).1]
    rw [if_pos c] at h
    exact h
  · rw [if_neg (by omega)] at h
    exact ok_some h
theorem om_ltr {c : Int} (hc : 0 ≤ c ∧ c ≤ 255) {f : St × Int → Option α} (h1 : isLt c → Ok (f (σ, 1)) Q) (h2 : ¬ isLt c → Ok (f (σ, 0)) Q) : Ok (Option.bind (f_X12_isLetter N σ c) f) Q := by
  refine ok_bind ?_
  unfold f_X12_isLetter
  unfold isLt at h1 h2
  refine ok_wlt (by omega) (by omega) (fun h => ok_some (h2 (by omega))) (fun h => ?_)
  refine ok_wlt (by omega) (by omega) (fun h => ok_some (h2 (by omega))) (fun h => ok_some (h1 (by omega)))
theorem om_dig {c : Int} (hc : 0 ≤ c ∧ c ≤ 255) {f : St × Int → Option α} (h1 : isDg c → Ok (f (σ, 1)) Q) (h2 : ¬ isDg c → Ok (f (σ, 0)) Q) : Ok (Option.bind (f_X12_isDigit N σ c) f) Q := by
  refine ok_bind ?_
  unfold f_X12_isDigit
  unfold isDg at h1 h2
  refine ok_wlt (by omega) (by omega) (fun h => ok_some (h2 (by omega))) (fun h => ?_)
  refine ok_wlt (by omega) (by omega) (fun h => ok_some (h2 (by omega))) (fun h => ok_some (h1 (by omega)))
theorem om_sg {c : Int} (hc : 0 ≤ c ∧ c ≤ 255) {f : St × Int → Option α} (h1 : isSg c → Ok (f (σ, 1)) Q) (h2 : ¬ isSg c → Ok (f (σ, 0)) Q) : Ok (Option.bind (f_X12_isSign N σ c) f) Q := by
  refine ok_bind ?_
  unfold f_X12_isSign
  unfold isSg at h1 h2
  refine ok_weq (by omega) (by omega) (fun h => ok_some (h1 (by omega))) (fun c0 => ?_)
  refine ok_weq (by omega) (by omega) (fun h => ok_some (h1 (by omega))) (fun c1 => ?_)
  refine ok_weq (by omega) (by omega) (fun h => ok_some (h1 (by omega))) (fun c2 => ?_)
  refine ok_weq (by omega) (by omega) (fun h => ok_some (h1 (by omega))) (fun c3 => ?_)
  refine ok_weq (by omega) (by omega) (fun h => ok_some (h1 (by omega))) (fun c4 => ?_)
  refine ok_weq (by omega) (by omega) (fun h => ok_some (h1 (by omega))) (fun c5 => ?_)
  refine ok_weq (by omega) (by omega) (fun h => ok_some (h1 (by omega))) (fun c6 => ?_)
  refine ok_weq (by omega) (by omega) (fun h => ok_some (h1 (by omega))) (fun c7 => ?_)
  refine ok_weq (by omega) (by omega) (fun h => ok_some (h1 (by omega))) (fun c8 => ?_)
  exact ok_some (h2 (by omega))
/-- is it an own word -/
theorem om_kept {na : Int} {f : St × Int → Option α} (h1 : (∃ j : Int, (0 ≤ j ∧ j ≤ 33) ∧ wl na = wl (wB j)) → Ok (f (σ, 1)) Q) (h2 : (∀ j : Int, 0 ≤ j → j ≤ 33 → wl na ≠ wl (wB j)) → Ok (f (σ, 0)) Q) : Ok (Option.bind (f_X12_isKept N σ na) f) Q := by
  refine ok_bind ?_
  unfold f_X12_isKept
  refine ok_JnC (fun t => (t = 1 ∧ ∃ j : Int, (0 ≤ j ∧ j ≤ 33) ∧ wl na = wl (wB j)) ∨ (t = 0 ∧ ∀ j : Int, 0 ≤ j → j ≤ 11 → wl na ≠ wl (wB j))) (fun t ht => ?_) (fun J hJ => ?_)
  · refine ok_JnC (fun u => (u = 1 ∧ ∃ j : Int, (0 ≤ j ∧ j ≤ 33) ∧ wl na = wl (wB j)) ∨ (u = 0 ∧ ∀ j : Int, 12 ≤ j → j ≤ 22 → wl na ≠ wl (wB j))) (fun u hu => ?_) (fun J2 hJ2 => ?_)
    · rcases ht with ⟨rfl, ht⟩ | ⟨rfl, ht⟩
      · exact ok_z1 (ok_some (h1 ht))
      refine ok_z0 ?_
      rcases hu with ⟨rfl, hu⟩ | ⟨rfl, hu⟩
      · exact ok_z1 (ok_some (h1 hu))
      refine ok_z0 ?_
      refine ok_ite (fun c => ok_some (h1 ⟨23, by decide, c⟩)) (fun c23 => ?_)
      refine ok_ite (fun c => ok_some (h1 ⟨24, by decide, c⟩)) (fun c24 => ?_)
      refine ok_ite (fun c => ok_some (h1 ⟨25, by decide, c⟩)) (fun c25 => ?_)
      refine ok_ite (fun c => ok_some (h1 ⟨26, by decide, c⟩)) (fun c26 => ?_)
      refine ok_ite (fun c => ok_some (h1 ⟨27, by decide, c⟩)) (fun c27 => ?_)
      refine ok_ite (fun c => ok_some (h1 ⟨28, by decide, c⟩)) (fun c28 => ?_)
      refine ok_ite (fun c => ok_some (h1 ⟨29, by decide, c⟩)) (fun c29 => ?_)
      refine ok_ite (fun c => ok_some (h1 ⟨30, by decide, c⟩)) (fun c30 => ?_)
      refine ok_ite (fun c => ok_some (h1 ⟨31, by decide, c⟩)) (fun c31 => ?_)
      refine ok_ite (fun c => ok_some (h1 ⟨32, by decide, c⟩)) (fun c32 => ?_)
      refine ok_ite (fun c => ok_some (h1 ⟨33, by decide, c⟩)) (fun c33 => ?_)
      refine ok_some (h2 fun j x y => ?_)
      by_cases k1 : j ≤ 11
      · exact ht j x k1
      by_cases k2 : j ≤ 22
      · exact hu j (by omega) k2
      have : j = 23 ∨ j = 24 ∨ j = 25 ∨ j = 26 ∨ j = 27 ∨ j = 28 ∨ j = 29 ∨ j = 30 ∨ j = 31 ∨ j = 32 ∨ j = 33 := by omega
      rcases this with rfl | rfl | rfl | rfl | rfl | rfl | rfl | rfl | rfl | rfl | rfl
      · exact c23
      · exact c24
      · exact c25
      · exact c26
      · exact c27
      · exact c28
      · exact c29
      · exact c30
      · exact c31
      · exact c32
      · exact c33
    · refine ok_JnC (fun _ => ∃ j : Int, (0 ≤ j ∧ j ≤ 33) ∧ wl na = wl (wB j)) (fun _ hu => hJ2 _ (.inl ⟨rfl, hu⟩)) (fun J3 hJ3 => ?_)
      refine ok_ite (fun c => hJ3 _ ⟨12, by decide, c⟩) (fun c12 => ?_)
      refine ok_ite (fun c => hJ3 _ ⟨13, by decide, c⟩) (fun c13 => ?_)
      refine ok_ite (fun c => hJ3 _ ⟨14, by decide, c⟩) (fun c14 => ?_)
      refine ok_ite (fun c => hJ3 _ ⟨15, by decide, c⟩) (fun c15 => ?_)
      refine ok_ite (fun c => hJ3 _ ⟨16, by decide, c⟩) (fun c16 => ?_)
      refine ok_ite (fun c => hJ3 _ ⟨17, by decide, c⟩) (fun c17 => ?_)
      refine ok_ite (fun c => hJ3 _ ⟨18, by decide, c⟩) (fun c18 => ?_)
      refine ok_ite (fun c => hJ3 _ ⟨19, by decide, c⟩) (fun c19 => ?_)
      refine ok_ite (fun c => hJ3 _ ⟨20, by decide, c⟩) (fun c20 => ?_)
      refine ok_ite (fun c => hJ3 _ ⟨21, by decide, c⟩) (fun c21 => ?_)
      refine ok_ite (fun c => hJ3 _ ⟨22, by decide, c⟩) (fun c22 => ?_)
      refine hJ2 _ (.inr ⟨rfl, fun j x y => ?_⟩)
      have : j = 12 ∨ j = 13 ∨ j = 14 ∨ j = 15 ∨ j = 16 ∨ j = 17 ∨ j = 18 ∨ j = 19 ∨ j = 20 ∨ j = 21 ∨ j = 22 := by omega
      rcases this with rfl | rfl | rfl | rfl | rfl | rfl | rfl | rfl | rfl | rfl | rfl
      · exact c12
      · exact c13
      · exact c14
      · exact c15
      · exact c16
      · exact c17
      · exact c18
      · exact c19
      · exact c20
      · exact c21
      · exact c22
  · refine ok_JnC (fun _ => ∃ j : Int, (0 ≤ j ∧ j ≤ 33) ∧ wl na = wl (wB j)) (fun _ hu => hJ _ (.inl ⟨rfl, hu⟩)) (fun J3 hJ3 => ?_)
    refine ok_ite (fun c => hJ3 _ ⟨0, by decide, c⟩) (fun c0 => ?_)
    refine ok_ite (fun c => hJ3 _ ⟨1, by decide, c⟩) (fun c1 => ?_)
    refine ok_ite (fun c => hJ3 _ ⟨2, by decide, c⟩) (fun c2 => ?_)
    refine ok_ite (fun c => hJ3 _ ⟨3, by decide, c⟩) (fun c3 => ?_)
    refine ok_ite (fun c => hJ3 _ ⟨4, by decide, c⟩) (fun c4 => ?_)
    refine ok_ite (fun c => hJ3 _ ⟨5, by decide, c⟩) (fun c5 => ?_)
    refine ok_ite (fun c => hJ3 _ ⟨6, by decide, c⟩) (fun c6 => ?_)
    refine ok_ite (fun c => hJ3 _ ⟨7, by decide, c⟩) (fun c7 => ?_)
    refine ok_ite (fun c => hJ3 _ ⟨8, by decide, c⟩) (fun c8 => ?_)
    refine ok_ite (fun c => hJ3 _ ⟨9, by decide, c⟩) (fun c9 => ?_)
    refine ok_ite (fun c => hJ3 _ ⟨10, by decide, c⟩) (fun c10 => ?_)
    refine ok_ite (fun c => hJ3 _ ⟨11, by decide, c⟩) (fun c11 => ?_)
    refine hJ _ (.inr ⟨rfl, fun j x y => ?_⟩)
    have : j = 0 ∨ j = 1 ∨ j = 2 ∨ j = 3 ∨ j = 4 ∨ j = 5 ∨ j = 6 ∨ j = 7 ∨ j = 8 ∨ j = 9 ∨ j = 10 ∨ j = 11 := by omega
    rcases this with rfl | rfl | rfl | rfl | rfl | rfl | rfl | rfl | rfl | rfl | rfl | rfl
    · exact c0
    · exact c1
    · exact c2
    · exact c3
    · exact c4
    · exact c5
    · exact c6
    · exact c7
    · exact c8
    · exact c9
    · exact c10
    · exact c11
end S
theorem lor_eq {x c : Int} (hx : 0 ≤ x ∧ x < 36028797018963968) (hc : 0 ≤ c ∧ c ≤ 255) : lorZ (lshlZ x 8) c = x * 256 + c := by
  have e1 : Int64.ofInt (lshlZ x 8) = Int64.ofInt x <<< ((Int32.ofInt 8).toInt64 &&& 63) := by unfold lshlZ; exact Int64.ofInt_toInt _
  unfold lorZ
  rw [e1]
  obtain ⟨X, rfl⟩ : ∃ X : Nat, x = (X : Int) := ⟨x.toNat, by omega⟩
  obtain ⟨C, rfl⟩ : ∃ C : Nat, c = (C : Int) := ⟨c.toNat, by omega⟩
  have b : (Int64.ofInt (X : Int) <<< ((Int32.ofInt 8).toInt64 &&& 63) ||| Int64.ofInt (C : Int)).toBitVec = (BitVec.ofInt 64 (X : Int) <<< 8) ||| BitVec.ofInt 64 (C : Int) := rfl
  have n : ((BitVec.ofInt 64 (X : Int) <<< 8) ||| BitVec.ofInt 64 (C : Int)).toNat = X * 256 + C := by
    rw [BitVec.toNat_or, BitVec.toNat_shiftLeft, BitVec.ofInt_natCast, BitVec.ofInt_natCast, BitVec.toNat_ofNat, BitVec.toNat_ofNat, Nat.mod_eq_of_lt (show X < 2 ^ 64 by omega), Nat.mod_eq_of_lt (show C < 2 ^ 64 by omega), Nat.mod_eq_of_lt (show X <<< 8 < 2 ^ 64 by rw [Nat.shiftLeft_eq]; omega), ← Nat.shiftLeft_add_eq_or_of_lt (show C < 2 ^ 8 by omega), Nat.shiftLeft_eq]
  have t := BitVec.toInt_eq_toNat_cond ((BitVec.ofInt 64 (X : Int) <<< 8) ||| BitVec.ofInt 64 (C : Int))
  show (Int64.ofInt (X : Int) <<< ((Int32.ofInt 8).toInt64 &&& 63) ||| Int64.ofInt (C : Int)).toBitVec.toInt = _
  rw [b, t, n]
  split <;> omega
end F
