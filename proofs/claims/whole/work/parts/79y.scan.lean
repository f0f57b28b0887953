/-! the pure part: the TOKENS of a text -/
def isLt (c : Int) : Prop := 97 ≤ c ∧ c ≤ 122
def isDg (c : Int) : Prop := 48 ≤ c ∧ c ≤ 57
def isBl (c : Int) : Prop := c = 32 ∨ c = 10
def isSg (c : Int) : Prop := c = 59 ∨ c = 40 ∨ c = 41 ∨ c = 60 ∨ c = 62 ∨ c = 61 ∨ c = 43 ∨ c = 45 ∨ c = 42
/-- letters packed, the class's way and the reference's; digits -/
def pkA (T : Int → Int) (a : Int) : Nat → Int
  | 0 => 0
  | m + 1 => pkA T a m * 32 + (T (a + (m : Int)) - 96)
def pkB (T : Int → Int) (a : Int) : Nat → Int
  | 0 => 0
  | m + 1 => pkB T a m * 256 + T (a + (m : Int))
def pkD (T : Int → Int) (a : Int) : Nat → Int
  | 0 => 0
  | m + 1 => pkD T a m * 10 + (T (a + (m : Int)) - 48)
theorem pkA_congr {T T' : Int → Int} {a a' : Int} : ∀ m : Nat, (∀ j : Nat, j < m → T (a + (j : Int)) = T' (a' + (j : Int))) → pkA T a m = pkA T' a' m
  | 0, _ => rfl
  | m + 1, h => by
    show pkA T a m * 32 + (T (a + (m : Int)) - 96) = pkA T' a' m * 32 + (T' (a' + (m : Int)) - 96)
    rw [pkA_congr m fun j hj => h j (by omega), h m (by omega)]
theorem pkB_congr {T T' : Int → Int} {a a' : Int} : ∀ m : Nat, (∀ j : Nat, j < m → T (a + (j : Int)) = T' (a' + (j : Int))) → pkB T a m = pkB T' a' m
  | 0, _ => rfl
  | m + 1, h => by
    show pkB T a m * 256 + T (a + (m : Int)) = pkB T' a' m * 256 + T' (a' + (m : Int))
    rw [pkB_congr m fun j hj => h j (by omega), h m (by omega)]
abbrev Lts (T : Int → Int) (a : Int) (m : Nat) : Prop := ∀ j : Nat, j < m → 97 ≤ T (a + (j : Int)) ∧ T (a + (j : Int)) ≤ 122
theorem pkA_inj {T T' : Int → Int} {a a' : Int} : ∀ m m' : Nat, Lts T a m → Lts T' a' m' → pkA T a m = pkA T' a' m' → m = m' ∧ ∀ j : Nat, j < m → T (a + (j : Int)) = T' (a' + (j : Int))
  | 0, 0, _, _, _ => ⟨rfl, fun j hj => by omega⟩
  | 0, m' + 1, _, h', e => by
    have e : (0 : Int) = pkA T' a' m' * 32 + (T' (a' + (m' : Int)) - 96) := e
    have := h' m' (by omega)
    omega
  | m + 1, 0, h, _, e => by
    have e : pkA T a m * 32 + (T (a + (m : Int)) - 96) = 0 := e
    have := h m (by omega)
    omega
  | m + 1, m' + 1, h, h', e => by
    have e : pkA T a m * 32 + (T (a + (m : Int)) - 96) = pkA T' a' m' * 32 + (T' (a' + (m' : Int)) - 96) := e
    have q := h m (by omega)
    have q' := h' m' (by omega)
    obtain ⟨e1, e2⟩ := pkA_inj m m' (fun j hj => h j (by omega)) (fun j hj => h' j (by omega)) (by omega)
    subst e1
    refine ⟨rfl, fun j hj => ?_⟩
    by_cases k : j = m
    · subst k; omega
    · exact e2 j (by omega)
theorem pkB_inj {T T' : Int → Int} {a a' : Int} : ∀ m m' : Nat, Lts T a m → Lts T' a' m' → pkB T a m = pkB T' a' m' → m = m' ∧ ∀ j : Nat, j < m → T (a + (j : Int)) = T' (a' + (j : Int))
  | 0, 0, _, _, _ => ⟨rfl, fun j hj => by omega⟩
  | 0, m' + 1, _, h', e => by
    have e : (0 : Int) = pkB T' a' m' * 256 + T' (a' + (m' : Int)) := e
    have := h' m' (by omega)
    omega
  | m + 1, 0, h, _, e => by
    have e : pkB T a m * 256 + T (a + (m : Int)) = 0 := e
    have := h m (by omega)
    omega
  | m + 1, m' + 1, h, h', e => by
    have e : pkB T a m * 256 + T (a + (m : Int)) = pkB T' a' m' * 256 + T' (a' + (m' : Int)) := e
    have q := h m (by omega)
    have q' := h' m' (by omega)
    obtain ⟨e1, e2⟩ := pkB_inj m m' (fun j hj => h j (by omega)) (fun j hj => h' j (by omega)) (by omega)
    subst e1
    refine ⟨rfl, fun j hj => ?_⟩
    by_cases k : j = m
    · subst k; omega
    · exact e2 j (by omega)
theorem pkA_lo {T : Int → Int} {a : Int} : ∀ m : Nat, Lts T a m → 0 ≤ pkA T a m
  | 0, _ => Int.le_refl _
  | m + 1, h => by
    have := pkA_lo m fun j hj => h j (by omega)
    have := h m (by omega)
    show 0 ≤ pkA T a m * 32 + (T (a + (m : Int)) - 96)
    omega
theorem pkA_hi {T : Int → Int} {a : Int} : ∀ m : Nat, Lts T a m → pkA T a m < (32 : Int) ^ m
  | 0, _ => by show (0 : Int) < 1; decide
  | m + 1, h => by
    have := pkA_hi m fun j hj => h j (by omega)
    have := h m (by omega)
    show pkA T a m * 32 + (T (a + (m : Int)) - 96) < (32 : Int) ^ (m + 1)
    rw [Int.pow_succ]
    omega
theorem pkB_lo {T : Int → Int} {a : Int} : ∀ m : Nat, Lts T a m → 0 ≤ pkB T a m
  | 0, _ => Int.le_refl _
  | m + 1, h => by
    have := pkB_lo m fun j hj => h j (by omega)
    have := h m (by omega)
    show 0 ≤ pkB T a m * 256 + T (a + (m : Int))
    omega
theorem pkB_hi {T : Int → Int} {a : Int} : ∀ m : Nat, Lts T a m → pkB T a m * 255 ≤ 122 * ((256 : Int) ^ m - 1)
  | 0, _ => by show (0 : Int) * 255 ≤ 122 * (1 - 1); decide
  | m + 1, h => by
    have := pkB_hi m fun j hj => h j (by omega)
    have := h m (by omega)
    show (pkB T a m * 256 + T (a + (m : Int))) * 255 ≤ 122 * ((256 : Int) ^ (m + 1) - 1)
    rw [Int.pow_succ]
    omega
theorem pkA_rg {T : Int → Int} {a : Int} {m : Nat} (h : Lts T a m) (hm : m ≤ 8) : 0 ≤ pkA T a m ∧ pkA T a m < 1099511627776 := by
  refine ⟨pkA_lo m h, ?_⟩
  have := pkA_hi m h
  have : m = 0 ∨ m = 1 ∨ m = 2 ∨ m = 3 ∨ m = 4 ∨ m = 5 ∨ m = 6 ∨ m = 7 ∨ m = 8 := by omega
  rcases this with rfl | rfl | rfl | rfl | rfl | rfl | rfl | rfl | rfl <;> omega
theorem pkB_rg {T : Int → Int} {a : Int} {m : Nat} (h : Lts T a m) (hm : m ≤ 8) : 0 ≤ pkB T a m ∧ pkB T a m < 9223372036854775808 ∧ (m ≤ 7 → pkB T a m < 36028797018963968) := by
  refine ⟨pkB_lo m h, ?_⟩
  have := pkB_hi m h
  have : m = 0 ∨ m = 1 ∨ m = 2 ∨ m = 3 ∨ m = 4 ∨ m = 5 ∨ m = 6 ∨ m = 7 ∨ m = 8 := by omega
  rcases this with rfl | rfl | rfl | rfl | rfl | rfl | rfl | rfl | rfl <;> omega
theorem pkD_rg {T : Int → Int} {a : Int} {m : Nat} (h : ∀ j : Nat, j < m → 48 ≤ T (a + (j : Int)) ∧ T (a + (j : Int)) ≤ 57) (hm : m ≤ 4) : 0 ≤ pkD T a m ∧ pkD T a m ≤ 9999 := by
  have g : m = 0 ∨ m = 1 ∨ m = 2 ∨ m = 3 ∨ m = 4 := by omega
  have h0 := h 0
  have h1 := h 1
  have h2 := h 2
  have h3 := h 3
  rcases g with rfl | rfl | rfl | rfl | rfl
  · exact ⟨Int.le_refl _, by show (0 : Int) ≤ 9999; decide⟩
  all_goals
    simp only [pkD]
    omega
/-- the own words, packed both ways -/
def wL : List (List Int) := [[112, 97, 114, 116], [98, 121], [108, 111, 110, 103], [99, 109], [105, 110, 99, 104], [103, 114, 111, 119, 115], [99, 111, 115, 116, 115], [106, 111, 105, 110], [103, 97, 112], [109, 111, 118, 101, 115], [97, 102, 116, 101, 114], [116, 97, 110, 107], [97, 116], [104, 111, 108, 100, 115], [114, 111, 119], [115, 104, 97, 114, 101], [108, 101, 97, 118, 101], [102, 108, 121], [107, 101, 101, 112], [119, 104, 101, 110], [97, 110, 100], [111, 114], [110, 111, 116], [108, 97, 110, 100], [99, 111, 115, 116], [109, 111, 110, 116, 104], [111, 118, 101, 114], [103, 114, 111, 117, 110, 100], [104, 111, 117, 114], [115, 112, 101, 101, 100], [97, 105, 114, 108, 105, 110, 101], [115, 104, 111, 119, 110], [111, 116, 104, 101, 114, 115], [112, 114, 105, 99, 101]]
def wAL : List Int := [525908, 89, 409031, 109, 309352, 7945971, 3657363, 343342, 7216, 14145715, 1265842, 656843, 52, 8892563, 18935, 20186693, 12748485, 6553, 365744, 762030, 1476, 498, 14836, 394692, 114292, 14137992, 514226, 254268868, 278194, 20452516, 1395008965, 20201198, 524555859, 17376357]
def wBL : List Int := [1885434484, 25209, 1819242087, 25453, 1768842088, 444301539187, 427071599731, 1785686382, 6775152, 470021465459, 418330731890, 1952542315, 24948, 448545973363, 7499639, 495672455781, 465557354085, 6712441, 1801807216, 2003330414, 6385252, 28530, 7237492, 1818324580, 1668248436, 470020945000, 1870030194, 113741193899620, 1752135026, 495806932324, 27419012906970725, 495673374574, 122545758368371, 482955846501]
def wA (j : Int) : Int := wAL.getD j.toNat 0
def wB (j : Int) : Int := wBL.getD j.toNat 0
def wT (j : Nat) (i : Int) : Int := (wL.getD j []).getD i.toNat 0
theorem wAB_ok : ∀ j : Nat, j < 34 → (pkA (wT j) 0 (wL.getD j []).length = wA j ∧ pkB (wT j) 0 (wL.getD j []).length = wB j) ∧ (wL.getD j []).length ≤ 8 ∧ ∀ i : Nat, i < (wL.getD j []).length → 97 ≤ wT j (0 + (i : Int)) ∧ wT j (0 + (i : Int)) ≤ 122 := by decide
theorem wA_inj0 : ∀ i : Nat, i < 34 → ∀ j : Nat, j < 34 → wA i = wA j → i = j := by decide
theorem wA_inj {i j : Int} (hi : 0 ≤ i ∧ i ≤ 33) (hj : 0 ≤ j ∧ j ≤ 33) (e : wA i = wA j) : i = j := by
  have := wA_inj0 i.toNat (by omega) j.toNat (by omega)
  rw [show ((i.toNat : Nat) : Int) = i by omega, show ((j.toNat : Nat) : Int) = j by omega] at this
  have := this e
  omega
/-- one word, packed both ways -/
def Nm (w na : Int) : Prop := ∃ (T : Int → Int) (a : Int) (m : Nat), m ≤ 8 ∧ Lts T a m ∧ w = pkA T a m ∧ na = pkB T a m
theorem Nm.inj {w na w' na' : Int} (h : Nm w na) (h' : Nm w' na') : w = w' ↔ na = na' := by
  obtain ⟨T, a, m, _, l, rfl, rfl⟩ := h
  obtain ⟨T', a', m', _, l', rfl, rfl⟩ := h'
  constructor
  · intro e
    obtain ⟨rfl, q⟩ := pkA_inj m m' l l' e
    exact pkB_congr m q
  · intro e
    obtain ⟨rfl, q⟩ := pkB_inj m m' l l' e
    exact pkA_congr m q
theorem Nm.rg {w na : Int} (h : Nm w na) : (0 ≤ w ∧ w < 1099511627776) ∧ 0 ≤ na ∧ na < 9223372036854775808 := by
  obtain ⟨T, a, m, hm, l, rfl, rfl⟩ := h
  exact ⟨pkA_rg l hm, (pkB_rg l hm).1, (pkB_rg l hm).2.1⟩
theorem Nm.wlx {w na w' na' : Int} (h : Nm w na) (h' : Nm w' na') : wl na = wl na' ↔ w = w' := by
  have r := h.rg
  have r' := h'.rg
  rw [wl_id (by omega) (by omega), wl_id (by omega) (by omega)]
  exact (h.inj h').symm
theorem Nm.own {j : Int} (h : 0 ≤ j ∧ j ≤ 33) : Nm (wA j) (wB j) := by
  obtain ⟨⟨e1, e2⟩, e3, e4⟩ := wAB_ok j.toNat (by omega)
  rw [show ((j.toNat : Nat) : Int) = j by omega] at e1 e2
  exact ⟨wT j.toNat, 0, _, e3, e4, e1.symm, e2.symm⟩
/-- the kind of a word -/
def KW (w kd : Int) : Prop := (0 ≤ kd ∧ kd ≤ 33 ∧ w = wA kd) ∨ (kd = 100 ∧ ∀ j : Int, 0 ≤ j → j ≤ 33 → w ≠ wA j)
theorem KW.uni {w k k' : Int} (h : KW w k) (h' : KW w k') : k = k' := by
  rcases h with ⟨a, b, c⟩ | ⟨a, b⟩ <;> rcases h' with ⟨a', b', c'⟩ | ⟨a', b'⟩
  · exact wA_inj ⟨a, b⟩ ⟨a', b'⟩ (c.symm.trans c')
  · exact absurd c (b' k a b)
  · exact absurd c' (b k' a' b')
  · omega
/-- the TOKEN at or behind a place: where it stands, its end, its kind, its worth -/
def Tok (T : Int → Int) (n p a e kd w : Int) : Prop := (p ≤ a ∧ a ≤ n ∧ e ≤ n ∧ ∀ j : Int, p ≤ j → j < a → isBl (T j)) ∧
  ((a = n ∧ e = n ∧ kd = 102 ∧ w = 0) ∨
   (a < n ∧ a < e ∧ isLt (T a) ∧ (∀ j : Int, a ≤ j → j < e → isLt (T j)) ∧ (e < n → ¬ isLt (T e)) ∧ w = pkA T a (if e - a ≤ 8 then e - a else 8).toNat ∧ ((e - a ≤ 8 ∧ KW w kd) ∨ (8 < e - a ∧ kd = 103))) ∨
   (a < n ∧ a < e ∧ isDg (T a) ∧ (∀ j : Int, a ≤ j → j < e → isDg (T j)) ∧ (e < n → ¬ isDg (T e)) ∧ w = pkD T a (if e - a ≤ 4 then e - a else 4).toNat ∧ ((e - a ≤ 4 ∧ (e < n → ¬ isLt (T e)) ∧ kd = 101) ∨ ((4 < e - a ∨ (e < n ∧ isLt (T e))) ∧ kd = 103))) ∨
   (a < n ∧ e = a + 1 ∧ ¬ isLt (T a) ∧ ¬ isDg (T a) ∧ ¬ isBl (T a) ∧ w = 0 ∧ ((isSg (T a) ∧ kd = T a) ∨ (¬ isSg (T a) ∧ kd = 103))))
theorem Tok.uni {T : Int → Int} {n p a e kd w a' e' kd' w' : Int} (h : Tok T n p a e kd w) (h' : Tok T n p a' e' kd' w') : a = a' ∧ e = e' ∧ kd = kd' ∧ w = w' := by
  obtain ⟨⟨h1, h2, h3, h4⟩, h5⟩ := h
  obtain ⟨⟨g1, g2, g3, g4⟩, g5⟩ := h'
  have nb : ∀ {a e kd w : Int}, ((a = n ∧ e = n ∧ kd = 102 ∧ w = 0) ∨ (a < n ∧ a < e ∧ isLt (T a) ∧ (∀ j : Int, a ≤ j → j < e → isLt (T j)) ∧ (e < n → ¬ isLt (T e)) ∧ w = pkA T a (if e - a ≤ 8 then e - a else 8).toNat ∧ ((e - a ≤ 8 ∧ KW w kd) ∨ (8 < e - a ∧ kd = 103))) ∨ (a < n ∧ a < e ∧ isDg (T a) ∧ (∀ j : Int, a ≤ j → j < e → isDg (T j)) ∧ (e < n → ¬ isDg (T e)) ∧ w = pkD T a (if e - a ≤ 4 then e - a else 4).toNat ∧ ((e - a ≤ 4 ∧ (e < n → ¬ isLt (T e)) ∧ kd = 101) ∨ ((4 < e - a ∨ (e < n ∧ isLt (T e))) ∧ kd = 103))) ∨ (a < n ∧ e = a + 1 ∧ ¬ isLt (T a) ∧ ¬ isDg (T a) ∧ ¬ isBl (T a) ∧ w = 0 ∧ ((isSg (T a) ∧ kd = T a) ∨ (¬ isSg (T a) ∧ kd = 103)))) → a = n ∨ ¬ isBl (T a) := fun q => by
    unfold isLt isDg isBl at *
    rcases q with q | q | q | q
    · exact .inl q.1
    · exact .inr (by omega)
    · exact .inr (by omega)
    · exact .inr q.2.2.2.2.1
  have b1 := nb h5
  have b2 := nb g5
  have ea : a = a' := by
    rcases Int.lt_trichotomy a a' with q | q | q
    · have := g4 a h1 q
      rcases b1 with b | b
      · omega
      · exact absurd this b
    · exact q
    · have := h4 a' g1 q
      rcases b2 with b | b
      · omega
      · exact absurd this b
  subst ea
  clear nb b1 b2 h4 g4
  unfold isLt isDg isBl at h5 g5
  rcases h5 with ⟨x1, x2, x3, x4⟩ | ⟨x1, x2, x3, x4, x5, x6, x7⟩ | ⟨x1, x2, x3, x4, x5, x6, x7⟩ | ⟨x1, x2, x3, x4, x5, x6, x7⟩ <;> rcases g5 with ⟨y1, y2, y3, y4⟩ | ⟨y1, y2, y3, y4, y5, y6, y7⟩ | ⟨y1, y2, y3, y4, y5, y6, y7⟩ | ⟨y1, y2, y3, y4, y5, y6, y7⟩
  all_goals first | (exfalso; omega) | skip
  · omega
  · have ee : e = e' := by
      rcases Int.lt_trichotomy e e' with q | q | q
      · exact absurd (y4 e (by omega) q) (x5 (by omega))
      · exact q
      · exact absurd (x4 e' (by omega) q) (y5 (by omega))
    subst ee
    have ew : w = w' := x6.trans y6.symm
    subst ew
    refine ⟨rfl, rfl, ?_, rfl⟩
    rcases x7 with ⟨u1, u2⟩ | ⟨u1, u2⟩ <;> rcases y7 with ⟨v1, v2⟩ | ⟨v1, v2⟩
    · exact u2.uni v2
    · omega
    · omega
    · omega
  · have ee : e = e' := by
      rcases Int.lt_trichotomy e e' with q | q | q
      · exact absurd (y4 e (by omega) q) (x5 (by omega))
      · exact q
      · exact absurd (x4 e' (by omega) q) (y5 (by omega))
    subst ee
    refine ⟨rfl, rfl, ?_, x6.trans y6.symm⟩
    omega
  · refine ⟨rfl, by omega, ?_, by omega⟩
    rcases x7 with ⟨u1, u2⟩ | ⟨u1, u2⟩ <;> rcases y7 with ⟨v1, v2⟩ | ⟨v1, v2⟩
    · omega
    · exact absurd u1 v1
    · exact absurd v1 u1
    · omega
