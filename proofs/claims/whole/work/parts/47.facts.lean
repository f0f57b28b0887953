/-! the pure part: what follows from FACTS -/
def rel1 (E : Int → Int) (a b w : Int) : Int → Int := fun p => if p = b ∧ E a < 1000000 ∧ E a + w < E b then E a + w else E p
def rlN (mv md af : Int → Int) : Nat → Int → (Int → Int) → (Int → Int)
  | 0, _, E => E
  | k + 1, j, E => rlN mv md af k (j + 1) (rel1 E (mv j) (md j) (af j))
def rds (mv md af : Int → Int) (n : Nat) : Nat → (Int → Int) → (Int → Int)
  | 0, E => E
  | r + 1, E => rds mv md af n r (rlN mv md af n 0 E)
def Bd (B : Int) (E : Int → Int) : Prop := ∀ p, 0 ≤ E p ∧ (E p = 1000000 ∨ E p ≤ B)
theorem rel1_le {E : Int → Int} {a b w p : Int} : rel1 E a b w p ≤ E p := by
  unfold rel1
  split
  · rename_i h; rw [h.1]; omega
  · omega
theorem rlN_le {mv md af : Int → Int} : ∀ (k : Nat) (j : Int) (E : Int → Int) (p : Int), rlN mv md af k j E p ≤ E p
  | 0, _, _, _ => Int.le_refl _
  | k + 1, j, E, p => Int.le_trans (rlN_le k (j + 1) _ p) rel1_le
theorem rds_le {mv md af : Int → Int} {n : Nat} : ∀ (r : Nat) (E : Int → Int) (p : Int), rds mv md af n r E p ≤ E p
  | 0, _, _ => Int.le_refl _
  | r + 1, E, p => Int.le_trans (rds_le r _ p) (rlN_le n 0 E p)
theorem Bd.rl {B : Int} {E : Int → Int} {a b w : Int} (h : Bd B E) (hw : 0 ≤ w ∧ w ≤ 24) (hB : B < 900000) : Bd (B + 24) (rel1 E a b w) := by
  intro p
  have h1 := h p
  have h2 := h a
  unfold rel1
  split <;> omega
theorem rlN_edge {mv md af : Int → Int} : ∀ (k : Nat) (j : Int) (E : Int → Int) (i : Int), j ≤ i → i < j + (k : Int) → E (mv i) < 1000000 → rlN mv md af k j E (md i) ≤ E (mv i) + af i
  | 0, j, E, i, h0, h1, _ => by omega
  | k + 1, j, E, i, h0, h1, h2 => by
    show rlN mv md af k (j + 1) (rel1 E (mv j) (md j) (af j)) (md i) ≤ _
    by_cases hi : i = j
    · subst hi
      have h3 := rlN_le (mv := mv) (md := md) (af := af) k (i + 1) (rel1 E (mv i) (md i) (af i)) (md i)
      have h4 : rel1 E (mv i) (md i) (af i) (md i) ≤ E (mv i) + af i := by
        unfold rel1
        split
        · omega
        · rename_i h; by_cases h5 : E (mv i) + af i < E (md i)
          · exact absurd ⟨rfl, h2, h5⟩ h
          · omega
      omega
    · have h3 := rel1_le (E := E) (a := mv j) (b := md j) (w := af j) (p := mv i)
      have h4 := rlN_edge (mv := mv) (md := md) (af := af) k (j + 1) (rel1 E (mv j) (md j) (af j)) i (by omega) (by omega) (by omega)
      omega
theorem rds_add {mv md af : Int → Int} {n : Nat} : ∀ (a b : Nat) (E : Int → Int), rds mv md af n (a + b) E = rds mv md af n b (rds mv md af n a E)
  | 0, b, E => by rw [Nat.zero_add]; rfl
  | a + 1, b, E => by
    rw [show a + 1 + b = (a + b) + 1 by omega]
    exact rds_add a b _
theorem rds_succ {mv md af : Int → Int} {n : Nat} (r : Nat) (E : Int → Int) : rds mv md af n (r + 1) E = rlN mv md af n 0 (rds mv md af n r E) := rds_add r 1 E
/-- ways through the moves -/
def RA (E0 mv md af : Int → Int) (n : Nat) (L : List Int) : Nat → Int → Int → Prop
  | 0, p, c => p ∈ L ∧ E0 p = c ∧ c < 1000000
  | k + 1, p, c => p ∈ L ∧ ∃ j : Int, 0 ≤ j ∧ j < (n : Int) ∧ md j = p ∧ RA E0 mv md af n L k (mv j) (c - af j)
section BF
variable {E0 mv md af : Int → Int} {n : Nat}
theorem RA.mem {L : List Int} : ∀ {k : Nat} {p c : Int}, RA E0 mv md af n L k p c → p ∈ L
  | 0, _, _, h => h.1
  | _ + 1, _, _, h => h.1
theorem RA.visit {L : List Int} (hw : ∀ j, 0 ≤ j → j < (n : Int) → 0 ≤ af j) (p : Int) : ∀ (k : Nat) (q c : Int), RA E0 mv md af n L k q c → RA E0 mv md af n (L.filter (fun x => !decide (x = p))) k q c ∨ ∃ k1 c1, k1 ≤ k ∧ c1 ≤ c ∧ RA E0 mv md af n L k1 p c1
  | 0, q, c, h => by
    by_cases hq : q = p
    · subst hq; exact .inr ⟨0, c, Nat.le_refl _, Int.le_refl _, h⟩
    · exact .inl ⟨List.mem_filter.mpr ⟨h.1, by simp [hq]⟩, h.2⟩
  | k + 1, q, c, h => by
    by_cases hq : q = p
    · subst hq; exact .inr ⟨k + 1, c, Nat.le_refl _, Int.le_refl _, h⟩
    · obtain ⟨h1, j, h2, h3, h4, h5⟩ := h
      have := hw j h2 h3
      rcases RA.visit hw p k (mv j) (c - af j) h5 with g | ⟨k1, c1, g1, g2, g3⟩
      · exact .inl ⟨List.mem_filter.mpr ⟨h1, by simp [hq]⟩, j, h2, h3, h4, g⟩
      · exact .inr ⟨k1, c1, by omega, by omega, g3⟩
theorem RA.cut {L : List Int} (hw : ∀ j, 0 ≤ j → j < (n : Int) → 0 ≤ af j) (p : Int) : ∀ (K k : Nat) (c : Int), k ≤ K → RA E0 mv md af n L k p c → ∃ c', c' ≤ c ∧ (RA E0 mv md af n L 0 p c' ∨ ∃ k1 j, 0 ≤ j ∧ j < (n : Int) ∧ md j = p ∧ RA E0 mv md af n (L.filter (fun x => !decide (x = p))) k1 (mv j) (c' - af j))
  | _, 0, c, _, h => ⟨c, Int.le_refl _, .inl h⟩
  | 0, k + 1, c, hk, h => by omega
  | K + 1, k + 1, c, hk, h => by
    obtain ⟨h1, j, h2, h3, h4, h5⟩ := h
    have := hw j h2 h3
    rcases RA.visit hw p k (mv j) (c - af j) h5 with g | ⟨k1, c1, g1, g2, g3⟩
    · exact ⟨c, Int.le_refl _, .inr ⟨k, j, h2, h3, h4, g⟩⟩
    · obtain ⟨c', e1, e2⟩ := RA.cut hw p K k1 c1 (by omega) g3
      exact ⟨c', by omega, e2⟩
theorem RA.mono {L M : List Int} (s : ∀ x, x ∈ L → x ∈ M) : ∀ {k : Nat} {p c : Int}, RA E0 mv md af n L k p c → RA E0 mv md af n M k p c
  | 0, _, _, h => ⟨s _ h.1, h.2⟩
  | k + 1, p, c, h => by
    obtain ⟨h1, j, h2, h3, h4, h5⟩ := h
    exact ⟨s _ h1, j, h2, h3, h4, RA.mono s h5⟩
theorem filter_lt {L : List Int} {p : Int} (h : p ∈ L) : (L.filter (fun x => !decide (x = p))).length < L.length := by
  induction L with
  | nil => cases h
  | cons x xs ih =>
    by_cases hx : x = p
    · rw [List.filter_cons_of_neg (by simp [hx])]
      have := List.length_filter_le (fun x => !decide (x = p)) xs
      simp only [List.length_cons]; omega
    · rw [List.filter_cons_of_pos (by simp [hx])]
      have : p ∈ xs := by
        rcases List.mem_cons.mp h with e | e
        · exact absurd e.symm hx
        · exact e
      have := ih this
      simp only [List.length_cons]; omega
theorem RA.short (hw : ∀ j, 0 ≤ j → j < (n : Int) → 0 ≤ af j) : ∀ (m : Nat) (L : List Int), L.length ≤ m → ∀ (k : Nat) (p c : Int), RA E0 mv md af n L k p c → ∃ k' c', k' < m ∧ c' ≤ c ∧ RA E0 mv md af n L k' p c'
  | 0, L, hL, k, p, c, h => by
    have := h.mem
    cases L with
    | nil => cases this
    | cons x xs => simp at hL
  | m + 1, L, hL, k, p, c, h => by
    obtain ⟨c', e1, e2 | ⟨k1, j, h2, h3, h4, h5⟩⟩ := RA.cut hw p k k c (Nat.le_refl _) h
    · exact ⟨0, c', by omega, e1, e2⟩
    · have hf := filter_lt h.mem
      obtain ⟨k2, c2, g1, g2, g3⟩ := RA.short hw m _ (by omega) k1 (mv j) (c' - af j) h5
      refine ⟨k2 + 1, c2 + af j, by omega, by omega, h.mem, j, h2, h3, h4, ?_⟩
      rw [show c2 + af j - af j = c2 by omega]
      exact g3.mono fun x hx => (List.mem_filter.mp hx).1
/-- soundness: what stands was come to by a way -/
def Snd (E0 mv md af : Int → Int) (n : Nat) (L : List Int) (E : Int → Int) : Prop := ∀ p, p ∈ L → E p < 1000000 → ∃ k, RA E0 mv md af n L k p (E p)
theorem Snd.rl {L : List Int} {E : Int → Int} (h : Snd E0 mv md af n L E) {j : Int} (h0 : 0 ≤ j) (h1 : j < (n : Int)) (ha : mv j ∈ L) : Snd E0 mv md af n L (rel1 E (mv j) (md j) (af j)) := by
  intro p hp hc
  by_cases g : p = md j ∧ E (mv j) < 1000000 ∧ E (mv j) + af j < E (md j)
  · obtain ⟨k, hk⟩ := h (mv j) ha g.2.1
    have e : rel1 E (mv j) (md j) (af j) p = E (mv j) + af j := if_pos g
    rw [e]
    refine ⟨k + 1, hp, j, h0, h1, g.1.symm, ?_⟩
    rw [show E (mv j) + af j - af j = E (mv j) by omega]
    exact hk
  · have e : rel1 E (mv j) (md j) (af j) p = E p := if_neg g
    rw [e] at hc ⊢
    exact h p hp hc
theorem Snd.rlk {L : List Int} (hm : ∀ j, 0 ≤ j → j < (n : Int) → mv j ∈ L) : ∀ (k : Nat) (j : Int) (E : Int → Int), 0 ≤ j → j + (k : Int) ≤ (n : Int) → Snd E0 mv md af n L E → Snd E0 mv md af n L (rlN mv md af k j E)
  | 0, _, _, _, _, h => h
  | k + 1, j, E, h0, h1, h => Snd.rlk hm k (j + 1) _ (by omega) (by omega) (h.rl h0 (by omega) (hm j h0 (by omega)))
theorem Snd.rdk {L : List Int} (hm : ∀ j, 0 ≤ j → j < (n : Int) → mv j ∈ L) : ∀ (r : Nat) (E : Int → Int), Snd E0 mv md af n L E → Snd E0 mv md af n L (rds mv md af n r E)
  | 0, _, h => h
  | r + 1, E, h => Snd.rdk hm r _ (Snd.rlk hm n 0 E (by omega) (by omega) h)
theorem rds_cmp {L : List Int} (hw : ∀ j, 0 ≤ j → j < (n : Int) → 0 ≤ af j) (h0 : ∀ p, E0 p ≤ 1000000) : ∀ (k r : Nat) (p c : Int), k ≤ r → RA E0 mv md af n L k p c → rds mv md af n r E0 p ≤ c
  | 0, r, p, c, _, h => by have := rds_le (mv := mv) (md := md) (af := af) (n := n) r E0 p; rw [← h.2.1]; exact this
  | k + 1, 0, p, c, hr, h => by omega
  | k + 1, r + 1, p, c, hr, h => by
    obtain ⟨h1, j, h2, h3, h4, h5⟩ := h
    have ih := rds_cmp hw h0 k r (mv j) (c - af j) (by omega) h5
    rw [rds_succ]
    subst h4
    have hj := hw j h2 h3
    by_cases hc : rds mv md af n r E0 (mv j) < 1000000
    · have := rlN_edge (mv := mv) (md := md) (af := af) n 0 (rds mv md af n r E0) j h2 (by omega) hc
      omega
    · have g1 := rds_le (mv := mv) (md := md) (af := af) (n := n) r E0 (mv j)
      have g2 := h0 (mv j)
      have g3 := rlN_le (mv := mv) (md := md) (af := af) n 0 (rds mv md af n r E0) (md j)
      have g4 := rds_le (mv := mv) (md := md) (af := af) (n := n) r E0 (md j)
      have g5 := h0 (md j)
      omega
/-- as many rounds as there are PARTS are enough -/
theorem rlN_fix {E : Int → Int} : ∀ (k : Nat) (j : Int), (∀ i, j ≤ i → i < j + (k : Int) → E (mv i) < 1000000 → E (md i) ≤ E (mv i) + af i) → rlN mv md af k j E = E
  | 0, _, _ => rfl
  | k + 1, j, h => by
    have e : rel1 E (mv j) (md j) (af j) = E := by
      funext p
      unfold rel1
      split
      · rename_i g; have := h j (by omega) (by omega) g.2.1; omega
      · rfl
    show rlN mv md af k (j + 1) (rel1 E (mv j) (md j) (af j)) = E
    rw [e]
    exact rlN_fix k (j + 1) fun i a b => h i (by omega) (by omega)
theorem rds_fix {E : Int → Int} (h : rlN mv md af n 0 E = E) : ∀ r, rds mv md af n r E = E
  | 0 => rfl
  | r + 1 => by show rds mv md af n r (rlN mv md af n 0 E) = E; rw [h]; exact rds_fix h r
theorem rds_stop {P : Nat} (hw : ∀ j, 0 ≤ j → j < (n : Int) → 0 ≤ af j) (h0 : ∀ p, E0 p ≤ 1000000) (hm : ∀ j, 0 ≤ j → j < (n : Int) → (0 ≤ mv j ∧ mv j < (P : Int)) ∧ (0 ≤ md j ∧ md j < (P : Int))) (r : Nat) : rds mv md af n (P + r) E0 = rds mv md af n P E0 := by
  rw [rds_add]
  refine rds_fix (rlN_fix n 0 fun i a b hc => ?_) r
  have hL : ∀ x : Int, 0 ≤ x → x < (P : Int) → x ∈ (List.range P).map (fun q : Nat => (q : Int)) := fun x x0 x1 => List.mem_map.mpr ⟨x.toNat, List.mem_range.mpr (by omega), by omega⟩
  have hS : Snd E0 mv md af n ((List.range P).map (fun q : Nat => (q : Int))) E0 := fun p hp hc => ⟨0, hp, rfl, hc⟩
  have m1 := hm i a (by omega)
  obtain ⟨k, hk⟩ := Snd.rdk (fun j j0 j1 => hL _ (hm j j0 j1).1.1 (hm j j0 j1).1.2) P E0 hS (mv i) (hL _ m1.1.1 m1.1.2) hc
  have hk1 : RA E0 mv md af n ((List.range P).map (fun q : Nat => (q : Int))) (k + 1) (md i) (rds mv md af n P E0 (mv i) + af i) := ⟨hL _ m1.2.1 m1.2.2, i, a, by omega, rfl, by rw [show rds mv md af n P E0 (mv i) + af i - af i = rds mv md af n P E0 (mv i) by omega]; exact hk⟩
  obtain ⟨k', c', g1, g2, g3⟩ := RA.short hw P _ (by rw [List.length_map, List.length_range]; exact Nat.le_refl _) _ _ _ hk1
  have := rds_cmp hw h0 k' P (md i) c' (by omega) g3
  omega
end BF
