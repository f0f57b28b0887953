/-! the pure part: a FLIGHT, what its PLAN is -/
def gP (f : Int → Int) (c : Int) : Int → Int := fun t => f t - (if c / 3 % 3 = t then c / 9 else 0) + (if c % 3 = t then c / 9 else 0)
def gB (f : Int → Int) (u : Int) : Int → Int := fun t => f t - (if t = u then 1 else 0)
abbrev okP (H f : Int → Int) (c : Int) : Prop := c = 0 ∨ (0 < c / 9 ∧ c / 3 % 3 ≠ c % 3 ∧ c / 9 ≤ f (c / 3 % 3) ∧ f (c % 3) + c / 9 ≤ H (c % 3))
abbrev balF (A : Int → Int) (lo hi : Int) (f : Int → Int) : Prop := lo * (f 0 + f 1 + f 2) ≤ f 0 * A 0 + f 1 * A 1 + f 2 * A 2 ∧ f 0 * A 0 + f 1 * A 1 + f 2 * A 2 ≤ hi * (f 0 + f 1 + f 2)
def vld (H f : Int → Int) : Prop := ∀ t, 0 ≤ t → t < 3 → 0 ≤ f t ∧ f t ≤ H t
def sumF (f : Int → Int) : Int := f 0 + f 1 + f 2
theorem gP_0 (f : Int → Int) : gP f 0 = f := by
  funext t
  unfold gP
  have : (0 : Int) / 9 = 0 := rfl
  rw [this]; split <;> split <;> omega
theorem vld_gP {H f : Int → Int} {c : Int} (hc : 0 ≤ c) (hv : vld H f) (h : okP H f c) : vld H (gP f c) := by
  rcases h with rfl | ⟨h1, h2, h3, h4⟩
  · rw [gP_0]; exact hv
  · intro t t0 t1
    have := hv t t0 t1
    unfold gP
    by_cases ha : c / 3 % 3 = t
    · rw [if_pos ha, if_neg (by omega)]
      rw [ha] at h3
      omega
    · rw [if_neg ha]
      by_cases hb : c % 3 = t
      · rw [if_pos hb]; rw [hb] at h4; omega
      · rw [if_neg hb]; omega
theorem vld_gB {H f : Int → Int} {u : Int} (hv : vld H f) (h : 0 < f u) : vld H (gB f u) := by
  intro t t0 t1
  have := hv t t0 t1
  unfold gB
  split
  · rename_i e; rw [e] at this ⊢; omega
  · omega
theorem sum_gP (f : Int → Int) {c : Int} (hc : 0 ≤ c) : sumF (gP f c) = sumF f := by
  unfold sumF gP
  have a : c / 3 % 3 = 0 ∨ c / 3 % 3 = 1 ∨ c / 3 % 3 = 2 := by omega
  have b : c % 3 = 0 ∨ c % 3 = 1 ∨ c % 3 = 2 := by omega
  generalize c / 9 = p
  rcases a with a | a | a <;> rcases b with b | b | b <;> rw [a, b] <;> simp <;> omega
theorem sum_gB (f : Int → Int) {u : Int} (hu : 0 ≤ u ∧ u < 3) : sumF (gB f u) = sumF f - 1 := by
  unfold sumF gB
  have : u = 0 ∨ u = 1 ∨ u = 2 := by omega
  rcases this with rfl | rfl | rfl <;> simp <;> omega
def mnU (g : Int → Int) : Nat → Int → Int → Int
  | 0, _, m => m
  | k + 1, i, m => mnU g k (i + 1) (imn m (g i))
theorem mnU_le (g : Int → Int) : ∀ (k : Nat) (i m : Int), mnU g k i m ≤ m ∧ (∀ j, i ≤ j → j < i + (k : Int) → mnU g k i m ≤ g j) ∧ (mnU g k i m = m ∨ ∃ j, (i ≤ j ∧ j < i + (k : Int)) ∧ mnU g k i m = g j)
  | 0, i, m => ⟨Int.le_refl _, fun j a b => by omega, .inl rfl⟩
  | k + 1, i, m => by
    obtain ⟨h1, h2, h3⟩ := mnU_le g k (i + 1) (imn m (g i))
    have e := imn_le m (g i)
    show mnU g k (i + 1) (imn m (g i)) ≤ m ∧ (∀ j, i ≤ j → j < i + ((k + 1 : Nat) : Int) → mnU g k (i + 1) (imn m (g i)) ≤ g j) ∧ (mnU g k (i + 1) (imn m (g i)) = m ∨ ∃ j, (i ≤ j ∧ j < i + ((k + 1 : Nat) : Int)) ∧ mnU g k (i + 1) (imn m (g i)) = g j)
    refine ⟨by omega, fun j a b => ?_, ?_⟩
    · by_cases hj : j = i
      · rw [hj]; omega
      · exact h2 j (by omega) (by omega)
    · rcases h3 with h | ⟨j, hj, e2⟩
      · rcases e.2.2 with e3 | e3
        · exact .inl (by omega)
        · exact .inr ⟨i, by omega, by omega⟩
      · exact .inr ⟨j, by omega, e2⟩
/-- the least still to be pumped: d STEPS are left -/
def VV (H A lo hi : Int → Int) (P n : Int) : Nat → (Int → Int) → Int
  | 0, _ => 0
  | d + 1, f => mnU (fun u => mnU (fun c => if okP H f c ∧ 0 < gP f c u then c / 9 + (if balF A (lo (n - ((d + 1 : Nat) : Int))) (hi (n - ((d + 1 : Nat) : Int))) (gB (gP f c) u) then VV H A lo hi P n d (gB (gP f c) u) else 1000) else 1000) (9 * (P + 1)).toNat 0 1000) 3 0 1000
def WW (H A lo hi : Int → Int) (P n : Int) (d : Nat) (f : Int → Int) : Int := if balF A (lo (n - ((d + 1 : Nat) : Int))) (hi (n - ((d + 1 : Nat) : Int))) f then VV H A lo hi P n d f else 1000
/-- what one may come to by a MOVE -/
def SV (H A lo hi : Int → Int) (P n : Int) (d : Nat) (f : Int → Int) (v : Int) : Prop := ∃ u c, ((0 ≤ u ∧ u < 3) ∧ (0 ≤ c ∧ c < 9 * (P + 1))) ∧ okP H f c ∧ 0 < gP f c u ∧ v = c / 9 + WW H A lo hi P n d (gB (gP f c) u)
def Mn (S : Int → Prop) (r : Int) : Prop := r ≤ 1000 ∧ (∀ v, S v → r ≤ v) ∧ (r = 1000 ∨ S r)
theorem Mn.uniq {S : Int → Prop} {r s : Int} (a : Mn S r) (b : Mn S s) : r = s := by
  obtain ⟨a1, a2, a3⟩ := a
  obtain ⟨b1, b2, b3⟩ := b
  have h1 : r ≤ s := by
    rcases b3 with h | h
    · omega
    · exact a2 s h
  have h2 : s ≤ r := by
    rcases a3 with h | h
    · omega
    · exact b2 r h
  omega
section V
variable {H A lo hi : Int → Int} {P n : Int}
theorem VV_mn (hP : 0 ≤ P) (d : Nat) (f : Int → Int) : Mn (SV H A lo hi P n d f) (VV H A lo hi P n (d + 1) f) := by
  have key : ∀ u c, (okP H f c ∧ 0 < gP f c u) → (if okP H f c ∧ 0 < gP f c u then c / 9 + (if balF A (lo (n - ((d + 1 : Nat) : Int))) (hi (n - ((d + 1 : Nat) : Int))) (gB (gP f c) u) then VV H A lo hi P n d (gB (gP f c) u) else 1000) else 1000) = c / 9 + WW H A lo hi P n d (gB (gP f c) u) := fun u c h => by rw [if_pos h]; rfl
  obtain ⟨h1, h2, h3⟩ := mnU_le (fun u => mnU (fun c => if okP H f c ∧ 0 < gP f c u then c / 9 + (if balF A (lo (n - ((d + 1 : Nat) : Int))) (hi (n - ((d + 1 : Nat) : Int))) (gB (gP f c) u) then VV H A lo hi P n d (gB (gP f c) u) else 1000) else 1000) (9 * (P + 1)).toNat 0 1000) 3 0 1000
  refine ⟨h1, fun v hv => ?_, ?_⟩
  · obtain ⟨u, c, ⟨hu, hc⟩, k1, k2, k3⟩ := hv
    refine Int.le_trans (h2 u hu.1 (by omega)) ?_
    have := (mnU_le (fun c => if okP H f c ∧ 0 < gP f c u then c / 9 + (if balF A (lo (n - ((d + 1 : Nat) : Int))) (hi (n - ((d + 1 : Nat) : Int))) (gB (gP f c) u) then VV H A lo hi P n d (gB (gP f c) u) else 1000) else 1000) (9 * (P + 1)).toNat 0 1000).2.1 c hc.1 (by omega)
    try dsimp only at this
    rw [key u c ⟨k1, k2⟩] at this
    omega
  · rcases h3 with h | ⟨u, hu, h⟩
    · exact .inl h
    · rcases (mnU_le (fun c => if okP H f c ∧ 0 < gP f c u then c / 9 + (if balF A (lo (n - ((d + 1 : Nat) : Int))) (hi (n - ((d + 1 : Nat) : Int))) (gB (gP f c) u) then VV H A lo hi P n d (gB (gP f c) u) else 1000) else 1000) (9 * (P + 1)).toNat 0 1000).2.2 with h4 | ⟨c, hc, h4⟩
      · exact .inl (h.trans h4)
      · by_cases hk : okP H f c ∧ 0 < gP f c u
        · refine .inr ⟨u, c, ⟨by omega, by omega⟩, hk.1, hk.2, ?_⟩
          exact (h.trans h4).trans (key u c hk)
        · refine .inl ((h.trans h4).trans ?_)
          try dsimp only
          rw [if_neg hk]
theorem VV_rg (hP : 0 ≤ P ∧ P ≤ 3) : ∀ (d : Nat) (f : Int → Int), 0 ≤ VV H A lo hi P n d f ∧ VV H A lo hi P n d f ≤ 1000 ∧ (VV H A lo hi P n d f < 1000 → VV H A lo hi P n d f ≤ 3 * (d : Int))
  | 0, f => by show 0 ≤ (0 : Int) ∧ (0 : Int) ≤ 1000 ∧ ((0 : Int) < 1000 → (0 : Int) ≤ _); omega
  | d + 1, f => by
    obtain ⟨h1, h2, h3⟩ := VV_mn (H := H) (A := A) (lo := lo) (hi := hi) (n := n) hP.1 d f
    have hw : ∀ g, 0 ≤ WW H A lo hi P n d g ∧ (WW H A lo hi P n d g < 1000 → WW H A lo hi P n d g ≤ 3 * (d : Int)) := fun g => by
      have := VV_rg hP d g
      unfold WW; split <;> omega
    rcases h3 with h | ⟨u, c, ⟨hu, hc⟩, k1, k2, k3⟩
    · omega
    · have := hw (gB (gP f c) u)
      omega
theorem WW_rg (hP : 0 ≤ P ∧ P ≤ 3) (d : Nat) (f : Int → Int) : 0 ≤ WW H A lo hi P n d f ∧ WW H A lo hi P n d f ≤ 1000 ∧ (WW H A lo hi P n d f < 1000 → WW H A lo hi P n d f ≤ 3 * (d : Int)) := by
  have := VV_rg (H := H) (A := A) (lo := lo) (hi := hi) (n := n) hP d f
  unfold WW; split <;> omega
/-- the first MOVE of a PLAN -/
def Fst (H A lo hi : Int → Int) (P n : Int) (d : Nat) (f : Int → Int) (u c : Int) : Prop := ((0 ≤ u ∧ u < 3) ∧ (0 ≤ c ∧ c < 9 * (P + 1))) ∧ (okP H f c ∧ 0 < gP f c u ∧ c / 9 + WW H A lo hi P n d (gB (gP f c) u) = VV H A lo hi P n (d + 1) f) ∧ ∀ u' c', ((0 ≤ u' ∧ u' < 3) ∧ (0 ≤ c' ∧ c' < 9 * (P + 1))) → (u' < u ∨ (u' = u ∧ c' < c)) → ¬ (okP H f c' ∧ 0 < gP f c' u' ∧ c' / 9 + WW H A lo hi P n d (gB (gP f c') u') = VV H A lo hi P n (d + 1) f)
theorem Fst.uniq {d : Nat} {f : Int → Int} {u c u' c' : Int} (a : Fst H A lo hi P n d f u c) (b : Fst H A lo hi P n d f u' c') : u = u' ∧ c = c' := by
  obtain ⟨a1, a2, a3⟩ := a
  obtain ⟨b1, b2, b3⟩ := b
  by_cases h : u' < u ∨ (u' = u ∧ c' < c)
  · exact absurd b2 (a3 _ _ b1 h)
  · by_cases h' : u < u' ∨ (u = u' ∧ c < c')
    · exact absurd a2 (b3 _ _ a1 h')
    · omega
end V
