/-! the pure part: MEND, the best of what is tried -/
def mchg (σ : St) (m : Nat) (i v : Int) : Int := if lnA σ m i 0 ≤ v then v - lnA σ m i 0 else lnA σ m i 0 - v
def mkey (σ : St) (m : Nat) (i v : Int) : Int := (((17 - FW σ m i v) * 100000 + mchg σ m i v) * 16 + i) * 40000 + v
def inM (σ : St) (m : Nat) (i v : Int) : Prop := (0 ≤ i ∧ i < fI σ m 1) ∧ 1 ≤ v ∧ v ≤ 30000
def Md (σ : St) (m : Nat) (D : Int → Int → Prop) (p l f : Int) : Prop := (p = -1 ∧ f = FW σ m (-1) 0 ∧ ∀ i v, inM σ m i v → D i v → FW σ m i v ≤ FW σ m (-1) 0) ∨ ((inM σ m p l ∧ D p l) ∧ FW σ m (-1) 0 < FW σ m p l ∧ f = FW σ m p l ∧ ∀ i v, inM σ m i v → D i v → FW σ m (-1) 0 < FW σ m i v → mkey σ m p l ≤ mkey σ m i v)
section F
variable {N : Nat} {σ σm : St}
theorem Md.ext {m : Nat} {D E : Int → Int → Prop} {p l f : Int} (h : Md σ m D p l f) (e : ∀ i v, inM σ m i v → (D i v ↔ E i v)) : Md σ m E p l f := by
  rcases h with ⟨h1, h2, h3⟩ | ⟨⟨h1, h2⟩, h3, h4, h5⟩
  · exact .inl ⟨h1, h2, fun i v a b => h3 i v a ((e i v a).mpr b)⟩
  · exact .inr ⟨⟨h1, (e p l h1).mp h2⟩, h3, h4, fun i v a b => h5 i v a ((e i v a).mpr b)⟩
theorem mchg_rg {m : Nat} {bk : Int} (hI : IMach m bk σ σm) {i v : Int} (h : inM σ m i v) : 0 ≤ mchg σ m i v ∧ mchg σ m i v ≤ 50000 := by
  have := lnA_rg hI h.1 (v := 0) (by decide)
  have := h.2
  unfold mchg
  split <;> omega
theorem mkey_lt {m : Nat} {bk : Int} (hI : IMach m bk σ σm) {i v p l : Int} (h : inM σ m i v) (k : inM σ m p l) : mkey σ m i v < mkey σ m p l ↔ (FW σ m p l < FW σ m i v ∨ (FW σ m i v = FW σ m p l ∧ (mchg σ m i v < mchg σ m p l ∨ (mchg σ m i v = mchg σ m p l ∧ (i < p ∨ (i = p ∧ v < l)))))) := by
  have a := mchg_rg hI h
  have b := mchg_rg hI k
  have c := FW_rg hI i v
  have d := FW_rg hI p l
  have e := hI.2.2.2.2.1.2.1
  obtain ⟨h1, h2⟩ := h
  obtain ⟨k1, k2⟩ := k
  unfold mkey
  generalize FW σ m i v = x at *
  generalize FW σ m p l = y at *
  generalize mchg σ m i v = s at *
  generalize mchg σ m p l = t at *
  omega
theorem Md.pass {m : Nat} {bk : Int} (hI : IMach m bk σ σm) {D : Int → Int → Prop} {p l f i v : Int} (h : Md σ m D p l f) (hi : inM σ m i v) (hn : FW σ m i v < f ∨ (FW σ m i v = f ∧ (p = -1 ∨ ¬ mkey σ m i v < mkey σ m p l))) : Md σ m (fun a b => D a b ∨ (a = i ∧ b = v)) p l f := by
  rcases h with ⟨h1, h2, h3⟩ | ⟨⟨h1, h2⟩, h3, h4, h5⟩
  · refine .inl ⟨h1, h2, fun a b q k => ?_⟩
    rcases k with k | ⟨rfl, rfl⟩
    · exact h3 a b q k
    · omega
  · refine .inr ⟨⟨h1, .inl h2⟩, h3, h4, fun a b q k r => ?_⟩
    rcases k with k | ⟨rfl, rfl⟩
    · exact h5 a b q k r
    · have e := mkey_lt hI hi h1
      have p0 := h1.1
      rcases hn with hn | ⟨_, hn | hn⟩
      · have : ¬ mkey σ m a b < mkey σ m p l := fun q => by have := e.mp q; omega
        omega
      · omega
      · omega
theorem Md.take {m : Nat} {bk : Int} (hI : IMach m bk σ σm) {D : Int → Int → Prop} {p l f i v : Int} (h : Md σ m D p l f) (hi : inM σ m i v) (hn : f < FW σ m i v ∨ (FW σ m i v = f ∧ p ≠ -1 ∧ mkey σ m i v < mkey σ m p l)) : Md σ m (fun a b => D a b ∨ (a = i ∧ b = v)) i v (FW σ m i v) := by
  rcases h with ⟨h1, h2, h3⟩ | ⟨⟨h1, h2⟩, h3, h4, h5⟩
  · refine .inr ⟨⟨hi, .inr ⟨rfl, rfl⟩⟩, by omega, rfl, fun a b q k r => ?_⟩
    rcases k with k | ⟨rfl, rfl⟩
    · have := h3 a b q k; omega
    · omega
  · have e := mkey_lt hI hi h1
    have lt : mkey σ m i v < mkey σ m p l := by
      rcases hn with hn | hn
      · exact e.mpr (.inl (by omega))
      · exact hn.2.2
    refine .inr ⟨⟨hi, .inr ⟨rfl, rfl⟩⟩, by omega, rfl, fun a b q k r => ?_⟩
    rcases k with k | ⟨rfl, rfl⟩
    · have := h5 a b q k r; omega
    · omega
/-- the ends of a JOIN's gap -/
def endD (σ : St) (m : Nat) (k i v : Int) : Prop := (i = σ.2.1 (m + 6) k ∧ (v = lnA σ m (σ.2.1 (m + 7) k) 0 - σ.2.1 (m + 8) k ∨ v = lnA σ m (σ.2.1 (m + 7) k) 0 + σ.2.1 (m + 8) k)) ∨ (i = σ.2.1 (m + 7) k ∧ (v = lnA σ m (σ.2.1 (m + 6) k) 0 - σ.2.1 (m + 8) k ∨ v = lnA σ m (σ.2.1 (m + 6) k) 0 + σ.2.1 (m + 8) k))
def endsD (σ : St) (m : Nat) (j i v : Int) : Prop := ∃ k, (0 ≤ k ∧ k < j) ∧ endD σ m k i v
theorem FW_now {m : Nat} {bk : Int} (hI : IMach m bk σ σm) (p : Int) : FW σ m p (lnA σ m p 0) = FW σ m (-1) 0 := by
  refine FW_same (fun k hk => ?_) hI
  unfold lnP
  rw [if_neg (show ¬ k = -1 by omega)]
  by_cases h : k = p
  · rw [if_pos h, h]
  · rw [if_neg h]
theorem lnA_0 (σ : St) (m : Nat) (p : Int) : lnA σ m p 0 = σ.2.1 (m + 3) p := by
  unfold lnA lnV
  rw [Int.mul_zero]
  rw [show Int.tdiv (wl 0) 100000 = 0 by decide, Int.add_zero]
/-- the best lies at an end of some gap -/
theorem best_end {m : Nat} {bk : Int} (hI : IMach m bk σ σm) {p l : Int} (h : inM σ m p l) (hb : FW σ m (-1) 0 < FW σ m p l) (hm : ∀ i v, inM σ m i v → FW σ m (-1) 0 < FW σ m i v → mkey σ m p l ≤ mkey σ m i v) : endsD σ m (fI σ m 7) p l := by
  have rj := hI.2.2.2.2.2.2.1
  have ln := lnA_rg hI h.1 (v := 0) (by decide)
  have r7 := hI.2.2.2.2.1.2.2.1
  have now := FW_now hI p
  have ln3 := (hI.2.2.2.2.2.1 p h.1.1 h.1.2).2.1.2
  rw [← lnA_0] at ln3
  have key : ∀ l', inM σ m p l' → mchg σ m p l' < mchg σ m p l → FW σ m p l' < FW σ m p l := fun l' hi hc => by
    by_cases q : FW σ m (-1) 0 < FW σ m p l'
    · have := hm p l' hi q
      have e := mkey_lt hI hi h
      by_cases k : FW σ m p l' < FW σ m p l
      · exact k
      · have := e.mpr (by omega); omega
    · omega
  have ne : l ≠ lnA σ m p 0 := fun q => by rw [← q] at now; omega
  have h2 := h.2
  by_cases hd : lnA σ m p 0 < l
  · have lt := key (l - 1) ⟨h.1, by omega⟩ (by unfold mchg; rw [if_pos (by omega), if_pos (by omega)]; omega)
    obtain ⟨j, hj, f0, f1⟩ := FWn_lt _ lt
    have q := rj j (by omega) (by omega)
    refine ⟨j, by omega, ?_⟩
    unfold ftP lnP at f0 f1
    unfold endD
    have q3 := q.2.2.1
    by_cases a : σ.2.1 (m + 6) j = p
    · have b : ¬ σ.2.1 (m + 7) j = p := fun k => q3 (a.trans k.symm)
      rw [if_pos a, if_neg b] at f0 f1
      refine .inl ⟨a.symm, ?_⟩
      have f1' : l - lnA σ m (σ.2.1 (m + 7) j) 0 ≤ σ.2.1 (m + 8) j ∧ lnA σ m (σ.2.1 (m + 7) j) 0 - l ≤ σ.2.1 (m + 8) j := by
        refine Decidable.byContradiction fun k => ?_
        rw [if_neg k] at f1; omega
      have f0' : ¬ (l - 1 - lnA σ m (σ.2.1 (m + 7) j) 0 ≤ σ.2.1 (m + 8) j ∧ lnA σ m (σ.2.1 (m + 7) j) 0 - (l - 1) ≤ σ.2.1 (m + 8) j) := fun k => by
        rw [if_pos k] at f0; omega
      omega
    · by_cases b : σ.2.1 (m + 7) j = p
      · rw [if_neg a, if_pos b] at f0 f1
        refine .inr ⟨b.symm, ?_⟩
        have f1' : lnA σ m (σ.2.1 (m + 6) j) 0 - l ≤ σ.2.1 (m + 8) j ∧ l - lnA σ m (σ.2.1 (m + 6) j) 0 ≤ σ.2.1 (m + 8) j := by
          refine Decidable.byContradiction fun k => ?_
          rw [if_neg k] at f1; omega
        have f0' : ¬ (lnA σ m (σ.2.1 (m + 6) j) 0 - (l - 1) ≤ σ.2.1 (m + 8) j ∧ l - 1 - lnA σ m (σ.2.1 (m + 6) j) 0 ≤ σ.2.1 (m + 8) j) := fun k => by
          rw [if_pos k] at f0; omega
        omega
      · rw [if_neg a, if_neg b] at f0 f1
        omega
  · have lt := key (l + 1) ⟨h.1, by omega⟩ (by unfold mchg; split <;> split <;> omega)
    obtain ⟨j, hj, f0, f1⟩ := FWn_lt _ lt
    have q := rj j (by omega) (by omega)
    refine ⟨j, by omega, ?_⟩
    unfold ftP lnP at f0 f1
    unfold endD
    have q3 := q.2.2.1
    by_cases a : σ.2.1 (m + 6) j = p
    · have b : ¬ σ.2.1 (m + 7) j = p := fun k => q3 (a.trans k.symm)
      rw [if_pos a, if_neg b] at f0 f1
      refine .inl ⟨a.symm, ?_⟩
      have f1' : l - lnA σ m (σ.2.1 (m + 7) j) 0 ≤ σ.2.1 (m + 8) j ∧ lnA σ m (σ.2.1 (m + 7) j) 0 - l ≤ σ.2.1 (m + 8) j := by
        refine Decidable.byContradiction fun k => ?_
        rw [if_neg k] at f1; omega
      have f0' : ¬ (l + 1 - lnA σ m (σ.2.1 (m + 7) j) 0 ≤ σ.2.1 (m + 8) j ∧ lnA σ m (σ.2.1 (m + 7) j) 0 - (l + 1) ≤ σ.2.1 (m + 8) j) := fun k => by
        rw [if_pos k] at f0; omega
      omega
    · by_cases b : σ.2.1 (m + 7) j = p
      · rw [if_neg a, if_pos b] at f0 f1
        refine .inr ⟨b.symm, ?_⟩
        have f1' : lnA σ m (σ.2.1 (m + 6) j) 0 - l ≤ σ.2.1 (m + 8) j ∧ l - lnA σ m (σ.2.1 (m + 6) j) 0 ≤ σ.2.1 (m + 8) j := by
          refine Decidable.byContradiction fun k => ?_
          rw [if_neg k] at f1; omega
        have f0' : ¬ (lnA σ m (σ.2.1 (m + 6) j) 0 - (l + 1) ≤ σ.2.1 (m + 8) j ∧ l + 1 - lnA σ m (σ.2.1 (m + 6) j) 0 ≤ σ.2.1 (m + 8) j) := fun k => by
          rw [if_pos k] at f0; omega
        omega
      · rw [if_neg a, if_neg b] at f0 f1
        omega
/-- all tried, and the ends tried: the same best -/
theorem Md.same {m : Nat} {bk : Int} (hI : IMach m bk σ σm) {p l f p' l' f' : Int} (h : Md σ m (endsD σ m (fI σ m 7)) p l f) (h' : Md σ m (fun _ _ => True) p' l' f') : (p = -1 ∧ p' = -1) ∨ (0 ≤ p ∧ p = p' ∧ l = l' ∧ f = f') := by
  rcases h' with ⟨k1, k2, k3⟩ | ⟨⟨k1, _⟩, k3, k4, k5⟩
  · rcases h with ⟨h1, h2, h3⟩ | ⟨⟨h1, h2⟩, h3, h4, h5⟩
    · exact .inl ⟨h1, k1⟩
    · have := k3 p l h1 trivial; omega
  · have en := best_end hI k1 k3 (fun i v a b => k5 i v a trivial b)
    rcases h with ⟨h1, h2, h3⟩ | ⟨⟨h1, h2⟩, h3, h4, h5⟩
    · have := h3 p' l' k1 en; omega
    · have a := h5 p' l' k1 en k3
      have b := k5 p l h1 trivial h3
      have e1 := mkey_lt hI h1 k1
      have e2 := mkey_lt hI k1 h1
      have e3 : ¬ mkey σ m p l < mkey σ m p' l' := by omega
      have e4 : ¬ mkey σ m p' l' < mkey σ m p l := by omega
      rw [e1] at e3
      rw [e2] at e4
      have p0 := h1.1
      have ep : p = p' := by omega
      have el : l = l' := by omega
      subst ep el
      exact .inr ⟨p0.1, rfl, rfl, h4.trans k4.symm⟩
end F
