/-! the pure part: what a frame keeps of the relation -/
def avd (A L : List Nat) : Bool := L.all fun k => !A.contains k
theorem avd_of {A L : List Nat} (h : avd A L = true) {k : Nat} (hk : k ∈ L) : k ∉ A := fun q => by
  have := List.all_eq_true.mp h k hk
  rw [List.contains_iff_mem.mpr q] at this
  exact absurd this (by decide)
section F
variable {σ σm τ τm : St} {A B J : List Nat}
theorem ITape.fr (h : ITape σ σm) (f : FX A σ τ) (g : FM B J σm τm) (a : avd A [2, 4] = true) (b : avd B [2] = true) (c : avd J [2, 4, 5] = true) : ITape τ τm :=
  h.keep (f.2.2 2 (avd_of a (by decide))) (f.2.2 4 (avd_of a (by decide))) (g.f (avd_of c (by decide))) (g.f (avd_of c (by decide))) (g.f (avd_of c (by decide))) (g.2.2.1 2 (by decide) (avd_of b (by decide)))
theorem IFacts.fr (h : IFacts σ σm) (f : FX A σ τ) (g : FM B J σm τm) (a : avd A [66, 67, 68, 69, 70, 71] = true) (b : avd B [33, 34, 35, 36, 37] = true) (c : avd J [67, 68] = true) : IFacts τ τm :=
  h.keep (fun k x y => f.2.2 k (avd_of a (by simp; omega))) (g.f (avd_of c (by decide))) (g.f (avd_of c (by decide))) (fun k x y => g.2.2.1 k (by omega) (avd_of b (by simp; omega)))
theorem IAir.fr (h : IAir σ σm) (f : FX A σ τ) (g : FM B J σm τm) (a : avd A [100, 101, 102] = true) (b : avd B [44, 45] = true) (c : avd J [81] = true) : IAir τ τm :=
  h.keep (f.2.2 100 (avd_of a (by decide))) (f.2.2 101 (avd_of a (by decide))) (f.2.2 102 (avd_of a (by decide))) (g.f (avd_of c (by decide))) (g.2.2.1 44 (by decide) (avd_of b (by decide))) (g.2.2.1 45 (by decide) (avd_of b (by decide)))
theorem IFly.fr (h : IFly σ σm) (f : FX A σ τ) (g : FM B J σm τm) (a : avd A [73, 74, 75] = true) (b : avd B [39, 40] = true) (c : avd J [73, 74] = true) : IFly τ τm :=
  h.keep (f.2.2 73 (avd_of a (by decide))) (f.2.2 74 (avd_of a (by decide))) (f.2.2 75 (avd_of a (by decide))) (g.f (avd_of c (by decide))) (g.f (avd_of c (by decide))) (g.2.2.1 39 (by decide) (avd_of b (by decide))) (g.2.2.1 40 (by decide) (avd_of b (by decide)))
theorem IStg.fr (h : IStg σ σm) (f : FX A σ τ) (g : FM B J σm τm) (a : avd A [108, 109, 110] = true) (b : avd B [49, 50] = true) (c : avd J [91, 92, 93] = true) : IStg τ τm :=
  h.keep (f.2.2 108 (avd_of a (by decide))) (f.2.2 109 (avd_of a (by decide))) (f.2.2 110 (avd_of a (by decide))) (g.f (avd_of c (by decide))) (g.f (avd_of c (by decide))) (g.f (avd_of c (by decide))) (g.2.2.1 49 (by decide) (avd_of b (by decide))) (g.2.2.1 50 (by decide) (avd_of b (by decide)))
def cM37 : List Nat := [8, 9, 10, 11, 12, 13, 14, 15, 16, 17, 18, 19, 20, 21, 22, 23, 24, 25, 26, 27, 28, 29, 30, 31, 32, 33, 34, 35, 36, 37]
theorem cM37_in {k : Nat} (h : 8 ≤ k ∧ k ≤ 37) : k ∈ cM37 := by
  unfold cM37
  simp
  omega
theorem IMach.fr {m : Nat} {bk : Int} (h : IMach m bk σ σm) (f : FX A σ τ) (g : FM B J σm τm) (a : avd A cM37 = true) (b : avd B [4, 5, 6, 7, 8, 9, 10, 11, 12, 13, 14, 15, 16, 17, 18, 19, 20, 21] = true) (c : avd J [31] = true) : IMach m bk τ τm :=
  h.keep f.2.1 (fun k x y => f.2.2 k (avd_of a (cM37_in ⟨x, y⟩))) (g.f (avd_of c (by decide))) (fun k x y => g.2.2.1 k (by omega) (avd_of b (by simp; omega)))
theorem IKn.fr (h : IKn σ) (f : FX A σ τ) (a : avd A [108, 109, 110, 111, 112, 113] = true) : IKn τ := h.keep fun k x y => f.2.2 k (avd_of a (by simp; omega))
theorem IPl.fr {m : Nat} (h : IPl σ m) (hm : isM m) (f : FX A σ τ) (a : avd A cM37 = true) (b : avd A [73, 74, 75, 76, 77, 78, 79, 80, 81, 82, 83, 84, 85, 86, 87, 88, 89] = true) (hn : 0 ≤ fI σ 73 0 ∧ fI σ 73 0 ≤ 12) : IPl τ m := by
  have hml := isM_le hm
  have e : ∀ k, 73 ≤ k → k ≤ 89 → τ.2.1 k = σ.2.1 k := fun k x y => f.2.2 k (avd_of b (by simp; omega))
  have em : ∀ d, d ≤ 14 → τ.2.1 (m + d) = σ.2.1 (m + d) := fun d hd => f.2.2 (m + d) (avd_of a (cM37_in (by omega)))
  have e2 : ∀ j, fI τ 73 j = fI σ 73 j := fun j => congrFun (e 73 (by decide) (by decide)) _
  rcases h with h | ⟨h1, h2⟩
  · exact .inl ((e2 2).trans h)
  · refine .inr ⟨by rw [e2]; exact h1, fun j x y => ?_⟩
    rw [e2] at y
    have := h2 j x y
    unfold TLx2 vX wX at this ⊢
    rw [em 13 (by decide), em 12 (by decide), e 74 (by decide) (by decide), e 75 (by decide) (by decide), e2, e2, e2, e (77 + j.toNat) (by omega) (by omega)]
    exact this
theorem IWk.fr {m : Nat} (h : IWk σ m) (hm : isM m) (f : FX A σ τ) (a : avd A cM37 = true) (b : avd A [104, 105] = true) : IWk τ m := by
  have hml := isM_le hm
  have e104 : ∀ j, fI τ 104 j = fI σ 104 j := fun j => f.f (avd_of b (by decide))
  have e105 : τ.2.1 105 = σ.2.1 105 := f.2.2 105 (avd_of b (by decide))
  have e1 : cW τ m = cW σ m := by unfold cW; rw [f.2.2 (m + 5) (avd_of a (cM37_in (by omega)))]
  have e2 : fI τ m 1 = fI σ m 1 := f.f (avd_of a (cM37_in (by omega)))
  unfold IWk WkG RmW at h ⊢
  rw [e104, e104, e105, e1, e2]
  exact h
end F
