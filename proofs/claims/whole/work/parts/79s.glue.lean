/-! the pure part: the relation, and what each call keeps of it -/
section F
variable {N : Nat} {σ σm τ τm : St} {A B J : List Nat}
def cTr : List Nat := [40, 41, 42, 43, 46, 47, 48, 49, 52, 53, 54, 55, 58, 59, 60, 61]
theorem cTr_in {t d : Nat} (h : isT t) (hd : d ≤ 3) : t + d ∈ cTr := by
  unfold isT at h
  unfold cTr
  simp
  omega
theorem ITre.fr {t : Int → Nat} {sp : Nat} (h : ITre t sp σ σm) (f : FX A σ τ) (g : FM B J σm τm) (a : avd A cTr = true) (b : avd B [24, 25, 26, 27, 28, 32] = true) : ITre t sp τ τm := by
  obtain ⟨⟨h1, h2⟩, h3, h4, h5⟩ := h
  refine ⟨⟨fun i x y => ?_, fun i x y => ?_⟩, fun i x y n p q => ?_, ?_, h5⟩
  · rw [f.2.1]; exact h1 i x y
  · have c := cTr_in (h1 i x y).1 (show 0 ≤ 3 by decide)
    rw [show fI τ (t i) 0 = fI σ (t i) 0 from f.f (avd_of a c), g.2.2.1 24 (by decide) (avd_of b (by decide))]
    exact h2 i x y
  · exact (h3 i x y n p q).keep (fun d d1 d2 => f.2.2 _ (avd_of a (cTr_in (h1 i x y).1 d2))) (g.2.2.1 25 (by decide) (avd_of b (by decide))) (g.2.2.1 26 (by decide) (avd_of b (by decide))) (g.2.2.1 27 (by decide) (avd_of b (by decide))) (g.2.2.1 28 (by decide) (avd_of b (by decide))) (g.2.2.1 32 (by decide) (avd_of b (by decide)))
  · rw [f.2.1]; exact h4
theorem IUnl.fr {t : Int → Nat} (h : IUnl t σ) (ht : ∀ i : Int, 0 ≤ i → i < 3 → isT (t i)) (f : FX A σ τ) (a : avd A cTr = true) (b : avd A [65] = true) : IUnl t τ := h.keep (fun i hi d d1 d2 => f.2.2 _ (avd_of a (cTr_in (ht i hi.1 (by omega)) d2))) (f.2.2 65 (avd_of b (by decide)))
/-- all but what the texts' readers need besides -/
def InvR (m : Nat) (bk : Int) (t : Int → Nat) (sp : Nat) (σ σm : St) : Prop := (WXr σ.1 σ.2.2 ∧ WMr σm.1 σm.2.2) ∧ ITape σ σm ∧ IMach m bk σ σm ∧ IFacts σ σm ∧ IAir σ σm ∧ (IFly σ σm ∧ IPl σ m) ∧ (IStg σ σm ∧ IKn σ) ∧ ITre t sp σ σm ∧ IUnl t σ ∧ IWk σ m
theorem InvR.fr {m : Nat} {bk : Int} {t : Int → Nat} {sp : Nat} (h : InvR m bk t sp σ σm) (f : FX A σ τ) (g : FM B J σm τm) (o1 : ITape τ τm ∨ (avd A [2, 4] = true ∧ avd B [2] = true ∧ avd J [2, 4, 5] = true)) (o2 : avd A cM37 = true ∧ avd B [4, 5, 6, 7, 8, 9, 10, 11, 12, 13, 14, 15, 16, 17, 18, 19, 20, 21] = true ∧ avd J [31] = true) (o3 : IFacts τ τm ∨ (avd A [66, 67, 68, 69, 70, 71] = true ∧ avd B [33, 34, 35, 36, 37] = true ∧ avd J [67, 68] = true)) (o4 : IAir τ τm ∨ (avd A [100, 101, 102] = true ∧ avd B [44, 45] = true ∧ avd J [81] = true)) (o5 : (IFly τ τm ∧ IPl τ m) ∨ (avd A [73, 74, 75, 76, 77, 78, 79, 80, 81, 82, 83, 84, 85, 86, 87, 88, 89] = true ∧ avd B [39, 40] = true ∧ avd J [73, 74] = true)) (o6 : (IStg τ τm ∧ IKn τ) ∨ (avd A [108, 109, 110, 111, 112, 113] = true ∧ avd B [49, 50] = true ∧ avd J [91, 92, 93] = true)) (o7 : avd A cTr = true ∧ avd B [24, 25, 26, 27, 28, 32] = true) (o8 : IUnl t τ ∨ avd A [65] = true) (o9 : IWk τ m ∨ avd A [104, 105] = true) : InvR m bk t sp τ τm := by
  obtain ⟨⟨h0, h0'⟩, h1, h2, h3, h4, ⟨h5, h5'⟩, ⟨h6, h6'⟩, h7, h8, h9⟩ := h
  have sub : ∀ {A L M : List Nat}, avd A M = true → (∀ k, k ∈ L → k ∈ M) → avd A L = true := fun {A L M} q s => List.all_eq_true.mpr fun k hk => List.all_eq_true.mp q k (s k hk)
  refine ⟨⟨f.X h0, g.M h0'⟩, ?_, h2.fr f g o2.1 o2.2.1 o2.2.2, ?_, ?_, ?_, ?_, h7.fr f g o7.1 o7.2, ?_, ?_⟩
  · rcases o1 with o | ⟨a, b, c⟩
    · exact o
    · exact h1.fr f g a b c
  · rcases o3 with o | ⟨a, b, c⟩
    · exact o
    · exact h3.fr f g a b c
  · rcases o4 with o | ⟨a, b, c⟩
    · exact o
    · exact h4.fr f g a b c
  · rcases o5 with o | ⟨a, b, c⟩
    · exact o
    · exact ⟨h5.fr f g (sub a (by decide)) b c, h5'.fr h2.1 f o2.1 a h5.fy.1⟩
  · rcases o6 with o | ⟨a, b, c⟩
    · exact o
    · exact ⟨h6.fr f g (sub a (by decide)) b c, h6'.fr f a⟩
  · rcases o8 with o | a
    · exact o
    · exact h8.fr (fun i x y => (h7.1.1 i x y).1) f o7.1 a
  · rcases o9 with o | a
    · exact o
    · exact h9.fr h2.1 f o2.1 a
end F
