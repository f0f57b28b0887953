/-! the pure part: WORKS, the reference's search -/
def Tkn : Nat → Nat
  | 0 => 0
  | k + 1 => 3 * (Tkn k + 1) + 1
theorem Tkn_le : ∀ n : Nat, n < 13 → Tkn n ≤ 1062880 := by decide
def Smw (mk : Int → Int) (n : Nat) : Nat → Int
  | 0 => 0
  | k + 1 => Smw mk n k + (2 - mk (k : Int)) * ((Tkn (n - 1 - k) : Int) + 1) + 1
theorem Smw_congr {g h : Int → Int} {n : Nat} : ∀ k : Nat, (∀ j : Int, 0 ≤ j → j < (k : Int) → g j = h j) → Smw g n k = Smw h n k
  | 0, _ => rfl
  | k + 1, e => by
    unfold Smw
    rw [Smw_congr k fun j a b => e j a (by omega), e k (by omega) (by omega)]
theorem Smw_nonneg {g : Int → Int} {n : Nat} : ∀ k : Nat, digW k g → 0 ≤ Smw g n k
  | 0, _ => Int.le_refl _
  | k + 1, e => by
    have ih := Smw_nonneg (n := n) k fun j a b => e j a (by omega)
    have := e k (by omega) (by omega)
    have p : 0 ≤ (2 - g (k : Int)) * ((Tkn (n - 1 - k) : Int) + 1) := Int.mul_nonneg (by omega) (by omega)
    unfold Smw
    omega
theorem Twk_rg {c h : Int → Int} {d : Int} : ∀ k : Nat, (∀ j : Int, 0 ≤ j → j < (k : Int) → 0 ≤ c j ∧ c j ≤ 999) → 0 ≤ Twk c h d k ∧ Twk c h d k ≤ 999 * (k : Int)
  | 0, _ => ⟨Int.le_refl _, Int.le_refl _⟩
  | k + 1, e => by
    have ih := Twk_rg (h := h) (d := d) k fun j a b => e j a (by omega)
    have := e k (by omega) (by omega)
    unfold Twk
    split <;> omega
theorem Twk_mono {c h : Int → Int} {d : Int} (i : Nat) : ∀ k : Nat, (∀ j : Int, 0 ≤ j → j < ((i + k : Nat) : Int) → 0 ≤ c j) → Twk c h d i ≤ Twk c h d (i + k)
  | 0, _ => Int.le_refl _
  | k + 1, e => by
    have ih := Twk_mono (h := h) (d := d) i k fun j a b => e j a (by omega)
    have := e ((i + k : Nat) : Int) (by omega) (by omega)
    have q : Twk c h d (i + (k + 1)) = Twk c h d (i + k) + (if h ((i + k : Nat) : Int) = d then c ((i + k : Nat) : Int) else 0) := rfl
    rw [q]
    split <;> omega
theorem Qw_lex {g h : Int → Int} (i : Nat) : ∀ k : Nat, digW (i + k) g → digW (i + k) h → Qw g i < Qw h i → Qw g (i + k) < Qw h (i + k)
  | 0, _, _, e => e
  | k + 1, a, b, e => by
    have ih := Qw_lex i k (fun j x y => a j x (by omega)) (fun j x y => b j x (by omega)) e
    have x := a ((i + k : Nat) : Int) (by omega) (by omega)
    have y := b ((i + k : Nat) : Int) (by omega) (by omega)
    have q : Qw g (i + (k + 1)) = 3 * Qw g (i + k) + g ((i + k : Nat) : Int) := rfl
    have r : Qw h (i + (k + 1)) = 3 * Qw h (i + k) + h ((i + k : Nat) : Int) := rfl
    omega
/-- the best of those seen -/
def BsW (c : Int → Int) (n : Nat) (R : Int) (D : (Int → Int) → Prop) (φ : St) : Prop := (fI φ 1 84 = -1 ∧ ∀ h, feaW c n R h → ¬ D h) ∨ (∃ g, (feaW c n R g ∧ D g) ∧ fI φ 1 84 = Twk c g 2 n ∧ (∀ j : Int, 0 ≤ j → j < (n : Int) → φ.2.1 48 j = g j) ∧ ∀ h, feaW c n R h → D h → Twk c g 2 n ≤ Twk c h 2 n ∧ (Twk c h 2 n = Twk c g 2 n → Qw g n ≤ Qw h n))
section B
variable {c : Int → Int} {n : Nat} {R : Int} {D E : (Int → Int) → Prop} {φ ψ : St}
theorem BsW.ext (h : BsW c n R D φ) (e : ∀ g, feaW c n R g → (D g ↔ E g)) (e1 : fI ψ 1 84 = fI φ 1 84) (e2 : ∀ j : Int, ψ.2.1 48 j = φ.2.1 48 j) : BsW c n R E ψ := by
  rcases h with ⟨h1, h2⟩ | ⟨g, ⟨h1, h2⟩, h3, h4, h5⟩
  · exact .inl ⟨e1.trans h1, fun g hg q => h2 g hg ((e g hg).mpr q)⟩
  · exact .inr ⟨g, ⟨h1, (e g h1).mp h2⟩, e1.trans h3, fun j a b => (e2 j).trans (h4 j a b), fun k hk q => h5 k hk ((e k hk).mpr q)⟩
theorem BsW.pass (h : BsW c n R D φ) (s : ∀ g, D g → E g) (e : ∀ g, feaW c n R g → E g → ¬ D g → (fI φ 1 84 ≠ -1 ∧ fI φ 1 84 ≤ Twk c g 2 n ∧ ∀ f, feaW c n R f → D f → Qw f n ≤ Qw g n)) : BsW c n R E φ := by
  rcases h with ⟨h1, h2⟩ | ⟨g, ⟨h1, h2⟩, h3, h4, h5⟩
  · refine .inl ⟨h1, fun g hg q => ?_⟩
    exact (e g hg q (h2 g hg)).1 h1
  · refine .inr ⟨g, ⟨h1, s g h2⟩, h3, h4, fun k hk q => ?_⟩
    by_cases d : D k
    · exact h5 k hk d
    · obtain ⟨_, x, y⟩ := e k hk q d
      exact ⟨by omega, fun _ => y g h1 h2⟩
theorem BsW.take (hc : ∀ j : Int, 0 ≤ j → j < (n : Int) → 0 ≤ c j) (h : BsW c n R D φ) {g : Int → Int} (hg : feaW c n R g) (hE : E g) (s : ∀ k, feaW c n R k → E k → ¬ D k → ∀ j : Int, 0 ≤ j → j < (n : Int) → k j = g j) (b : fI φ 1 84 = -1 ∨ Twk c g 2 n < fI φ 1 84) (e1 : fI ψ 1 84 = Twk c g 2 n) (e2 : ∀ j : Int, 0 ≤ j → j < (n : Int) → ψ.2.1 48 j = g j) : BsW c n R E ψ := by
  refine .inr ⟨g, ⟨hg, hE⟩, e1, e2, fun k hk q => ?_⟩
  by_cases d : D k
  · rcases h with ⟨h1, h2⟩ | ⟨f, ⟨h1, h2⟩, h3, h4, h5⟩
    · exact absurd d (h2 k hk)
    · have := (h5 k hk d).1
      have := Tw_nonneg (h := f) (d := 2) n hc
      rcases b with b | b
      · omega
      · exact ⟨by omega, fun q => by omega⟩
  · have a := s k hk q d
    have x := Tw_congr (c := c) (d := 2) n a
    have y := Qw_congr n a
    exact ⟨by omega, fun _ => by omega⟩
end B
