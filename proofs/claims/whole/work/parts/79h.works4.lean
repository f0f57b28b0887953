/-! the pure part: WORKS, what SHARED is -/
/-- what the PARTS before k cost that h gives to d -/
def Twk (c h : Int → Int) (d : Int) : Nat → Int
  | 0 => 0
  | k + 1 => Twk c h d k + (if h (k : Int) = d then c (k : Int) else 0)
def Cw (c : Int → Int) : Nat → Int
  | 0 => 0
  | k + 1 => Cw c k + c (k : Int)
def Qw (h : Int → Int) : Nat → Int
  | 0 => 0
  | k + 1 => 3 * Qw h k + h (k : Int)
def digW (n : Nat) (h : Int → Int) : Prop := ∀ j : Int, 0 ≤ j → j < (n : Int) → 0 ≤ h j ∧ h j ≤ 2
def feaW (c : Int → Int) (n : Nat) (R : Int) (h : Int → Int) : Prop := digW n h ∧ Twk c h 0 n ≤ R ∧ Twk c h 1 n ≤ R
def BestW (c : Int → Int) (n : Nat) (R : Int) (g : Int → Int) : Prop := feaW c n R g ∧ ∀ h, feaW c n R h → Twk c g 2 n ≤ Twk c h 2 n ∧ (Twk c h 2 n = Twk c g 2 n → Qw g n ≤ Qw h n)
theorem Qw_pre {g h : Int → Int} : ∀ k : Nat, digW k g → digW k h → Qw g k = Qw h k → ∀ j : Int, 0 ≤ j → j < (k : Int) → g j = h j
  | 0, _, _, _, j, a, b => by omega
  | k + 1, hg, hh, e, j, a, b => by
    unfold Qw at e
    have x := hg k (by omega) (by omega)
    have y := hh k (by omega) (by omega)
    have e1 : Qw g k = Qw h k := by omega
    by_cases q : j = (k : Int)
    · subst q; omega
    · exact Qw_pre k (fun i p r => hg i p (by omega)) (fun i p r => hh i p (by omega)) e1 j a (by omega)
theorem Tw_congr {c g h : Int → Int} {d : Int} : ∀ k : Nat, (∀ j : Int, 0 ≤ j → j < (k : Int) → g j = h j) → Twk c g d k = Twk c h d k
  | 0, _ => rfl
  | k + 1, e => by
    unfold Twk
    rw [Tw_congr k fun j a b => e j a (by omega), e k (by omega) (by omega)]
theorem Qw_congr {g h : Int → Int} : ∀ k : Nat, (∀ j : Int, 0 ≤ j → j < (k : Int) → g j = h j) → Qw g k = Qw h k
  | 0, _ => rfl
  | k + 1, e => by
    unfold Qw
    rw [Qw_congr k fun j a b => e j a (by omega), e k (by omega) (by omega)]
theorem Tw_sum {c h : Int → Int} : ∀ k : Nat, digW k h → Twk c h 0 k + Twk c h 1 k + Twk c h 2 k = Cw c k
  | 0, _ => rfl
  | k + 1, hd => by
    have ih := Tw_sum (c := c) k fun j a b => hd j a (by omega)
    have x := hd k (by omega) (by omega)
    unfold Twk Cw
    have : h (k : Int) = 0 ∨ h (k : Int) = 1 ∨ h (k : Int) = 2 := by omega
    rcases this with q | q | q <;> rw [q] <;> simp <;> omega
theorem Tw_nonneg {c h : Int → Int} {d : Int} : ∀ k : Nat, (∀ j : Int, 0 ≤ j → j < (k : Int) → 0 ≤ c j) → 0 ≤ Twk c h d k
  | 0, _ => Int.le_refl _
  | k + 1, hc => by
    have := Tw_nonneg (h := h) (d := d) k fun j a b => hc j a (by omega)
    have := hc k (by omega) (by omega)
    unfold Twk
    split <;> omega
theorem BestW.uniq {c : Int → Int} {n : Nat} {R : Int} {g h : Int → Int} (a : BestW c n R g) (b : BestW c n R h) : (∀ j : Int, 0 ≤ j → j < (n : Int) → g j = h j) ∧ Twk c g 2 n = Twk c h 2 n := by
  obtain ⟨a1, a2⟩ := a
  obtain ⟨b1, b2⟩ := b
  have x := a2 h b1
  have y := b2 g a1
  have e : Twk c g 2 n = Twk c h 2 n := by omega
  exact ⟨Qw_pre n a1.1 b1.1 (by have := x.2 e.symm; have := y.2 e; omega), e⟩
theorem Sg_front (w : Nat → Int) (b : Nat → Bool) : ∀ k : Nat, Sg w (k + 1) b = (if b 0 = true then w 0 else 0) + Sg (fun j => w (j + 1)) k (fun j => b (j + 1))
  | 0 => by simp [Sg]
  | k + 1 => by
    have ih := Sg_front w b k
    have e1 : Sg w (k + 1 + 1) b = Sg w (k + 1) b + (if b (k + 1) = true then w (k + 1) else 0) := rfl
    have e2 : Sg (fun j => w (j + 1)) (k + 1) (fun j => b (j + 1)) = Sg (fun j => w (j + 1)) k (fun j => b (j + 1)) + (if b (k + 1) = true then w (k + 1) else 0) := rfl
    rw [e1, e2, ih]
    omega
def consB (x : Bool) (b : Nat → Bool) : Nat → Bool := fun j => match j with
  | 0 => x
  | j + 1 => b j
theorem Sg_cons (w : Nat → Int) (x : Bool) (b : Nat → Bool) (k : Nat) : Sg w (k + 1) (consB x b) = (if x = true then w 0 else 0) + Sg (fun j => w (j + 1)) k b := Sg_front w (consB x b) k
section M
variable {w : Nat → Int} {k : Nat} {r0 r1 M : Int}
/-- the first goes to one, to the other, or to both -/
theorem Mx2.one (h : Mx2 w (k + 1) r0 r1 M) {v : Int} (h' : Mx2 (fun j => w (j + 1)) k (r0 - w 0) r1 v) : w 0 + v ≤ M := by
  obtain ⟨⟨s, t, a1, a2, a3, a4⟩, _⟩ := h'
  have := h.2 (consB true s) (consB false t) (fun i hi q => by
    cases i with
    | zero => exact absurd (show false = true from q) Bool.false_ne_true
    | succ i => exact a1 i (by omega) q) (by rw [Sg_cons, if_pos rfl]; omega) (by rw [Sg_cons, if_neg Bool.false_ne_true]; omega)
  rw [Sg_cons, Sg_cons, if_pos rfl, if_neg Bool.false_ne_true] at this
  omega
theorem Mx2.two (h : Mx2 w (k + 1) r0 r1 M) {v : Int} (h' : Mx2 (fun j => w (j + 1)) k r0 (r1 - w 0) v) : w 0 + v ≤ M := by
  obtain ⟨⟨s, t, a1, a2, a3, a4⟩, _⟩ := h'
  have := h.2 (consB false s) (consB true t) (fun i hi q => by
    cases i with
    | zero => rfl
    | succ i => exact a1 i (by omega) q) (by rw [Sg_cons, if_neg Bool.false_ne_true]; omega) (by rw [Sg_cons, if_pos rfl]; omega)
  rw [Sg_cons, Sg_cons, if_pos rfl, if_neg Bool.false_ne_true] at this
  omega
theorem Mx2.both (h : Mx2 w (k + 1) r0 r1 M) (n0 : ∀ v, w 0 ≤ r0 → Mx2 (fun j => w (j + 1)) k (r0 - w 0) r1 v → w 0 + v ≠ M) (n1 : ∀ v, w 0 ≤ r1 → Mx2 (fun j => w (j + 1)) k r0 (r1 - w 0) v → w 0 + v ≠ M) (hw : ∀ j, 0 ≤ w j) (e0 : w 0 ≤ r0 → ∃ v, Mx2 (fun j => w (j + 1)) k (r0 - w 0) r1 v) (e1 : w 0 ≤ r1 → ∃ v, Mx2 (fun j => w (j + 1)) k r0 (r1 - w 0) v) : Mx2 (fun j => w (j + 1)) k r0 r1 M := by
  obtain ⟨⟨s, t, a1, a2, a3, a4⟩, ub⟩ := id h
  rw [Sg_front] at a2 a3 a4
  rw [Sg_front w t k] at a4
  have sub : SubB k (fun j => t (j + 1)) (fun i => !(fun j => s (j + 1)) i) := fun i hi q => a1 (i + 1) (by omega) q
  have ws := Sg_nonneg (w := fun j => w (j + 1)) (fun j => hw (j + 1)) (fun j => s (j + 1)) k
  have wt := Sg_nonneg (w := fun j => w (j + 1)) (fun j => hw (j + 1)) (fun j => t (j + 1)) k
  by_cases hs : s 0 = true
  · have ht : ¬ t 0 = true := fun q => by have z : (!s 0) = true := a1 0 (by omega) q; rw [hs] at z; exact absurd z (by decide)
    rw [if_pos hs] at a2 a4
    rw [if_neg ht] at a3 a4
    obtain ⟨v, hv⟩ := e0 (by omega)
    have := hv.2 _ _ sub (by omega) (by omega)
    have := h.one hv
    exact absurd (by omega) (n0 v (by omega) hv)
  · by_cases ht : t 0 = true
    · rw [if_neg hs] at a2 a4
      rw [if_pos ht] at a3 a4
      obtain ⟨v, hv⟩ := e1 (by omega)
      have := hv.2 _ _ sub (by omega) (by omega)
      have := h.two hv
      exact absurd (by omega) (n1 v (by omega) hv)
    · rw [if_neg hs] at a2 a4
      rw [if_neg ht] at a3 a4
      refine ⟨⟨fun j => s (j + 1), fun j => t (j + 1), sub, by omega, by omega, by omega⟩, fun s' t' b1 b2 b3 => ?_⟩
      have := ub (consB false s') (consB false t') (fun i hi q => by
        cases i with
        | zero => exact absurd (show false = true from q) Bool.false_ne_true
        | succ i => exact b1 i (by omega) q) (by rw [Sg_cons, if_neg Bool.false_ne_true]; omega) (by rw [Sg_cons, if_neg Bool.false_ne_true]; omega)
      rw [Sg_cons, Sg_cons, if_neg Bool.false_ne_true] at this
      omega
end M
section F
variable {N : Nat} {σ σm : St}
def cW (σ : St) (m : Nat) : Int → Int := fun j => σ.2.1 (m + 5) j
def bW (h : Int → Int) (i d : Int) : Nat → Bool := fun j => decide (h (i + (j : Int)) = d)
theorem Sg_T {m : Nat} (h : Int → Int) (d : Int) (i : Nat) : ∀ k : Nat, ((i + k : Nat) : Int) ≤ fI σ m 1 → Sg (wC σ m i) k (bW h i d) = Twk (cW σ m) h d (i + k) - Twk (cW σ m) h d i
  | 0, _ => by unfold Sg; rw [Nat.add_zero, Int.sub_self]
  | k + 1, hk => by
    have ih := Sg_T (m := m) h d i k (by omega)
    have e : Twk (cW σ m) h d (i + (k + 1)) = Twk (cW σ m) h d (i + k) + (if h ((i + k : Nat) : Int) = d then cW σ m ((i + k : Nat) : Int) else 0) := rfl
    unfold Sg
    rw [ih, e]
    have ei : (i : Int) + (k : Int) = ((i + k : Nat) : Int) := by omega
    have eb : bW h i d k = decide (h ((i + k : Nat) : Int) = d) := by unfold bW; rw [ei]
    have ew : wC σ m i k = cW σ m ((i + k : Nat) : Int) := by unfold wC cW; rw [if_pos (by omega), ei]
    rw [eb, ew]
    by_cases q : h ((i + k : Nat) : Int) = d
    · rw [if_pos q, if_pos (decide_eq_true q)]; omega
    · rw [if_neg q, if_neg (by rw [decide_eq_false q]; exact Bool.false_ne_true)]; omega
theorem bW_sub (h : Int → Int) (i : Int) (k : Nat) : SubB k (bW h i 1) (fun j => !bW h i 0 j) := fun j hj q => by
  unfold bW at q ⊢
  have := of_decide_eq_true q
  simp [this]
theorem wC_next {m : Nat} (i : Int) : (fun j => wC σ m i (j + 1)) = wC σ m (i + 1) := by
  funext j
  unfold wC
  rw [show i + ((j + 1 : Nat) : Int) = i + 1 + (j : Int) by omega]
end F
