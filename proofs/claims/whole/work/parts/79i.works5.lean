/-! the pure part: WORKS, the class's choice -/
def updW (g : Int → Int) (i d : Int) : Int → Int := fun j => if j = i then d else g j
section F
variable {N : Nat} {σ σm : St}
def ChI (σ : St) (m : Nat) (n : Nat) (R A : Int) (i : Nat) (g : Int → Int) (r0 r1 goal : Int) : Prop := digW i g ∧ (r0 = R - Twk (cW σ m) g 0 i ∧ r1 = R - Twk (cW σ m) g 1 i) ∧ (0 ≤ r0 ∧ 0 ≤ r1) ∧ Mx2 (wC σ m i) (n - i) r0 r1 goal ∧ A = Twk (cW σ m) g 0 i + Twk (cW σ m) g 1 i + goal ∧ ∀ h, feaW (cW σ m) n R h → Twk (cW σ m) h 0 n + Twk (cW σ m) h 1 n = A → Qw g i ≤ Qw h i
theorem ChI.step {m n : Nat} {R A : Int} {i : Nat} {g : Int → Int} {r0 r1 goal : Int} (H : ChI σ m n R A i g r0 r1 goal) {d : Int} (hd : 0 ≤ d ∧ d ≤ 2) {r0' r1' goal' : Int} (e0 : r0' = r0 - if d = 0 then cW σ m i else 0) (e1 : r1' = r1 - if d = 1 then cW σ m i else 0) (e2 : goal' = goal - if d = 2 then 0 else cW σ m i) (nn : 0 ≤ r0' ∧ 0 ≤ r1') (hM : Mx2 (wC σ m ((i + 1 : Nat) : Int)) (n - (i + 1)) r0' r1' goal') (ex : ∀ h, feaW (cW σ m) n R h → Twk (cW σ m) h 0 n + Twk (cW σ m) h 1 n = A → (∀ j : Int, 0 ≤ j → j < (i : Int) → h j = g j) → d ≤ h i) (hi : i < n) : ChI σ m n R A (i + 1) (updW g i d) r0' r1' goal' := by
  obtain ⟨h1, ⟨h2, h3⟩, h4, h5, h6, h7⟩ := H
  have eg : ∀ j : Int, 0 ≤ j → j < (i : Int) → updW g i d j = g j := fun j a b => by unfold updW; rw [if_neg (by omega)]
  have ei : updW g i d i = d := if_pos rfl
  have ext : ∀ x : Int, Twk (cW σ m) (updW g i d) x (i + 1) = Twk (cW σ m) g x i + (if d = x then cW σ m i else 0) := fun x => by
    have : Twk (cW σ m) (updW g i d) x (i + 1) = Twk (cW σ m) (updW g i d) x i + (if updW g i d (i : Int) = x then cW σ m (i : Int) else 0) := rfl
    rw [this, ei, Tw_congr i eg]
  refine ⟨fun j a b => ?_, ⟨?_, ?_⟩, nn, hM, ?_, fun h hf hA => ?_⟩
  · by_cases q : j = (i : Int)
    · rw [q, ei]; exact hd
    · rw [eg j a (by omega)]; exact h1 j a (by omega)
  · rw [ext]; omega
  · rw [ext]; omega
  · rw [ext, ext]
    have : d = 0 ∨ d = 1 ∨ d = 2 := by omega
    rcases this with rfl | rfl | rfl
    · rw [if_neg (by decide)] at e2; rw [if_pos rfl, if_neg (by decide)]; omega
    · rw [if_neg (by decide)] at e2; rw [if_neg (by decide), if_pos rfl]; omega
    · rw [if_pos rfl] at e2; rw [if_neg (by decide), if_neg (by decide)]; omega
  · have q := h7 h hf hA
    have hx := hf.1 i (by omega) (by omega)
    have e : Qw (updW g i d) (i + 1) = 3 * Qw g i + d := by
      have : Qw (updW g i d) (i + 1) = 3 * Qw (updW g i d) i + updW g i d (i : Int) := rfl
      rw [this, ei, Qw_congr i eg]
    have e' : Qw h (i + 1) = 3 * Qw h i + h (i : Int) := rfl
    rw [e, e']
    by_cases k : Qw g i = Qw h i
    · have := ex h hf hA (fun j a b => (Qw_pre i h1 (fun j a b => hf.1 j a (by omega)) k j a b).symm)
      omega
    · omega
/-- who makes i like h, and what is left -/
theorem ChI.no {m n : Nat} {R A : Int} {i : Nat} {g : Int → Int} {r0 r1 goal : Int} (hn : (n : Int) = fI σ m 1) (hc : ∀ i j, 0 ≤ wC σ m (i : Nat) j) (H : ChI σ m n R A i g r0 r1 goal) (hi : i < n) {h : Int → Int} (hf : feaW (cW σ m) n R h) (hA : Twk (cW σ m) h 0 n + Twk (cW σ m) h 1 n = A) (ag : ∀ j : Int, 0 ≤ j → j < (i : Int) → h j = g j) : (h i = 0 → cW σ m i ≤ r0 ∧ ∀ v, Mx2 (wC σ m ((i + 1 : Nat) : Int)) (n - (i + 1)) (r0 - cW σ m i) r1 v → cW σ m i + v = goal) ∧ (h i = 1 → cW σ m i ≤ r1 ∧ ∀ v, Mx2 (wC σ m ((i + 1 : Nat) : Int)) (n - (i + 1)) r0 (r1 - cW σ m i) v → cW σ m i + v = goal) := by
  obtain ⟨h1, ⟨h2, h3⟩, h4, h5, h6, h7⟩ := H
  obtain ⟨k, hk⟩ : ∃ k, n = i + (k + 1) := ⟨n - i - 1, by omega⟩
  have nk : n - (i + 1) = k := by omega
  have ni : n - i = k + 1 := by omega
  rw [ni] at h5
  have s0 := Sg_T (σ := σ) (m := m) h 0 i (k + 1) (by omega)
  have s1 := Sg_T (σ := σ) (m := m) h 1 i (k + 1) (by omega)
  rw [← hk, Sg_front, wC_next] at s0 s1
  rw [Tw_congr (h := g) i ag] at s0 s1
  have w0 : wC σ m i 0 = cW σ m i := by unfold wC cW; rw [if_pos (by omega)]; congr 1
  rw [w0] at s0 s1
  have b0 : ∀ d : Int, bW h i d 0 = decide (h i = d) := fun d => by unfold bW; congr 2
  rw [b0] at s0 s1
  have nn0 := Sg_nonneg (w := wC σ m ((i : Int) + 1)) (fun j => hc (i + 1) j) (fun j => bW h i 0 (j + 1)) k
  have nn1 := Sg_nonneg (w := wC σ m ((i : Int) + 1)) (fun j => hc (i + 1) j) (fun j => bW h i 1 (j + 1)) k
  have sub : SubB k (fun j => bW h i 1 (j + 1)) (fun i' => !(fun j => bW h i 0 (j + 1)) i') := fun j hj q => bW_sub h i (k + 1) (j + 1) (by omega) q
  have f0 := hf.2.1
  have f1 := hf.2.2
  rw [nk, show ((i + 1 : Nat) : Int) = (i : Int) + 1 by omega]
  constructor
  · intro hi0
    rw [hi0] at s0 s1
    rw [if_pos (by decide)] at s0
    rw [if_neg (by decide)] at s1
    refine ⟨by omega, fun v hv => ?_⟩
    have a := hv.2 _ _ sub (by omega) (by omega)
    have hv' : Mx2 (fun j => wC σ m i (j + 1)) k (r0 - wC σ m i 0) r1 v := by rw [wC_next, w0]; exact hv
    have b := h5.one hv'
    omega
  · intro hi1
    rw [hi1] at s0 s1
    rw [if_neg (by decide)] at s0
    rw [if_pos (by decide)] at s1
    refine ⟨by omega, fun v hv => ?_⟩
    have a := hv.2 _ _ sub (by omega) (by omega)
    have hv' : Mx2 (fun j => wC σ m i (j + 1)) k r0 (r1 - wC σ m i 0) v := by rw [wC_next, w0]; exact hv
    have b := h5.two hv'
    omega
/-- nothing left: it is the best -/
theorem ChI.fin {m n : Nat} {R A : Int} {g : Int → Int} {r0 r1 goal : Int} (H : ChI σ m n R A n g r0 r1 goal) (hmax : ∀ h, feaW (cW σ m) n R h → Twk (cW σ m) h 0 n + Twk (cW σ m) h 1 n ≤ A) : BestW (cW σ m) n R g ∧ Twk (cW σ m) g 2 n = Cw (cW σ m) n - A := by
  obtain ⟨h1, ⟨h2, h3⟩, h4, h5, h6, h7⟩ := H
  rw [Nat.sub_self] at h5
  have g0 : goal = 0 := by
    obtain ⟨⟨s, t, _, _, _, a⟩, _⟩ := h5
    unfold Sg at a
    omega
  have sg := Tw_sum (c := cW σ m) n h1
  have e : Twk (cW σ m) g 2 n = Cw (cW σ m) n - A := by omega
  refine ⟨⟨⟨h1, by omega, by omega⟩, fun h hf => ?_⟩, e⟩
  have sh := Tw_sum (c := cW σ m) n hf.1
  have := hmax h hf
  exact ⟨by omega, fun q => h7 h hf (by omega)⟩
theorem ChI.start {m n : Nat} (hn : (n : Int) = fI σ m 1) {R A : Int} (hR : 0 ≤ R) (h : Mx2 (wC σ m 0) n R R A) : ChI σ m n R A 0 (fun _ => 0) R R A ∧ ∀ h, feaW (cW σ m) n R h → Twk (cW σ m) h 0 n + Twk (cW σ m) h 1 n ≤ A := by
  refine ⟨⟨fun j a b => by omega, ⟨?_, ?_⟩, ⟨hR, hR⟩, h, ?_, fun h _ _ => Int.le_refl _⟩, fun g hf => ?_⟩
  · unfold Twk; omega
  · unfold Twk; omega
  · unfold Twk; omega
  · have s0 := Sg_T (σ := σ) (m := m) g 0 0 n (by omega)
    have s1 := Sg_T (σ := σ) (m := m) g 1 0 n (by omega)
    rw [Nat.zero_add] at s0 s1
    have z : ∀ d, Twk (cW σ m) g d 0 = 0 := fun _ => rfl
    rw [z] at s0 s1
    have s0' : Sg (wC σ m 0) n (bW g ((0 : Nat) : Int) 0) = Twk (cW σ m) g 0 n - 0 := s0
    have s1' : Sg (wC σ m 0) n (bW g ((0 : Nat) : Int) 1) = Twk (cW σ m) g 1 n - 0 := s1
    have := h.2 (bW g ((0 : Nat) : Int) 0) (bW g ((0 : Nat) : Int) 1) (bW_sub g ((0 : Nat) : Int) n) (by rw [s0']; have := hf.2.1; omega) (by rw [s1']; have := hf.2.2; omega)
    omega
end F
