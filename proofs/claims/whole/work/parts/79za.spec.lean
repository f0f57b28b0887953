/-! the pure part: how an expression is read -/
/-- where a reader stands: at which TOKEN, how many units so far, the code so far (the last first) -/
abbrev PS : Type := Int × Int × List Int
abbrev PRs : Type := (Int × Int) ⊕ PS
def bndP (r : PRs) (f : PS → PRs) : PRs := match r with
  | .inl d => .inl d
  | .inr s => f s
def lvl (kd : Int) : Int := if kd = 20 then 1 else if kd = 21 then 0 else if kd = 42 then 4 else if kd = 43 then 3 else if kd = 45 then 3 else if kd = 60 then 2 else if kd = 61 then 2 else if kd = 62 then 2 else -1
def askB (n k : Int) : Bool := decide ((n = 0 ∧ 23 ≤ k ∧ k ≤ 25) ∨ (n = 1 ∧ 25 ≤ k ∧ k ≤ 26) ∨ (n = 2 ∧ 27 ≤ k ∧ k ≤ 29) ∨ (n = 3 ∧ (k = 25 ∨ (30 ≤ k ∧ k ≤ 33))))
theorem askB_iff {n k : Int} : askB n k = true ↔ asksW n k := by unfold askB asksW; exact decide_eq_true_iff
theorem askB_rg {n k : Int} (h : askB n k = true) : 23 ≤ k ∧ k ≤ 33 := by
  have := askB_iff.mp h
  unfold asksW at this
  omega
/-- operands joined by one level's signs -/
def LpG (z : Zs) (F : PS → PRs) (lv : Int) : Nat → PS → PRs
  | 0, s => .inr s
  | i + 1, s => if lvl (kZ z s.1) = lv then bndP (F (nxt z s.1, s.2.1, s.2.2)) (fun s' => LpG z F lv i (s'.1, s'.2.1, (-1 - kZ z s.1) :: s'.2.2)) else .inr s
def Gg (z : Zs) (n : Int) : Nat → Nat → Int → Int → PS → PRs
  | 0, _, _, _, _ => .inl (0, 0)
  | g + 1, 0, L, d, s => if L = 5 then Gg z n g 3 0 d s else if L = 2 ∧ kZ z s.1 = 22 then Gg z n g 2 0 d s else Gg z n g 1 L d s
  | g + 1, 1, L, d, s => bndP (Gg z n g 0 (L + 1) d s) (LpG z (fun s => Gg z n g 0 (L + 1) d s) L (if L = 2 then 1 else 60))
  | g + 1, 2, _, d, s => if 6 < d then .inl (2, pZ z s.1) else bndP (Gg z n g 0 2 (d + 1) (nxt z s.1, s.2.1, s.2.2)) fun s' => .inr (s'.1, s'.2.1, -23 :: s'.2.2)
  | g + 1, _ + 3, _, d, s => if 60 < s.2.1 + 1 then .inl (bad (kZ z s.1) 2, pZ z s.1) else if kZ z s.1 = 101 then .inr (nxt z s.1, s.2.1 + 1, wZ z s.1 :: s.2.2) else if askB n (kZ z s.1) = true then .inr (nxt z s.1, s.2.1 + 1, (-1 - kZ z s.1) :: s.2.2) else if 23 ≤ kZ z s.1 ∧ kZ z s.1 ≤ 33 then .inl (7, pZ z s.1) else if kZ z s.1 = 40 ∧ d ≤ 6 then bndP (Gg z n g 0 0 (d + 1) (nxt z s.1, s.2.1 + 1, s.2.2)) fun s' => if kZ z s'.1 = 41 then .inr (nxt z s'.1, s'.2.1, s'.2.2) else .inl (bad (kZ z s'.1) 2, pZ z s'.1) else .inl (bad (kZ z s.1) 2, pZ z s.1)
/-- how high a pile stands behind a code, the last first -/
def RunR : List Int → Nat → Nat → Prop
  | [], h, h' => h = h'
  | c :: cs, h, h'' => ∃ h', RunR cs h h' ∧ hs c h' h''
theorem RunR.app {b : List Int} : ∀ {a : List Int} {h h' h'' : Nat}, RunR b h h' → RunR a h' h'' → RunR (a ++ b) h h''
  | [], _, _, _, h1, h2 => by
    have h2 : _ = _ := h2
    subst h2
    exact h1
  | c :: cs, _, _, _, h1, h2 => by
    obtain ⟨x, h3, h4⟩ := h2
    exact ⟨x, RunR.app h1 h3, h4⟩
/-- what a good reading does -/
def GP (z : Zs) (n : Int) (s s' : PS) : Prop := s.1 < s'.1 ∧ s'.1 < KZ z ∧ s.2.1 < s'.2.1 ∧ s'.2.1 ≤ 60 ∧ ∃ seg : List Int, s'.2.2 = seg ++ s.2.2 ∧ (seg.length : Int) ≤ s'.1 - s.1 ∧ (∀ h : Nat, (h : Int) + (s'.2.1 - s.2.1) ≤ 60 → RunR seg h (h + 1)) ∧ ∀ c, c ∈ seg → -34 ≤ c ∧ c ≤ -24 → asksW n (-1 - c)
theorem lvl_bin {kd : Int} (h : lvl kd ≠ -1) : isBin (-1 - kd) ∧ kd ≠ 102 ∧ kd ≠ 103 ∧ 0 ≤ lvl kd ∧ lvl kd ≤ 4 := by
  unfold lvl at *
  unfold isBin
  repeat' split at h
  all_goals first | (exact absurd rfl h) | skip
  all_goals
    rename_i q
    subst q
    decide
theorem nx2 {z : Zs} (hz : Str z) {k : Int} (hk : 0 ≤ k ∧ k < KZ z) (kd : kZ z k ≠ 102) : k < nxt z k ∧ nxt z k < KZ z := by
  obtain ⟨e, l⟩ := nx1 hz hk kd
  omega
theorem GP.join {z : Zs} {n : Int} {s s1 s2 : PS} {kd : Int} (hz : Str z) (h0 : 0 ≤ s.1) (h1 : GP z n s s1) (hk : kZ z s1.1 = kd) (hb : lvl kd ≠ -1) (h2 : GP z n (nxt z s1.1, s1.2.1, s1.2.2) s2) : GP z n s (s2.1, s2.2.1, (-1 - kd) :: s2.2.2) := by
  obtain ⟨a1, a2, a3, a4, g1, a5, a6, a7, a8⟩ := h1
  obtain ⟨b1, b2, b3, b4, g2, b5, b6, b7, b8⟩ := h2
  obtain ⟨hbin, k102, _⟩ := lvl_bin hb
  have nx := nx1 hz (k := s1.1) ⟨by omega, a2⟩ (by rw [hk]; exact k102)
  dsimp only at b1 b2 b3 b4 b5 b6 b7 ⊢
  refine ⟨by dsimp only; omega, b2, by dsimp only; omega, b4, (-1 - kd) :: (g2 ++ g1), ?_, ?_, fun h hh => ?_, fun c hc hr => ?_⟩
  · dsimp only
    rw [b5, a5, List.cons_append, List.append_assoc]
  · dsimp only
    rw [List.length_cons, List.length_append]
    omega
  · dsimp only at hh
    refine ⟨h + 2, RunR.app (a7 h (by omega)) (b7 (h + 1) (by omega)), .inr (.inr (.inr ⟨hbin, by omega, by omega, by omega⟩))⟩
  · rcases List.mem_cons.mp hc with rfl | hc
    · unfold isBin at hbin
      omega
    · rcases List.mem_append.mp hc with hc | hc
      · exact b8 c hc hr
      · exact a8 c hc hr
theorem LpG_props {z : Zs} {n : Int} (hz : Str z) {F : PS → PRs} {lv : Int} (hlv : lv ≠ -1) (hF : ∀ s s', 0 ≤ s.1 → s.1 < KZ z → 0 ≤ s.2.1 → F s = .inr s' → GP z n s s') {s0 : PS} (h0 : 0 ≤ s0.1) (hu : 0 ≤ s0.2.1) : ∀ (i : Nat) (s s' : PS), GP z n s0 s → LpG z F lv i s = .inr s' → GP z n s0 s'
  | 0, s, s', h, e => by
    cases e
    exact h
  | i + 1, s, s', h, e => by
    unfold LpG at e
    by_cases c : lvl (kZ z s.1) = lv
    · rw [if_pos c] at e
      have hb : lvl (kZ z s.1) ≠ -1 := by rw [c]; exact hlv
      obtain ⟨_, k102, _⟩ := lvl_bin hb
      have nx := nx1 hz (k := s.1) ⟨by have := h.1; omega, h.2.1⟩ k102
      match q : F (nxt z s.1, s.2.1, s.2.2), e with
      | .inl d, e => cases e
      | .inr s2, e =>
        have h2 := hF (nxt z s.1, s.2.1, s.2.2) s2 (by have := h.1; dsimp only; omega) (by dsimp only; omega) (by have := h.2.2.1; dsimp only; omega) q
        exact LpG_props hz hlv hF h0 hu i _ s' (h.join hz h0 rfl hb h2) e
    · rw [if_neg c] at e
      cases e
      exact h
theorem Gg_props {z : Zs} {n : Int} (hz : Str z) : ∀ (g tag : Nat) (L d : Int) (s s' : PS), 0 ≤ s.1 → s.1 < KZ z → 0 ≤ s.2.1 → (tag = 2 → kZ z s.1 = 22) → (tag ≤ 1 → 0 ≤ L) → Gg z n g tag L d s = .inr s' → GP z n s s'
  | 0, _, _, _, _, _, _, _, _, _, _, e => by cases e
  | g + 1, 0, L, d, s, s', h0, h1, hu, _, hL, e => by
    unfold Gg at e
    by_cases c : L = 5
    · rw [if_pos c] at e
      exact Gg_props hz g 3 0 d s s' h0 h1 hu (fun q => absurd q (by decide)) (by decide) e
    · rw [if_neg c] at e
      by_cases c2 : L = 2 ∧ kZ z s.1 = 22
      · rw [if_pos c2] at e
        exact Gg_props hz g 2 0 d s s' h0 h1 hu (fun _ => c2.2) (by decide) e
      · rw [if_neg c2] at e
        exact Gg_props hz g 1 L d s s' h0 h1 hu (fun q => absurd q (by decide)) (fun _ => hL (by decide)) e
  | g + 1, 1, L, d, s, s', h0, h1, hu, _, hL, e => by
    unfold Gg at e
    match q : Gg z n g 0 (L + 1) d s, e with
    | .inl dd, e => cases e
    | .inr s1, e =>
      have hs := Gg_props hz g 0 (L + 1) d s s1 h0 h1 hu (fun q => absurd q (by decide)) (fun _ => by have := hL (by decide); omega) q
      exact LpG_props hz (by have := hL (by decide); omega) (fun a b a0 a1 a2 ea => Gg_props hz g 0 (L + 1) d a b a0 a1 a2 (fun q => absurd q (by decide)) (fun _ => by have := hL (by decide); omega) ea) h0 hu _ _ _ hs e
  | g + 1, 2, _, d, s, s', h0, h1, hu, hk, _, e => by
    unfold Gg at e
    have hk := hk rfl
    have nx := nx1 hz ⟨h0, h1⟩ (by omega)
    by_cases c : 6 < d
    · rw [if_pos c] at e; cases e
    · rw [if_neg c] at e
      match q : Gg z n g 0 2 (d + 1) (nxt z s.1, s.2.1, s.2.2), e with
      | .inl dd, e => cases e
      | .inr s1, e =>
        cases e
        obtain ⟨a1, a2, a3, a4, seg, a5, a6, a7, a8⟩ := Gg_props hz g 0 2 (d + 1) (nxt z s.1, s.2.1, s.2.2) s1 (by dsimp only; omega) (by dsimp only; omega) hu (fun q => absurd q (by decide)) (by decide) q
        dsimp only at a1 a3 a5 a6 a7
        refine ⟨by dsimp only; omega, a2, a3, a4, -23 :: seg, by dsimp only; rw [a5]; rfl, by dsimp only; rw [List.length_cons]; omega, fun h hh => ⟨h + 1, a7 h hh, .inr (.inr (.inl ⟨rfl, by omega, by dsimp only at hh; omega, rfl⟩))⟩, fun c hc hr => ?_⟩
        rcases List.mem_cons.mp hc with rfl | hc
        · omega
        · exact a8 c hc hr
  | g + 1, t + 3, _, d, s, s', h0, h1, hu, _, _, e => by
    unfold Gg at e
    by_cases c1 : 60 < s.2.1 + 1
    · rw [if_pos c1] at e; cases e
    · rw [if_neg c1] at e
      by_cases c2 : kZ z s.1 = 101
      · rw [if_pos c2] at e
        cases e
        have nx := nx1 hz ⟨h0, h1⟩ (by omega)
        have rn := hz.num ⟨h0, h1⟩ c2
        refine ⟨by dsimp only; omega, by dsimp only; omega, by dsimp only; omega, by dsimp only; omega, [wZ z s.1], rfl, by simp; omega, fun h hh => ⟨h, rfl, .inl ⟨rn.1, rn.2, by dsimp only at hh; omega, rfl⟩⟩, fun c hc hr => ?_⟩
        rcases List.mem_cons.mp hc with rfl | hc
        · omega
        · cases hc
      · rw [if_neg c2] at e
        by_cases c3 : askB n (kZ z s.1) = true
        · rw [if_pos c3] at e
          cases e
          have ra := askB_rg c3
          have nx := nx1 hz ⟨h0, h1⟩ (by omega)
          refine ⟨by dsimp only; omega, by dsimp only; omega, by dsimp only; omega, by dsimp only; omega, [-1 - kZ z s.1], rfl, by simp; omega, fun h hh => ⟨h, rfl, .inr (.inl ⟨by omega, by omega, by dsimp only at hh; omega, rfl⟩)⟩, fun c hc hr => ?_⟩
          rcases List.mem_cons.mp hc with rfl | hc
          · rw [show -1 - (-1 - kZ z s.1) = kZ z s.1 by omega]
            exact askB_iff.mp c3
          · cases hc
        · rw [if_neg c3] at e
          by_cases c4 : 23 ≤ kZ z s.1 ∧ kZ z s.1 ≤ 33
          · rw [if_pos c4] at e; cases e
          · rw [if_neg c4] at e
            by_cases c5 : kZ z s.1 = 40 ∧ d ≤ 6
            · rw [if_pos c5] at e
              have nx := nx1 hz ⟨h0, h1⟩ (by omega)
              match q : Gg z n g 0 0 (d + 1) (nxt z s.1, s.2.1 + 1, s.2.2), e with
              | .inl dd, e => cases e
              | .inr s1, e =>
                obtain ⟨a1, a2, a3, a4, seg, a5, a6, a7, a8⟩ := Gg_props hz g 0 0 (d + 1) (nxt z s.1, s.2.1 + 1, s.2.2) s1 (by dsimp only; omega) (by dsimp only; omega) (by dsimp only; omega) (fun q => absurd q (by decide)) (by decide) q
                dsimp only at a1 a3 a5 a6 a7
                have e : (if kZ z s1.1 = 41 then Sum.inr (nxt z s1.1, s1.2.1, s1.2.2) else Sum.inl (bad (kZ z s1.1) 2, pZ z s1.1) : PRs) = .inr s' := e
                by_cases c6 : kZ z s1.1 = 41
                · rw [if_pos c6] at e
                  cases e
                  have nx2 := nx1 hz (k := s1.1) ⟨by omega, a2⟩ (by omega)
                  refine ⟨by dsimp only; omega, by dsimp only; omega, by dsimp only; omega, a4, seg, a5, by dsimp only; omega, fun h hh => a7 h (by dsimp only at hh; omega), a8⟩
                · rw [if_neg c6] at e; cases e
            · rw [if_neg c5] at e; cases e
