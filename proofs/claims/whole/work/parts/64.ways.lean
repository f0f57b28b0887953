/-! the pure part: WAYS, what they are -/
def atc (r : Int → Int) (c : Int) : Int := if 0 ≤ c ∧ c ≤ 63 then r c else 100000
def bs1 (r : Int → Int) (c : Int) : Int := if 0 < c % 8 then atc r (c - 1) else 100000
def bs2 (r : Int → Int) (c : Int) : Int := if c % 8 < 7 then imn (bs1 r c) (atc r (c + 1)) else bs1 r c
def bsd (r : Int → Int) (c : Int) : Int := imn (imn (bs2 r c) (atc r (c - 8))) (atc r (c + 8))
def stp (fs sl : Int → Int) (r3 r2 : Int → Int) : Int → Int := fun c => imn (if sl c = 0 then (if fs c = 0 then 100000 else bsd r3 c + 1) else imn (if fs c = 0 then 100000 else bsd r3 c + 1) (bsd r2 c + 3)) 100000
def dd (fs sl : Int → Int) (fr : Int) : Nat → Int → Int
  | 0 => fun c => if c = fr then 0 else 100000
  | 1 => stp fs sl (fun _ => 100000) (fun _ => 100000)
  | 2 => stp fs sl (fun _ => 100000) (dd fs sl fr 0)
  | n + 3 => stp fs sl (dd fs sl fr n) (dd fs sl fr (n + 1))
def nb (n c : Int) : Prop := (0 ≤ n ∧ n ≤ 63) ∧ ((n = c - 1 ∧ 0 < c % 8) ∨ (n = c + 1 ∧ c % 8 < 7) ∨ n = c - 8 ∨ n = c + 8)
def Rw (r : Int → Int) : Prop := ∀ c, 0 ≤ r c ∧ r c ≤ 100000
theorem atc_rg {r : Int → Int} (h : Rw r) (c : Int) : 0 ≤ atc r c ∧ atc r c ≤ 100000 := by
  have := h c
  unfold atc; split <;> omega
theorem imn_le (a b : Int) : imn a b ≤ a ∧ imn a b ≤ b ∧ (imn a b = a ∨ imn a b = b) := by unfold imn; split <;> omega
theorem bs1_rg {r : Int → Int} (h : Rw r) (c : Int) : 0 ≤ bs1 r c ∧ bs1 r c ≤ 100000 := by
  have := atc_rg h (c - 1)
  unfold bs1; split <;> omega
theorem bs2_rg {r : Int → Int} (h : Rw r) (c : Int) : 0 ≤ bs2 r c ∧ bs2 r c ≤ 100000 := by
  have := atc_rg h (c + 1)
  have := bs1_rg h c
  have := imn_le (bs1 r c) (atc r (c + 1))
  unfold bs2; split <;> omega
theorem bsd_rg {r : Int → Int} (h : Rw r) (c : Int) : 0 ≤ bsd r c ∧ bsd r c ≤ 100000 := by
  have := atc_rg h (c - 8)
  have := atc_rg h (c + 8)
  have := bs2_rg h c
  have := imn_le (bs2 r c) (atc r (c - 8))
  have := imn_le (imn (bs2 r c) (atc r (c - 8))) (atc r (c + 8))
  unfold bsd; omega
theorem bsd_le {r : Int → Int} {n c : Int} (h : nb n c) : bsd r c ≤ r n := by
  obtain ⟨h0, h⟩ := h
  have a1 := imn_le (bs2 r c) (atc r (c - 8))
  have a2 := imn_le (imn (bs2 r c) (atc r (c - 8))) (atc r (c + 8))
  have e : ∀ x, x = n → atc r x = r n := fun x hx => by rw [hx]; exact if_pos h0
  unfold bsd
  rcases h with ⟨h1, h2⟩ | ⟨h1, h2⟩ | h1 | h1
  · have e1 := e (c - 1) (by omega)
    have e2 : bs1 r c = atc r (c - 1) := if_pos h2
    have a3 := imn_le (bs1 r c) (atc r (c + 1))
    have e3 : bs2 r c ≤ bs1 r c := by unfold bs2; split <;> omega
    omega
  · have e1 := e (c + 1) (by omega)
    have a3 := imn_le (bs1 r c) (atc r (c + 1))
    have e3 : bs2 r c = imn (bs1 r c) (atc r (c + 1)) := if_pos h2
    omega
  · have e1 := e (c - 8) (by omega)
    omega
  · have e1 := e (c + 8) (by omega)
    omega
theorem bsd_at {r : Int → Int} {c : Int} (hr : Rw r) : 100000 ≤ bsd r c ∨ ∃ n, nb n c ∧ bsd r c = r n := by
  have key : ∀ x, (x = atc r (c - 8) ∨ x = atc r (c + 8) ∨ (0 < c % 8 ∧ x = atc r (c - 1)) ∨ (c % 8 < 7 ∧ x = atc r (c + 1)) ∨ x = 100000) → 100000 ≤ x ∨ ∃ n, nb n c ∧ x = r n := fun x hx => by
    have at' : ∀ y, atc r y = 100000 ∨ ((0 ≤ y ∧ y ≤ 63) ∧ atc r y = r y) := fun y => by
      unfold atc
      by_cases hy : 0 ≤ y ∧ y ≤ 63
      · rw [if_pos hy]; exact .inr ⟨hy, rfl⟩
      · rw [if_neg hy]; exact .inl rfl
    rcases hx with hx | hx | ⟨h2, hx⟩ | ⟨h2, hx⟩ | hx
    · rcases at' (c - 8) with e | ⟨e0, e⟩
      · omega
      · exact .inr ⟨c - 8, ⟨e0, .inr (.inr (.inl rfl))⟩, by omega⟩
    · rcases at' (c + 8) with e | ⟨e0, e⟩
      · omega
      · exact .inr ⟨c + 8, ⟨e0, .inr (.inr (.inr rfl))⟩, by omega⟩
    · rcases at' (c - 1) with e | ⟨e0, e⟩
      · omega
      · exact .inr ⟨c - 1, ⟨e0, .inl ⟨rfl, h2⟩⟩, by omega⟩
    · rcases at' (c + 1) with e | ⟨e0, e⟩
      · omega
      · exact .inr ⟨c + 1, ⟨e0, .inr (.inl ⟨rfl, h2⟩)⟩, by omega⟩
    · omega
  refine key _ ?_
  have a1 := imn_le (bs2 r c) (atc r (c - 8))
  have a2 := imn_le (imn (bs2 r c) (atc r (c - 8))) (atc r (c + 8))
  have a3 := imn_le (bs1 r c) (atc r (c + 1))
  have b1 : bs1 r c = 100000 ∨ (0 < c % 8 ∧ bs1 r c = atc r (c - 1)) := by unfold bs1; split <;> simp [*]
  have b2 : bs2 r c = bs1 r c ∨ (c % 8 < 7 ∧ bs2 r c = atc r (c + 1)) := by
    unfold bs2
    split
    · rename_i h
      rcases a3.2.2 with e | e
      · exact .inl e
      · exact .inr ⟨h, e⟩
    · exact .inl rfl
  unfold bsd
  omega
theorem stp_rw {fs sl r3 r2 : Int → Int} (h3 : Rw r3) (h2 : Rw r2) : Rw (stp fs sl r3 r2) := fun c => by
  have a := bsd_rg h3 c
  have b := bsd_rg h2 c
  unfold stp
  have c1 := imn_le (if sl c = 0 then (if fs c = 0 then 100000 else bsd r3 c + 1) else imn (if fs c = 0 then 100000 else bsd r3 c + 1) (bsd r2 c + 3)) 100000
  have c2 : 0 ≤ (if fs c = 0 then 100000 else bsd r3 c + 1) := by split <;> omega
  have c3 := imn_le (if fs c = 0 then 100000 else bsd r3 c + 1) (bsd r2 c + 3)
  have c4 : 0 ≤ (if sl c = 0 then (if fs c = 0 then 100000 else bsd r3 c + 1) else imn (if fs c = 0 then 100000 else bsd r3 c + 1) (bsd r2 c + 3)) := by split <;> omega
  omega
theorem far_rw : Rw (fun _ => 100000) := fun c => by dsimp only; omega
theorem dd0_rw (fs sl : Int → Int) (fr : Int) : Rw (dd fs sl fr 0) := fun c => by
  show 0 ≤ (if c = fr then (0 : Int) else 100000) ∧ (if c = fr then (0 : Int) else 100000) ≤ 100000
  split <;> omega
theorem dd_rw (fs sl : Int → Int) (fr : Int) : ∀ n, Rw (dd fs sl fr n) ∧ Rw (dd fs sl fr (n + 1)) ∧ Rw (dd fs sl fr (n + 2))
  | 0 => ⟨dd0_rw fs sl fr, stp_rw far_rw far_rw, stp_rw far_rw (dd0_rw fs sl fr)⟩
  | n + 1 => by
    obtain ⟨h0, h1, h2⟩ := dd_rw fs sl fr n
    exact ⟨h1, h2, stp_rw h0 h1⟩
/-- by what one comes to a CELL -/
def Ct (fs sl : Int → Int) (fr : Int) (S : Int → Int → Int → Prop) (f e val : Int) : Prop := ∃ n, nb n e ∧ ((fs e ≠ 0 ∧ 3 ≤ f ∧ S n (f - 3) e ∧ dd fs sl fr (f - 3).toNat n < 100000 ∧ val = dd fs sl fr (f - 3).toNat n + 1) ∨ (sl e ≠ 0 ∧ 2 ≤ f ∧ S n (f - 2) e ∧ dd fs sl fr (f - 2).toNat n < 100000 ∧ val = dd fs sl fr (f - 2).toNat n + 3))
def Ls (fs sl : Int → Int) (fr far : Int) (S : Int → Int → Int → Prop) (f e T : Int) : Prop := (T = far ∧ ∀ val, ¬ Ct fs sl fr S f e val) ∨ (Ct fs sl fr S f e T ∧ ∀ val, Ct fs sl fr S f e val → T ≤ val)
theorem stp_ls {fs sl r3 r2 : Int → Int} (h3 : Rw r3) (h2 : Rw r2) (e : Int) (hlt : ∀ n, (r3 n < 100000 → r3 n ≤ 5000) ∧ (r2 n < 100000 → r2 n ≤ 5000)) :
    (stp fs sl r3 r2 e = 100000 ∧ ∀ n, nb n e → (fs e ≠ 0 → ¬ r3 n < 100000) ∧ (sl e ≠ 0 → ¬ r2 n < 100000)) ∨ ((∃ n, nb n e ∧ ((fs e ≠ 0 ∧ r3 n < 100000 ∧ stp fs sl r3 r2 e = r3 n + 1) ∨ (sl e ≠ 0 ∧ r2 n < 100000 ∧ stp fs sl r3 r2 e = r2 n + 3))) ∧ ∀ n, nb n e → (fs e ≠ 0 → r3 n < 100000 → stp fs sl r3 r2 e ≤ r3 n + 1) ∧ (sl e ≠ 0 → r2 n < 100000 → stp fs sl r3 r2 e ≤ r2 n + 3)) := by
  have b3 := bsd_rg h3 e
  have b2 := bsd_rg h2 e
  have a3 := bsd_at (c := e) h3
  have a2 := bsd_at (c := e) h2
  have l3 : ∀ n, nb n e → bsd r3 e ≤ r3 n := fun n h => bsd_le h
  have l2 : ∀ n, nb n e → bsd r2 e ≤ r2 n := fun n h => bsd_le h
  unfold stp
  generalize bsd r3 e = x at *
  generalize bsd r2 e = y at *
  by_cases hf : fs e = 0
  · rw [if_pos hf]
    by_cases hs : sl e = 0
    · rw [if_pos hs]
      exact .inl ⟨rfl, fun n hn => ⟨fun q => absurd hf q, fun q => absurd hs q⟩⟩
    · rw [if_neg hs]
      rcases a2 with a2 | ⟨n, hn, en⟩
      · refine .inl ⟨?_, fun n hn => ⟨fun q => absurd hf q, fun _ => ?_⟩⟩
        · unfold imn; repeat' split
          all_goals omega
        · have := l2 n hn; omega
      · by_cases hy : y < 100000
        · have := (hlt n).2 (by omega)
          have ev : imn (imn 100000 (y + 3)) 100000 = y + 3 := by
            unfold imn; repeat' split
            all_goals omega
          rw [ev]
          exact .inr ⟨⟨n, hn, .inr ⟨hs, by omega, by omega⟩⟩, fun m hm => ⟨fun q => absurd hf q, fun _ _ => by have := l2 m hm; omega⟩⟩
        · refine .inl ⟨?_, fun n hn => ⟨fun q => absurd hf q, fun _ => ?_⟩⟩
          · unfold imn; repeat' split
            all_goals omega
          · have := l2 n hn; omega
  · rw [if_neg hf]
    have c3 : ¬ x < 100000 ∨ ∃ n, nb n e ∧ x = r3 n ∧ x ≤ 5000 := by
      rcases a3 with a3 | ⟨n, hn, en⟩
      · exact .inl (by omega)
      · by_cases hx : x < 100000
        · exact .inr ⟨n, hn, en, by have := (hlt n).1 (by omega); omega⟩
        · exact .inl hx
    have c2 : ¬ y < 100000 ∨ ∃ n, nb n e ∧ y = r2 n ∧ y ≤ 5000 := by
      rcases a2 with a2 | ⟨n, hn, en⟩
      · exact .inl (by omega)
      · by_cases hx : y < 100000
        · exact .inr ⟨n, hn, en, by have := (hlt n).2 (by omega); omega⟩
        · exact .inl hx
    by_cases hs : sl e = 0
    · rw [if_pos hs]
      rcases c3 with c3 | ⟨n, hn, en, e5⟩
      · refine .inl ⟨?_, fun n hn => ⟨fun _ => ?_, fun q => absurd hs q⟩⟩
        · unfold imn; split <;> omega
        · have := l3 n hn; omega
      · have ev : imn (x + 1) 100000 = x + 1 := by unfold imn; split <;> omega
        rw [ev]
        exact .inr ⟨⟨n, hn, .inl ⟨hf, by omega, by omega⟩⟩, fun m hm => ⟨fun _ _ => by have := l3 m hm; omega, fun q => absurd hs q⟩⟩
    · rw [if_neg hs]
      have ll : ∀ m, nb m e → x ≤ r3 m ∧ y ≤ r2 m := fun m hm => ⟨l3 m hm, l2 m hm⟩
      rcases c3 with c3 | ⟨n, hn, en, e5⟩
      · rcases c2 with c2 | ⟨n, hn, en, e5⟩
        · refine .inl ⟨?_, fun n hn => ?_⟩
          · unfold imn; repeat' split
            all_goals omega
          · have := ll n hn; constructor <;> intro _ <;> omega
        · have ev : imn (imn (x + 1) (y + 3)) 100000 = y + 3 := by
            unfold imn; repeat' split
            all_goals omega
          rw [ev]
          exact .inr ⟨⟨n, hn, .inr ⟨hs, by omega, by omega⟩⟩, fun m hm => by have := ll m hm; constructor <;> intro _ _ <;> omega⟩
      · by_cases hxy : y + 3 < x + 1
        · have hy : y < 100000 := by omega
          rcases c2 with c2 | ⟨n, hn, en, e6⟩
          · exact absurd hy c2
          · have ev : imn (imn (x + 1) (y + 3)) 100000 = y + 3 := by
              unfold imn; repeat' split
              all_goals omega
            rw [ev]
            exact .inr ⟨⟨n, hn, .inr ⟨hs, by omega, by omega⟩⟩, fun m hm => by have := ll m hm; constructor <;> intro _ _ <;> omega⟩
        · have ev : imn (imn (x + 1) (y + 3)) 100000 = x + 1 := by
            unfold imn; repeat' split
            all_goals omega
          rw [ev]
          exact .inr ⟨⟨n, hn, .inl ⟨hf, by omega, by omega⟩⟩, fun m hm => by have := ll m hm; constructor <;> intro _ _ <;> omega⟩
theorem stp_small {fs sl r3 r2 : Int → Int} (h3 : Rw r3) (h2 : Rw r2) {B : Int} (hB : 0 ≤ B ∧ B ≤ 4000) (hlt : ∀ n, (r3 n < 100000 → r3 n ≤ B) ∧ (r2 n < 100000 → r2 n ≤ B)) (e : Int) : stp fs sl r3 r2 e < 100000 → stp fs sl r3 r2 e ≤ B + 3 := by
  intro h
  rcases stp_ls (fs := fs) (sl := sl) h3 h2 e (fun n => ⟨fun q => by have := (hlt n).1 q; omega, fun q => by have := (hlt n).2 q; omega⟩) with ⟨a, _⟩ | ⟨⟨n, hn, ⟨_, a, b⟩ | ⟨_, a, b⟩⟩, _⟩
  · omega
  · have := (hlt n).1 a; omega
  · have := (hlt n).2 a; omega
theorem dd_small (fs sl : Int → Int) (fr : Int) : ∀ n : Nat, n ≤ 1000 → ∀ c, (dd fs sl fr n c < 100000 → dd fs sl fr n c ≤ 3 * (n : Int)) ∧ (dd fs sl fr (n + 1) c < 100000 → dd fs sl fr (n + 1) c ≤ 3 * (n : Int) + 3) ∧ (dd fs sl fr (n + 2) c < 100000 → dd fs sl fr (n + 2) c ≤ 3 * (n : Int) + 6)
  | 0, _, c => by
    have z : ∀ x, dd fs sl fr 0 x < 100000 → dd fs sl fr 0 x ≤ 0 := fun x => by
      show (if x = fr then (0 : Int) else 100000) < 100000 → (if x = fr then (0 : Int) else 100000) ≤ 0
      split <;> omega
    refine ⟨fun h => by have := z c h; omega, fun h => ?_, fun h => ?_⟩
    · have := stp_small (fs := fs) (sl := sl) far_rw far_rw (B := 0) (by omega) (fun n => by omega) c h
      exact Int.le_trans this (by omega)
    · have := stp_small (fs := fs) (sl := sl) far_rw (dd0_rw fs sl fr) (B := 0) (by omega) (fun n => ⟨fun q => by omega, z n⟩) c h
      exact Int.le_trans this (by omega)
  | n + 1, hn, c => by
    have ih := dd_small fs sl fr n (by omega)
    obtain ⟨w0, w1, w2⟩ := dd_rw fs sl fr n
    refine ⟨fun h => Int.le_trans ((ih c).2.1 h) (by omega), fun h => Int.le_trans ((ih c).2.2 h) (by omega), fun h => ?_⟩
    have := stp_small (fs := fs) (sl := sl) w0 w1 (B := 3 * (n : Int) + 3) (by omega) (fun m => ⟨fun q => by have := (ih m).1 q; omega, fun q => (ih m).2.1 q⟩) c h
    exact Int.le_trans this (by omega)
/-- the rows that the class works out are the least -/
theorem dd_ls (fs sl : Int → Int) (fr : Int) {f : Int} (hf : 1 ≤ f ∧ f ≤ 99) (e : Int) : Ls fs sl fr 100000 (fun _ _ _ => True) f e (dd fs sl fr f.toNat e) := by
  have sm : ∀ k : Nat, k ≤ 100 → ∀ n, dd fs sl fr k n < 100000 → dd fs sl fr k n ≤ 5000 := fun k hk n h => by have := (dd_small fs sl fr k (by omega) n).1 h; omega
  have hcase : f = 1 ∨ f = 2 ∨ 3 ≤ f := by omega
  have main : ∀ r3 r2 : Int → Int, Rw r3 → Rw r2 → dd fs sl fr f.toNat = stp fs sl r3 r2 → (∀ n, (r3 n < 100000 → r3 n ≤ 5000) ∧ (r2 n < 100000 → r2 n ≤ 5000)) → (∀ n, r3 n < 100000 ↔ (3 ≤ f ∧ dd fs sl fr (f - 3).toNat n < 100000)) → (∀ n, 3 ≤ f → r3 n = dd fs sl fr (f - 3).toNat n) → (∀ n, r2 n < 100000 ↔ (2 ≤ f ∧ dd fs sl fr (f - 2).toNat n < 100000)) → (∀ n, 2 ≤ f → r2 n = dd fs sl fr (f - 2).toNat n) → Ls fs sl fr 100000 (fun _ _ _ => True) f e (dd fs sl fr f.toNat e) := fun r3 r2 h3 h2 heq hlt i3 e3 i2 e2 => by
    rw [heq]
    rcases stp_ls (fs := fs) (sl := sl) h3 h2 e hlt with ⟨a, b⟩ | ⟨⟨n, hn, a⟩, b⟩
    · refine .inl ⟨a, fun val hv => ?_⟩
      obtain ⟨n, hn, ⟨q1, q2, _, q3, _⟩ | ⟨q1, q2, _, q3, _⟩⟩ := hv
      · exact (b n hn).1 q1 ((i3 n).mpr ⟨q2, q3⟩)
      · exact (b n hn).2 q1 ((i2 n).mpr ⟨q2, q3⟩)
    · refine .inr ⟨⟨n, hn, ?_⟩, fun val hv => ?_⟩
      · rcases a with ⟨q1, q2, q3⟩ | ⟨q1, q2, q3⟩
        · have k := (i3 n).mp q2
          exact .inl ⟨q1, k.1, trivial, k.2, by rw [q3, e3 n k.1]⟩
        · have k := (i2 n).mp q2
          exact .inr ⟨q1, k.1, trivial, k.2, by rw [q3, e2 n k.1]⟩
      · obtain ⟨m, hm, ⟨q1, q2, _, q3, q4⟩ | ⟨q1, q2, _, q3, q4⟩⟩ := hv
        · have := (b m hm).1 q1 ((i3 m).mpr ⟨q2, q3⟩)
          rw [e3 m q2] at this; omega
        · have := (b m hm).2 q1 ((i2 m).mpr ⟨q2, q3⟩)
          rw [e2 m q2] at this; omega
  rcases hcase with rfl | rfl | h3
  · refine main _ _ far_rw far_rw rfl (fun n => by omega) (fun n => ⟨fun q => by omega, fun q => by omega⟩) (fun n q => by omega) (fun n => ⟨fun q => by omega, fun q => by omega⟩) (fun n q => by omega)
  · refine main _ _ far_rw (dd0_rw fs sl fr) rfl (fun n => ⟨fun q => by omega, sm 0 (by omega) n⟩) (fun n => ⟨fun q => by omega, fun q => by omega⟩) (fun n q => by omega) (fun n => ⟨fun q => ⟨by omega, q⟩, fun q => q.2⟩) (fun n q => rfl)
  · obtain ⟨k, hk⟩ : ∃ k : Nat, f = ((k + 3 : Nat) : Int) := ⟨f.toNat - 3, by omega⟩
    subst hk
    obtain ⟨w0, w1, w2⟩ := dd_rw fs sl fr k
    have n3 : (((k + 3 : Nat) : Int) - 3).toNat = k := by omega
    have n2 : (((k + 3 : Nat) : Int) - 2).toNat = k + 1 := by omega
    refine main _ _ w0 w1 (by rw [show (((k + 3 : Nat) : Int)).toNat = k + 3 by omega]; rfl) (fun n => ⟨sm k (by omega) n, sm (k + 1) (by omega) n⟩) ?_ ?_ ?_ ?_
    · intro n; rw [n3]; exact ⟨fun q => ⟨h3, q⟩, fun q => q.2⟩
    · intro n _; rw [n3]
    · intro n; rw [n2]; exact ⟨fun q => ⟨by omega, q⟩, fun q => q.2⟩
    · intro n _; rw [n2]
theorem Ls.uniq {fs sl : Int → Int} {fr far far' : Int} {S S' : Int → Int → Int → Prop} {f e T T' : Int} (hS : ∀ n g, nb n e → (g = f - 3 ∨ g = f - 2) → 0 ≤ g → (S n g e ↔ S' n g e)) (a : Ls fs sl fr far S f e T) (b : Ls fs sl fr far' S' f e T') : (T = far ∧ T' = far') ∨ (T = T' ∧ Ct fs sl fr S f e T) := by
  have tr : ∀ v, Ct fs sl fr S f e v ↔ Ct fs sl fr S' f e v := fun v => by
    constructor
    · rintro ⟨n, hn, ⟨q1, q2, q3, q4⟩ | ⟨q1, q2, q3, q4⟩⟩
      · exact ⟨n, hn, .inl ⟨q1, q2, (hS n _ hn (.inl rfl) (by omega)).mp q3, q4⟩⟩
      · exact ⟨n, hn, .inr ⟨q1, q2, (hS n _ hn (.inr rfl) (by omega)).mp q3, q4⟩⟩
    · rintro ⟨n, hn, ⟨q1, q2, q3, q4⟩ | ⟨q1, q2, q3, q4⟩⟩
      · exact ⟨n, hn, .inl ⟨q1, q2, (hS n _ hn (.inl rfl) (by omega)).mpr q3, q4⟩⟩
      · exact ⟨n, hn, .inr ⟨q1, q2, (hS n _ hn (.inr rfl) (by omega)).mpr q3, q4⟩⟩
  rcases a with ⟨a1, a2⟩ | ⟨a1, a2⟩ <;> rcases b with ⟨b1, b2⟩ | ⟨b1, b2⟩
  · exact .inl ⟨a1, b1⟩
  · exact absurd ((tr _).mpr b1) (a2 _)
  · exact absurd ((tr _).mp a1) (b2 _)
  · have := a2 _ ((tr _).mpr b1)
    have := b2 _ ((tr _).mp a1)
    exact .inr ⟨by omega, a1⟩
