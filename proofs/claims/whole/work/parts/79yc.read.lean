/-! the pure part: where a reader stands, and the class's steps -/
/-- the bytes, the kinds, the places, the worths, the ends; how many bytes, how many TOKENS -/
abbrev Zs : Type := (Int → Int) × (Int → Int) × (Int → Int) × (Int → Int) × (Int → Int) × Int × Int
def tZ (z : Zs) : Int → Int := z.1
def kZ (z : Zs) : Int → Int := z.2.1
def pZ (z : Zs) : Int → Int := z.2.2.1
def wZ (z : Zs) : Int → Int := z.2.2.2.1
def eZ (z : Zs) : Int → Int := z.2.2.2.2.1
def nZ (z : Zs) : Int := z.2.2.2.2.2.1
def KZ (z : Zs) : Int := z.2.2.2.2.2.2
def Str (z : Zs) : Prop := (0 ≤ nZ z ∧ nZ z ≤ 1300) ∧ (∀ j : Int, 0 ≤ j → j < nZ z → 0 ≤ tZ z j ∧ tZ z j ≤ 255) ∧ (1 ≤ KZ z ∧ KZ z ≤ nZ z + 1) ∧ eZ z 0 = 0 ∧ (∀ q : Int, 0 ≤ q → q < KZ z → Tok (tZ z) (nZ z) (eZ z q) (pZ z q) (eZ z (q + 1)) (kZ z q) (wZ z q)) ∧ kZ z (KZ z - 1) = 102
theorem Tok.rg {T : Int → Int} {n p a e kd w : Int} (h : Tok T n p a e kd w) : p ≤ a ∧ a ≤ n ∧ a ≤ e ∧ e ≤ n ∧ 0 ≤ kd ∧ kd ≤ 103 ∧ (kd ≠ 102 → a < e) ∧ (kd = 102 → e = n) := by
  obtain ⟨⟨h1, h2, h3, h4⟩, h5⟩ := h
  rcases h5 with h5 | ⟨g1, g2, g3, g4, g5, g6, g7⟩ | ⟨g1, g2, g3, g4, g5, g6, g7⟩ | ⟨g1, g2, g3, g4, g5, g6, g7⟩
  · omega
  · have : 0 ≤ kd ∧ kd ≤ 103 ∧ kd ≠ 102 := by
      rcases g7 with ⟨_, u⟩ | ⟨_, u⟩
      · rcases u with u | u <;> omega
      · omega
    omega
  · omega
  · have : 0 ≤ kd ∧ kd ≤ 103 ∧ kd ≠ 102 := by
      rcases g7 with ⟨u, v⟩ | ⟨_, u⟩
      · unfold isSg at u; omega
      · omega
    omega
section S
variable {z : Zs}
theorem Str.tok (h : Str z) {q : Int} (hq : 0 ≤ q ∧ q < KZ z) : Tok (tZ z) (nZ z) (eZ z q) (pZ z q) (eZ z (q + 1)) (kZ z q) (wZ z q) := h.2.2.2.2.1 q hq.1 hq.2
theorem Str.e0 (h : Str z) : ∀ m : Nat, (m : Int) ≤ KZ z → 0 ≤ eZ z (m : Int) ∧ eZ z (m : Int) ≤ nZ z
  | 0, _ => by rw [show ((0 : Nat) : Int) = 0 from rfl, h.2.2.2.1]; have := h.1; omega
  | m + 1, hm => by
    have := Str.e0 h m (by omega)
    have := (h.tok (q := (m : Int)) (by omega)).rg
    rw [show ((m + 1 : Nat) : Int) = (m : Int) + 1 by omega]
    omega
theorem Str.en (h : Str z) {q : Int} (hq : 0 ≤ q ∧ q ≤ KZ z) : 0 ≤ eZ z q ∧ eZ z q ≤ nZ z := by
  have := h.e0 q.toNat (by omega)
  rw [show ((q.toNat : Nat) : Int) = q by omega] at this
  exact this
theorem Str.rg (h : Str z) {q : Int} (hq : 0 ≤ q ∧ q < KZ z) : (0 ≤ pZ z q ∧ pZ z q ≤ nZ z) ∧ (0 ≤ kZ z q ∧ kZ z q ≤ 103) ∧ (kZ z q ≠ 102 → q + 1 < KZ z) := by
  have a := h.en (q := q) (by omega)
  have b := (h.tok hq).rg
  refine ⟨by omega, by omega, fun k => ?_⟩
  have := h.2.2.2.2.2
  by_cases c : q = KZ z - 1
  · rw [← c] at this; exact absurd this k
  · omega
theorem Str.num (h : Str z) {q : Int} (hq : 0 ≤ q ∧ q < KZ z) (hk : kZ z q = 101) : 0 ≤ wZ z q ∧ wZ z q ≤ 9999 := by
  obtain ⟨⟨h1, h2, h3, h4⟩, h5⟩ := h.tok hq
  rcases h5 with h5 | ⟨g1, g2, g3, g4, g5, g6, g7⟩ | ⟨g1, g2, g3, g4, g5, g6, g7⟩ | ⟨g1, g2, g3, g4, g5, g6, g7⟩
  · omega
  · exfalso
    rcases g7 with ⟨_, u⟩ | ⟨_, u⟩
    · rcases u with u | u <;> omega
    · omega
  · rw [g6]
    refine pkD_rg (fun j hj => ?_) (by split <;> omega)
    have := g4 (pZ z q + (j : Int)) (by omega) (by split at hj <;> omega)
    exact this
  · exfalso
    rcases g7 with ⟨u, v⟩ | ⟨_, u⟩
    · unfold isSg at u; omega
    · omega
/-- a word: its letters -/
theorem Str.word (h : Str z) {q : Int} (hq : 0 ≤ q ∧ q < KZ z) (hk : kZ z q = 100 ∨ kZ z q ≤ 33) : ∃ m : Nat, 1 ≤ m ∧ m ≤ 8 ∧ eZ z (q + 1) = pZ z q + (m : Int) ∧ pZ z q + (m : Int) ≤ nZ z ∧ Lts (tZ z) (pZ z q) m ∧ wZ z q = pkA (tZ z) (pZ z q) m ∧ KW (wZ z q) (kZ z q) := by
  obtain ⟨⟨h1, h2, h3, h4⟩, h5⟩ := h.tok hq
  rcases h5 with h5 | ⟨g1, g2, g3, g4, g5, g6, g7⟩ | ⟨g1, g2, g3, g4, g5, g6, g7⟩ | ⟨g1, g2, g3, g4, g5, g6, g7⟩
  · omega
  · rcases g7 with ⟨u, v⟩ | ⟨_, u⟩
    · rw [if_pos u] at g6
      refine ⟨(eZ z (q + 1) - pZ z q).toNat, by omega, by omega, by omega, by omega, fun j hj => ?_, g6, v⟩
      have := g4 (pZ z q + (j : Int)) (by omega) (by omega)
      exact this
    · omega
  · omega
  · exfalso
    rcases g7 with ⟨u, v⟩ | ⟨_, u⟩
    · unfold isSg at u; omega
    · omega
/-- a reader: at a TOKEN, or done with a fault and its place -/
abbrev RS : Type := (Int × Int) ⊕ Int
def bad (kd f : Int) : Int := if kd = 103 then 1 else f
def nxt (z : Zs) (k : Int) : Int := if k + 1 < KZ z then k + 1 else KZ z - 1
def opA (z : Zs) (r : RS) : RS := match r with
  | .inl d => .inl d
  | .inr k => .inr (nxt z k)
def opF (z : Zs) (f : Int) (r : RS) : RS := match r with
  | .inl d => .inl d
  | .inr k => .inl (bad (kZ z k) f, pZ z k)
def opC (z : Zs) (c : Int → Bool) (r : RS) : RS := match r with
  | .inl d => .inl d
  | .inr k => if c (kZ z k) = true then .inr (nxt z k) else .inl (bad (kZ z k) 2, pZ z k)
def opX (z : Zs) (w : Int) (r : RS) : RS := opC z (fun x => decide (x = w)) r
def opN (z : Zs) (lo hi : Int) (r : RS) : RS := match r with
  | .inl d => .inl d
  | .inr k => if kZ z k = 101 then (if lo ≤ wZ z k ∧ wZ z k ≤ hi then .inr (nxt z k) else .inl (4, pZ z k)) else .inl (bad (kZ z k) 2, pZ z k)
def valN (z : Zs) (r : RS) : Int := match r with
  | .inl _ => 0
  | .inr k => wZ z k
def isA (r : RS) : Int := match r with
  | .inl _ => 0
  | .inr _ => 1
theorem nxt_rg (h : Str z) {k : Int} (hk : 0 ≤ k ∧ k < KZ z) : 0 ≤ nxt z k ∧ nxt z k < KZ z := by
  unfold nxt
  split <;> omega
/-- the class's side -/
def Rz (z : Zs) (σ : St) : Prop := ∀ q : Int, 0 ≤ q → q < KZ z → σ.2.1 5 q = kZ z q ∧ σ.2.1 6 q = pZ z q ∧ σ.2.1 7 q = wZ z q
def XS (z : Zs) (k : Int) (σ : St) : Prop := (0 ≤ k ∧ k < KZ z) ∧ (fI σ 2 3 = KZ z ∧ fI σ 2 7 = k) ∧ (fI σ 2 8 = kZ z k ∧ fI σ 2 9 = pZ z k ∧ fI σ 2 11 = wZ z k) ∧ fI σ 2 10 = (if kZ z k = 101 then wZ z k else -1) ∧ fI σ 2 12 = 0 ∧ fI σ 2 13 = -1
def XD (z : Zs) (d : Int × Int) (σ : St) : Prop := (fI σ 2 3 = KZ z ∧ 0 ≤ fI σ 2 7 ∧ fI σ 2 7 < KZ z) ∧ (fI σ 2 12 = d.1 ∧ 1 ≤ d.1 ∧ d.1 ≤ 7) ∧ fI σ 2 13 = d.2 ∧ 0 ≤ d.2 ∧ d.2 ≤ 1300
def XQ (z : Zs) (r : RS) (σ : St) : Prop := match r with
  | .inl d => XD z d σ
  | .inr k => XS z k σ
def XR (z : Zs) (r : RS) (σ : St) : Prop := WXr σ.1 σ.2.2 ∧ Rz z σ ∧ XQ z r σ
end S
section F
variable {N : Nat} {σ τ υ : St} {z : Zs} {A J : List Nat} {r : RS}
theorem XR.ft (h : XR z r σ) (f : FT A J σ τ) (a : avd A [5, 6, 7] = true) (b : avd J [3, 7, 8, 9, 10, 11, 12, 13] = true) : XR z r τ := by
  obtain ⟨h1, h2, h3⟩ := h
  have cA : ∀ k, k ∈ [5, 6, 7] → k ∉ A := fun k hk => avd_of a hk
  have cJ : ∀ k, k ∈ [3, 7, 8, 9, 10, 11, 12, 13] → k ∉ J := fun k hk => avd_of b hk
  refine ⟨f.X h1, fun q x y => ?_, ?_⟩
  · rw [f.c (by decide) (cA 5 (by decide)), f.c (by decide) (cA 6 (by decide)), f.c (by decide) (cA 7 (by decide))]
    exact h2 q x y
  · match r, h3 with
    | .inl d, h3 =>
      show XD z d τ
      have h3 : XD z d σ := h3
      unfold XD at h3 ⊢
      rw [f.f (cJ 3 (by decide)), f.f (cJ 7 (by decide)), f.f (cJ 12 (by decide)), f.f (cJ 13 (by decide))]
      exact h3
    | .inr k, h3 =>
      show XS z k τ
      have h3 : XS z k σ := h3
      unfold XS at h3 ⊢
      rw [f.f (cJ 3 (by decide)), f.f (cJ 7 (by decide)), f.f (cJ 8 (by decide)), f.f (cJ 9 (by decide)), f.f (cJ 10 (by decide)), f.f (cJ 11 (by decide)), f.f (cJ 12 (by decide)), f.f (cJ 13 (by decide))]
      exact h3
theorem adv_pure (hX : WXr σ.1 σ.2.2) (hz : Str z) (hR : Rz z σ) {k : Int} (h3 : fI σ 2 3 = KZ z) (h7 : fI σ 2 7 = k) (hk : -1 ≤ k ∧ k < KZ z) : ∃ τ, f_X6_advance N σ 2 = some (τ, 0) ∧ FT [] [7, 8, 9, 10, 11] σ τ ∧ fI τ 2 7 = nxt z k ∧ fI τ 2 8 = kZ z (nxt z k) ∧ fI τ 2 9 = pZ z (nxt z k) ∧ fI τ 2 11 = wZ z (nxt z k) ∧ fI τ 2 10 = (if kZ z (nxt z k) = 101 then wZ z (nxt z k) else -1) := by
  have zn := hz.1
  have zK := hz.2.2.1
  have kn : 0 ≤ nxt z k ∧ nxt z k < KZ z := by unfold nxt; split <;> omega
  have em : mnZ (k + 1) (KZ z - 1) = nxt z k := by
    rw [mnZ_eq (by omega) (by omega)]
    unfold nxt
    split <;> split <;> omega
  have H : Ok (f_X6_advance N σ 2) (fun q => q.2 = 0 ∧ FT [] [7, 8, 9, 10, 11] σ q.1 ∧ fI q.1 2 7 = nxt z k ∧ fI q.1 2 8 = kZ z (nxt z k) ∧ fI q.1 2 9 = pZ z (nxt z k) ∧ fI q.1 2 11 = wZ z (nxt z k) ∧ fI q.1 2 10 = (if kZ z (nxt z k) = 101 then wZ z (nxt z k) else -1)) := by
    unfold f_X6_advance
    refine sx_gI hX rfl rfl ?_
    refine sx_gI hX rfl rfl ?_
    rw [h7, h3, em]
    refine sx_pI hX rfl rfl ?_
    have f1 : FT [] [7, 8, 9, 10, 11] σ (uF σ 2 7 (nxt z k)) := FT.refl.wF (by decide)
    have v7 : fI (uF σ 2 7 (nxt z k)) 2 7 = nxt z k := fI_eq
    generalize uF σ 2 7 (nxt z k) = y1 at f1 v7 ⊢
    have hX1 := f1.X hX
    refine sx_gI hX1 rfl rfl ?_
    rw [v7]
    refine ok_wlt0 (by omega) (fun h => by omega) (fun _ => ?_)
    refine sx_gI hX1 rfl rfl ?_
    rw [v7]
    refine ok_wlt (by omega) (by omega) (fun h => by omega) (fun _ => ?_)
    refine sx_gR hX1 rfl rfl rfl ?_
    refine sx_gI hX1 rfl rfl ?_
    rw [v7]
    refine sx_aI hX1 rfl rfl (by decide) (by omega) (by omega) ?_
    rw [f1.c (by decide) (by decide), (hR _ kn.1 kn.2).1]
    refine sx_pI hX1 rfl rfl ?_
    have f2 : FT [] [7, 8, 9, 10, 11] σ (uF y1 2 8 (kZ z (nxt z k))) := f1.wF (by decide)
    have u7 : fI (uF y1 2 8 (kZ z (nxt z k))) 2 7 = nxt z k := (fI_j (by decide)).trans v7
    have u8 : fI (uF y1 2 8 (kZ z (nxt z k))) 2 8 = kZ z (nxt z k) := fI_eq
    generalize uF y1 2 8 (kZ z (nxt z k)) = y2 at f2 u7 u8 ⊢
    have hX2 := f2.X hX
    refine sx_gR hX2 rfl rfl rfl ?_
    refine sx_gI hX2 rfl rfl ?_
    rw [u7]
    refine sx_aI hX2 rfl rfl (by decide) (by omega) (by omega) ?_
    rw [f2.c (by decide) (by decide), (hR _ kn.1 kn.2).2.1]
    refine sx_pI hX2 rfl rfl ?_
    have f3 : FT [] [7, 8, 9, 10, 11] σ (uF y2 2 9 (pZ z (nxt z k))) := f2.wF (by decide)
    have t7 : fI (uF y2 2 9 (pZ z (nxt z k))) 2 7 = nxt z k := (fI_j (by decide)).trans u7
    have t8 : fI (uF y2 2 9 (pZ z (nxt z k))) 2 8 = kZ z (nxt z k) := (fI_j (by decide)).trans u8
    have t9 : fI (uF y2 2 9 (pZ z (nxt z k))) 2 9 = pZ z (nxt z k) := fI_eq
    generalize uF y2 2 9 (pZ z (nxt z k)) = y3 at f3 t7 t8 t9 ⊢
    have hX3 := f3.X hX
    refine sx_gR hX3 rfl rfl rfl ?_
    refine sx_gI hX3 rfl rfl ?_
    rw [t7]
    refine sx_aI hX3 rfl rfl (by decide) (by omega) (by omega) ?_
    rw [f3.c (by decide) (by decide), (hR _ kn.1 kn.2).2.2]
    refine sx_pI hX3 rfl rfl ?_
    have f4 : FT [] [7, 8, 9, 10, 11] σ (uF y3 2 11 (wZ z (nxt z k))) := f3.wF (by decide)
    have s7 : fI (uF y3 2 11 (wZ z (nxt z k))) 2 7 = nxt z k := (fI_j (by decide)).trans t7
    have s8 : fI (uF y3 2 11 (wZ z (nxt z k))) 2 8 = kZ z (nxt z k) := (fI_j (by decide)).trans t8
    have s9 : fI (uF y3 2 11 (wZ z (nxt z k))) 2 9 = pZ z (nxt z k) := (fI_j (by decide)).trans t9
    have s11 : fI (uF y3 2 11 (wZ z (nxt z k))) 2 11 = wZ z (nxt z k) := fI_eq
    generalize uF y3 2 11 (wZ z (nxt z k)) = y4 at f4 s7 s8 s9 s11 ⊢
    have hX4 := f4.X hX
    have rk := (hz.rg kn).2.1
    refine sx_gI hX4 rfl rfl ?_
    rw [s8]
    refine ok_JnC (fun x => x = (if kZ z (nxt z k) = 101 then wZ z (nxt z k) else -1)) (fun x hx => ?_) (fun J2 hJ2 => ?_)
    · subst hx
      refine sx_pI hX4 rfl rfl (ok_some ⟨rfl, f4.wF (by decide), (fI_j (by decide)).trans s7, (fI_j (by decide)).trans s8, (fI_j (by decide)).trans s9, (fI_j (by decide)).trans s11, fI_eq⟩)
    · refine ok_weq (by omega) (by omega) (fun h => ?_) (fun h => ?_)
      · refine sx_gI hX4 rfl rfl (hJ2 _ ?_)
        rw [s11, if_pos h]
      · refine hJ2 _ ?_
        rw [if_neg h]
  obtain ⟨⟨τ, v⟩, e, h1, h2⟩ := H
  dsimp only at h1 h2
  subst h1
  exact ⟨τ, e, h2⟩
theorem Rz.ft (h : Rz z σ) (f : FT A J σ τ) (a : avd A [5, 6, 7] = true) : Rz z τ := fun q x y => by
  rw [f.c (by decide) (avd_of a (by decide)), f.c (by decide) (avd_of a (by decide)), f.c (by decide) (avd_of a (by decide))]
  exact h q x y
theorem adv_eq (hz : Str z) (h : XR z r σ) : ∃ τ, f_X6_advance N σ 2 = some (τ, 0) ∧ XR z (opA z r) τ ∧ FT [] [7, 8, 9, 10, 11] σ τ := by
  obtain ⟨hX, hR, h⟩ := h
  match r, h with
  | .inl d, h =>
    obtain ⟨⟨g1, g2, g3⟩, g4, g5⟩ := (h : XD z d σ)
    obtain ⟨τ, e, f, e7, e8, e9, e11, e10⟩ := adv_pure (N := N) hX hz hR g1 rfl (by omega)
    have kn := nxt_rg hz (k := fI σ 2 7) ⟨g2, g3⟩
    refine ⟨τ, e, ⟨f.X hX, hR.ft f rfl, ?_⟩, f⟩
    refine ⟨⟨(f.f (by decide)).trans g1, by rw [e7]; exact kn.1, by rw [e7]; exact kn.2⟩, ?_, ?_⟩
    · rw [f.f (by decide)]; exact g4
    · rw [f.f (by decide)]; exact g5
  | .inr k, h =>
    obtain ⟨g1, ⟨g2, g3⟩, g4, g5, g6, g7⟩ := (h : XS z k σ)
    obtain ⟨τ, e, f, e7, e8, e9, e11, e10⟩ := adv_pure (N := N) hX hz hR g2 g3 (by omega)
    exact ⟨τ, e, ⟨f.X hX, hR.ft f rfl, nxt_rg hz g1, ⟨(f.f (by decide)).trans g2, e7⟩, ⟨e8, e9, e11⟩, e10, (f.f (by decide)).trans g6, (f.f (by decide)).trans g7⟩, f⟩
theorem refuse_eq (hz : Str z) (h : XR z r σ) {w : Int} (hw : 1 ≤ w ∧ w ≤ 7) : ∃ τ, f_X6_refuse N σ 2 w = some (τ, 0) ∧ XR z (opF z w r) τ ∧ FT [] [12, 13] σ τ := by
  obtain ⟨hX, hR, h⟩ := h
  match r, h with
  | .inl d, h =>
    have H : Ok (f_X6_refuse N σ 2 w) (fun q => q = (σ, 0)) := by
      obtain ⟨g0, ⟨g4, g6, g7⟩, g5⟩ := (h : XD z d σ)
      unfold f_X6_refuse
      refine sx_gI hX rfl rfl ?_
      rw [g4]
      exact ok_weqc (by omega) (fun q => by omega) (fun _ => ok_some rfl)
    obtain ⟨q, e, rfl⟩ := H
    exact ⟨σ, e, ⟨hX, hR, h⟩, FT.refl⟩
  | .inr k, h =>
    obtain ⟨g1, ⟨g2, g3⟩, ⟨g4, g8, g9⟩, g5, g6, g7⟩ := (h : XS z k σ)
    have rk := hz.rg g1
    have zn := hz.1
    have H : Ok (f_X6_refuse N σ 2 w) (fun q => q.2 = 0 ∧ XD z (bad (kZ z k) w, pZ z k) q.1 ∧ FT [] [12, 13] σ q.1) := by
      unfold f_X6_refuse
      refine sx_gI hX rfl rfl ?_
      rw [g6]
      refine ok_weqc (by omega) (fun _ => ?_) (fun q => by omega)
      refine sx_gI hX rfl rfl ?_
      rw [g4]
      refine ok_JnC (fun x => x = bad (kZ z k) w) (fun x hx => ?_) (fun J2 hJ2 => ?_)
      · subst hx
        refine sx_pI hX rfl rfl ?_
        refine sx_gI (σ := uF σ 2 12 (bad (kZ z k) w)) hX rfl rfl ?_
        rw [show fI (uF σ 2 12 (bad (kZ z k) w)) 2 9 = pZ z k from (fI_j (by decide)).trans g8]
        refine sx_pI (σ := uF σ 2 12 (bad (kZ z k) w)) hX rfl rfl (ok_some ⟨rfl, ?_, (FT.refl.wF (by decide)).wF (by decide)⟩)
        have f : FT [] [12, 13] σ (uF (uF σ 2 12 (bad (kZ z k) w)) 2 13 (pZ z k)) := (FT.refl.wF (by decide)).wF (by decide)
        have hb : 1 ≤ bad (kZ z k) w ∧ bad (kZ z k) w ≤ 7 := by unfold bad; split <;> omega
        refine ⟨⟨(f.f (by decide)).trans g2, ?_, ?_⟩, ⟨?_, hb⟩, ?_⟩
        · dsimp only
          rw [f.f (by decide), g3]; exact g1.1
        · dsimp only
          rw [f.f (by decide), g3]; exact g1.2
        · exact (fI_j (by decide)).trans fI_eq
        · dsimp only
          exact ⟨fI_eq, by omega⟩
      · refine ok_weq (by omega) (by omega) (fun q => hJ2 _ ?_) (fun q => hJ2 _ ?_)
        · unfold bad; rw [if_pos q]
        · unfold bad; rw [if_neg q]
    obtain ⟨⟨τ, v⟩, e, h1, h2, h3⟩ := H
    dsimp only at h1 h2 h3
    subst h1
    exact ⟨τ, e, ⟨h3.X hX, hR.ft h3 rfl, h2⟩, h3⟩
theorem expect_eq (hz : Str z) (h : XR z r σ) {w : Int} (hw : 0 ≤ w ∧ w ≤ 103) : ∃ τ, f_X6_expect N σ 2 w = some (τ, 0) ∧ XR z (opX z w r) τ ∧ FT [] [7, 8, 9, 10, 11, 12, 13] σ τ := by
  obtain ⟨τ1, e1, x1, f1⟩ := adv_eq (N := N) hz h
  obtain ⟨τ2, e2, x2, f2⟩ := refuse_eq (N := N) hz h (w := 2) (by decide)
  have F1 : FT [] [7, 8, 9, 10, 11, 12, 13] σ τ1 := f1.mono (fun _ h => h) (by simp)
  have F2 : FT [] [7, 8, 9, 10, 11, 12, 13] σ τ2 := f2.mono (fun _ h => h) (by simp)
  have hX := h.1
  have H : Ok (f_X6_expect N σ 2 w) (fun q => q.2 = 0 ∧ XR z (opX z w r) q.1 ∧ FT [] [7, 8, 9, 10, 11, 12, 13] σ q.1) := by
    unfold f_X6_expect
    refine sx_gI hX rfl rfl ?_
    match r, h, x1, x2 with
    | .inl d, h, x1, x2 =>
      refine ok_ite (fun _ => ?_) (fun _ => ?_)
      · exact sx_rcv hX rfl rfl (ok_rw e1 (ok_some ⟨rfl, x1, F1⟩))
      · exact sx_rcv hX rfl rfl (ok_rw e2 (ok_some ⟨rfl, x2, F2⟩))
    | .inr k, h, x1, x2 =>
      obtain ⟨g1, ⟨g2, g3⟩, ⟨g4, g8, g9⟩, g5, g6, g7⟩ := (h.2.2 : XS z k σ)
      have rk := hz.rg g1
      rw [g4]
      refine ok_weq (by omega) (by omega) (fun q => ?_) (fun q => ?_)
      · have : opX z w (.inr k) = opA z (.inr k) := if_pos (decide_eq_true q)
        rw [this]
        exact sx_rcv hX rfl rfl (ok_rw e1 (ok_some ⟨rfl, x1, F1⟩))
      · have : opX z w (.inr k) = opF z 2 (.inr k) := if_neg (by simp; exact q)
        rw [this]
        exact sx_rcv hX rfl rfl (ok_rw e2 (ok_some ⟨rfl, x2, F2⟩))
  obtain ⟨⟨τ, v⟩, e, h1, h2⟩ := H
  dsimp only at h1 h2
  subst h1
  exact ⟨τ, e, h2⟩
theorem sound_eq (h : XR z r σ) : f_X6_sound N σ 2 = some (σ, isA r) := by
  have H : Ok (f_X6_sound N σ 2) (fun q => q = (σ, isA r)) := by
    unfold f_X6_sound
    refine sx_gI h.1 rfl rfl ?_
    match r, h with
    | .inl d, h =>
      obtain ⟨g0, ⟨g4, g6, g7⟩, g5⟩ := (h.2.2 : XD z d σ)
      rw [g4]
      exact ok_weqc (by omega) (fun q => by omega) (fun _ => ok_some rfl)
    | .inr k, h =>
      obtain ⟨g1, ⟨g2, g3⟩, ⟨g4, g8, g9⟩, g5, g6, g7⟩ := (h.2.2 : XS z k σ)
      rw [g6]
      exact ok_weqc (by omega) (fun _ => ok_some rfl) (fun q => by omega)
  obtain ⟨q, e, rfl⟩ := H
  exact e
theorem number_eq (hz : Str z) (h : XR z r σ) {lo hi : Int} (hl : 0 ≤ lo ∧ lo ≤ 9999 ∧ 0 ≤ hi ∧ hi ≤ 9999) : ∃ τ v, f_X6_expectNumber N σ 2 lo hi = some (τ, v) ∧ XR z (opN z lo hi r) τ ∧ FT [] [7, 8, 9, 10, 11, 12, 13] σ τ ∧ ∀ k, opN z lo hi r = .inr k → v = valN z r ∧ lo ≤ v ∧ v ≤ hi := by
  obtain ⟨τ1, e1, x1, f1⟩ := adv_eq (N := N) hz h
  obtain ⟨τ2, e2, x2, f2⟩ := refuse_eq (N := N) hz h (w := 2) (by decide)
  obtain ⟨τ3, e3, x3, f3⟩ := refuse_eq (N := N) hz h (w := 4) (by decide)
  have F1 : FT [] [7, 8, 9, 10, 11, 12, 13] σ τ1 := f1.mono (fun _ h => h) (by simp)
  have F2 : FT [] [7, 8, 9, 10, 11, 12, 13] σ τ2 := f2.mono (fun _ h => h) (by simp)
  have F3 : FT [] [7, 8, 9, 10, 11, 12, 13] σ τ3 := f3.mono (fun _ h => h) (by simp)
  have hX := h.1
  have H : Ok (f_X6_expectNumber N σ 2 lo hi) (fun q => XR z (opN z lo hi r) q.1 ∧ FT [] [7, 8, 9, 10, 11, 12, 13] σ q.1 ∧ ∀ k, opN z lo hi r = .inr k → q.2 = valN z r ∧ lo ≤ q.2 ∧ q.2 ≤ hi) := by
    unfold f_X6_expectNumber
    refine sx_gI hX rfl rfl ?_
    match r, h, x1, x2, x3 with
    | .inl d, h, x1, x2, x3 =>
      have nk : ∀ k, opN z lo hi (.inl d) = .inr k → False := fun k q => by cases q
      refine ok_ite (fun _ => ?_) (fun _ => ?_)
      · refine sx_gI hX rfl rfl ?_
        refine ok_rw (within_eq N σ _ lo hi) ?_
        refine ok_ite (fun _ => ?_) (fun _ => ?_)
        · exact sx_rcv hX rfl rfl (ok_rw e3 (ok_some ⟨x3, F3, fun k q => (nk k q).elim⟩))
        · refine sx_gI hX rfl rfl ?_
          exact sx_rcv hX rfl rfl (ok_rw e1 (ok_some ⟨x1, F1, fun k q => (nk k q).elim⟩))
      · exact sx_rcv hX rfl rfl (ok_rw e2 (ok_some ⟨x2, F2, fun k q => (nk k q).elim⟩))
    | .inr k, h, x1, x2, x3 =>
      obtain ⟨g1, ⟨g2, g3⟩, ⟨g4, g8, g9⟩, g5, g6, g7⟩ := (h.2.2 : XS z k σ)
      have rk := hz.rg g1
      rw [g4]
      refine ok_weq (by omega) (by omega) (fun q => ?_) (fun q => ?_)
      · have rn := hz.num g1 q
        rw [if_pos q] at g5
        refine sx_gI hX rfl rfl ?_
        rw [g5]
        refine ok_within (by omega) (by omega) (by omega) (fun c => ok_z1 ?_) (fun c => ok_z0 ?_)
        · have : opN z lo hi (.inr k) = opA z (.inr k) := by
            show (if kZ z k = 101 then _ else _) = _
            rw [if_pos q, if_pos c]; rfl
          rw [this]
          refine sx_gI hX rfl rfl ?_
          rw [g5]
          exact sx_rcv hX rfl rfl (ok_rw e1 (ok_some ⟨x1, F1, fun k' _ => ⟨rfl, c⟩⟩))
        · have : opN z lo hi (.inr k) = opF z 4 (.inr k) := by
            show (if kZ z k = 101 then _ else _) = _
            rw [if_pos q, if_neg (by omega)]
            show _ = Sum.inl (bad (kZ z k) 4, pZ z k)
            unfold bad; rw [if_neg (by omega)]
          rw [this]
          exact sx_rcv hX rfl rfl (ok_rw e3 (ok_some ⟨x3, F3, fun k' q => by cases q⟩))
      · have : opN z lo hi (.inr k) = opF z 2 (.inr k) := by
          show (if kZ z k = 101 then _ else _) = _
          rw [if_neg q]; rfl
        rw [this]
        exact sx_rcv hX rfl rfl (ok_rw e2 (ok_some ⟨x2, F2, fun k' q => by cases q⟩))
  obtain ⟨⟨τ, v⟩, e, h⟩ := H
  exact ⟨τ, v, e, h⟩
theorem behind_eq (hz : Str z) (h : XR z r σ) {w lo hi : Int} (hw : 0 ≤ w ∧ w ≤ 103) (hl : 0 ≤ lo ∧ lo ≤ 9999 ∧ 0 ≤ hi ∧ hi ≤ 9999) : ∃ τ v, f_X6_expectNumberBehind N σ 2 w lo hi = some (τ, v) ∧ XR z (opN z lo hi (opX z w r)) τ ∧ FT [] [7, 8, 9, 10, 11, 12, 13] σ τ ∧ ∀ k, opN z lo hi (opX z w r) = .inr k → v = valN z (opX z w r) ∧ lo ≤ v ∧ v ≤ hi := by
  obtain ⟨τ1, e1, x1, f1⟩ := expect_eq (N := N) hz h hw
  obtain ⟨τ2, v, e2, x2, f2, g2⟩ := number_eq (N := N) hz x1 hl
  have H : Ok (f_X6_expectNumberBehind N σ 2 w lo hi) (fun q => XR z (opN z lo hi (opX z w r)) q.1 ∧ FT [] [7, 8, 9, 10, 11, 12, 13] σ q.1 ∧ ∀ k, opN z lo hi (opX z w r) = .inr k → q.2 = valN z (opX z w r) ∧ lo ≤ q.2 ∧ q.2 ≤ hi) := by
    unfold f_X6_expectNumberBehind
    refine sx_rcv h.1 rfl rfl (ok_rw e1 ?_)
    refine sx_rcv x1.1 rfl rfl (ok_rw (sound_eq x1) ?_)
    generalize opX z w r = r1 at x1 x2 g2 ⊢
    match r1, x1, x2, g2 with
    | .inl d, x1, x2, g2 => exact ok_z0 (ok_some ⟨x1, f1, fun k q => by cases q⟩)
    | .inr k, x1, x2, g2 => exact ok_z1 (sx_rcv x1.1 rfl rfl (ok_rw e2 (ok_some ⟨x2, f1.trans f2, g2⟩)))
  obtain ⟨⟨τ, v⟩, e, h⟩ := H
  exact ⟨τ, v, e, h⟩
/-- a text begun -/
theorem begin_eq {T : Int → Int} {n : Int} (hX : WXr σ.1 σ.2.2) (ht : TX T n σ) (hW : OWr (σ.2.1 3)) (hN : 2000 < N) : ∃ τ z, f_X6_begin N σ 2 = some (τ, 0) ∧ Str z ∧ tZ z = T ∧ nZ z = n ∧ XR z (.inr 0) τ ∧ FT [5, 6, 7] [3, 7, 8, 9, 10, 11, 12, 13] σ τ := by
  have H : Ok (f_X6_begin N σ 2) (fun q => q.2 = 0 ∧ ∃ z, Str z ∧ tZ z = T ∧ nZ z = n ∧ XR z (.inr 0) q.1 ∧ FT [5, 6, 7] [3, 7, 8, 9, 10, 11, 12, 13] σ q.1) := by
    unfold f_X6_begin
    refine sx_pI hX rfl rfl ?_
    refine sx_pI (σ := uF σ 2 12 0) hX rfl rfl ?_
    have f1 : FT [5, 6, 7] [3, 7, 8, 9, 10, 11, 12, 13] σ (uF (uF σ 2 12 0) 2 13 (-1)) := (FT.refl.wF (by decide)).wF (by decide)
    have v12 : fI (uF (uF σ 2 12 0) 2 13 (-1)) 2 12 = 0 := (fI_j (by decide)).trans fI_eq
    have v13 : fI (uF (uF σ 2 12 0) 2 13 (-1)) 2 13 = -1 := fI_eq
    generalize uF (uF σ 2 12 0) 2 13 (-1) = y1 at f1 v12 v13 ⊢
    have hX1 := f1.X hX
    have ht1 := ht.ft f1 (by decide) (by decide)
    have hW1 : OWr (y1.2.1 3) := fun j x y => (f1.c (by decide) (by decide)).trans (hW j x y)
    obtain ⟨τ, e, f2, K, E, k1, k2, k3, k4, k5⟩ := split_eq (N := N) hX1 ht1 hW1 hN
    refine sx_rcv hX1 rfl rfl (ok_rw e ?_)
    have hX2 := f2.X hX1
    refine sx_pI hX2 rfl rfl ?_
    have f3 : FT [] [7] τ (uF τ 2 7 (-1)) := FT.refl.wF (by decide)
    have w7 : fI (uF τ 2 7 (-1)) 2 7 = -1 := fI_eq
    generalize uF τ 2 7 (-1) = y3 at f3 w7 ⊢
    have hX3 := f3.X hX2
    have hz : Str (T, τ.2.1 5, τ.2.1 6, τ.2.1 7, E, n, K) := ⟨ht.2.1, fun j x y => (ht.2.2 j x y).2, k2, k3, k4, k5⟩
    obtain ⟨υ, e4, f4, g7, g8, g9, g11, g10⟩ := adv_pure (N := N) (z := (T, τ.2.1 5, τ.2.1 6, τ.2.1 7, E, n, K)) hX3 hz (fun q x y => by rw [f3.c (by decide) (by decide), f3.c (by decide) (by decide), f3.c (by decide) (by decide)]; exact ⟨rfl, rfl, rfl⟩) ((f3.f (by decide)).trans k1) w7 ⟨by decide, by show -1 < K; omega⟩
    refine sx_rcv hX3 rfl rfl (ok_rw e4 (ok_some ⟨rfl, _, hz, rfl, rfl, ?_, ?_⟩))
    · have n0 : nxt (T, τ.2.1 5, τ.2.1 6, τ.2.1 7, E, n, K) (-1) = 0 := by
        unfold nxt
        show (if (-1 : Int) + 1 < K then _ else _) = _
        rw [if_pos (by omega)]; rfl
      rw [n0] at g7 g8 g9 g10 g11
      refine ⟨f4.X hX3, fun q x y => ?_, ⟨Int.le_refl 0, by show 0 < K; omega⟩, ⟨(f4.f (by decide)).trans ((f3.f (by decide)).trans k1), g7⟩, ⟨g8, g9, g11⟩, g10, ?_, ?_⟩
      · rw [f4.c (by decide) (by decide), f4.c (by decide) (by decide), f4.c (by decide) (by decide), f3.c (by decide) (by decide), f3.c (by decide) (by decide), f3.c (by decide) (by decide)]
        exact ⟨rfl, rfl, rfl⟩
      · exact (f4.f (by decide)).trans ((f3.f (by decide)).trans ((f2.f (by decide)).trans v12))
      · exact (f4.f (by decide)).trans ((f3.f (by decide)).trans ((f2.f (by decide)).trans v13))
    · exact ((f1.trans (f2.mono (fun _ h => h) (by simp))).trans (f3.mono (by simp) (by simp))).trans (f4.mono (by simp) (by simp))
  obtain ⟨⟨τ, v⟩, e, h1, z, h2⟩ := H
  dsimp only at h1 h2
  subst h1
  exact ⟨τ, z, e, h2⟩
end F
