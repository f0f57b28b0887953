/-! the pure part: moves, cost, over, leave, pays -/
def spN (E co : Int → Int) (lo hi : Int) : Nat → Int → Int → Int
  | 0, _, s => s
  | c + 1, p, s => spN E co lo hi c (p + 1) (if lo ≤ E p ∧ E p ≤ hi then s + co p else s)
theorem spN_rg {E co : Int → Int} {lo hi : Int} : ∀ (c : Nat) (p s : Int), (∀ q, p ≤ q → q < p + (c : Int) → 0 ≤ co q ∧ co q ≤ 999) → 0 ≤ s → 0 ≤ spN E co lo hi c p s ∧ spN E co lo hi c p s ≤ s + 999 * (c : Int)
  | 0, _, s, _, h => by unfold spN; omega
  | c + 1, p, s, hc, h => by
    have h1 := hc p (by omega) (by omega)
    have h2 := spN_rg (E := E) (co := co) (lo := lo) (hi := hi) c (p + 1) (if lo ≤ E p ∧ E p ≤ hi then s + co p else s) (fun q a b => hc q (by omega) (by omega)) (by split <;> omega)
    unfold spN
    have h3 : (if lo ≤ E p ∧ E p ≤ hi then s + co p else s) ≤ s + 999 := by split <;> omega
    omega
def spt (σ : St) (m : Nat) (E : Int → Int) (lo hi : Int) : Int := spN E (σ.2.1 (m + 5)) lo hi (fI σ m 1).toNat 0 0
def esN (σ : St) (a k : Int) : Nat → Int → Int → Int
  | 0, _, b => b
  | c + 1, f, b => esN σ a k c (f + 1) (if σ.2.1 67 f = 1 ∧ σ.2.1 68 f ≤ a ∧ cn σ f k = 1 ∧ (b = -1 ∨ σ.2.1 68 b ≤ σ.2.1 68 f) then f else b)
def esI (σ : St) (a k : Int) : Int := esN σ a k (fI σ 66 0).toNat 0 (-1)
def ovD (σ : St) (m : Nat) (a k : Int) : Int := spt σ m (moE σ m k) 0 a * 10 / σ.2.1 69 (esI σ a k)
def ov (σ : St) (m : Nat) (a k : Int) : Int := if esI σ a k = -1 then 99 else if σ.2.1 69 (esI σ a k) = 0 then 99 else if ovD σ m a k < 99 then ovD σ m a k else 99
theorem st_dv {α : Type} {a b : Int} {f : Int → Option α} {Q : α → Prop} (h0 : wr b ≠ 0) (h : Ok (f (Int.tdiv (wr a) (wr b))) Q) : Ok (Option.bind (dvO a b) f) Q := by
  unfold dvO; rw [if_neg h0]; exact h
section F
variable {N : Nat} {σ σm : St}
theorem spent_eq {m : Nat} {bk : Int} {τ : St} (hX : WXr τ.1 τ.2.2) (hI : IMach m bk σ σm) (f0 : FX [72] σ τ) {E : Int → Int} (hE : ∀ p : Int, 0 ≤ p → p < 12 → τ.2.1 72 p = cls (E p)) (hr : ∀ p, 0 ≤ E p ∧ E p ≤ 1000000) {lo hi : Int} (hl : 0 ≤ lo ∧ lo ≤ 999) (hh : 0 ≤ hi ∧ hi ≤ 999) (hN : 1000 < N) : f_X1_spent N τ 66 m lo hi = some (τ, spt σ m E lo hi) := by
  have hm := hI.1
  obtain ⟨i1, i2, i3, i4, ⟨r1, r2, r3, r4, r5⟩, rp, _⟩ := hI
  have H : Ok (f_X1_spent N τ 66 m lo hi) (fun q => q = (τ, spt σ m E lo hi)) := by
    unfold f_X1_spent L_X1_spent_6
    refine ok_fix (fun w => 0 ≤ w.2 ∧ w.2 ≤ fI σ m 1 ∧ spN E (σ.2.1 (m + 5)) lo hi (fI σ m 1 - w.2).toNat w.2 w.1 = spt σ m E lo hi) (fun w => (fI σ m 1 - w.2).toNat) (fun back w hI hback => ?_) _ ⟨Int.le_refl _, r2.2.1, by dsimp only; rw [Int.sub_zero]; rfl⟩ (by dsimp only; omega)
    obtain ⟨s, p⟩ := w
    obtain ⟨g1, g2, g3⟩ := hI
    dsimp only at g1 g2 g3 hback ⊢
    have e0 : fI τ m 1 = fI σ m 1 := f0.f (m_no (d := 0) hm (by decide) n72)
    have e5 : τ.2.1 (m + 5) = σ.2.1 (m + 5) := f0.2.2 _ (m_no hm (by decide) n72)
    refine mx_gI hX hm ?_
    rw [e0]
    refine ok_wlt (by omega) (by omega) (fun h1 => ?_) (fun h1 => ?_)
    · have k1 : (fI σ m 1 - p).toNat = (fI σ m 1 - (p + 1)).toNat + 1 := by omega
      rw [k1] at g3
      have hp := hr p
      refine sx_gR hX rfl rfl rfl ?_
      refine sx_aI hX rfl rfl (by decide) (by omega) (by omega) ?_
      rw [hE p g1 (by omega)]
      refine st_Jn ?_
      have no : ¬ (lo ≤ E p ∧ E p ≤ hi) → Ok (back (s, p + 1)) (fun q => q = (τ, spt σ m E lo hi)) := fun hc => by
        refine hback _ ⟨by dsimp only; omega, by dsimp only; omega, ?_⟩ (by dsimp only; omega)
        rw [← g3]
        show spN E _ lo hi _ (p + 1) s = spN E _ lo hi _ (p + 1) (if _ then _ else _)
        rw [if_neg hc]
      by_cases hc : E p = 1000000
      · have ec : cls (E p) = -1 := if_pos hc
        rw [ec]
        exact ok_weq (by omega) (by omega) (fun h2 => st_Lt (no (by omega))) (fun h2 => by exfalso; omega)
      · have ec : cls (E p) = E p := if_neg hc
        rw [ec]
        refine ok_weq (by omega) (by omega) (fun h2 => by exfalso; omega) (fun h2 => ?_)
        refine sx_gR hX rfl rfl rfl ?_
        refine sx_aI hX rfl rfl (by decide) (by omega) (by omega) ?_
        rw [hE p g1 (by omega), ec]
        refine ok_within (by omega) (by omega) (by omega) (fun h3 => ?_) (fun h3 => ok_z0 (st_Lt (no (by omega))))
        refine ok_z1 ?_
        refine mx_gR hX hm rfl ?_
        refine mx_aI hX hm rfl (by decide) (by omega) (by omega) ?_
        rw [e5]
        refine st_Lt (st_Lt ?_)
        refine hback _ ⟨by dsimp only; omega, by dsimp only; omega, ?_⟩ (by dsimp only; omega)
        rw [← g3]
        show spN E _ lo hi _ (p + 1) _ = spN E _ lo hi _ (p + 1) (if _ then _ else _)
        rw [if_pos h3]
    · have : p = fI σ m 1 := by omega
      subst this
      rw [Int.sub_self] at g3
      refine ok_some ?_
      rw [← g3]; rfl
  obtain ⟨q, e, rfl⟩ := H
  exact e
theorem costsOf_eq {m : Nat} {bk : Int} {τ : St} (hM : WMr τ.1 τ.2.2) (hI : IMach m bk σ σm) (f0 : FM [38] [] σm τ) {E : Int → Int} (hE : ∀ p : Int, 0 ≤ p → p < 12 → τ.2.1 38 p = E p) (hr : ∀ p, 0 ≤ E p ∧ E p ≤ 1000000) {lo hi : Int} (hl : 0 ≤ lo ∧ lo ≤ 999) (hh : 0 ≤ hi ∧ hi ≤ 999) (hN : 1000 < N) : f_X12_costsOf N τ 1 lo hi = some (τ, spt σ m E lo hi) := by
  have hm := hI.1
  obtain ⟨i1, i2, i3, i4, ⟨r1, r2, r3, r4, r5⟩, rp, _⟩ := hI
  have ec : ∀ q, 4 ≤ q → q ≤ 21 → τ.2.1 q = σm.2.1 q := fun q a b => f0.2.2.1 q (by omega) (by simp; omega)
  have eb : fI τ 1 31 = bk := (f0.f (by decide)).trans i3
  have H : Ok (f_X12_costsOf N τ 1 lo hi) (fun q => q = (τ, spt σ m E lo hi)) := by
    unfold f_X12_costsOf L_X12_costsOf_5
    refine ok_fix (fun w => 0 ≤ w.2 ∧ w.2 ≤ fI σ m 1 ∧ spN E (σ.2.1 (m + 5)) lo hi (fI σ m 1 - w.2).toNat w.2 w.1 = spt σ m E lo hi) (fun w => (fI σ m 1 - w.2).toNat) (fun back w hI hback => ?_) _ ⟨Int.le_refl _, r2.2.1, by dsimp only; rw [Int.sub_zero]; rfl⟩ (by dsimp only; omega)
    obtain ⟨s, p⟩ := w
    obtain ⟨g1, g2, g3⟩ := hI
    dsimp only at g1 g2 g3 hback ⊢
    refine sm_rcv hM (ok_rw (parts_eq hM eb i4) ?_)
    dsimp only
    rw [ec 5 (by decide) (by decide), r2.1]
    refine ok_wlt (by omega) (by omega) (fun h1 => ?_) (fun h1 => ?_)
    · have k1 : (fI σ m 1 - p).toNat = (fI σ m 1 - (p + 1)).toNat + 1 := by omega
      rw [k1] at g3
      have hp := hr p
      refine sm_gR hM rfl ?_
      refine sm_aI hM rfl rfl (by decide) (by omega) (by omega) ?_
      rw [hE p g1 (by omega)]
      refine ok_isIn (by omega) (by omega) (by omega) (fun h3 => ?_) (fun h3 => ?_)
      · refine st_Jn (ok_z1 ?_)
        refine sm_gR hM rfl ?_
        refine sm_gI hM ?_
        rw [eb]
        refine sm_aI hM rfl rfl (by decide) (by omega) (by omega) ?_
        rw [ec 12 (by decide) (by decide), (rp p g1 h1).2.2.2.1]
        refine st_Lt (st_Lt ?_)
        refine hback _ ⟨by dsimp only; omega, by dsimp only; omega, ?_⟩ (by dsimp only; omega)
        rw [← g3]
        show spN E _ lo hi _ (p + 1) _ = spN E _ lo hi _ (p + 1) (if _ then _ else _)
        rw [if_pos h3]
      · refine st_Jn (ok_z0 ?_)
        refine st_Lt (st_Lt ?_)
        refine hback _ ⟨by dsimp only; omega, by dsimp only; omega, ?_⟩ (by dsimp only; omega)
        rw [← g3]
        show spN E _ lo hi _ (p + 1) (s + 0) = spN E _ lo hi _ (p + 1) (if _ then _ else _)
        rw [if_neg (by omega), Int.add_zero]
    · have : p = fI σ m 1 := by omega
      subst this
      rw [Int.sub_self] at g3
      refine ok_some ?_
      rw [← g3]; rfl
  obtain ⟨q, e, rfl⟩ := H
  exact e
theorem spt_rg {m : Nat} {bk : Int} (hI : IMach m bk σ σm) (E : Int → Int) (lo hi : Int) : 0 ≤ spt σ m E lo hi ∧ spt σ m E lo hi ≤ 11988 := by
  obtain ⟨i1, i2, i3, i4, ⟨r1, r2, r3, r4, r5⟩, rp, _⟩ := hI
  have := spN_rg (E := E) (co := σ.2.1 (m + 5)) (lo := lo) (hi := hi) (fI σ m 1).toNat 0 0 (fun q a b => (rp q a (by omega)).2.2.2.2) (by omega)
  unfold spt
  omega
theorem op_moves (hX : WXr σ.1 σ.2.2) (hM : WMr σm.1 σm.2.2) {m : Nat} {bk : Int} (hI : IMach m bk σ σm) (hF : IFacts σ σm) {a b : Int} (ha : wr a = a) (hb : wr b = b) (hN : 1000 < N) : Ok (f_X11_moves N σ 1 a b) (fun v => Ok (f_X12_moves N σm 1 a b) (fun w => wr v.2 = wr w.2 ∧ FX [72] σ v.1 ∧ FM [38] [] σm w.1)) := by
  have hr := wr_rg ha
  have hs := wr_rg hb
  obtain ⟨τ, t1, t2, t3⟩ := findMonths_eq hX hI hF hs hN
  obtain ⟨υ, u1, u2, u3⟩ := findMoves_eq hM hI hF hs hN
  have hrg := moE_rg hI hF b a
  obtain ⟨i1, i2, i3, i4, ⟨r1, r2, r3, r4, r5⟩, rp, _⟩ := hI
  unfold f_X11_moves f_X12_moves
  refine sx_rcv hX rfl rfl (ok_part hX i1 i2 r2.2 hr (fun h1 => ?_) (fun h1 => ?_))
  · refine ok_z1 ?_
    refine sx_gR hX rfl rfl rfl ?_
    refine sx_gR1 hX i2 ?_
    refine sx_rcv hX rfl rfl (ok_rw t1 ?_)
    dsimp only
    refine sx_gR (t2.X hX) rfl rfl rfl ?_
    refine sx_rcv (t2.X hX) rfl rfl (ok_rw (monthOf_eq (t2.X hX) (by omega)) (ok_some ?_))
    dsimp only
    rw [t3 a h1.1 (by omega)]
    refine sm_rcv hM (om_part hM i3 i4 r2.1 r2.2 hr (fun h2 => ?_) (fun h2 => by exfalso; omega))
    refine ok_z1 ?_
    refine sm_rcv hM (ok_rw u1 ?_)
    dsimp only
    have hM' := u2.M hM
    refine sm_gR hM' rfl ?_
    refine sm_aI hM' rfl rfl (by decide) (by omega) (by omega) ?_
    rw [u3 a h1.1 (by omega)]
    refine ok_wlt (by omega) (by omega) (fun h3 => ?_) (fun h3 => ?_)
    · refine sm_gR hM' rfl ?_
      refine sm_aI hM' rfl rfl (by decide) (by omega) (by omega) (ok_some ?_)
      rw [u3 a h1.1 (by omega)]
      exact ⟨by rw [show cls (moE σ m b a) = moE σ m b a from if_neg (by omega)], t2, u2⟩
    · exact ok_some ⟨by rw [show cls (moE σ m b a) = -1 from if_pos (by omega)], t2, u2⟩
  · refine ok_z0 (ok_some ?_)
    refine sm_rcv hM (om_part hM i3 i4 r2.1 r2.2 hr (fun h2 => by exfalso; omega) (fun h2 => ?_))
    exact ok_z0 (ok_some ⟨rfl, FX.refl, FM.refl⟩)
theorem op_cost (hX : WXr σ.1 σ.2.2) (hM : WMr σm.1 σm.2.2) {m : Nat} {bk : Int} (hI : IMach m bk σ σm) (hF : IFacts σ σm) {a b : Int} (ha : wr a = a) (hb : wr b = b) (hN : 1000 < N) : Ok (f_X11_cost N σ 1 a b) (fun v => Ok (f_X12_cost N σm 1 a b) (fun w => wr v.2 = wr w.2 ∧ FX [72] σ v.1 ∧ FM [38] [] σm w.1)) := by
  have hr := wr_rg ha
  have hs := wr_rg hb
  obtain ⟨τ, t1, t2, t3⟩ := findMonths_eq hX hI hF hs hN
  obtain ⟨υ, u1, u2, u3⟩ := findMoves_eq hM hI hF hs hN
  have hrg := moE_rg hI hF b
  have i2 := hI.2.1
  have i2' : τ.2.2 1 ((1 : Nat) : Int) = m := by rw [t2.2.1]; exact i2
  unfold f_X11_cost f_X12_cost
  refine ok_within (by omega) (by omega) (by omega) (fun h1 => ?_) (fun h1 => ?_)
  · refine ok_z1 ?_
    refine sx_gR hX rfl rfl rfl ?_
    refine sx_gR1 hX i2 ?_
    refine sx_rcv hX rfl rfl (ok_rw t1 ?_)
    dsimp only
    refine sx_gR (t2.X hX) rfl rfl rfl ?_
    refine sx_gR1 (t2.X hX) i2' ?_
    refine sx_rcv (t2.X hX) rfl rfl (ok_rw (spent_eq (t2.X hX) hI t2 t3 hrg h1 h1 hN) (ok_some ?_))
    dsimp only
    refine ok_isIn (by omega) (by omega) (by omega) (fun h2 => ?_) (fun h2 => by exfalso; omega)
    refine ok_z1 ?_
    refine sm_rcv hM (ok_rw u1 ?_)
    dsimp only
    refine sm_rcv (u2.M hM) (ok_rw (costsOf_eq (u2.M hM) hI u2 u3 hrg h1 h1 hN) (ok_some ?_))
    exact ⟨rfl, t2, u2⟩
  · refine ok_z0 (ok_some ?_)
    refine ok_isIn (by omega) (by omega) (by omega) (fun h2 => by exfalso; omega) (fun h2 => ?_)
    exact ok_z0 (ok_some ⟨rfl, FX.refl, FM.refl⟩)
theorem esI_ok (hF : IFacts σ σm) (a k : Int) : esI σ a k = -1 ∨ ((0 ≤ esI σ a k ∧ esI σ a k < fI σ 66 0) ∧ σ.2.1 67 (esI σ a k) = 1) := by
  have h : ∀ (c : Nat) (f b : Int), 0 ≤ f → f + (c : Int) ≤ fI σ 66 0 → (b = -1 ∨ ((0 ≤ b ∧ b < fI σ 66 0) ∧ σ.2.1 67 b = 1)) → (esN σ a k c f b = -1 ∨ ((0 ≤ esN σ a k c f b ∧ esN σ a k c f b < fI σ 66 0) ∧ σ.2.1 67 (esN σ a k c f b) = 1)) := by
    intro c
    induction c with
    | zero => intro f b _ _ h; exact h
    | succ c ih =>
      intro f b f0 f1 h
      refine ih (f + 1) _ (by omega) (by omega) ?_
      split
      · rename_i g; exact .inr ⟨⟨f0, by omega⟩, g.1⟩
      · exact h
  have := hF.1.2
  exact h _ 0 (-1) (by omega) (by omega) (.inl rfl)
theorem estimateAt_eq {τ : St} (hX : WXr τ.1 τ.2.2) (hF : IFacts σ σm) (f0 : FX [72] σ τ) {a k : Int} (ha : 0 ≤ a ∧ a ≤ 199) (hk : -2147483648 ≤ k ∧ k < 2147483648) (hN : 1000 < N) : f_X1_estimateAt N τ 66 a k = some (τ, if esI σ a k = -1 then -1 else σ.2.1 69 (esI σ a k)) := by
  have hes := esI_ok hF a k
  have hF' := hF
  obtain ⟨⟨f1, f2, f3⟩, ⟨f4, f5, f6⟩, f7⟩ := hF
  have ec : ∀ q, 66 ≤ q → q ≤ 71 → τ.2.1 q = σ.2.1 q := fun q a b => f0.2.2 q (by simp; omega)
  have hFt : IFacts τ σm := hF'.keep (fun q a b => f0.2.2 q (by simp; omega)) rfl rfl (fun _ _ _ => rfl)
  have e0 : fI τ 66 0 = fI σ 66 0 := f0.f (by decide)
  have H : Ok (f_X1_estimateAt N τ 66 a k) (fun q => q = (τ, if esI σ a k = -1 then -1 else σ.2.1 69 (esI σ a k))) := by
    unfold f_X1_estimateAt
    refine st_Jn ?_
    unfold L_X1_estimateAt_5
    refine ok_fix (fun w => 0 ≤ w.2 ∧ w.2 ≤ fI σ 66 0 ∧ (w.1 = -1 ∨ (0 ≤ w.1 ∧ w.1 < fI σ 66 0)) ∧ esN σ a k (fI σ 66 0 - w.2).toNat w.2 w.1 = esI σ a k) (fun w => (fI σ 66 0 - w.2).toNat) (fun back w hI hback => ?_) _ ⟨Int.le_refl _, f2, .inl rfl, by dsimp only; rw [Int.sub_zero]; rfl⟩ (by dsimp only; omega)
    obtain ⟨b, f⟩ := w
    obtain ⟨g1, g2, g3, g4⟩ := hI
    dsimp only at g1 g2 g3 g4 hback ⊢
    refine sx_gI hX rfl rfl ?_
    rw [e0]
    refine ok_wlt (by omega) (by omega) (fun h1 => ?_) (fun h1 => ?_)
    · have k1 : (fI σ 66 0 - f).toNat = (fI σ 66 0 - (f + 1)).toNat + 1 := by omega
      rw [k1] at g4
      obtain ⟨v1, v2, v3, v4, v5, v6, v7, v8⟩ := f7 f g1 h1
      have hcn := cn_or σ f k
      have ecn : cn τ f k = cn σ f k := by unfold cn; rw [ec 70 (by decide) (by decide), ec 71 (by decide) (by decide)]
      have no : ¬ (σ.2.1 67 f = 1 ∧ σ.2.1 68 f ≤ a ∧ cn σ f k = 1 ∧ (b = -1 ∨ σ.2.1 68 b ≤ σ.2.1 68 f)) → Ok (back (b, f + 1)) (fun q => q = (τ, if esI σ a k = -1 then -1 else σ.2.1 69 (esI σ a k))) := fun hc => by
        refine hback _ ⟨by dsimp only; omega, by dsimp only; omega, g3, ?_⟩ (by dsimp only; omega)
        rw [← g4]
        show esN σ a k _ (f + 1) b = esN σ a k _ (f + 1) (if _ then _ else _)
        rw [if_neg hc]
      have yes : (σ.2.1 67 f = 1 ∧ σ.2.1 68 f ≤ a ∧ cn σ f k = 1 ∧ (b = -1 ∨ σ.2.1 68 b ≤ σ.2.1 68 f)) → Ok (back (f, f + 1)) (fun q => q = (τ, if esI σ a k = -1 then -1 else σ.2.1 69 (esI σ a k))) := fun hc => by
        refine hback _ ⟨by dsimp only; omega, by dsimp only; omega, .inr ⟨g1, h1⟩, ?_⟩ (by dsimp only; omega)
        rw [← g4]
        show esN σ a k _ (f + 1) f = esN σ a k _ (f + 1) (if _ then _ else _)
        rw [if_pos hc]
      refine sx_gR hX rfl rfl rfl ?_
      refine sx_aI hX rfl rfl (by decide) (by omega) (by omega) ?_
      rw [ec 67 (by decide) (by decide)]
      refine st_Jn (st_Jn ?_)
      refine ok_weq (by omega) (by omega) (fun h2 => ?_) (fun h2 => st_Jn (ok_z0 (st_Lt (no (fun q => h2 q.1)))))
      refine sx_gR hX rfl rfl rfl ?_
      refine sx_aI hX rfl rfl (by decide) (by omega) (by omega) ?_
      rw [ec 68 (by decide) (by decide)]
      refine ok_wlt (by omega) (by omega) (fun h3 => st_Jn (ok_z0 (st_Lt (no (by omega))))) (fun h3 => ?_)
      refine sx_rcv hX rfl rfl (ok_rw (counts_eq hX hFt (by omega) hk) ?_)
      dsimp only
      rw [ecn]
      refine ok_weqc (by omega) (fun h4 => st_Jn (ok_z0 (st_Lt (no (by omega))))) (fun h4 => ?_)
      refine st_Jn (ok_z1 (st_Jn ?_))
      refine ok_weq (by omega) (by omega) (fun h5 => st_Lt (yes ⟨h2, h3, by omega, .inl h5⟩)) (fun h5 => ?_)
      refine sx_gR hX rfl rfl rfl ?_
      refine sx_aI hX rfl rfl (by decide) (by omega) (by omega) ?_
      refine sx_gR hX rfl rfl rfl ?_
      refine sx_aI hX rfl rfl (by decide) (by omega) (by omega) ?_
      rw [ec 68 (by decide) (by decide)]
      have vb := (f7 b (by omega) (by omega)).2.2.2.1
      exact ok_wlt (by omega) (by omega) (fun h6 => st_Lt (no (by omega))) (fun h6 => st_Lt (yes ⟨h2, h3, by omega, .inr h6⟩))
    · have : f = fI σ 66 0 := by omega
      subst this
      rw [Int.sub_self] at g4
      have g4' : b = esI σ a k := g4
      subst g4'
      refine ok_weq (by omega) (by omega) (fun h2 => ok_some (by rw [if_pos h2])) (fun h2 => ?_)
      refine sx_gR hX rfl rfl rfl ?_
      refine sx_aI hX rfl rfl (by decide) (by omega) (by omega) (ok_some ?_)
      rw [if_neg h2, ec 69 (by decide) (by decide)]
  obtain ⟨q, e, rfl⟩ := H
  exact e
theorem overrun_eq {m : Nat} {bk : Int} (hX : WXr σ.1 σ.2.2) (hI : IMach m bk σ σm) (hF : IFacts σ σm) {a k : Int} (ha : 0 ≤ a ∧ a ≤ 199) (hk : -2147483648 ≤ k ∧ k < 2147483648) (hN : 1000 < N) : ∃ τ, f_X1_overrun N σ 66 m a k = some (τ, ov σ m a k) ∧ FX [72] σ τ := by
  obtain ⟨τ, t1, t2, t3⟩ := findMonths_eq hX hI hF hk hN
  have hes := esI_ok hF a k
  have hsp := spt_rg hI (moE σ m k) 0 a
  have f7 := hF.2.2
  have H : Ok (f_X1_overrun N σ 66 m a k) (fun q => q = (τ, ov σ m a k)) := by
    unfold f_X1_overrun
    refine sx_rcv hX rfl rfl (ok_rw t1 ?_)
    dsimp only
    refine sx_rcv (t2.X hX) rfl rfl (ok_rw (estimateAt_eq (t2.X hX) hF t2 ha hk hN) ?_)
    dsimp only
    unfold ov
    by_cases h1 : esI σ a k = -1
    · rw [if_pos h1, if_pos h1]
      exact ok_w0lt (by omega) (fun h => by exfalso; omega) (fun _ => ok_some rfl)
    · rw [if_neg h1, if_neg h1]
      have v7 := (f7 (esI σ a k) (by omega) (by omega)).2.2.2.2.2.2.1
      refine ok_w0lt (by omega) (fun h2 => ?_) (fun h2 => ?_)
      · rw [if_neg (by omega)]
        refine sx_rcv (t2.X hX) rfl rfl (ok_rw (spent_eq (t2.X hX) hI t2 t3 (moE_rg hI hF k) (by omega) (by omega) hN) ?_)
        dsimp only
        refine st_dv (by rw [wr_id (by omega) (by omega)]; omega) ?_
        rw [wr_id (z := spt σ m (moE σ m k) 0 a * 10) (by omega) (by omega), wr_id (z := σ.2.1 69 (esI σ a k)) (by omega) (by omega), Int.tdiv_eq_ediv_of_nonneg (by omega)]
        refine ok_some ?_
        show (τ, mnZ 99 (ovD σ m a k)) = _
        have hd : 0 ≤ ovD σ m a k ∧ ovD σ m a k ≤ 119880 := by
          unfold ovD
          refine ⟨Int.ediv_nonneg (by omega) (by omega), ?_⟩
          have := Int.ediv_le_self (b := σ.2.1 69 (esI σ a k)) (a := spt σ m (moE σ m k) 0 a * 10) (by omega)
          omega
        rw [mnZ_eq (by omega) (by omega)]
      · rw [if_pos (by omega)]
        exact ok_some rfl
  obtain ⟨q, e, rfl⟩ := H
  exact ⟨τ, e, t2⟩
theorem overOf_eq {m : Nat} {bk : Int} (hM : WMr σm.1 σm.2.2) (hI : IMach m bk σ σm) (hF : IFacts σ σm) {a k : Int} (ha : 0 ≤ a ∧ a ≤ 199) (hk : -2147483648 ≤ k ∧ k < 2147483648) (hN : 1000 < N) : ∃ τ, f_X12_overOf N σm 1 a k = some (τ, ov σ m a k) ∧ FM [38] [] σm τ := by
  obtain ⟨τ, t1, t2, t3⟩ := findMoves_eq hM hI hF hk hN
  have hes := esI_ok hF a k
  have hsp := spt_rg hI (moE σ m k) 0 a
  have hF' := hF
  obtain ⟨⟨f1, f2, f3⟩, ⟨f4, f5, f6⟩, f7⟩ := hF
  have H : Ok (f_X12_overOf N σm 1 a k) (fun q => q.2 = ov σ m a k ∧ FM [38] [] σm q.1) := by
    unfold f_X12_overOf
    refine st_Jn ?_
    unfold L_X12_overOf_5
    refine ok_fix (fun w => 0 ≤ w.2 ∧ w.2 ≤ fI σ 66 0 ∧ (w.1 = -1 ∨ ((0 ≤ w.1 ∧ w.1 < fI σ 66 0) ∧ σ.2.1 67 w.1 = 1)) ∧ esN σ a k (fI σ 66 0 - w.2).toNat w.2 w.1 = esI σ a k) (fun w => (fI σ 66 0 - w.2).toNat) (fun back w hI' hback => ?_) _ ⟨Int.le_refl _, f2, .inl rfl, by dsimp only; rw [Int.sub_zero]; rfl⟩ (by dsimp only; omega)
    obtain ⟨b, f⟩ := w
    obtain ⟨g1, g2, g3, g4⟩ := hI'
    dsimp only at g1 g2 g3 g4 hback ⊢
    refine sm_gI hM ?_
    rw [f1]
    refine ok_wlt (by omega) (by omega) (fun h1 => ?_) (fun h1 => ?_)
    · have k1 : (fI σ 66 0 - f).toNat = (fI σ 66 0 - (f + 1)).toNat + 1 := by omega
      rw [k1] at g4
      obtain ⟨v1, v2, v3, v4, v5, v6, v7, v8⟩ := f7 f g1 h1
      have hcn := cn_or σ f k
      have no : ¬ (σ.2.1 67 f = 1 ∧ σ.2.1 68 f ≤ a ∧ cn σ f k = 1 ∧ (b = -1 ∨ σ.2.1 68 b ≤ σ.2.1 68 f)) → Ok (back (b, f + 1)) (fun q => q.2 = ov σ m a k ∧ FM [38] [] σm q.1) := fun hc => by
        refine hback _ ⟨by dsimp only; omega, by dsimp only; omega, g3, ?_⟩ (by dsimp only; omega)
        rw [← g4]
        show esN σ a k _ (f + 1) b = esN σ a k _ (f + 1) (if _ then _ else _)
        rw [if_neg hc]
      have yes : (σ.2.1 67 f = 1 ∧ σ.2.1 68 f ≤ a ∧ cn σ f k = 1 ∧ (b = -1 ∨ σ.2.1 68 b ≤ σ.2.1 68 f)) → Ok (back (f, f + 1)) (fun q => q.2 = ov σ m a k ∧ FM [38] [] σm q.1) := fun hc => by
        refine hback _ ⟨by dsimp only; omega, by dsimp only; omega, .inr ⟨⟨g1, h1⟩, hc.1⟩, ?_⟩ (by dsimp only; omega)
        rw [← g4]
        show esN σ a k _ (f + 1) f = esN σ a k _ (f + 1) (if _ then _ else _)
        rw [if_pos hc]
      refine sm_rcv hM (ok_rw (countsM_eq hM hF' (by omega) hk (by omega)) ?_)
      dsimp only
      refine st_Jn ?_
      by_cases hc : σ.2.1 67 f = 1 ∧ cn σ f k = 1
      · rw [if_pos hc]
        refine ok_z1 ?_
        have v6' := v6 (by omega)
        refine sm_gR hM rfl ?_
        refine sm_aI hM rfl rfl (by decide) (by omega) (by omega) ?_
        rw [v6'.1]
        refine ok_wlt (by omega) (by omega) (fun h3 => st_Lt (no (by omega))) (fun h3 => ?_)
        refine st_Jn ?_
        refine ok_wlt0 (by omega) (fun h4 => st_Lt (yes ⟨hc.1, h3, hc.2, .inl (by omega)⟩)) (fun h4 => ?_)
        have gb := f7 b (by omega) (by omega)
        refine sm_gR hM rfl ?_
        refine sm_aI hM rfl rfl (by decide) (by omega) (by omega) ?_
        refine sm_gR hM rfl ?_
        refine sm_aI hM rfl rfl (by decide) (by omega) (by omega) ?_
        rw [v6'.1, (gb.2.2.2.2.2.1 (by omega)).1]
        have vb := gb.2.2.2.1
        exact ok_wlt (by omega) (by omega) (fun h6 => st_Lt (no (by omega))) (fun h6 => st_Lt (yes ⟨hc.1, h3, hc.2, .inr h6⟩))
      · rw [if_neg hc]
        exact ok_z0 (st_Lt (no (fun q => hc ⟨q.1, q.2.2.1⟩)))
    · have : f = fI σ 66 0 := by omega
      subst this
      rw [Int.sub_self] at g4
      have g4' : b = esI σ a k := g4
      subst g4'
      unfold ov
      refine ok_wlt0 (by omega) (fun h2 => ok_some ⟨by rw [if_pos (by omega)], FM.refl⟩) (fun h2 => ?_)
      have gb := f7 (esI σ a k) (by omega) (by omega)
      have v7 := gb.2.2.2.2.2.2.1
      have e2 := (gb.2.2.2.2.2.1 (by omega)).2
      rw [if_neg (by omega)]
      refine sm_gR hM rfl ?_
      refine sm_aI hM rfl rfl (by decide) (by omega) (by omega) ?_
      rw [e2]
      refine ok_weqc (by omega) (fun h3 => ok_some ⟨by rw [if_pos h3], FM.refl⟩) (fun h3 => ?_)
      rw [if_neg h3]
      refine sm_rcv hM (ok_rw t1 ?_)
      dsimp only
      have hM' := t2.M hM
      refine sm_rcv hM' (ok_rw (costsOf_eq hM' hI t2 t3 (moE_rg hI hF' k) (by omega) (by omega) hN) ?_)
      dsimp only
      refine sm_gR hM' rfl ?_
      refine sm_aI hM' rfl rfl (by decide) (by omega) (by omega) ?_
      rw [t2.2.2.1 35 (by decide) (by decide), e2]
      refine st_dv (by rw [wr_id (by omega) (by omega)]; omega) ?_
      rw [wr_id (z := spt σ m (moE σ m k) 0 a * 10) (by omega) (by omega), wr_id (z := σ.2.1 69 (esI σ a k)) (by omega) (by omega), Int.tdiv_eq_ediv_of_nonneg (by omega)]
      have hd : 0 ≤ ovD σ m a k ∧ ovD σ m a k ≤ 119880 := by
        unfold ovD
        refine ⟨Int.ediv_nonneg (by omega) (by omega), ?_⟩
        have := Int.ediv_le_self (b := σ.2.1 69 (esI σ a k)) (a := spt σ m (moE σ m k) 0 a * 10) (by omega)
        omega
      show Ok (if wr 99 < wr (ovD σ m a k) then _ else some (τ, ovD σ m a k)) _
      refine ok_wlt (by omega) (by omega) (fun h4 => ok_some ⟨?_, t2⟩) (fun h4 => ok_some ⟨?_, t2⟩)
      · dsimp only; rw [if_neg (by omega)]
      · dsimp only; split <;> omega
  obtain ⟨⟨υ, v'⟩, e, h1, h2⟩ := H
  dsimp only at h1 h2
  subst h1
  exact ⟨υ, e, h2⟩
end F
