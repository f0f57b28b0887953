/-! the pure part: months found, the reference -/
section F
variable {N : Nat} {σ σm : St}
theorem fmv2 (hM : WMr σm.1 σm.2.2) {J : St → Option (St × Int)} {Q : St × Int → Prop} (hN : 1000 < N) (h : ∀ υ, FM [38] [] σm υ → (∀ p : Int, 0 ≤ p → p < 12 → υ.2.1 38 p = 1000000) → Ok (J υ) Q) : Ok (L_X12_findMoves_2 N 1 J (σm, 0)) Q := by
  unfold L_X12_findMoves_2
  refine ok_fix (fun w => FM [38] [] σm w.1 ∧ 0 ≤ w.2 ∧ w.2 ≤ 12 ∧ ∀ p : Int, 0 ≤ p → p < w.2 → w.1.2.1 38 p = 1000000) (fun w => (12 - w.2).toNat) (fun back w hI hback => ?_) _ ⟨FM.refl, Int.le_refl _, by dsimp only; omega, fun p a b => by dsimp only at b; omega⟩ (by dsimp only; omega)
  obtain ⟨υ, j⟩ := w
  obtain ⟨g1, g2, g3, g4⟩ := hI
  dsimp only at g1 g2 g3 g4 hback ⊢
  have hM' := g1.M hM
  refine ok_wlt (by omega) (by omega) (fun h1 => ?_) (fun h1 => h _ g1 (fun p a b => g4 p a (by omega)))
  refine sm_gR hM' rfl ?_
  refine sm_sI hM' rfl rfl (by decide) (by omega) (by omega) ?_
  refine st_Lt ?_
  refine hback _ ⟨g1.uI (by decide) (by decide), by dsimp only; omega, by dsimp only; omega, fun p a b => ?_⟩ (by dsimp only; omega)
  dsimp only at b ⊢
  rw [uW_at]
  split
  · rfl
  · exact g4 p a (by omega)
theorem fm25 (hM : WMr σm.1 σm.2.2) {υ0 : St} (h0 : FM [38] [] σm υ0) (hF : IFacts σ σm) {k : Int} (hk : -2147483648 ≤ k ∧ k < 2147483648) {J : St → Option (St × Int)} {Q : St × Int → Prop} (hN : 1000 < N) (hi : ∀ p : Int, 0 ≤ p → p < 12 → υ0.2.1 38 p = 1000000) (h : ∀ υ, FM [38] [] σm υ → (∀ p : Int, 0 ≤ p → p < 12 → υ.2.1 38 p = fcE σ k p) → Ok (J υ) Q) : Ok (L_X12_findMoves_25 N 1 k J (υ0, 0)) Q := by
  have hF' := hF
  obtain ⟨⟨f1, f2, f3⟩, ⟨f4, f5, f6⟩, f7⟩ := hF
  unfold L_X12_findMoves_25
  refine ok_fix (fun w => ∃ E', FM [38] [] σm w.1 ∧ 0 ≤ w.2 ∧ w.2 ≤ fI σ 66 0 ∧ (∀ p : Int, 0 ≤ p → p < 12 → w.1.2.1 38 p = E' p) ∧ Bd 199 E' ∧ fcN σ k (fI σ 66 0 - w.2).toNat w.2 E' = fcE σ k) (fun w => (fI σ 66 0 - w.2).toNat) (fun back w hI hback => ?_) _ ⟨fun _ => 1000000, h0, Int.le_refl _, f2, hi, fun p => by dsimp only; omega, by dsimp only; rw [Int.sub_zero]; rfl⟩ (by dsimp only; omega)
  obtain ⟨υ, f⟩ := w
  obtain ⟨E', g1, g2, g3, g4, g5, g6⟩ := hI
  dsimp only at g1 g2 g3 g4 g5 g6 hback ⊢
  have hM' := g1.M hM
  have hFu : IFacts σ υ := hF'.keep (fun _ _ _ => rfl) (g1.f (by decide)) (g1.f (by decide)) (fun q a b => g1.2.2.1 q (by omega) (by simp; omega))
  have e0 : fI υ 1 67 = fI σ 66 0 := (g1.f (by decide)).trans f1
  have ec : ∀ q, 33 ≤ q → q ≤ 37 → υ.2.1 q = σm.2.1 q := fun q a b => g1.2.2.1 q (by omega) (by simp; omega)
  refine sm_gI hM' ?_
  rw [e0]
  refine ok_wlt (by omega) (by omega) (fun h1 => ?_) (fun h1 => ?_)
  · obtain ⟨v1, v2, v3, v4, v5, v6, v7, v8⟩ := f7 f g2 h1
    have hcn := cn_or σ f k
    have k1 : (fI σ 66 0 - f).toNat = (fI σ 66 0 - (f + 1)).toNat + 1 := by omega
    rw [k1] at g6
    refine sm_rcv hM' (ok_rw (countsM_eq hM' hFu (by omega) hk (by omega)) ?_)
    dsimp only
    refine st_Jn ?_
    by_cases hc : σ.2.1 67 f = 0 ∧ cn σ f k = 1
    · rw [if_pos hc]
      refine ok_z1 ?_
      have v5' := v5 hc.1
      refine sm_gR hM' rfl ?_
      refine sm_aI hM' rfl rfl (by decide) (by omega) (by omega) ?_
      refine sm_gR hM' rfl ?_
      refine sm_gR hM' rfl ?_
      refine sm_aI hM' rfl rfl (by decide) (by omega) (by omega) ?_
      rw [ec 34 (by decide) (by decide), ec 35 (by decide) (by decide), v5'.1, v5'.2.1]
      refine sm_aI hM' rfl rfl (by decide) (by omega) (by omega) ?_
      rw [g4 _ (by omega) (by omega)]
      have b1 := g5 (σ.2.1 69 f)
      have hst : fcN σ k (fI σ 66 0 - (f + 1)).toNat (f + 1) (upE E' (σ.2.1 69 f) (σ.2.1 68 f)) = fcE σ k := by
        rw [← g6]
        show fcN σ k _ (f + 1) _ = fcN σ k _ (f + 1) (if _ then _ else _)
        rw [if_pos hc]
      refine ok_wlt (by omega) (by omega) (fun h2 => ?_) (fun h2 => ?_)
      · refine sm_gR hM' rfl ?_
        refine sm_gR hM' rfl ?_
        refine sm_aI hM' rfl rfl (by decide) (by omega) (by omega) ?_
        refine sm_gR hM' rfl ?_
        refine sm_aI hM' rfl rfl (by decide) (by omega) (by omega) ?_
        rw [ec 34 (by decide) (by decide), ec 35 (by decide) (by decide), v5'.1, v5'.2.1]
        refine sm_sI hM' rfl rfl (by decide) (by omega) (by omega) ?_
        refine st_Lt ?_
        refine hback _ ⟨upE E' (σ.2.1 69 f) (σ.2.1 68 f), g1.uI (by decide) (by decide), by dsimp only; omega, by dsimp only; omega, fun p p0 p1 => ?_, g5.up (by omega), hst⟩ (by dsimp only; omega)
        dsimp only
        rw [uW_at]
        unfold upE
        by_cases hq : p = σ.2.1 69 f
        · rw [if_pos hq, if_pos ⟨hq, h2⟩]
        · rw [if_neg hq, if_neg (fun g => hq g.1)]; exact g4 p p0 p1
      · refine st_Lt ?_
        refine hback _ ⟨upE E' (σ.2.1 69 f) (σ.2.1 68 f), g1, by dsimp only; omega, by dsimp only; omega, fun p p0 p1 => ?_, g5.up (by omega), hst⟩ (by dsimp only; omega)
        dsimp only
        unfold upE
        rw [if_neg (fun g => by omega)]; exact g4 p p0 p1
    · rw [if_neg hc]
      refine ok_z0 ?_
      refine st_Lt ?_
      refine hback _ ⟨E', g1, by dsimp only; omega, by dsimp only; omega, g4, g5, ?_⟩ (by dsimp only; omega)
      rw [← g6]
      show fcN σ k _ (f + 1) E' = fcN σ k _ (f + 1) (if _ then _ else _)
      rw [if_neg hc]
  · have : f = fI σ 66 0 := by omega
    subst this
    rw [Int.sub_self] at g6
    have g6' : E' = fcE σ k := g6
    subst g6'
    exact h _ g1 g4
theorem fm102 {m : Nat} {bk : Int} (hM : WMr σm.1 σm.2.2) (hI : IMach m bk σ σm) {υ0 : St} (h0 : FM [38] [] σm υ0) {E : Int → Int} {B : Int} (hB0 : 0 ≤ B ∧ B ≤ 90000) (hE : ∀ p : Int, 0 ≤ p → p < 12 → υ0.2.1 38 p = E p) (hB : Bd B E) (hN : 1000 < N) {J : St → Option (St × Int)} {Q : St × Int → Prop} (h : ∀ υ, FM [38] [] σm υ → (∀ p : Int, 0 ≤ p → p < 12 → υ.2.1 38 p = rlN (σ.2.1 (m + 9)) (σ.2.1 (m + 10)) (σ.2.1 (m + 11)) (fI σ m 11).toNat 0 E p) → Ok (J υ) Q) : Ok (L_X12_findMoves_102 N 1 J (υ0, 16 * bk)) Q := by
  have hv := hI.mv
  obtain ⟨i1, i2, i3, i4, ⟨r1, r2, r3, r4, r5⟩, _, _, rv, _⟩ := hI
  obtain ⟨hn, hp, hv⟩ := hv
  unfold L_X12_findMoves_102
  refine ok_fix (fun w => ∃ E' j, w.2 = 16 * bk + j ∧ FM [38] [] σm w.1 ∧ 0 ≤ j ∧ j ≤ fI σ m 11 ∧ (∀ p : Int, 0 ≤ p → p < 12 → w.1.2.1 38 p = E' p) ∧ Bd (B + 24 * j) E' ∧ rlN (σ.2.1 (m + 9)) (σ.2.1 (m + 10)) (σ.2.1 (m + 11)) (fI σ m 11 - j).toNat j E' = rlN (σ.2.1 (m + 9)) (σ.2.1 (m + 10)) (σ.2.1 (m + 11)) (fI σ m 11).toNat 0 E) (fun w => (16 * bk + fI σ m 11 - w.2).toNat) (fun back w hI hback => ?_) _ ⟨E, 0, by omega, h0, Int.le_refl _, hn.1, hE, by intro p; have := hB p; omega, by rw [Int.sub_zero]⟩ (by dsimp only; omega)
  obtain ⟨υ, i⟩ := w
  obtain ⟨E', j, g0, g1, g2, g3, g4, g5, g6⟩ := hI
  dsimp only at g0 g1 g2 g3 g4 g5 g6 hback ⊢
  subst g0
  have hM' := g1.M hM
  have e0 : fI υ 1 31 = bk := (g1.f (by decide)).trans i3
  have ec : ∀ q, 4 ≤ q → q ≤ 21 → υ.2.1 q = σm.2.1 q := fun q a b => g1.2.2.1 q (by omega) (by simp; omega)
  refine sm_gI hM' ?_
  refine sm_gR hM' rfl ?_
  refine sm_gI hM' ?_
  rw [e0]
  refine sm_aI hM' rfl rfl (by decide) (by omega) (by omega) ?_
  rw [ec 7 (by decide) (by decide), r4.1]
  refine ok_wlt (by omega) (by omega) (fun h1 => ?_) (fun h1 => ?_)
  · have h1' : j < fI σ m 11 := by omega
    obtain ⟨v1, v2, v3⟩ := hv j g2 h1'
    obtain ⟨q1, q2, q3, q4⟩ := rv j g2 h1'
    have b1 := g5 (σ.2.1 (m + 9) j)
    have b2 := g5 (σ.2.1 (m + 10) j)
    have k1 : (fI σ m 11 - j).toNat = (fI σ m 11 - (j + 1)).toNat + 1 := by omega
    rw [k1] at g6
    refine sm_gR hM' rfl ?_
    refine sm_gR hM' rfl ?_
    refine sm_aI hM' rfl rfl (by decide) (by omega) (by omega) ?_
    rw [ec 16 (by decide) (by decide), q1.1]
    refine sm_aI hM' rfl rfl (by decide) (by omega) (by omega) ?_
    rw [g4 _ v1.1 (by omega)]
    refine st_Jn ?_
    refine ok_wlt (by omega) (by omega) (fun h2 => ?_) (fun h2 => ?_)
    · refine sm_gR hM' rfl ?_
      refine sm_gR hM' rfl ?_
      refine sm_aI hM' rfl rfl (by decide) (by omega) (by omega) ?_
      rw [ec 16 (by decide) (by decide), q1.1]
      refine sm_aI hM' rfl rfl (by decide) (by omega) (by omega) ?_
      rw [g4 _ v1.1 (by omega)]
      refine sm_gR hM' rfl ?_
      refine sm_aI hM' rfl rfl (by decide) (by omega) (by omega) ?_
      rw [ec 18 (by decide) (by decide), q4.1]
      refine st_Lt ?_
      refine sm_gR hM' rfl ?_
      refine sm_gR hM' rfl ?_
      refine sm_aI hM' rfl rfl (by decide) (by omega) (by omega) ?_
      refine sm_gR hM' rfl ?_
      refine sm_gR hM' rfl ?_
      refine sm_aI hM' rfl rfl (by decide) (by omega) (by omega) ?_
      rw [ec 17 (by decide) (by decide), q2.1]
      refine sm_aI hM' rfl rfl (by decide) (by omega) (by omega) ?_
      rw [g4 _ v2.1 (by omega)]
      refine st_Jn ?_
      have bd : Bd (B + 24 * (j + 1)) (rel1 E' (σ.2.1 (m + 9) j) (σ.2.1 (m + 10) j) (σ.2.1 (m + 11) j)) := by
        have := g5.rl (a := σ.2.1 (m + 9) j) (b := σ.2.1 (m + 10) j) v3 (by omega)
        rw [show B + 24 * (j + 1) = B + 24 * j + 24 by omega]
        exact this
      refine ok_wlt (by omega) (by omega) (fun h3 => ?_) (fun h3 => ?_)
      · refine sm_sI hM' rfl rfl (by decide) (by omega) (by omega) ?_
        refine st_Lt ?_
        refine hback _ ⟨_, j + 1, by dsimp only; omega, g1.uI (by decide) (by decide), by omega, by omega, fun p p0 p1 => ?_, bd, g6⟩ (by dsimp only; omega)
        dsimp only
        rw [uW_at]
        unfold rel1
        by_cases hq : p = σ.2.1 (m + 10) j
        · rw [if_pos hq, if_pos ⟨hq, h2, h3⟩]
        · rw [if_neg hq, if_neg (fun g => hq g.1)]; exact g4 p p0 p1
      · refine sm_gR hM' rfl ?_
        refine sm_gR hM' rfl ?_
        refine sm_aI hM' rfl rfl (by decide) (by omega) (by omega) ?_
        rw [ec 17 (by decide) (by decide), q2.1]
        refine sm_aI hM' rfl rfl (by decide) (by omega) (by omega) ?_
        rw [g4 _ v2.1 (by omega)]
        refine sm_sI hM' rfl rfl (by decide) (by omega) (by omega) ?_
        refine st_Lt ?_
        refine hback _ ⟨_, j + 1, by dsimp only; omega, g1.uI (by decide) (by decide), by omega, by omega, fun p p0 p1 => ?_, bd, g6⟩ (by dsimp only; omega)
        dsimp only
        rw [uW_at]
        by_cases hq : p = σ.2.1 (m + 10) j
        · rw [if_pos hq]
          unfold rel1
          rw [if_neg (fun g => by omega), hq]
        · rw [if_neg hq]
          unfold rel1
          rw [if_neg (fun g => hq g.1)]
          exact g4 p p0 p1
    · refine st_Lt ?_
      refine hback _ ⟨rel1 E' (σ.2.1 (m + 9) j) (σ.2.1 (m + 10) j) (σ.2.1 (m + 11) j), j + 1, by dsimp only; omega, g1, by omega, by omega, ?_, ?_, g6⟩ (by dsimp only; omega)
      · rw [rel1_no (by omega)]; exact g4
      · rw [rel1_no (by omega)]
        intro p
        have := g5 p
        omega
  · have : j = fI σ m 11 := by omega
    subst this
    rw [Int.sub_self] at g6
    refine h _ g1 ?_
    rw [← g6]
    exact g4
theorem findMoves_eq {m : Nat} {bk : Int} (hM : WMr σm.1 σm.2.2) (hI : IMach m bk σ σm) (hF : IFacts σ σm) {k : Int} (hk : -2147483648 ≤ k ∧ k < 2147483648) (hN : 1000 < N) : ∃ τ, f_X12_findMoves N σm 1 k = some (τ, 0) ∧ FM [38] [] σm τ ∧ ∀ p : Int, 0 ≤ p → p < 12 → τ.2.1 38 p = moE σ m k p := by
  have hv := hI.mv
  have H : Ok (f_X12_findMoves N σm 1 k) (fun w => w.2 = 0 ∧ FM [38] [] σm w.1 ∧ ∀ p : Int, 0 ≤ p → p < 12 → w.1.2.1 38 p = moE σ m k p) := by
    unfold f_X12_findMoves
    refine st_Jn ?_
    refine fmv2 hM hN (fun υ a1 a2 => ?_)
    refine st_Jn ?_
    refine fm25 hM a1 hF hk hN a2 (fun υ b1 b2 => ?_)
    have hmo : moE σ m k = rds (σ.2.1 (m + 9)) (σ.2.1 (m + 10)) (σ.2.1 (m + 11)) (fI σ m 11).toNat 12 (fcE σ k) := by
      have := hv.1
      have := hv.2.1
      have := rds_stop (E0 := fcE σ k) (mv := σ.2.1 (m + 9)) (md := σ.2.1 (m + 10)) (af := σ.2.1 (m + 11)) (n := (fI σ m 11).toNat) (P := (fI σ m 1).toNat) (fun j a b => (hv.2.2 j a (by omega)).2.2.1) (fun p => by have := fcE_bd hF k p; omega) (fun j a b => by have := hv.2.2 j a (by omega); omega) (12 - (fI σ m 1).toNat)
      unfold moE
      rw [← this, show (fI σ m 1).toNat + (12 - (fI σ m 1).toNat) = 12 by omega]
    unfold L_X12_findMoves_88
    refine ok_fix (fun w => ∃ E', FM [38] [] σm w.1 ∧ 0 ≤ w.2 ∧ w.2 ≤ 12 ∧ (∀ p : Int, 0 ≤ p → p < 12 → w.1.2.1 38 p = E' p) ∧ Bd (199 + 384 * w.2) E' ∧ rds (σ.2.1 (m + 9)) (σ.2.1 (m + 10)) (σ.2.1 (m + 11)) (fI σ m 11).toNat (12 - w.2).toNat E' = moE σ m k) (fun w => (12 - w.2).toNat) (fun back w hI' hback => ?_) _ ⟨fcE σ k, b1, Int.le_refl _, by dsimp only; omega, b2, ?_, by rw [hmo]; rfl⟩ (by dsimp only; omega)
    · obtain ⟨υ, r⟩ := w
      obtain ⟨E', g1, g2, g3, g4, g5, g6⟩ := hI'
      dsimp only at g1 g2 g3 g4 g5 g6 hback ⊢
      have hM' := g1.M hM
      have e0 : fI υ 1 31 = bk := (g1.f (by decide)).trans hI.2.2.1
      refine ok_wlt (by omega) (by omega) (fun h1 => ?_) (fun h1 => ?_)
      · refine sm_gI hM' ?_
        rw [e0]
        refine st_Lt ?_
        refine st_Jn ?_
        have k1 : (12 - r).toNat = (12 - (r + 1)).toNat + 1 := by omega
        rw [k1] at g6
        refine fm102 hM hI g1 (B := 199 + 384 * r) (by omega) g4 g5 hN (fun φ p2 p3 => ?_)
        refine st_Lt ?_
        refine hback _ ⟨rlN (σ.2.1 (m + 9)) (σ.2.1 (m + 10)) (σ.2.1 (m + 11)) (fI σ m 11).toNat 0 E', p2, by dsimp only; omega, by dsimp only; omega, p3, ?_, g6⟩ (by dsimp only; omega)
        have hmv := hv.1
        have := rlN_bd (n := 0) (mv := σ.2.1 (m + 9)) (md := σ.2.1 (m + 10)) (af := σ.2.1 (m + 11)) (fI σ m 11).toNat 0 E' _ (fun i a b => (hv.2.2 i a (by omega)).2.2) (by omega) g5
        intro p
        have := this p
        dsimp only
        omega
      · have : r = 12 := by omega
        subst this
        have g6' : E' = moE σ m k := g6
        subst g6'
        exact ok_some ⟨rfl, g1, g4⟩
    · intro p
      have := fcE_bd hF k p
      dsimp only
      omega
  obtain ⟨⟨υ, v'⟩, e, h1, h2, h3⟩ := H
  dsimp only at h1 h2 h3
  subst h1
  exact ⟨υ, e, h2, h3⟩
theorem moE_rg {m : Nat} {bk : Int} (hI : IMach m bk σ σm) (hF : IFacts σ σm) (k p : Int) : 0 ≤ moE σ m k p ∧ moE σ m k p ≤ 1000000 := by
  have hv := hI.mv
  have h : ∀ (r : Nat) (E : Int → Int), (∀ p, 0 ≤ E p ∧ E p ≤ 1000000) → ∀ p, 0 ≤ rds (σ.2.1 (m + 9)) (σ.2.1 (m + 10)) (σ.2.1 (m + 11)) (fI σ m 11).toNat r E p := by
    have h1 : ∀ (k : Nat) (j : Int) (E : Int → Int), 0 ≤ j → j + (k : Int) ≤ fI σ m 11 → (∀ p, 0 ≤ E p) → ∀ p, 0 ≤ rlN (σ.2.1 (m + 9)) (σ.2.1 (m + 10)) (σ.2.1 (m + 11)) k j E p := by
      intro k
      induction k with
      | zero => intro j E _ _ h; exact h
      | succ k ih =>
        intro j E j0 j1 h
        refine ih (j + 1) _ (by omega) (by omega) (fun p => ?_)
        have a1 := h p
        have a2 := h (σ.2.1 (m + 9) j)
        have a3 := (hv.2.2 j j0 (by omega)).2.2
        unfold rel1
        split <;> omega
    intro r
    induction r with
    | zero => intro E h p; exact (h p).1
    | succ r ih =>
      intro E h p
      have hmv := hv.1
      exact ih _ (fun q => ⟨h1 _ 0 E (by omega) (by omega) (fun x => (h x).1) q, Int.le_trans (rlN_le _ _ _ _) (h q).2⟩) p
  have e0 : ∀ p, 0 ≤ fcE σ k p ∧ fcE σ k p ≤ 1000000 := fun p => by have := fcE_bd hF k p; omega
  exact ⟨h _ _ e0 p, Int.le_trans (rds_le _ _ _) (e0 p).2⟩
end F
