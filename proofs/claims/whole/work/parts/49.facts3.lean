/-! the pure part: months found, in both -/
section F
variable {N : Nat} {σ σm : St}
theorem rel1_up {E : Int → Int} {a b w : Int} (h : E a < 1000000) : rel1 E a b w = upE E b (E a + w) := by
  funext p
  unfold rel1 upE
  by_cases g : p = b ∧ E a + w < E b
  · rw [if_pos ⟨g.1, h, g.2⟩, if_pos g]
  · rw [if_neg (fun q => g ⟨q.1, q.2.2⟩), if_neg g]
theorem rel1_no {E : Int → Int} {a b w : Int} (h : ¬ E a < 1000000) : rel1 E a b w = E := by
  funext p
  unfold rel1
  rw [if_neg (fun q => h q.2.1)]
theorem monthOf_eq {τ : St} (hX : WXr τ.1 τ.2.2) {a : Int} (ha : 0 ≤ a ∧ a < 12) : f_X1_monthOf N τ 66 a = some (τ, τ.2.1 72 a) := by
  have H : Ok (f_X1_monthOf N τ 66 a) (fun q => q = (τ, τ.2.1 72 a)) := by
    unfold f_X1_monthOf
    repeat' first
      | with_reducible apply st_Lt
      | with_reducible apply st_Jn
      | ((with_reducible apply ok_some); try dsimp only)
      | with_reducible apply ok_z0
      | with_reducible apply ok_z1
      | ((with_reducible apply ok_gF_hit); exact hX; exact rfl; exact rfl)
      | ((with_reducible apply ok_gF_j); decide)
      | ((with_reducible apply ok_gF_k); (first | decide | omega))
      | ((with_reducible apply ok_gU_k); (first | decide | omega))
      | ((with_reducible apply ok_aF_k); (first | decide | omega))
      | ((with_reducible apply ok_aU_k); (first | decide | omega))
      | (with_reducible apply ok_rF)
      | (with_reducible apply ok_rU)
      | (with_reducible apply ok_qF)
      | (with_reducible apply ok_qU)
      | ((with_reducible apply sx_gI); exact hX; exact rfl; exact rfl)
      | ((with_reducible apply sx_gR); exact hX; exact rfl; exact rfl; exact rfl)
      | ((with_reducible apply sx_pI); exact hX; exact rfl; exact rfl)
      | ((with_reducible apply sx_rcv); exact hX; exact rfl; exact rfl)
      | ((with_reducible apply sx_aI); exact hX; exact rfl; exact rfl; exact (by decide); omega; omega)
      | ((with_reducible apply sx_sI); exact hX; exact rfl; exact rfl; exact (by decide); omega; omega)
      | ((with_reducible apply ok_rZ); (first | exact .inl rfl | exact .inr rfl))
      | ((with_reducible refine ok_within ?_ ?_ ?_ (fun hc => ?_) (fun hc => ?_)); omega; omega; omega)
      | ((with_reducible refine ok_month ?_ (fun hc => ?_) (fun hc => ?_)); omega)
      | ((with_reducible refine ok_tongue ?_ (fun hc => ?_) (fun hc => ?_)); omega)
      | ((with_reducible refine ok_money ?_ (fun hc => ?_) (fun hc => ?_)); omega)
      | ((with_reducible refine ok_isIn ?_ ?_ ?_ (fun hc => ?_) (fun hc => ?_)); omega; omega; omega)
      | ((with_reducible refine ok_wltp ?_ ?_ ?_ ?_); omega; omega; omega)
      | ((with_reducible refine ok_wltn ?_ ?_ ?_ ?_); omega; omega; omega)
      | ((with_reducible refine ok_wlt ?_ ?_ (fun hc => ?_) (fun hc => ?_)); omega; omega)
      | ((with_reducible refine ok_wlt0 ?_ (fun hc => ?_) (fun hc => ?_)); omega)
      | ((with_reducible refine ok_w0lt ?_ (fun hc => ?_) (fun hc => ?_)); omega)
      | ((with_reducible refine ok_weq ?_ ?_ (fun hc => ?_) (fun hc => ?_)); omega; omega)
      | ((with_reducible refine ok_weqc ?_ (fun hc => ?_) (fun hc => ?_)); omega)
    all_goals first | (exfalso; omega) | rfl
  obtain ⟨q, e, rfl⟩ := H
  exact e
def MvOk (m : Nat) (σ : St) : Prop := (0 ≤ fI σ m 11 ∧ fI σ m 11 ≤ 16) ∧ (0 ≤ fI σ m 1 ∧ fI σ m 1 ≤ 12) ∧ ∀ j, 0 ≤ j → j < fI σ m 11 → (0 ≤ σ.2.1 (m + 9) j ∧ σ.2.1 (m + 9) j < fI σ m 1) ∧ (0 ≤ σ.2.1 (m + 10) j ∧ σ.2.1 (m + 10) j < fI σ m 1) ∧ (0 ≤ σ.2.1 (m + 11) j ∧ σ.2.1 (m + 11) j ≤ 24)
theorem IMach.mv {m : Nat} {bk : Int} (h : IMach m bk σ σm) : MvOk m σ := by
  obtain ⟨i1, i2, i3, i4, ⟨r1, r2, r3, r4, r5⟩, _, _, q, _⟩ := h
  exact ⟨r4.2, r2.2, fun j a b => ⟨(q j a b).1.2, (q j a b).2.1.2, (q j a b).2.2.2.2⟩⟩
theorem m_no {m d : Nat} (hm : isM m) (hd : d ≤ 14) {A : List Nat} (hA : ∀ k, k ∈ A → k < 8 ∨ 37 < k) : m + d ∉ A := fun h => by
  have := hA _ h
  unfold isM at hm
  omega
theorem n72 : ∀ k : Nat, k ∈ [72] → k < 8 ∨ 37 < k := by simp
theorem moveOthers_eq {m : Nat} (hm : isM m) {τ : St} (hX : WXr τ.1 τ.2.2) (hv : MvOk m τ) {E : Int → Int} {B : Int} (hB0 : 0 ≤ B ∧ B ≤ 90000) (hE : ∀ p : Int, 0 ≤ p → p < 12 → τ.2.1 72 p = cls (E p)) (hB : Bd B E) (hN : 1000 < N) : ∃ υ, f_X1_moveOthers N τ 66 m = some (υ, 0) ∧ FX [72] τ υ ∧ ∀ q : Int, 0 ≤ q → q < 12 → υ.2.1 72 q = cls (rlN (τ.2.1 (m + 9)) (τ.2.1 (m + 10)) (τ.2.1 (m + 11)) (fI τ m 11).toNat 0 E q) := by
  obtain ⟨hn, hp, hv⟩ := hv
  have H : Ok (f_X1_moveOthers N τ 66 m) (fun w => w.2 = 0 ∧ FX [72] τ w.1 ∧ ∀ q : Int, 0 ≤ q → q < 12 → w.1.2.1 72 q = cls (rlN (τ.2.1 (m + 9)) (τ.2.1 (m + 10)) (τ.2.1 (m + 11)) (fI τ m 11).toNat 0 E q)) := by
    unfold f_X1_moveOthers L_X1_moveOthers_2
    refine ok_fix (fun w => ∃ E', FX [72] τ w.1 ∧ 0 ≤ w.2 ∧ w.2 ≤ fI τ m 11 ∧ (∀ p : Int, 0 ≤ p → p < 12 → w.1.2.1 72 p = cls (E' p)) ∧ Bd (B + 24 * w.2) E' ∧ rlN (τ.2.1 (m + 9)) (τ.2.1 (m + 10)) (τ.2.1 (m + 11)) (fI τ m 11 - w.2).toNat w.2 E' = rlN (τ.2.1 (m + 9)) (τ.2.1 (m + 10)) (τ.2.1 (m + 11)) (fI τ m 11).toNat 0 E) (fun w => (fI τ m 11 - w.2).toNat) (fun back w hI hback => ?_) _ ⟨E, FX.refl, Int.le_refl _, hn.1, hE, by intro p; have := hB p; dsimp only; omega, by dsimp only; rw [Int.sub_zero]⟩ (by dsimp only; omega)
    obtain ⟨υ, j⟩ := w
    obtain ⟨E', g1, g2, g3, g4, g5, g6⟩ := hI
    dsimp only at g1 g2 g3 g4 g5 g6 hback ⊢
    have hX' := g1.X hX
    have e0 : fI υ m 11 = fI τ m 11 := g1.f (m_no (d := 0) hm (by decide) n72)
    have e9 : υ.2.1 (m + 9) = τ.2.1 (m + 9) := g1.2.2 _ (m_no hm (by decide) n72)
    have e10 : υ.2.1 (m + 10) = τ.2.1 (m + 10) := g1.2.2 _ (m_no hm (by decide) n72)
    have e11 : υ.2.1 (m + 11) = τ.2.1 (m + 11) := g1.2.2 _ (m_no hm (by decide) n72)
    refine mx_gI hX' hm ?_
    rw [e0]
    refine ok_wlt (by omega) (by omega) (fun h1 => ?_) (fun h1 => ?_)
    · obtain ⟨v1, v2, v3⟩ := hv j g2 h1
      have b1 := g5 (τ.2.1 (m + 9) j)
      have k1 : (fI τ m 11 - j).toNat = (fI τ m 11 - (j + 1)).toNat + 1 := by omega
      rw [k1] at g6
      refine mx_gR hX' hm rfl ?_
      refine mx_aI hX' hm rfl (by decide) (by omega) (by omega) ?_
      rw [e9]
      refine sx_rcv hX' rfl rfl (ok_rw (monthOf_eq hX' (by omega)) ?_)
      dsimp only
      rw [g4 _ v1.1 (by omega)]
      refine st_Jn ?_
      by_cases hc : E' (τ.2.1 (m + 9) j) < 1000000
      · have ec : cls (E' (τ.2.1 (m + 9) j)) = E' (τ.2.1 (m + 9) j) := if_neg (by omega)
        rw [ec]
        refine ok_weq (by omega) (by omega) (fun h2 => by exfalso; omega) (fun h2 => ?_)
        refine mx_gR hX' hm rfl ?_
        refine mx_aI hX' hm rfl (by decide) (by omega) (by omega) ?_
        refine mx_gR hX' hm rfl ?_
        refine mx_aI hX' hm rfl (by decide) (by omega) (by omega) ?_
        rw [e10, e11]
        obtain ⟨φ, p1, p2, p3⟩ := moveBy_eq (N := N) hX' g4 (fun p => by have := g5 p; omega) (p := τ.2.1 (m + 10) j) (v := E' (τ.2.1 (m + 9) j) + τ.2.1 (m + 11) j) (by omega) (by omega)
        refine sx_rcv hX' rfl rfl (ok_rw p1 ?_)
        refine st_Lt ?_
        refine hback _ ⟨rel1 E' (τ.2.1 (m + 9) j) (τ.2.1 (m + 10) j) (τ.2.1 (m + 11) j), g1.trans p2, by dsimp only; omega, by dsimp only; omega, ?_, ?_, g6⟩ (by dsimp only; omega)
        · rw [rel1_up hc]; exact p3
        · have := g5.rl (a := τ.2.1 (m + 9) j) (b := τ.2.1 (m + 10) j) v3 (by omega)
          dsimp only
          rw [show B + 24 * (j + 1) = B + 24 * j + 24 by omega]
          exact this
      · have ec : cls (E' (τ.2.1 (m + 9) j)) = -1 := if_pos (by omega)
        rw [ec]
        refine ok_weq (by omega) (by omega) (fun h2 => ?_) (fun h2 => by exfalso; omega)
        refine st_Lt ?_
        refine hback _ ⟨rel1 E' (τ.2.1 (m + 9) j) (τ.2.1 (m + 10) j) (τ.2.1 (m + 11) j), g1, by dsimp only; omega, by dsimp only; omega, ?_, ?_, g6⟩ (by dsimp only; omega)
        · rw [rel1_no hc]; exact g4
        · rw [rel1_no hc]
          intro p
          have := g5 p
          dsimp only
          omega
    · have : j = fI τ m 11 := by omega
      subst this
      rw [Int.sub_self] at g6
      refine ok_some ⟨rfl, g1, ?_⟩
      rw [← g6]
      exact g4
  obtain ⟨⟨υ, v'⟩, e, h1, h2, h3⟩ := H
  dsimp only at h1 h2 h3
  subst h1
  exact ⟨υ, e, h2, h3⟩
theorem fcE_bd (hF : IFacts σ σm) (k : Int) : Bd 199 (fcE σ k) := by
  obtain ⟨⟨f1, f2, f3⟩, ⟨f4, f5, f6⟩, f7⟩ := hF
  exact Bd.fcN _ _ _ (fun g a b => (f7 g a (by omega)).2.2.2.1) (fun p => by omega)
theorem rlN_bd {mv md af : Int → Int} {n : Nat} : ∀ (k : Nat) (j : Int) (E : Int → Int) (B : Int), (∀ i, j ≤ i → i < j + (k : Int) → 0 ≤ af i ∧ af i ≤ 24) → B + 24 * (k : Int) < 900000 → Bd B E → Bd (B + 24 * (k : Int)) (rlN mv md af k j E)
  | 0, _, E, B, _, _, h => by rw [show B + 24 * ((0 : Nat) : Int) = B by omega]; exact h
  | k + 1, j, E, B, hw, hb, h => by
    have := rlN_bd (n := n) (mv := mv) (md := md) (af := af) k (j + 1) _ (B + 24) (fun i a b => hw i (by omega) (by omega)) (by omega) (h.rl (a := mv j) (b := md j) (hw j (by omega) (by omega)) (by omega))
    rw [show B + 24 * ((k + 1 : Nat) : Int) = B + 24 + 24 * (k : Int) by omega]
    exact this
theorem findMonths_eq {m : Nat} {bk : Int} (hX : WXr σ.1 σ.2.2) (hI : IMach m bk σ σm) (hF : IFacts σ σm) {k : Int} (hk : -2147483648 ≤ k ∧ k < 2147483648) (hN : 1000 < N) : ∃ τ, f_X1_findMonths N σ 66 m k = some (τ, 0) ∧ FX [72] σ τ ∧ ∀ p : Int, 0 ≤ p → p < 12 → τ.2.1 72 p = cls (moE σ m k p) := by
  have hm := hI.1
  have hv := hI.mv
  have hF' := hF
  obtain ⟨⟨f1, f2, f3⟩, ⟨f4, f5, f6⟩, f7⟩ := hF
  have H : Ok (f_X1_findMonths N σ 66 m k) (fun w => w.2 = 0 ∧ FX [72] σ w.1 ∧ ∀ p : Int, 0 ≤ p → p < 12 → w.1.2.1 72 p = cls (moE σ m k p)) := by
    unfold f_X1_findMonths
    refine sx_gR hX rfl rfl rfl ?_
    refine ok_rw (fill_ok (n := 12) rfl (by rw [hX.1]; decide) (by decide) (by omega)) ?_
    refine st_Jn ?_
    dsimp only
    have a0 : FX [72] σ (uA σ 72 12 (-1)) := FX.refl.uA (by decide)
    unfold L_X1_findMonths_10
    refine ok_fix (fun w => ∃ E', FX [72] σ w.1 ∧ 0 ≤ w.2 ∧ w.2 ≤ fI σ 66 0 ∧ (∀ p : Int, 0 ≤ p → p < 12 → w.1.2.1 72 p = cls (E' p)) ∧ Bd 199 E' ∧ fcN σ k (fI σ 66 0 - w.2).toNat w.2 E' = fcE σ k) (fun w => (fI σ 66 0 - w.2).toNat) (fun back w hI hback => ?_) _ ⟨fun _ => 1000000, a0, Int.le_refl _, f2, ?_, ?_, ?_⟩ (by dsimp only; omega)
    · obtain ⟨υ, f⟩ := w
      obtain ⟨E', g1, g2, g3, g4, g5, g6⟩ := hI
      dsimp only at g1 g2 g3 g4 g5 g6 hback ⊢
      have hX' := g1.X hX
      have hFu : IFacts υ σm := hF'.keep (fun q a b => g1.2.2 q (by simp; omega)) rfl rfl (fun _ _ _ => rfl)
      have e0 : fI υ 66 0 = fI σ 66 0 := g1.f (by decide)
      have ec : ∀ q, 66 ≤ q → q ≤ 71 → υ.2.1 q = σ.2.1 q := fun q a b => g1.2.2 q (by simp; omega)
      refine sx_gI hX' rfl rfl ?_
      rw [e0]
      refine ok_wlt (by omega) (by omega) (fun h1 => ?_) (fun h1 => ?_)
      · obtain ⟨v1, v2, v3, v4, v5, v6, v7, v8⟩ := f7 f g2 h1
        have hcn := cn_or σ f k
        have k1 : (fI σ 66 0 - f).toNat = (fI σ 66 0 - (f + 1)).toNat + 1 := by omega
        rw [k1] at g6
        have hno : ¬ (σ.2.1 67 f = 0 ∧ cn σ f k = 1) → Ok (back (υ, f + 1)) (fun w => w.2 = 0 ∧ FX [72] σ w.1 ∧ ∀ p : Int, 0 ≤ p → p < 12 → w.1.2.1 72 p = cls (moE σ m k p)) := fun hc => by
          refine hback _ ⟨E', g1, by dsimp only; omega, by dsimp only; omega, g4, g5, ?_⟩ (by dsimp only; omega)
          rw [← g6]
          show fcN σ k _ (f + 1) E' = fcN σ k _ (f + 1) (if _ then _ else _)
          rw [if_neg hc]
        refine sx_gR hX' rfl rfl rfl ?_
        refine sx_aI hX' rfl rfl (by decide) (by omega) (by omega) ?_
        rw [ec 67 (by decide) (by decide)]
        refine st_Jn ?_
        refine ok_weqc (by omega) (fun h2 => ?_) (fun h2 => st_Lt (hno (fun q => h2 q.1)))
        refine sx_rcv hX' rfl rfl (ok_rw (counts_eq hX' hFu (by omega) hk) ?_)
        dsimp only
        have ecn : cn υ f k = cn σ f k := by unfold cn; rw [ec 70 (by decide) (by decide), ec 71 (by decide) (by decide)]
        rw [ecn]
        refine ok_weqc (by omega) (fun h3 => st_Lt (hno (fun q => by omega))) (fun h3 => ?_)
        refine sx_gR hX' rfl rfl rfl ?_
        refine sx_aI hX' rfl rfl (by decide) (by omega) (by omega) ?_
        refine sx_gR hX' rfl rfl rfl ?_
        refine sx_aI hX' rfl rfl (by decide) (by omega) (by omega) ?_
        rw [ec 69 (by decide) (by decide), ec 68 (by decide) (by decide)]
        have v5' := v5 h2
        obtain ⟨φ, p1, p2, p3⟩ := moveBy_eq (N := N) hX' g4 (fun p => by have := g5 p; omega) (p := σ.2.1 69 f) (v := σ.2.1 68 f) (by omega) (by omega)
        refine sx_rcv hX' rfl rfl (ok_rw p1 ?_)
        refine st_Lt ?_
        refine hback _ ⟨upE E' (σ.2.1 69 f) (σ.2.1 68 f), g1.trans p2, by dsimp only; omega, by dsimp only; omega, p3, g5.up (by omega), ?_⟩ (by dsimp only; omega)
        rw [← g6]
        show fcN σ k _ (f + 1) _ = fcN σ k _ (f + 1) (if _ then _ else _)
        rw [if_pos ⟨h2, by omega⟩]
      · have : f = fI σ 66 0 := by omega
        subst this
        rw [Int.sub_self] at g6
        have g6' : E' = fcE σ k := g6
        subst g6'
        unfold L_X1_findMonths_60
        refine ok_fix (fun w => ∃ E', FX [72] σ w.1 ∧ 0 ≤ w.2 ∧ w.2 ≤ fI σ m 1 ∧ (∀ p : Int, 0 ≤ p → p < 12 → w.1.2.1 72 p = cls (E' p)) ∧ Bd (199 + 384 * w.2) E' ∧ rds (σ.2.1 (m + 9)) (σ.2.1 (m + 10)) (σ.2.1 (m + 11)) (fI σ m 11).toNat (fI σ m 1 - w.2).toNat E' = moE σ m k) (fun w => (fI σ m 1 - w.2).toNat) (fun back w hI hback => ?_) _ ⟨fcE σ k, g1, Int.le_refl _, hv.2.1.1, g4, ?_, ?_⟩ (by have := hv.2.1; show (fI σ m 1 - 0).toNat < N; omega)
        · obtain ⟨υ, r⟩ := w
          obtain ⟨E', g1, g2, g3, g4, g5, g6⟩ := hI
          dsimp only at g1 g2 g3 g4 g5 g6 hback ⊢
          have hX' := g1.X hX
          have hp := hv.2.1
          have e0 : fI υ m 1 = fI σ m 1 := g1.f (m_no (d := 0) hm (by decide) n72)
          have e1 : fI υ m 11 = fI σ m 11 := g1.f (m_no (d := 0) hm (by decide) n72)
          have e9 : υ.2.1 (m + 9) = σ.2.1 (m + 9) := g1.2.2 _ (m_no hm (by decide) n72)
          have e10 : υ.2.1 (m + 10) = σ.2.1 (m + 10) := g1.2.2 _ (m_no hm (by decide) n72)
          have e11 : υ.2.1 (m + 11) = σ.2.1 (m + 11) := g1.2.2 _ (m_no hm (by decide) n72)
          have hvu : MvOk m υ := by unfold MvOk; rw [e0, e1, e9, e10, e11]; exact hv
          refine mx_gI hX' hm ?_
          rw [e0]
          refine ok_wlt (by omega) (by omega) (fun h1 => ?_) (fun h1 => ?_)
          · obtain ⟨φ, p1, p2, p3⟩ := moveOthers_eq hm hX' hvu (B := 199 + 384 * r) (by omega) g4 g5 hN
            refine sx_rcv hX' rfl rfl (ok_rw p1 ?_)
            refine st_Lt ?_
            have k1 : (fI σ m 1 - r).toNat = (fI σ m 1 - (r + 1)).toNat + 1 := by omega
            rw [k1] at g6
            rw [e1, e9, e10, e11] at p3
            refine hback _ ⟨rlN (σ.2.1 (m + 9)) (σ.2.1 (m + 10)) (σ.2.1 (m + 11)) (fI σ m 11).toNat 0 E', g1.trans p2, by dsimp only; omega, by dsimp only; omega, p3, ?_, g6⟩ (by dsimp only; omega)
            have hmv := hv.1
            have := rlN_bd (n := 0) (mv := σ.2.1 (m + 9)) (md := σ.2.1 (m + 10)) (af := σ.2.1 (m + 11)) (fI σ m 11).toNat 0 E' _ (fun i a b => (hv.2.2 i a (by omega)).2.2) (by omega) g5
            intro p
            have := this p
            dsimp only
            omega
          · have : r = fI σ m 1 := by omega
            subst this
            rw [Int.sub_self] at g6
            have g6' : E' = moE σ m k := g6
            subst g6'
            exact ok_some ⟨rfl, g1, g4⟩
        · intro p
          have := fcE_bd hF' k p
          dsimp only
          omega
        · dsimp only; rw [Int.sub_zero]; rfl
    · intro p p0 p1
      dsimp only
      rw [uA_in ⟨p0, p1⟩]; rfl
    · intro p; dsimp only; omega
    · dsimp only; rw [Int.sub_zero]; rfl
  obtain ⟨⟨υ, v'⟩, e, h1, h2, h3⟩ := H
  dsimp only at h1 h2 h3
  subst h1
  exact ⟨υ, e, h2, h3⟩
end F
