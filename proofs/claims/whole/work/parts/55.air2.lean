/-! the pure part: rounds, all of them -/
section F
variable {N : Nat} {σ σm : St}
theorem r0_rg (mo a : Int) : -1 ≤ r0 σ mo a ∧ r0 σ mo a ≤ 0 := by unfold r0; split <;> omega
theorem rd_rg {n : Nat} {kv : Int → Int → Int} {now oth : Int} {R : Int → Int} (hn : 1 ≤ now ∧ now ≤ 100) (h : ∀ a, -1 ≤ R a ∧ R a ≤ 100) (a : Int) : -1 ≤ rd n kv now oth R a ∧ rd n kv now oth R a ≤ 100 := by
  have := h a
  unfold rd
  split <;> omega
theorem settle_eq (hA : IAir σ σm) {t : Nat} (ht : isT t) (hl : σ.2.1 (t + 2) 3 = -1 ∨ TLx t 3 σ) (hX : WXr σ.1 σ.2.2) {mo sh : Int} (hmo : 0 ≤ mo ∧ mo ≤ 199) (hN : 1000 < N) : ∃ υ, f_X0_settle N σ 100 t mo sh = some (υ, 0) ∧ FX [103, t + 4, t + 5] σ υ ∧ ∀ a : Int, 0 ≤ a → a < fI σ 100 0 → υ.2.1 103 a = RF σ t mo sh a := by
  have hA' := hA
  obtain ⟨a1, a2, a3, a4⟩ := hA
  have htl := isT_le ht
  have H : Ok (f_X0_settle N σ 100 t mo sh) (fun w => w.2 = 0 ∧ FX [103, t + 4, t + 5] σ w.1 ∧ ∀ a : Int, 0 ≤ a → a < fI σ 100 0 → w.1.2.1 103 a = RF σ t mo sh a) := by
    unfold f_X0_settle
    refine st_Jn ?_
    unfold L_X0_settle_6
    refine ok_fix (fun w => FX [103, t + 4, t + 5] σ w.1 ∧ 0 ≤ w.2.2 ∧ w.2.2 ≤ fI σ 100 0 ∧ w.2.1 = ((cN (bR (r0 σ mo)) w.2.2.toNat : Nat) : Int) ∧ ∀ a : Int, 0 ≤ a → a < w.2.2 → w.1.2.1 103 a = r0 σ mo a) (fun w => (fI σ 100 0 - w.2.2).toNat) (fun back w hI hback => ?_) _ ⟨FX.refl, Int.le_refl _, a2, rfl, fun a b c => by dsimp only at c; omega⟩ (by dsimp only; omega)
    obtain ⟨υ, s, a⟩ := w
    obtain ⟨g1, g2, g3, g4, g5⟩ := hI
    dsimp only at g1 g2 g3 g4 g5 hback ⊢
    have hX' := g1.X hX
    have e0 : fI υ 100 0 = fI σ 100 0 := g1.f (by simp; omega)
    refine sx_gI hX' rfl rfl ?_
    rw [e0]
    refine ok_wlt (by omega) (by omega) (fun h1 => ?_) (fun h1 => ?_)
    · obtain ⟨b1, b2, b3, b4⟩ := a4 a g2 h1
      refine sx_gR hX' rfl rfl rfl ?_
      refine sx_aI hX' rfl rfl (by decide) (by omega) (by omega) ?_
      rw [g1.c (by simp; omega)]
      refine st_Jn ?_
      have sk : (a + 1).toNat = a.toNat + 1 := by omega
      have hcast : ((a.toNat : Nat) : Int) = a := by omega
      have go : ∀ x y : Int, x = r0 σ mo a → y = (bR (r0 σ mo) a.toNat : Nat) → Ok (Option.bind (sI shx υ 1 103 a x) fun σ20 => back (σ20, s + y, a + 1)) (fun w => w.2 = 0 ∧ FX [103, t + 4, t + 5] σ w.1 ∧ ∀ a : Int, 0 ≤ a → a < fI σ 100 0 → w.1.2.1 103 a = RF σ t mo sh a) := fun x y hx hy => by
        refine sx_sI hX' rfl rfl (by decide) (by omega) (by omega) ?_
        refine hback _ ⟨g1.uI (by simp), by dsimp only; omega, by dsimp only; omega, ?_, fun b b0 b1 => ?_⟩ (by dsimp only; omega)
        · dsimp only
          rw [g4, sk, hy]; rfl
        · dsimp only at b1 ⊢
          rw [uW_at]
          by_cases hb : b = a
          · rw [if_pos hb, hx, hb]
          · rw [if_neg hb]; exact g5 b b0 (by omega)
      refine ok_wlt (by omega) (by omega) (fun h2 => ?_) (fun h2 => ?_)
      · refine sx_gR hX' rfl rfl rfl ?_
        refine st_Jn (ok_z1 ?_)
        refine go 0 1 (by unfold r0; rw [if_pos h2]) (by unfold bR r0; rw [hcast, if_pos h2]; rfl)
      · refine sx_gR hX' rfl rfl rfl ?_
        refine st_Jn (ok_z0 ?_)
        refine go (-1) 0 (by unfold r0; rw [if_neg (by omega)]) (by unfold bR r0; rw [hcast, if_neg (by omega)]; rfl)
    · have : a = fI σ 100 0 := by omega
      subst this
      refine tx_rcv hX' ht (ok_rw (ask_eq hX' ht (by omega)) ?_)
      dsimp only
      refine tx_rcv (σ := uI υ (t + 5) (25 - 23) mo) hX' ht (ok_rw (ask_eq (σ := uI υ (t + 5) (25 - 23) mo) hX' ht (by omega)) ?_)
      dsimp only
      have f1 : FX [103, t + 4, t + 5] σ (uI (uI υ (t + 5) (25 - 23) mo) (t + 5) (31 - 23) sh) := (g1.uI (by simp)).uI (by simp)
      have e2 : (uI (uI υ (t + 5) (25 - 23) mo) (t + 5) (31 - 23) sh).2.1 (t + 5) 2 = mo := by rw [uI_j (by decide)]; exact uI_eq
      have e8 : (uI (uI υ (t + 5) (25 - 23) mo) (t + 5) (31 - 23) sh).2.1 (t + 5) 8 = sh := uI_eq
      have e103 : (uI (uI υ (t + 5) (25 - 23) mo) (t + 5) (31 - 23) sh).2.1 103 = υ.2.1 103 := by rw [uI_cell (by omega), uI_cell (by omega)]
      generalize uI (uI υ (t + 5) (25 - 23) mo) (t + 5) (31 - 23) sh = φ at f1 e2 e8 e103
      unfold L_X0_settle_88
      refine ok_fix (fun w => ∃ R, FX [103, t + 4, t + 5] σ w.1 ∧ w.1.2.1 (t + 5) 2 = mo ∧ w.1.2.1 (t + 5) 8 = sh ∧ 1 ≤ w.2.2 ∧ w.2.2 ≤ fI σ 100 0 + 1 ∧ (∀ a, -1 ≤ R a ∧ R a ≤ 100) ∧ w.2.1 = ((cN (bR R) (fI σ 100 0).toNat : Nat) : Int) ∧ (∀ a : Int, 0 ≤ a → a < fI σ 100 0 → w.1.2.1 103 a = R a) ∧ rdN (fI σ 100 0).toNat (kvF σ t mo sh) (fI σ 100 0 + 1 - w.2.2).toNat w.2.2 R = RF σ t mo sh) (fun w => (fI σ 100 0 + 1 - w.2.2).toNat) (fun back w hI hback => ?_) _ ⟨r0 σ mo, f1, e2, e8, Int.le_refl _, by dsimp only; omega, fun a => by have := r0_rg (σ := σ) mo a; omega, g4, fun a b c => by rw [e103]; exact g5 a b c, by dsimp only; rw [show fI σ 100 0 + 1 - 1 = fI σ 100 0 by omega]; rfl⟩ (by dsimp only; omega)
      obtain ⟨υ, s, r⟩ := w
      obtain ⟨R, k1, k2, k3, k4, k5, k6, k7, k8, k9⟩ := hI
      dsimp only at k1 k2 k3 k4 k5 k6 k7 k8 k9 hback ⊢
      have hX2 := k1.X hX
      have e0 : fI υ 100 0 = fI σ 100 0 := k1.f (by simp; omega)
      refine sx_gI hX2 rfl rfl ?_
      rw [e0]
      refine ok_wlt (by omega) (by omega) (fun h2 => ?_) (fun h2 => ?_)
      · have : r = fI σ 100 0 + 1 := by omega
        subst this
        rw [Int.sub_self] at k9
        have k9' : R = RF σ t mo sh := k9
        subst k9'
        exact ok_some ⟨rfl, k1, k8⟩
      · obtain ⟨ψ, p1, p2, p3, p4, p5⟩ := lapseIn_eq (N := N) hA' ht hl hX2 k1 k2 k3 k8 k6 (now := r) (oth := s - 1) (by omega) hN
        refine sx_rcv hX2 rfl rfl (ok_rw p1 ?_)
        refine st_Lt (st_Lt ?_)
        dsimp only
        have sk : (fI σ 100 0 + 1 - r).toNat = (fI σ 100 0 + 1 - (r + 1)).toNat + 1 := by omega
        rw [sk] at k9
        have hc := rd_cN (n := (fI σ 100 0).toNat) (kv := kvF σ t mo sh) (now := r) (oth := s - 1) (R := R) (by omega) (Nat.le_refl _)
        refine hback _ ⟨rd (fI σ 100 0).toNat (kvF σ t mo sh) r (s - 1) R, p2, p3, p4, by dsimp only; omega, by dsimp only; omega, rd_rg (by omega) k6, by dsimp only; omega, p5, ?_⟩ (by dsimp only; omega)
        rw [← k9, k7]; rfl
  obtain ⟨⟨υ, v'⟩, e, h1, h2⟩ := H
  dsimp only at h1 h2
  subst h1
  exact ⟨υ, e, h2⟩
theorem holders_eq {τ : St} (hX : WXr τ.1 τ.2.2) (hn : 0 ≤ fI τ 100 0 ∧ fI τ 100 0 ≤ 10) {R : Int → Int} (hR : ∀ a : Int, 0 ≤ a → a < fI τ 100 0 → τ.2.1 103 a = R a) (hr : ∀ a, -1 ≤ R a ∧ R a ≤ 100) (hN : 1000 < N) : f_X0_holders N τ 100 = some (τ, ((bN (bR R) 0 (fI τ 100 0).toNat : Nat) : Int)) := by
  have H : Ok (f_X0_holders N τ 100) (fun q => q = (τ, ((bN (bR R) 0 (fI τ 100 0).toNat : Nat) : Int))) := by
    unfold f_X0_holders L_X0_holders_4
    refine ok_fix (fun w => 0 ≤ w.2 ∧ w.2 ≤ fI τ 100 0 ∧ w.1 = ((bN (bR R) 0 w.2.toNat : Nat) : Int)) (fun w => (fI τ 100 0 - w.2).toNat) (fun back w hI hback => ?_) _ ⟨Int.le_refl _, hn.1, rfl⟩ (by dsimp only; omega)
    obtain ⟨s, a⟩ := w
    obtain ⟨g1, g2, g3⟩ := hI
    dsimp only at g1 g2 g3 hback ⊢
    refine sx_gI hX rfl rfl ?_
    refine ok_wlt (by omega) (by omega) (fun h1 => ?_) (fun h1 => ?_)
    · refine sx_gR hX rfl rfl rfl ?_
      refine sx_aI hX rfl rfl (by decide) (by omega) (by omega) ?_
      rw [hR a g1 h1]
      refine st_Jn ?_
      have hra := hr a
      have sk : (a + 1).toNat = a.toNat + 1 := by omega
      have hcast : ((a.toNat : Nat) : Int) = a := by omega
      have hb := bN_top (bR R) a.toNat 0
      have hlt := bN_lt (bR R) (bR_le R) a.toNat 0
      rw [Nat.zero_add] at hb
      refine ok_weqc (by omega) (fun h2 => st_Lt (st_Lt ?_)) (fun h2 => st_Lt ?_)
      · refine hback _ ⟨by dsimp only; omega, by dsimp only; omega, ?_⟩ (by dsimp only; omega)
        dsimp only
        rw [g3, sk, hb, show bR R a.toNat = 1 by unfold bR; rw [hcast, if_pos h2], Nat.mul_one, ← bit_set a.toNat (by omega) _ hlt, hcast]
      · refine hback _ ⟨by dsimp only; omega, by dsimp only; omega, ?_⟩ (by dsimp only; omega)
        dsimp only
        rw [g3, sk, hb, show bR R a.toNat = 0 by unfold bR; rw [hcast, if_neg h2], Nat.mul_zero, Nat.add_zero]
    · have : a = fI τ 100 0 := by omega
      subst this
      exact ok_some (by rw [g3])
  obtain ⟨q, e, rfl⟩ := H
  exact e
theorem rdN_rg {n : Nat} {kv : Int → Int → Int} : ∀ (c : Nat) (now : Int) (R : Int → Int), 1 ≤ now → now + (c : Int) ≤ 90 → (∀ a, -1 ≤ R a ∧ R a ≤ 100) → ∀ a, -1 ≤ rdN n kv c now R a ∧ rdN n kv c now R a ≤ 100
  | 0, _, _, _, _, h => h
  | c + 1, now, R, h0, h1, h => rdN_rg c (now + 1) _ (by omega) (by omega) (rd_rg (by omega) h)
/-- the reference's rounds -/
theorem rm19 (hM : WMr σm.1 σm.2.2) (hF : IFacts σ σm) {mo k : Int} (hmo : 0 ≤ mo ∧ mo ≤ 199) (hk : -2147483648 ≤ k ∧ k < 2147483648) {υ0 : St} (h0 : FM [] [52, 58] σm υ0) (e0 : fI υ0 1 52 = mo) (e1 : fI υ0 1 58 = 0) {J : St → Option (St × Int)} {Q : St × Int → Prop} (hN : 1000 < N) (h : ∀ υ, FM [] [52, 58] σm υ → fI υ 1 52 = mo → fI υ 1 58 = shI σ mo k → Ok (J υ) Q) : Ok (L_X12_rounds_19 N 1 mo k J (υ0, 0)) Q := by
  have hF' := hF
  obtain ⟨⟨f1, f2, f3⟩, ⟨f4, f5, f6⟩, f7⟩ := hF
  unfold L_X12_rounds_19
  refine ok_fix (fun w => FM [] [52, 58] σm w.1 ∧ fI w.1 1 52 = mo ∧ 0 ≤ w.2 ∧ w.2 ≤ fI σ 66 0 ∧ shN σ mo k (fI σ 66 0 - w.2).toNat w.2 (fI w.1 1 58) = shI σ mo k) (fun w => (fI σ 66 0 - w.2).toNat) (fun back w hI hback => ?_) _ ⟨h0, e0, Int.le_refl _, f2, by dsimp only; rw [Int.sub_zero, e1]; rfl⟩ (by dsimp only; omega)
  obtain ⟨υ, f⟩ := w
  obtain ⟨g1, g2, g3, g4, g5⟩ := hI
  dsimp only at g1 g2 g3 g4 g5 hback ⊢
  have hM' := g1.M hM
  have hFu : IFacts σ υ := hF'.keep (fun _ _ _ => rfl) (g1.f (by decide)) (g1.f (by decide)) (fun q a b => g1.2.2.1 q (by omega) (by simp))
  have ef : fI υ 1 67 = fI σ 66 0 := (g1.f (by decide)).trans f1
  have ec : ∀ q, 33 ≤ q → q ≤ 37 → υ.2.1 q = σm.2.1 q := fun q a b => g1.2.2.1 q (by omega) (by simp)
  refine sm_gI hM' ?_
  rw [ef]
  refine ok_wlt (by omega) (by omega) (fun h1 => ?_) (fun h1 => ?_)
  · obtain ⟨v1, v2, v3, v4, v5, v6, v7, v8⟩ := f7 f g3 h1
    have hcn := cn_or σ f k
    have k1 : (fI σ 66 0 - f).toNat = (fI σ 66 0 - (f + 1)).toNat + 1 := by omega
    rw [k1] at g5
    have no : ¬ (σ.2.1 67 f = 2 ∧ σ.2.1 68 f ≤ mo ∧ cn σ f k = 1) → Ok (back (υ, f + 1)) Q := fun hc => by
      refine hback _ ⟨g1, g2, by dsimp only; omega, by dsimp only; omega, ?_⟩ (by dsimp only; omega)
      dsimp only
      rw [← g5]
      show shN σ mo k _ (f + 1) _ = shN σ mo k _ (f + 1) (if _ then _ else _)
      rw [if_neg hc]
    refine sm_rcv hM' (ok_rw (countsM_eq hM' hFu (by omega) hk (by omega)) ?_)
    dsimp only
    refine st_Jn ?_
    by_cases hc : σ.2.1 67 f = 2 ∧ cn σ f k = 1
    · rw [if_pos hc]
      refine ok_z1 ?_
      have v6' := v6 (by omega)
      refine sm_gR hM' rfl ?_
      refine sm_aI hM' rfl rfl (by decide) (by omega) (by omega) ?_
      rw [ec 34 (by decide) (by decide), v6'.1]
      refine ok_wlt (by omega) (by omega) (fun h3 => st_Lt (no (by omega))) (fun h3 => ?_)
      refine sm_gI hM' ?_
      refine sm_gR hM' rfl ?_
      refine sm_aI hM' rfl rfl (by decide) (by omega) (by omega) ?_
      rw [ec 35 (by decide) (by decide), v6'.2]
      refine sm_pI hM' (st_Lt ?_)
      refine hback _ ⟨g1.uF (by decide), by dsimp only; rw [fI_j (by decide)]; exact g2, by dsimp only; omega, by dsimp only; omega, ?_⟩ (by dsimp only; omega)
      dsimp only
      rw [fI_eq, ← g5]
      show shN σ mo k _ (f + 1) _ = shN σ mo k _ (f + 1) (if _ then _ else _)
      rw [if_pos ⟨hc.1, h3, hc.2⟩]
    · rw [if_neg hc]
      exact ok_z0 (st_Lt (no (fun q => hc ⟨q.1, q.2.2⟩)))
  · have : f = fI σ 66 0 := by omega
    subst this
    rw [Int.sub_self] at g5
    exact h υ g1 g2 g5
theorem rm75 (hM : WMr σm.1 σm.2.2) (hA : IAir σ σm) {mo : Int} (hmo : 0 ≤ mo ∧ mo ≤ 199) {J : St × Int × Int → Option (St × Int)} {Q : St × Int → Prop} (hN : 1000 < N) {sh : Int} {υ0 : St} (h0 : FM [46] [52, 58] σm υ0) (e52 : fI υ0 1 52 = mo) (e58 : fI υ0 1 58 = sh) (h : ∀ υ, FM [46] [52, 58] σm υ → fI υ 1 52 = mo → fI υ 1 58 = sh → (∀ a : Int, 0 ≤ a → a < fI σ 100 0 → υ.2.1 46 a = r0 σ mo a) → Ok (J (υ, ((bN (bR (r0 σ mo)) 0 (fI σ 100 0).toNat : Nat) : Int), ((cN (bR (r0 σ mo)) (fI σ 100 0).toNat : Nat) : Int))) Q) : Ok (L_X12_rounds_75 N 1 mo J (υ0, 0, 0, 0)) Q := by
  obtain ⟨a1, a2, a3, a4⟩ := hA
  unfold L_X12_rounds_75
  refine ok_fix (fun w => FM [46] [52, 58] σm w.1 ∧ fI w.1 1 52 = mo ∧ fI w.1 1 58 = sh ∧ 0 ≤ w.2.2.2 ∧ w.2.2.2 ≤ fI σ 100 0 ∧ w.2.1 = ((bN (bR (r0 σ mo)) 0 w.2.2.2.toNat : Nat) : Int) ∧ w.2.2.1 = ((cN (bR (r0 σ mo)) w.2.2.2.toNat : Nat) : Int) ∧ ∀ a : Int, 0 ≤ a → a < w.2.2.2 → w.1.2.1 46 a = r0 σ mo a) (fun w => (fI σ 100 0 - w.2.2.2).toNat) (fun back w hI hback => ?_) _ ⟨h0, e52, e58, Int.le_refl _, a2, rfl, rfl, fun a b c => by dsimp only at c; omega⟩ (by dsimp only; omega)
  obtain ⟨υ, s, c, a⟩ := w
  obtain ⟨g1, g2, g3, g4, g5, g6, g7, g8⟩ := hI
  dsimp only at g1 g2 g3 g4 g5 g6 g7 g8 hback ⊢
  have hM' := g1.M hM
  refine sm_gI hM' ?_
  rw [g1.f (by decide), a1]
  refine ok_wlt (by omega) (by omega) (fun h1 => ?_) (fun h1 => ?_)
  · obtain ⟨b1, b2, b3, b4, b5⟩ := a4 a g4 h1
    have sk : (a + 1).toNat = a.toNat + 1 := by omega
    have hcast : ((a.toNat : Nat) : Int) = a := by omega
    have hb := bN_top (bR (r0 σ mo)) a.toNat 0
    have hlt := bN_lt (bR (r0 σ mo)) (bR_le _) a.toNat 0
    rw [Nat.zero_add] at hb
    have hle := cN_le (bR_le (r0 σ mo)) a.toNat
    have hrng : bN (bR (r0 σ mo)) 0 a.toNat < 1024 := Nat.lt_of_lt_of_le hlt (Nat.pow_le_pow_right (by decide) (by omega : a.toNat ≤ 10))
    refine sm_gR hM' rfl ?_
    refine sm_aI hM' rfl rfl (by decide) (by omega) (by omega) ?_
    rw [g1.c (by decide) (by decide), b4]
    refine st_Jn ?_
    refine ok_wlt (by omega) (by omega) (fun h2 => ?_) (fun h2 => ?_)
    · have er : r0 σ mo a = 0 := by unfold r0; rw [if_pos h2]
      have eb : bR (r0 σ mo) a.toNat = 1 := by unfold bR; rw [hcast, if_pos er]
      refine st_Jn (ok_z1 (st_Lt (st_Jn (ok_z1 (st_Lt ?_)))))
      refine sm_gR hM' rfl ?_
      refine st_Jn (ok_z1 ?_)
      refine sm_sI hM' rfl rfl (by decide) (by omega) (by omega) (st_Lt ?_)
      refine hback _ ⟨g1.uI (by decide) (by decide), g2, g3, by dsimp only; omega, by dsimp only; omega, ?_, ?_, fun b b0 b1 => ?_⟩ (by dsimp only; omega)
      · dsimp only
        rw [g6, sk, hb, eb, Nat.mul_one, ← bit_set a.toNat (by omega) _ hlt, hcast]
      · dsimp only
        rw [g7, sk]
        show _ = ((cN _ a.toNat + bR _ a.toNat : Nat) : Int)
        rw [eb]; rfl
      · dsimp only at b1 ⊢
        rw [uW_at]
        by_cases hb : b = a
        · rw [if_pos hb, hb, er]
        · rw [if_neg hb]; exact g8 b b0 (by omega)
    · have er : r0 σ mo a = -1 := by unfold r0; rw [if_neg (by omega)]
      have eb : bR (r0 σ mo) a.toNat = 0 := by unfold bR; rw [hcast, if_neg (by omega)]
      refine st_Jn (ok_z0 (st_Lt (st_Jn (ok_z0 (st_Lt ?_)))))
      refine sm_gR hM' rfl ?_
      refine st_Jn (ok_z0 ?_)
      refine sm_sI hM' rfl rfl (by decide) (by omega) (by omega) (st_Lt ?_)
      refine hback _ ⟨g1.uI (by decide) (by decide), g2, g3, by dsimp only; omega, by dsimp only; omega, ?_, ?_, fun b b0 b1 => ?_⟩ (by dsimp only; omega)
      · dsimp only
        rw [g6, sk, hb, eb, Nat.mul_zero, Nat.add_zero, orZ_0, wr_id (by omega) (by omega)]
      · dsimp only
        rw [g7, sk]
        show _ = ((cN _ a.toNat + bR _ a.toNat : Nat) : Int)
        rw [eb]; omega
      · dsimp only at b1 ⊢
        rw [uW_at]
        by_cases hb : b = a
        · rw [if_pos hb, hb, er]
        · rw [if_neg hb]; exact g8 b b0 (by omega)
  · have : a = fI σ 100 0 := by omega
    subst this
    rw [g6, g7]
    exact h υ g1 g2 g3 g8
end F
