/-! the pure part: hold, lapse -/
section F
variable {N : Nat} {σ σm : St}
theorem rm175 (hM : WMr σm.1 σm.2.2) (hA : IAir σ σm) {t : Nat} {i mo sh : Int} (hi : 0 ≤ i ∧ i ≤ 2) (hl : RTl t i 3 σ σm) {R : Int → Int} {now : Int} (hn : 1 ≤ now ∧ now ≤ 100) {t5 : St × Int × Int × Int × Int} (t51 : t5.2.1 = ((bN (bR R) 0 (fI σ 100 0).toNat : Nat) : Int)) (t52 : t5.2.2.2.2 = now) {υ0 : St} (h0 : FM [31, 46] [52, 57, 58, 59, 60] σm υ0) (e52 : fI υ0 1 52 = mo) (e58 : fI υ0 1 58 = sh) (hR : ∀ a : Int, 0 ≤ a → a < fI σ 100 0 → υ0.2.1 46 a = R a) {J : St × Int → Option (St × Int)} {Q : St × Int → Prop} (hN : 1000 < N) (h : ∀ υ, FM [31, 46] [52, 57, 58, 59, 60] σm υ → fI υ 1 52 = mo → fI υ 1 58 = sh → (∀ a : Int, 0 ≤ a → a < fI σ 100 0 → υ.2.1 46 a = rd (fI σ 100 0).toNat (kvF σ t mo sh) now (t5.2.2.1 - 1) R a) → Ok (J (υ, ((bN (bL (kvF σ t mo sh) (t5.2.2.1 - 1) R) 0 (fI σ 100 0).toNat : Nat) : Int))) Q) : Ok (L_X12_rounds_175 N 1 i t5 J (υ0, 0, 0)) Q := by
  obtain ⟨a1, a2, a3, a4⟩ := hA
  obtain ⟨σ5, hold, many, more, now5⟩ := t5
  dsimp only at t51 t52 h
  subst t51 t52
  unfold L_X12_rounds_175
  refine ok_fix (fun w => FM [31, 46] [52, 57, 58, 59, 60] σm w.1 ∧ fI w.1 1 52 = mo ∧ fI w.1 1 58 = sh ∧ 0 ≤ w.2.2 ∧ w.2.2 ≤ fI σ 100 0 ∧ w.2.1 = ((bN (bL (kvF σ t mo sh) (many - 1) R) 0 w.2.2.toNat : Nat) : Int) ∧ ∀ a : Int, 0 ≤ a → a < fI σ 100 0 → w.1.2.1 46 a = if a < w.2.2 then rd (fI σ 100 0).toNat (kvF σ t mo sh) now5 (many - 1) R a else R a) (fun w => (fI σ 100 0 - w.2.2).toNat) (fun back w hI hback => ?_) _ ⟨h0, e52, e58, Int.le_refl _, a2, rfl, fun a b c => ?_⟩ (by dsimp only; omega)
  · obtain ⟨υ, s, a⟩ := w
    obtain ⟨g1, g2, g3, g4, g5, g6, g8⟩ := hI
    dsimp only at g1 g2 g3 g4 g5 g6 g8 hback ⊢
    have hM' := g1.M hM
    refine sm_gI hM' ?_
    rw [g1.f (by decide), a1]
    refine ok_wlt (by omega) (by omega) (fun h1 => ?_) (fun h1 => ?_)
    · obtain ⟨b1, b2, b3, b4, b5⟩ := a4 a g4 h1
      have sk : (a + 1).toNat = a.toNat + 1 := by omega
      have hcast : ((a.toNat : Nat) : Int) = a := by omega
      have hb := bN_top (bL (kvF σ t mo sh) (many - 1) R) a.toNat 0
      have hlt := bN_lt (bL (kvF σ t mo sh) (many - 1) R) (bL_le _ _ _) a.toNat 0
      rw [Nat.zero_add] at hb
      have hlt2 := bN_lt (bR R) (bR_le R) (fI σ 100 0).toNat 0
      have hrng : bN (bR R) 0 (fI σ 100 0).toNat < 1024 := Nat.lt_of_lt_of_le hlt2 (Nat.pow_le_pow_right (by decide) (by omega : (fI σ 100 0).toNat ≤ 10))
      have hbit : andZ (shrZ ((bN (bR R) 0 (fI σ 100 0).toNat : Nat) : Int) a) 1 = ((bR R a.toNat : Nat) : Int) := by
        rw [← hcast, bit_get _ hrng a.toNat (by omega), bN_bit (bR R) (bR_le R) (by omega), hcast]
      rw [hbit]
      refine st_Jn ?_
      have no : ∀ ψ, FM [31, 46] [52, 57, 58, 59, 60] υ ψ → ψ.2.1 46 = υ.2.1 46 → fI ψ 1 52 = mo → fI ψ 1 58 = sh → ¬ (R a = 0 ∧ kvF σ t mo sh a (many - 1) = 0) → Ok (back (ψ, s, a + 1)) Q := fun ψ p1 p2 p3 p4 hc => by
        refine hback _ ⟨g1.trans p1, p3, p4, by dsimp only; omega, by dsimp only; omega, ?_, fun b b0 b1 => ?_⟩ (by dsimp only; omega)
        · dsimp only
          rw [g6, sk, hb, show bL (kvF σ t mo sh) (many - 1) R a.toNat = 0 by unfold bL; rw [hcast, if_neg hc], Nat.mul_zero, Nat.add_zero]
        · dsimp only
          rw [p2, g8 b b0 b1]
          by_cases hb : b = a
          · rw [hb, if_neg (by omega), if_pos (by omega)]
            unfold rd
            rw [if_neg (fun q => hc q.2)]
          · by_cases hb2 : b < a
            · rw [if_pos hb2, if_pos (by omega)]
            · rw [if_neg hb2, if_neg (by omega)]
      have hble := bR_le R a.toNat
      refine ok_weqc (by omega) (fun h2 => ?_) (fun h2 => ?_)
      · refine st_Lt (no υ FM.refl rfl g2 g3 (fun q => ?_))
        have : bR R a.toNat = 1 := by unfold bR; rw [hcast, if_pos q.1]
        omega
      · have hRa : R a = 0 := by
          by_cases hh : R a = 0
          · exact hh
          · exfalso
            have : bR R a.toNat = 0 := by unfold bR; rw [hcast, if_neg hh]
            omega
        refine sm_pI hM' ?_
        refine sm_gR (σ := uF υ 1 57 a) hM' rfl ?_
        refine sm_aI (σ := uF υ 1 57 a) hM' rfl rfl (by decide) (by omega) (by omega) ?_
        rw [uF_k (by decide), g1.c (by decide) (by decide), b1]
        generalize hP : σ.2.1 101 a = P at b2 b3 ⊢
        refine sm_pI (σ := uF υ 1 57 a) hM' ?_
        refine sm_pI (σ := uF (uF υ 1 57 a) 1 60 P) hM' ?_
        have f1 : FM [31, 46] [52, 57, 58, 59, 60] υ (uF (uF (uF υ 1 57 a) 1 60 P) 1 59 (many - 1)) := ((FM.refl.uF (by decide)).uF (by decide)).uF (by decide)
        have f2 := g1.trans f1
        obtain ⟨φ, e, f⟩ := work_eq (N := N) (σm := uF (uF (uF υ 1 57 a) 1 60 P) 1 59 (many - 1)) hM' hi (n := 3) (by omega) (hl.keep (fun _ _ _ => rfl) (f2.2.2.1 25 (by decide) (by decide)) (f2.2.2.1 26 (by decide) (by decide)) (f2.2.2.1 27 (by decide) (by decide)) (f2.2.2.1 28 (by decide) (by decide)) (f2.2.2.1 32 (by decide) (by decide))) hN
        have q52 : fI (uF (uF (uF υ 1 57 a) 1 60 P) 1 59 (many - 1)) 1 52 = mo := by rw [fI_j (by decide), fI_j (by decide), fI_j (by decide)]; exact g2
        have q58 : fI (uF (uF (uF υ 1 57 a) 1 60 P) 1 59 (many - 1)) 1 58 = sh := by rw [fI_j (by decide), fI_j (by decide), fI_j (by decide)]; exact g3
        have hv : wr (lv σ t 3 (fun j => fI (uF (uF (uF υ 1 57 a) 1 60 P) 1 59 (many - 1)) 1 (50 + j.toNat))) = kvF σ t mo sh a (many - 1) := by
          unfold kvF
          rw [hP, lv_congr (q' := qK mo a sh (many - 1) P) hl.x]
          intro k hk
          unfold asksW at hk
          have : k = 25 ∨ k = 30 ∨ k = 31 ∨ k = 32 ∨ k = 33 := by omega
          rcases this with rfl | rfl | rfl | rfl | rfl
          · exact q52
          · show fI _ 1 57 = a
            rw [fI_j (by decide), fI_j (by decide), fI_eq]
          · exact q58
          · show fI _ 1 59 = many - 1
            rw [fI_eq]
          · show fI _ 1 60 = P
            rw [fI_j (by decide), fI_eq]
        refine sm_rcv (σ := uF (uF (uF υ 1 57 a) 1 60 P) 1 59 (many - 1)) hM' (ok_rw e ?_)
        dsimp only
        rw [hv]
        have f3 : FM [31, 46] [52, 57, 58, 59, 60] υ φ := f1.trans (f.mono (by simp) (by simp))
        have e46 : φ.2.1 46 = υ.2.1 46 := by rw [f.2.2.1 46 (by decide) (by decide), uF_cell (by decide), uF_cell (by decide), uF_cell (by decide)]
        have p52 : fI φ 1 52 = mo := (f.f (by simp)).trans q52
        have p58 : fI φ 1 58 = sh := (f.f (by simp)).trans q58
        refine ok_ite (fun h3 => ?_) (fun h3 => st_Lt (no φ f3 e46 p52 p58 (fun q => h3 q.2)))
        have hMφ := (g1.trans f3).M hM
        refine st_Lt ?_
        refine sm_gR hMφ rfl ?_
        refine sm_sI hMφ rfl rfl (by decide) (by omega) (by omega) (st_Lt ?_)
        refine hback _ ⟨(g1.trans f3).uI (by decide) (by decide), p52, p58, by dsimp only; omega, by dsimp only; omega, ?_, fun b b0 b1 => ?_⟩ (by dsimp only; omega)
        · dsimp only
          rw [g6, sk, hb, show bL (kvF σ t mo sh) (many - 1) R a.toNat = 1 by unfold bL; rw [hcast, if_pos ⟨hRa, h3⟩], Nat.mul_one, ← bit_set a.toNat (by omega) _ hlt, hcast]
        · dsimp only
          rw [uW_at, e46, g8 b b0 b1]
          by_cases hb : b = a
          · rw [if_pos hb, hb, if_pos (by omega)]
            unfold rd
            rw [if_pos ⟨by omega, hRa, h3⟩]
          · rw [if_neg hb]
            by_cases hb2 : b < a
            · rw [if_pos hb2, if_pos (by omega)]
            · rw [if_neg hb2, if_neg (by omega)]
    · have : a = fI σ 100 0 := by omega
      subst this
      rw [g6]
      exact h υ g1 g2 g3 (fun b b0 b1 => by rw [g8 b b0 b1, if_pos b1])
  · dsimp only
    rw [if_neg (by omega)]; exact hR a b c
theorem rm262 {t7 : St × Int} (hM : WMr t7.1.1 t7.1.2.2) {n : Int} (hn : fI t7.1 1 81 = n ∧ 0 ≤ n ∧ n ≤ 10) {b : Nat → Nat} (hb : ∀ i, b i ≤ 1) (e : t7.2 = ((bN b 0 n.toNat : Nat) : Int)) {many : Int} {J : Int → Option (St × Int)} {Q : St × Int → Prop} (hN : 1000 < N) (h : Ok (J (many - ((cN b n.toNat : Nat) : Int))) Q) : Ok (L_X12_rounds_262 N 1 t7 J (many, 0)) Q := by
  obtain ⟨υ, ls⟩ := t7
  dsimp only at hM hn e
  subst e
  unfold L_X12_rounds_262
  refine ok_fix (fun w => 0 ≤ w.2 ∧ w.2 ≤ n ∧ w.1 = many - ((cN b w.2.toNat : Nat) : Int)) (fun w => (n - w.2).toNat) (fun back w hI hback => ?_) _ ⟨Int.le_refl _, hn.2.1, by show many = many - ((0 : Nat) : Int); omega⟩ (by dsimp only; omega)
  obtain ⟨c, a⟩ := w
  obtain ⟨g1, g2, g3⟩ := hI
  dsimp only at g1 g2 g3 hback ⊢
  refine sm_gI hM ?_
  rw [hn.1]
  refine ok_wlt (by omega) (by omega) (fun h1 => ?_) (fun h1 => ?_)
  · have sk : (a + 1).toNat = a.toNat + 1 := by omega
    have hcast : ((a.toNat : Nat) : Int) = a := by omega
    have hlt2 := bN_lt b hb n.toNat 0
    have hrng : bN b 0 n.toNat < 1024 := Nat.lt_of_lt_of_le hlt2 (Nat.pow_le_pow_right (by decide) (by omega : n.toNat ≤ 10))
    have hbit : andZ (shrZ ((bN b 0 n.toNat : Nat) : Int) a) 1 = ((b a.toNat : Nat) : Int) := by
      rw [← hcast, bit_get _ hrng a.toNat (by omega), bN_bit b hb (by omega), hcast]
    rw [hbit]
    refine st_Lt (st_Lt ?_)
    refine hback _ ⟨by dsimp only; omega, by dsimp only; omega, ?_⟩ (by dsimp only; omega)
    dsimp only
    rw [g3, sk]
    show _ = many - ((cN b a.toNat + b a.toNat : Nat) : Int)
    omega
  · have : a = n := by omega
    subst this
    rw [g3]; exact h
theorem rm164 (hM : WMr σm.1 σm.2.2) (hA : IAir σ σm) {t : Nat} {i mo sh : Int} (hi : 0 ≤ i ∧ i ≤ 2) (hl : RTl t i 3 σ σm) {υ0 : St} (h0 : FM [31, 46] [52, 57, 58, 59, 60] σm υ0) (e52 : fI υ0 1 52 = mo) (e58 : fI υ0 1 58 = sh) (hR : ∀ a : Int, 0 ≤ a → a < fI σ 100 0 → υ0.2.1 46 a = r0 σ mo a) {Q : St × Int → Prop} (hN : 1000 < N) (h : ∀ υ, FM [31, 46] [52, 57, 58, 59, 60] σm υ → (∀ a : Int, 0 ≤ a → a < fI σ 100 0 → υ.2.1 46 a = RF σ t mo sh a) → Q (υ, ((bN (bR (RF σ t mo sh)) 0 (fI σ 100 0).toNat : Nat) : Int))) : Ok (L_X12_rounds_164 N 1 i (υ0, ((bN (bR (r0 σ mo)) 0 (fI σ 100 0).toNat : Nat) : Int), ((cN (bR (r0 σ mo)) (fI σ 100 0).toNat : Nat) : Int), 1, 1)) Q := by
  have hA' := hA
  obtain ⟨a1, a2, a3, a4⟩ := hA
  unfold L_X12_rounds_164
  refine ok_fix (fun w => ∃ R, FM [31, 46] [52, 57, 58, 59, 60] σm w.1 ∧ fI w.1 1 52 = mo ∧ fI w.1 1 58 = sh ∧ (∀ a : Int, 0 ≤ a → a < fI σ 100 0 → w.1.2.1 46 a = R a) ∧ w.2.1 = ((bN (bR R) 0 (fI σ 100 0).toNat : Nat) : Int) ∧ w.2.2.1 = ((cN (bR R) (fI σ 100 0).toNat : Nat) : Int) ∧ 1 ≤ w.2.2.2.2 ∧ ((w.2.2.2.1 = 0 ∧ R = RF σ t mo sh ∧ w.2.2.2.2 ≤ fI σ 100 0 + 2) ∨ (w.2.2.2.1 = 1 ∧ w.2.2.2.2 - 1 + ((cN (bR R) (fI σ 100 0).toNat : Nat) : Int) ≤ fI σ 100 0 ∧ rdN (fI σ 100 0).toNat (kvF σ t mo sh) (fI σ 100 0 + 1 - w.2.2.2.2).toNat w.2.2.2.2 R = RF σ t mo sh))) (fun w => (fI σ 100 0 + 2 - w.2.2.2.2).toNat + (if w.2.2.2.1 = 0 then 0 else 1)) (fun back w hI hback => ?_) _ ⟨r0 σ mo, h0, e52, e58, hR, rfl, rfl, Int.le_refl _, .inr ⟨rfl, ?_, ?_⟩⟩ (by dsimp only; rw [if_neg (by decide)]; omega)
  · obtain ⟨υ, hold, many, more, now⟩ := w
    obtain ⟨R, g1, g2, g3, g4, g5, g6, g7, g8⟩ := hI
    dsimp only at g1 g2 g3 g4 g5 g6 g7 g8 hback ⊢
    rcases g8 with ⟨rfl, k1, k2⟩ | ⟨rfl, k1, k2⟩
    · subst k1
      refine ok_weqc (by omega) (fun _ => ok_some ?_) (fun h9 => absurd rfl h9)
      rw [g5]
      exact h υ g1 g4
    · refine ok_weqc (by omega) (fun h9 => by exfalso; omega) (fun _ => ?_)
      refine st_Jn ?_
      refine rm175 (t := t) (sh := sh) (mo := mo) hM hA' hi hl (R := R) (now := now) (by omega) g5 rfl g1 g2 g3 g4 hN (fun ψ p1 p2 p3 p4 => ?_)
      dsimp only at p4 ⊢
      refine st_Jn ?_
      have hble := bL_le (kvF σ t mo sh) (many - 1) R
      refine rm262 (t7 := (ψ, _)) (n := fI σ 100 0) (p1.M hM) ⟨(p1.f (by decide)).trans a1, a2, a3⟩ hble rfl hN ?_
      refine st_Lt (st_Jn ?_)
      have hlt := bN_lt (bL (kvF σ t mo sh) (many - 1) R) hble (fI σ 100 0).toNat 0
      have hrng : bN (bL (kvF σ t mo sh) (many - 1) R) 0 (fI σ 100 0).toNat < 1024 := Nat.lt_of_lt_of_le hlt (Nat.pow_le_pow_right (by decide) (by omega : (fI σ 100 0).toNat ≤ 10))
      have hbN := rd_bN (n := (fI σ 100 0).toNat) (kv := kvF σ t mo sh) (now := now) (oth := many - 1) (R := R) (by omega)
      have hcN := rd_cN (n := (fI σ 100 0).toNat) (kv := kvF σ t mo sh) (now := now) (oth := many - 1) (R := R) (by omega) (Nat.le_refl _)
      dsimp only
      refine ok_weqc (by omega) (fun h9 => ?_) (fun h9 => ?_)
      · have hz : bN (bL (kvF σ t mo sh) (many - 1) R) 0 (fI σ 100 0).toNat = 0 := by omega
        have hrn := rd_none (now := now) hz
        rw [hrn] at p4 hbN hcN
        have hfx : R = RF σ t mo sh := by
          rw [← k2, rdN_fix (by rw [← g6]; exact hz)]
        refine st_Lt ?_
        refine hback _ ⟨R, p1, p2, p3, p4, ?_, ?_, by dsimp only; omega, .inl ⟨rfl, hfx, by dsimp only; omega⟩⟩ ?_
        · dsimp only; omega
        · dsimp only; omega
        · dsimp only; rw [if_pos rfl, if_neg (by decide)]; omega
      · have hpos : 1 ≤ cN (bL (kvF σ t mo sh) (many - 1) R) (fI σ 100 0).toNat := by
          by_cases hz : cN (bL (kvF σ t mo sh) (many - 1) R) (fI σ 100 0).toNat = 0
          · exfalso
            have : bN (bL (kvF σ t mo sh) (many - 1) R) 0 (fI σ 100 0).toNat = bN (fun _ => 0) 0 (fI σ 100 0).toNat := bN_congr _ _ fun j _ hj => by
              have := cN_pos (b := bL (kvF σ t mo sh) (many - 1) R) _ j (by omega : j < (fI σ 100 0).toNat)
              omega
            have h0 : ∀ k a, bN (fun _ => 0) a k = 0 := by
              intro k
              induction k with
              | zero => intro a; rfl
              | succ k ih => intro a; show 0 + 2 * bN _ (a + 1) k = 0; rw [ih]
            rw [h0] at this
            omega
          · omega
        have hcle := cN_le hble (fI σ 100 0).toNat
        refine st_Lt ?_
        have sk : (fI σ 100 0 + 1 - now).toNat = (fI σ 100 0 + 1 - (now + 1)).toNat + 1 := by omega
        rw [sk] at k2
        refine hback _ ⟨rd (fI σ 100 0).toNat (kvF σ t mo sh) now (many - 1) R, p1, p2, p3, p4, ?_, ?_, by dsimp only; omega, .inr ⟨rfl, ?_, ?_⟩⟩ ?_
        · dsimp only; omega
        · dsimp only; omega
        · dsimp only; omega
        · dsimp only; rw [← k2, g6]; rfl
        · dsimp only; rw [if_neg (by decide)]; omega
  · dsimp only
    have := cN_le (bR_le (r0 σ mo)) (fI σ 100 0).toNat
    omega
  · dsimp only
    rw [show fI σ 100 0 + 1 - 1 = fI σ 100 0 by omega]; rfl
theorem rounds_eq (hM : WMr σm.1 σm.2.2) (hA : IAir σ σm) (hF : IFacts σ σm) {t : Nat} {i mo k : Int} (hi : 0 ≤ i ∧ i ≤ 2) (hmo : 0 ≤ mo ∧ mo ≤ 199) (hk : -2147483648 ≤ k ∧ k < 2147483648) (hl : RTl t i 3 σ σm) (hN : 1000 < N) : ∃ υ, f_X12_rounds N σm 1 mo i k = some (υ, ((bN (bR (RF σ t mo (shI σ mo k))) 0 (fI σ 100 0).toNat : Nat) : Int)) ∧ FM [31, 46] [52, 57, 58, 59, 60] σm υ ∧ ∀ a : Int, 0 ≤ a → a < fI σ 100 0 → υ.2.1 46 a = RF σ t mo (shI σ mo k) a := by
  have H : Ok (f_X12_rounds N σm 1 mo i k) (fun w => w.2 = ((bN (bR (RF σ t mo (shI σ mo k))) 0 (fI σ 100 0).toNat : Nat) : Int) ∧ FM [31, 46] [52, 57, 58, 59, 60] σm w.1 ∧ ∀ a : Int, 0 ≤ a → a < fI σ 100 0 → w.1.2.1 46 a = RF σ t mo (shI σ mo k) a) := by
    unfold f_X12_rounds
    refine sm_pI hM ?_
    refine sm_pI (σ := uF σm 1 58 0) hM ?_
    refine st_Jn ?_
    refine rm19 hM hF hmo hk (υ0 := uF (uF σm 1 58 0) 1 52 mo) ((FM.refl.uF (by decide)).uF (by decide)) fI_eq (by rw [fI_j (by decide), fI_eq]) hN (fun υ p1 p2 p3 => ?_)
    refine st_Jn ?_
    refine rm75 hM hA hmo hN (p1.mono (by simp) (by simp)) p2 p3 (fun ψ q1 q2 q3 q4 => ?_)
    dsimp only
    refine rm164 (t := t) hM hA hi hl (q1.mono (by simp) (by simp)) q2 q3 q4 hN (fun φ s1 s2 => ⟨rfl, s1, s2⟩)
  obtain ⟨⟨υ, v'⟩, e, h1, h2⟩ := H
  dsimp only at h1 h2
  subst h1
  exact ⟨υ, e, h2⟩
theorem RF_rg (hA : IAir σ σm) (t : Nat) (mo sh a : Int) : -1 ≤ RF σ t mo sh a ∧ RF σ t mo sh a ≤ 100 := by
  obtain ⟨a1, a2, a3, a4⟩ := hA
  exact rdN_rg _ _ _ (by omega) (by omega) (fun a => by have := r0_rg (σ := σ) mo a; omega) a
theorem op_hold (hX : WXr σ.1 σ.2.2) (hM : WMr σm.1 σm.2.2) (hA : IAir σ σm) (hF : IFacts σ σm) {t : Int → Nat} {sp : Nat} (hT : ITre t sp σ σm) {a b c : Int} (ha : wr a = a) (hb : wr b = b) (hc : wr c = c) (hN : 1000 < N) : Ok (f_X11_hold N σ 1 a b c) (fun v => Ok (f_X12_hold N σm 1 a b c) (fun w => wr v.2 = wr w.2 ∧ FX [103, t b + 4, t b + 5] σ v.1 ∧ FM [31, 46] [52, 57, 58, 59, 60] σm w.1)) := by
  have hr := wr_rg ha
  have hs := wr_rg hb
  have ht := wr_rg hc
  unfold f_X11_hold f_X12_hold
  refine ok_month hr (fun h1 => ?_) (fun h1 => ?_)
  · refine ok_z1 ?_
    refine ok_tongue hs (fun h2 => ?_) (fun h2 => ?_)
    · refine ok_z1 ?_
      obtain ⟨tb, tr⟩ := hT.1.1 b h2.1 (by omega)
      have rt := hT.2.1 b h2.1 (by omega) 3 (by omega) (by omega)
      obtain ⟨τ, t1, t2, t3⟩ := settle_eq (N := N) (sh := shI σ a c) hA tb rt.x hX h1 hN
      obtain ⟨υ, u1, u2, u3⟩ := rounds_eq (N := N) hM hA hF (by omega) h1 ht rt hN
      refine sx_gR hX rfl rfl rfl ?_
      refine sx_gR hX rfl rfl rfl ?_
      refine sx_aR hX rfl rfl (by decide) (by omega) (by omega) tr ?_
      refine sx_gR hX rfl rfl rfl ?_
      refine sx_rcv hX rfl rfl (ok_rw (shownBy_eq hX hF h1 ht hN) ?_)
      refine sx_rcv hX rfl rfl (ok_rw t1 ?_)
      have tbl := isT_le tb
      have e0 : fI τ 100 0 = fI σ 100 0 := t2.f (by simp; omega)
      refine sx_gR (t2.X hX) rfl rfl rfl ?_
      refine sx_rcv (t2.X hX) rfl rfl (ok_rw (holders_eq (t2.X hX) (by rw [e0]; exact hA.2.imp_right And.left) (by rw [e0]; exact t3) (RF_rg hA _ _ _) hN) (ok_some ?_))
      rw [e0]
      refine om_month hr (fun h3 => ?_) (fun h3 => by exfalso; omega)
      refine ok_z1 ?_
      refine om_tongue hs (fun h4 => ?_) (fun h4 => by exfalso; omega)
      refine ok_z1 ?_
      exact sm_rcv hM (ok_rw u1 (ok_some ⟨rfl, t2, u2⟩))
    · refine ok_z0 (ok_some ?_)
      refine om_month hr (fun h3 => ?_) (fun h3 => by exfalso; omega)
      refine ok_z1 ?_
      exact om_tongue hs (fun h4 => by exfalso; omega) (fun h4 => ok_z0 (ok_some ⟨rfl, FX.refl, FM.refl⟩))
  · refine ok_z0 (ok_some ?_)
    exact om_month hr (fun h3 => by exfalso; omega) (fun h3 => ok_z0 (ok_some ⟨rfl, FX.refl, FM.refl⟩))
theorem op_lapse (hX : WXr σ.1 σ.2.2) (hM : WMr σm.1 σm.2.2) (hA : IAir σ σm) (hF : IFacts σ σm) {t : Int → Nat} {sp : Nat} (hT : ITre t sp σ σm) {d a b c : Int} (hd : wr d = d) (ha : wr a = a) (hb : wr b = b) (hc : wr c = c) (hN : 1000 < N) : Ok (f_X11_lapse N σ 1 d a b c) (fun v => Ok (f_X12_lapse N σm 1 d a b c) (fun w => wr v.2 = wr w.2 ∧ FX [103, t b + 4, t b + 5] σ v.1 ∧ FM [31, 46] [52, 57, 58, 59, 60] σm w.1)) := by
  have hq := wr_rg hd
  have hr := wr_rg ha
  have hs := wr_rg hb
  have ht := wr_rg hc
  have hA' := hA
  obtain ⟨a1, a2, a3, a4⟩ := hA
  unfold f_X11_lapse f_X12_lapse
  refine sx_gR hX rfl rfl rfl ?_
  refine sx_gI hX rfl rfl ?_
  refine ok_within (by omega) (by omega) (by omega) (fun h0 => ?_) (fun h0 => ?_)
  · refine ok_z1 ?_
    have start : ∀ {f : St × Int → Option (St × Int)} {Q : St × Int → Prop}, Ok (Option.bind (f_X12_hold N σm 1 a b c) f) Q → Ok (Option.bind (gI shm σm 12 1 81) fun airlines_1 => Option.bind (f_X12_isIn N σm d 0 (airlines_1 - 1)) fun q2 => (if wr q2.2 = 0 then some (σm, (-1)) else Option.bind (rcv shm σm 12 1 (f_X12_hold N σm 1 a b c)) f)) Q := fun h => by
      refine sm_gI hM ?_
      rw [a1]
      refine ok_isIn (by omega) (by omega) (by omega) (fun h3 => ?_) (fun h3 => by exfalso; omega)
      exact ok_z1 (sm_rcv hM h)
    refine ok_month hr (fun h1 => ?_) (fun h1 => ?_)
    · refine ok_z1 ?_
      refine ok_tongue hs (fun h2 => ?_) (fun h2 => ?_)
      · refine ok_z1 ?_
        obtain ⟨tb, tr⟩ := hT.1.1 b h2.1 (by omega)
        have rt := hT.2.1 b h2.1 (by omega) 3 (by omega) (by omega)
        obtain ⟨τ, t1, t2, t3⟩ := settle_eq (N := N) (sh := shI σ a c) hA' tb rt.x hX h1 hN
        obtain ⟨υ, u1, u2, u3⟩ := rounds_eq (N := N) hM hA' hF (by omega) h1 ht rt hN
        refine sx_gR hX rfl rfl rfl ?_
        refine sx_gR hX rfl rfl rfl ?_
        refine sx_aR hX rfl rfl (by decide) (by omega) (by omega) tr ?_
        refine sx_gR hX rfl rfl rfl ?_
        refine sx_rcv hX rfl rfl (ok_rw (shownBy_eq hX hF h1 ht hN) ?_)
        refine sx_rcv hX rfl rfl (ok_rw t1 ?_)
        have tbl := isT_le tb
        have e0 : fI τ 100 0 = fI σ 100 0 := t2.f (by simp; omega)
        refine sx_gR (t2.X hX) rfl rfl rfl ?_
        refine sx_rcv (t2.X hX) rfl rfl (ok_bind ?_)
        unfold f_X0_roundOf
        refine sx_gI (t2.X hX) rfl rfl ?_
        dsimp only
        rw [e0]
        refine ok_within (by omega) (by omega) (by omega) (fun h3 => ?_) (fun h3 => by exfalso; omega)
        refine ok_z1 ?_
        refine sx_gR (t2.X hX) rfl rfl rfl ?_
        refine sx_aI (t2.X hX) rfl rfl (by decide) (by omega) (by omega) (ok_some (ok_some ?_))
        refine start (ok_bind ?_)
        unfold f_X12_hold
        refine om_month hr (fun h3 => ?_) (fun h3 => by exfalso; omega)
        refine ok_z1 ?_
        refine om_tongue hs (fun h4 => ?_) (fun h4 => by exfalso; omega)
        refine ok_z1 ?_
        refine sm_rcv hM (ok_rw u1 (ok_some ?_))
        dsimp only
        have hlt := bN_lt (bR (RF σ (t b) a (shI σ a c))) (bR_le _) (fI σ 100 0).toNat 0
        have hrng := Nat.lt_of_lt_of_le hlt (Nat.pow_le_pow_right (by decide) (by omega : (fI σ 100 0).toNat ≤ 10))
        refine ok_wlt0 (by omega) (fun h5 => by exfalso; omega) (fun h5 => ?_)
        refine sm_gR (u2.M hM) rfl ?_
        refine sm_aI (u2.M hM) rfl rfl (by decide) (by omega) (by omega) (ok_some ?_)
        exact ⟨by rw [t3 d h0.1 (by omega), u3 d h0.1 (by omega)], t2, u2⟩
      · refine ok_z0 (ok_some ?_)
        refine start (ok_bind ?_)
        unfold f_X12_hold
        refine om_month hr (fun h3 => ?_) (fun h3 => by exfalso; omega)
        refine ok_z1 ?_
        refine om_tongue hs (fun h4 => by exfalso; omega) (fun h4 => ok_z0 (ok_some ?_))
        exact ok_wlt0 (by omega) (fun h5 => ok_some ⟨rfl, FX.refl, FM.refl⟩) (fun h5 => by exfalso; omega)
    · refine ok_z0 (ok_some ?_)
      refine start (ok_bind ?_)
      unfold f_X12_hold
      refine om_month hr (fun h3 => by exfalso; omega) (fun h3 => ok_z0 (ok_some ?_))
      exact ok_wlt0 (by omega) (fun h5 => ok_some ⟨rfl, FX.refl, FM.refl⟩) (fun h5 => by exfalso; omega)
  · refine ok_z0 (ok_some ?_)
    refine sm_gI hM ?_
    rw [a1]
    exact ok_isIn (by omega) (by omega) (by omega) (fun h3 => by exfalso; omega) (fun h3 => ok_z0 (ok_some ⟨rfl, FX.refl, FM.refl⟩))
end F
