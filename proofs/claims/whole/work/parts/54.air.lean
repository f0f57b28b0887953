/-! the pure part: AIRLINES, options that lapse in ROUNDS -/
def bN (b : Nat → Nat) : Nat → Nat → Nat
  | _, 0 => 0
  | a, k + 1 => b a + 2 * bN b (a + 1) k
def cN (b : Nat → Nat) : Nat → Nat
  | 0 => 0
  | k + 1 => cN b k + b k
theorem bN_top (b : Nat → Nat) : ∀ (k a : Nat), bN b a (k + 1) = bN b a k + 2 ^ k * b (a + k)
  | 0, a => by simp [bN]
  | k + 1, a => by
    have ih := bN_top b k (a + 1)
    show b a + 2 * bN b (a + 1) (k + 1) = b a + 2 * bN b (a + 1) k + 2 ^ (k + 1) * b (a + (k + 1))
    rw [ih, Nat.pow_succ, show a + 1 + k = a + (k + 1) by omega, Nat.mul_add, Nat.mul_comm (2 ^ k) 2, Nat.mul_assoc]
    omega
theorem bN_lt (b : Nat → Nat) (h : ∀ i, b i ≤ 1) : ∀ (k a : Nat), bN b a k < 2 ^ k
  | 0, a => by simp [bN]
  | k + 1, a => by
    have ih := bN_lt b h k (a + 1)
    have := h a
    show b a + 2 * bN b (a + 1) k < 2 ^ (k + 1)
    rw [Nat.pow_succ]; omega
theorem bN_div (b : Nat → Nat) (h : ∀ i, b i ≤ 1) : ∀ (j k a : Nat), bN b a (j + k) / 2 ^ j = bN b (a + j) k
  | 0, k, a => by rw [Nat.zero_add, Nat.pow_zero, Nat.div_one, Nat.add_zero]
  | j + 1, k, a => by
    have ih := bN_div b h j k (a + 1)
    rw [show j + 1 + k = (j + k) + 1 by omega, Nat.pow_succ, Nat.mul_comm, ← Nat.div_div_eq_div_mul]
    have h1 := h a
    have : bN b a (j + k + 1) / 2 = bN b (a + 1) (j + k) := by
      show (b a + 2 * bN b (a + 1) (j + k)) / 2 = _
      omega
    rw [this, ih, show a + 1 + j = a + (j + 1) by omega]
theorem bN_bit (b : Nat → Nat) (h : ∀ i, b i ≤ 1) {j n : Nat} (hj : j < n) : bN b 0 n / 2 ^ j % 2 = b j := by
  obtain ⟨k, rfl⟩ : ∃ k, n = j + (k + 1) := ⟨n - j - 1, by omega⟩
  rw [bN_div b h, Nat.zero_add]
  have := h j
  show (b j + 2 * bN b (j + 1) k) % 2 = b j
  omega
theorem bN_add (x y : Nat → Nat) : ∀ (k a : Nat), bN (fun i => x i + y i) a k = bN x a k + bN y a k
  | 0, a => rfl
  | k + 1, a => by
    have ih := bN_add x y k (a + 1)
    show x a + y a + 2 * bN (fun i => x i + y i) (a + 1) k = (x a + 2 * bN x (a + 1) k) + (y a + 2 * bN y (a + 1) k)
    rw [ih]; omega
theorem bN_congr {x y : Nat → Nat} : ∀ (k a : Nat), (∀ i, a ≤ i → i < a + k → x i = y i) → bN x a k = bN y a k
  | 0, a, _ => rfl
  | k + 1, a, h => by
    show x a + 2 * bN x (a + 1) k = y a + 2 * bN y (a + 1) k
    rw [h a (by omega) (by omega), bN_congr k (a + 1) fun i a b => h i (by omega) (by omega)]
theorem bN_zero {b : Nat → Nat} : ∀ (k a : Nat), bN b a k = 0 → ∀ i, a ≤ i → i < a + k → b i = 0
  | 0, a, _, i, h0, h1 => by omega
  | k + 1, a, h, i, h0, h1 => by
    have h' : b a + 2 * bN b (a + 1) k = 0 := h
    by_cases hi : i = a
    · rw [hi]; omega
    · exact bN_zero k (a + 1) (by omega) i (by omega) (by omega)
theorem cN_congr {x y : Nat → Nat} : ∀ (k : Nat), (∀ i, i < k → x i = y i) → cN x k = cN y k
  | 0, _ => rfl
  | k + 1, h => by
    show cN x k + x k = cN y k + y k
    rw [h k (by omega), cN_congr k fun i a => h i (by omega)]
theorem cN_add (x y : Nat → Nat) : ∀ (k : Nat), cN (fun i => x i + y i) k = cN x k + cN y k
  | 0 => rfl
  | k + 1 => by
    show cN (fun i => x i + y i) k + (x k + y k) = (cN x k + x k) + (cN y k + y k)
    rw [cN_add x y k]; omega
theorem cN_le {b : Nat → Nat} (h : ∀ i, b i ≤ 1) : ∀ k, cN b k ≤ k
  | 0 => Nat.le_refl _
  | k + 1 => by
    have := cN_le h k
    have := h k
    show cN b k + b k ≤ k + 1
    omega
theorem cN_pos {b : Nat → Nat} : ∀ (k i : Nat), i < k → b i ≤ cN b k
  | 0, i, h => by omega
  | k + 1, i, h => by
    show b i ≤ cN b k + b k
    by_cases hi : i = k
    · rw [hi]; omega
    · have := cN_pos (b := b) k i (by omega); omega
set_option maxRecDepth 100000 in
theorem bit_get : ∀ x : Nat, x < 1024 → ∀ a : Nat, a < 10 → andZ (shrZ (x : Int) (a : Int)) 1 = ((x / 2 ^ a % 2 : Nat) : Int) := by decide +kernel
set_option maxRecDepth 100000 in
theorem bit_set : ∀ c : Nat, c < 10 → ∀ x : Nat, x < 2 ^ c → orZ (x : Int) (shlZ 1 (c : Int)) = ((x + 2 ^ c : Nat) : Int) := by decide +kernel
def bR (R : Int → Int) (i : Nat) : Nat := if R (i : Int) = 0 then 1 else 0
def bL (kv : Int → Int → Int) (oth : Int) (R : Int → Int) (i : Nat) : Nat := if R (i : Int) = 0 ∧ kv (i : Int) oth = 0 then 1 else 0
theorem bR_le (R : Int → Int) (i : Nat) : bR R i ≤ 1 := by unfold bR; split <;> omega
theorem bL_le (kv : Int → Int → Int) (oth : Int) (R : Int → Int) (i : Nat) : bL kv oth R i ≤ 1 := by unfold bL; split <;> omega
def rd (n : Nat) (kv : Int → Int → Int) (now oth : Int) (R : Int → Int) : Int → Int := fun a => if (0 ≤ a ∧ a < (n : Int)) ∧ R a = 0 ∧ kv a oth = 0 then now else R a
def rdN (n : Nat) (kv : Int → Int → Int) : Nat → Int → (Int → Int) → (Int → Int)
  | 0, _, R => R
  | c + 1, now, R => rdN n kv c (now + 1) (rd n kv now ((cN (bR R) n : Nat) - 1) R)
theorem rd_split {n : Nat} {kv : Int → Int → Int} {now oth : Int} {R : Int → Int} (hn : now ≠ 0) {i : Nat} (hi : i < n) : bR R i = bR (rd n kv now oth R) i + bL kv oth R i := by
  unfold bR bL rd
  by_cases h1 : R (i : Int) = 0
  · by_cases h2 : kv (i : Int) oth = 0
    · rw [if_pos h1, if_pos (c := (0 ≤ (i : Int) ∧ (i : Int) < (n : Int)) ∧ R (i : Int) = 0 ∧ kv (i : Int) oth = 0) ⟨⟨by omega, by omega⟩, h1, h2⟩, if_neg hn, if_pos ⟨h1, h2⟩]
    · rw [if_pos h1, if_neg (c := (0 ≤ (i : Int) ∧ (i : Int) < (n : Int)) ∧ R (i : Int) = 0 ∧ kv (i : Int) oth = 0) (fun q => h2 q.2.2), if_pos h1, if_neg (fun q => h2 q.2)]
  · rw [if_neg h1, if_neg (c := (0 ≤ (i : Int) ∧ (i : Int) < (n : Int)) ∧ R (i : Int) = 0 ∧ kv (i : Int) oth = 0) (fun q => h1 q.2.1), if_neg h1, if_neg (fun q => h1 q.1)]
theorem rd_none {n : Nat} {kv : Int → Int → Int} {now oth : Int} {R : Int → Int} (h : bN (bL kv oth R) 0 n = 0) : rd n kv now oth R = R := by
  funext a
  unfold rd
  split
  · rename_i g
    have := bN_zero n 0 h a.toNat (by omega) (by omega)
    unfold bL at this
    rw [show ((a.toNat : Nat) : Int) = a by omega, if_pos g.2] at this
    omega
  · rfl
theorem rdN_fix {n : Nat} {kv : Int → Int → Int} {R : Int → Int} (h : bN (bL kv ((cN (bR R) n : Nat) - 1) R) 0 n = 0) : ∀ (c : Nat) (now : Int), rdN n kv c now R = R
  | 0, _ => rfl
  | c + 1, now => by
    show rdN n kv c (now + 1) (rd n kv now _ R) = R
    rw [rd_none h]
    exact rdN_fix h c (now + 1)
theorem rd_cN {n : Nat} {kv : Int → Int → Int} {now oth : Int} {R : Int → Int} (hn : now ≠ 0) {c : Nat} (hc : c ≤ n) : cN (bR R) c = cN (bR (rd n kv now oth R)) c + cN (bL kv oth R) c := by
  rw [← cN_add]
  exact cN_congr c fun i hi => rd_split hn (by omega)
theorem rd_bN {n : Nat} {kv : Int → Int → Int} {now oth : Int} {R : Int → Int} (hn : now ≠ 0) : bN (bR R) 0 n = bN (bR (rd n kv now oth R)) 0 n + bN (bL kv oth R) 0 n := by
  rw [← bN_add]
  exact bN_congr n 0 fun i _ hi => rd_split hn (by omega)
def qK (mo a sh ot pr : Int) : Int → Int := fun j => if j = 2 then mo else if j = 7 then a else if j = 8 then sh else if j = 9 then ot else pr
def kvF (σ : St) (t : Nat) (mo sh : Int) : Int → Int → Int := fun a ot => wr (lv σ t 3 (qK mo a sh ot (σ.2.1 101 a)))
def r0 (σ : St) (mo : Int) : Int → Int := fun a => if mo < σ.2.1 102 a then 0 else -1
def RF (σ : St) (t : Nat) (mo sh : Int) : Int → Int := rdN (fI σ 100 0).toNat (kvF σ t mo sh) (fI σ 100 0).toNat 1 (r0 σ mo)
def shN (σ : St) (mo k : Int) : Nat → Int → Int → Int
  | 0, _, s => s
  | c + 1, f, s => shN σ mo k c (f + 1) (if σ.2.1 67 f = 2 ∧ σ.2.1 68 f ≤ mo ∧ cn σ f k = 1 then orZ s (σ.2.1 69 f) else s)
def shI (σ : St) (mo k : Int) : Int := shN σ mo k (fI σ 66 0).toNat 0 0
section F
variable {N : Nat} {σ σm : St}
theorem shownBy_eq (hX : WXr σ.1 σ.2.2) (hF : IFacts σ σm) {a k : Int} (ha : 0 ≤ a ∧ a ≤ 199) (hk : -2147483648 ≤ k ∧ k < 2147483648) (hN : 1000 < N) : f_X1_shownBy N σ 66 a k = some (σ, shI σ a k) := by
  have hF' := hF
  obtain ⟨⟨f1, f2, f3⟩, ⟨f4, f5, f6⟩, f7⟩ := hF
  have H : Ok (f_X1_shownBy N σ 66 a k) (fun q => q = (σ, shI σ a k)) := by
    unfold f_X1_shownBy L_X1_shownBy_5
    refine ok_fix (fun w => 0 ≤ w.2 ∧ w.2 ≤ fI σ 66 0 ∧ shN σ a k (fI σ 66 0 - w.2).toNat w.2 w.1 = shI σ a k) (fun w => (fI σ 66 0 - w.2).toNat) (fun back w hI hback => ?_) _ ⟨Int.le_refl _, f2, by dsimp only; rw [Int.sub_zero]; rfl⟩ (by dsimp only; omega)
    obtain ⟨s, f⟩ := w
    obtain ⟨g1, g2, g4⟩ := hI
    dsimp only at g1 g2 g4 hback ⊢
    refine sx_gI hX rfl rfl ?_
    refine ok_wlt (by omega) (by omega) (fun h1 => ?_) (fun h1 => ?_)
    · have k1 : (fI σ 66 0 - f).toNat = (fI σ 66 0 - (f + 1)).toNat + 1 := by omega
      rw [k1] at g4
      obtain ⟨v1, v2, v3, v4, v5, v6, v7, v8⟩ := f7 f g1 h1
      have hcn := cn_or σ f k
      have no : ¬ (σ.2.1 67 f = 2 ∧ σ.2.1 68 f ≤ a ∧ cn σ f k = 1) → Ok (back (s, f + 1)) (fun q => q = (σ, shI σ a k)) := fun hc => by
        refine hback _ ⟨by dsimp only; omega, by dsimp only; omega, ?_⟩ (by dsimp only; omega)
        rw [← g4]
        show shN σ a k _ (f + 1) s = shN σ a k _ (f + 1) (if _ then _ else _)
        rw [if_neg hc]
      refine sx_gR hX rfl rfl rfl ?_
      refine sx_aI hX rfl rfl (by decide) (by omega) (by omega) ?_
      refine st_Jn ?_
      refine ok_weq (by omega) (by omega) (fun h2 => ?_) (fun h2 => st_Lt (no (fun q => h2 q.1)))
      refine sx_gR hX rfl rfl rfl ?_
      refine sx_aI hX rfl rfl (by decide) (by omega) (by omega) ?_
      refine ok_wlt (by omega) (by omega) (fun h3 => st_Lt (no (by omega))) (fun h3 => ?_)
      refine sx_rcv hX rfl rfl (ok_rw (counts_eq hX hF' (by omega) hk) ?_)
      dsimp only
      refine ok_weqc (by omega) (fun h4 => st_Lt (no (by omega))) (fun h4 => ?_)
      refine sx_gR hX rfl rfl rfl ?_
      refine sx_aI hX rfl rfl (by decide) (by omega) (by omega) ?_
      refine st_Lt (st_Lt ?_)
      refine hback _ ⟨by dsimp only; omega, by dsimp only; omega, ?_⟩ (by dsimp only; omega)
      rw [← g4]
      show shN σ a k _ (f + 1) _ = shN σ a k _ (f + 1) (if _ then _ else _)
      rw [if_pos ⟨h2, h3, by omega⟩]
    · have : f = fI σ 66 0 := by omega
      subst this
      rw [Int.sub_self] at g4
      refine ok_some ?_
      rw [← g4]; rfl
  obtain ⟨q, e, rfl⟩ := H
  exact e
/-- one airline asked -/
theorem lapseIn_eq (hA : IAir σ σm) {t : Nat} (ht : isT t) (hl : σ.2.1 (t + 2) 3 = -1 ∨ TLx t 3 σ) {mo sh : Int} {τ : St} (hX : WXr τ.1 τ.2.2) (f0 : FX [103, t + 4, t + 5] σ τ) (e2 : τ.2.1 (t + 5) 2 = mo) (e8 : τ.2.1 (t + 5) 8 = sh) {R : Int → Int} (hR : ∀ a : Int, 0 ≤ a → a < fI σ 100 0 → τ.2.1 103 a = R a) (hr : ∀ a, -1 ≤ R a ∧ R a ≤ 100) {now oth : Int} (hn : 1 ≤ now ∧ now ≤ 100) (hN : 1000 < N) : ∃ υ, f_X0_lapseIn N τ 100 now t oth = some (υ, ((cN (bL (kvF σ t mo sh) oth R) (fI σ 100 0).toNat : Nat) : Int)) ∧ FX [103, t + 4, t + 5] σ υ ∧ υ.2.1 (t + 5) 2 = mo ∧ υ.2.1 (t + 5) 8 = sh ∧ ∀ a : Int, 0 ≤ a → a < fI σ 100 0 → υ.2.1 103 a = rd (fI σ 100 0).toNat (kvF σ t mo sh) now oth R a := by
  obtain ⟨a1, a2, a3, a4⟩ := hA
  have htl := isT_le ht
  have H : Ok (f_X0_lapseIn N τ 100 now t oth) (fun w => w.2 = ((cN (bL (kvF σ t mo sh) oth R) (fI σ 100 0).toNat : Nat) : Int) ∧ FX [103, t + 4, t + 5] σ w.1 ∧ w.1.2.1 (t + 5) 2 = mo ∧ w.1.2.1 (t + 5) 8 = sh ∧ ∀ a : Int, 0 ≤ a → a < fI σ 100 0 → w.1.2.1 103 a = rd (fI σ 100 0).toNat (kvF σ t mo sh) now oth R a) := by
    unfold f_X0_lapseIn
    refine tx_rcv hX ht (ok_rw (ask_eq hX ht (by omega)) ?_)
    dsimp only
    unfold L_X0_lapseIn_13
    refine ok_fix (fun w => FX [103, t + 4, t + 5] σ w.1 ∧ w.1.2.1 (t + 5) 2 = mo ∧ w.1.2.1 (t + 5) 8 = sh ∧ w.1.2.1 (t + 5) 9 = oth ∧ 0 ≤ w.2.2 ∧ w.2.2 ≤ fI σ 100 0 ∧ w.2.1 = ((cN (bL (kvF σ t mo sh) oth R) w.2.2.toNat : Nat) : Int) ∧ ∀ a : Int, 0 ≤ a → a < fI σ 100 0 → w.1.2.1 103 a = if a < w.2.2 then rd (fI σ 100 0).toNat (kvF σ t mo sh) now oth R a else R a) (fun w => (fI σ 100 0 - w.2.2).toNat) (fun back w hI hback => ?_) _ ⟨f0.uI (by simp), (uI_j (by decide)).trans e2, (uI_j (by decide)).trans e8, uI_eq, Int.le_refl _, a2, rfl, fun a b c => ?_⟩ (by dsimp only; omega)
    · obtain ⟨υ, s, a⟩ := w
      obtain ⟨g1, g2, g3, g4, g5, g6, g7, g8⟩ := hI
      dsimp only at g1 g2 g3 g4 g5 g6 g7 g8 hback ⊢
      have hX'' : WXr υ.1 υ.2.2 := by rw [g1.1, g1.2.1, ← f0.1, ← f0.2.1]; exact hX
      have e0 : fI υ 100 0 = fI σ 100 0 := g1.f (by simp; omega)
      refine sx_gI hX'' rfl rfl ?_
      rw [e0]
      refine ok_wlt (by omega) (by omega) (fun h1 => ?_) (fun h1 => ?_)
      · obtain ⟨b1, b2, b3, b4⟩ := a4 a g5 h1
        refine tx_rcv hX'' ht (ok_rw (ask_eq hX'' ht (by omega)) ?_)
        dsimp only
        refine sx_gR (σ := uI υ (t + 5) (30 - 23) a) hX'' rfl rfl rfl ?_
        refine sx_aI (σ := uI υ (t + 5) (30 - 23) a) hX'' rfl rfl (by decide) (by omega) (by omega) ?_
        rw [uI_k (by omega), g1.c (by simp; omega)]
        generalize hP : σ.2.1 101 a = P
        refine tx_rcv (σ := uI υ (t + 5) (30 - 23) a) hX'' ht (ok_rw (ask_eq (σ := uI υ (t + 5) (30 - 23) a) hX'' ht (by omega)) ?_)
        dsimp only
        refine sx_gR (σ := uI (uI υ (t + 5) (30 - 23) a) (t + 5) (33 - 23) P) hX'' rfl rfl rfl ?_
        refine sx_aI (σ := uI (uI υ (t + 5) (30 - 23) a) (t + 5) (33 - 23) P) hX'' rfl rfl (by decide) (by omega) (by omega) ?_
        rw [uI_k (by omega), uI_k (by omega), g8 a g5 h1, if_neg (by omega)]
        refine st_Jn ?_
        have g9 : FX [103, t + 4, t + 5] σ (uI (uI υ (t + 5) (30 - 23) a) (t + 5) (33 - 23) P) := (g1.uI (by simp)).uI (by simp)
        have q2 : (uI (uI υ (t + 5) (30 - 23) a) (t + 5) (33 - 23) P).2.1 (t + 5) 2 = mo := by rw [uI_j (by decide), uI_j (by decide)]; exact g2
        have q8 : (uI (uI υ (t + 5) (30 - 23) a) (t + 5) (33 - 23) P).2.1 (t + 5) 8 = sh := by rw [uI_j (by decide), uI_j (by decide)]; exact g3
        have q9 : (uI (uI υ (t + 5) (30 - 23) a) (t + 5) (33 - 23) P).2.1 (t + 5) 9 = oth := by rw [uI_j (by decide), uI_j (by decide)]; exact g4
        have q7 : (uI (uI υ (t + 5) (30 - 23) a) (t + 5) (33 - 23) P).2.1 (t + 5) 7 = a := by rw [uI_j (by decide)]; exact uI_eq
        have q10 : (uI (uI υ (t + 5) (30 - 23) a) (t + 5) (33 - 23) P).2.1 (t + 5) 10 = P := uI_eq
        have q103 : (uI (uI υ (t + 5) (30 - 23) a) (t + 5) (33 - 23) P).2.1 103 = υ.2.1 103 := by rw [uI_cell (by omega), uI_cell (by omega)]
        generalize hφ : uI (uI υ (t + 5) (30 - 23) a) (t + 5) (33 - 23) P = φ at g9 q2 q8 q9 q7 q10 q103
        have hXφ : WXr φ.1 φ.2.2 := by rw [← hφ]; exact hX''
        have hcast : ((a.toNat : Nat) : Int) = a := by omega
        have key : kvF σ t mo sh a oth = wr (lv φ t 3 (fun j => φ.2.1 (t + 5) j)) := by
          unfold kvF
          rw [lv_keep (τ := φ) (σ := σ) (fun d _ _ => g9.2.2 _ (by simp; omega)), lv_congr (q := fun j => φ.2.1 (t + 5) j) (q' := qK mo a sh oth P) hl, hP]
          intro k hk
          unfold asksW at hk
          have : k = 25 ∨ k = 30 ∨ k = 31 ∨ k = 32 ∨ k = 33 := by omega
          rcases this with rfl | rfl | rfl | rfl | rfl
          · exact q2
          · exact q7
          · exact q8
          · exact q9
          · exact q10
        have sk : (a + 1).toNat = a.toNat + 1 := by omega
        have no : ∀ ψ, FX [t + 4] φ ψ → ¬ (R a = 0 ∧ kvF σ t mo sh a oth = 0) → Ok (back (ψ, s, a + 1)) (fun w => w.2 = ((cN (bL (kvF σ t mo sh) oth R) (fI σ 100 0).toNat : Nat) : Int) ∧ FX [103, t + 4, t + 5] σ w.1 ∧ w.1.2.1 (t + 5) 2 = mo ∧ w.1.2.1 (t + 5) 8 = sh ∧ ∀ a : Int, 0 ≤ a → a < fI σ 100 0 → w.1.2.1 103 a = rd (fI σ 100 0).toNat (kvF σ t mo sh) now oth R a) := fun ψ hψ hc => by
          have c5 : ψ.2.1 (t + 5) = φ.2.1 (t + 5) := hψ.2.2 _ (by simp)
          have c103 : ψ.2.1 103 = υ.2.1 103 := (hψ.2.2 103 (by simp; omega)).trans q103
          refine hback _ ⟨g9.trans (hψ.mono (by simp)), by rw [c5]; exact q2, by rw [c5]; exact q8, by rw [c5]; exact q9, by dsimp only; omega, by dsimp only; omega, ?_, fun b b0 b1 => ?_⟩ (by dsimp only; omega)
          · dsimp only
            rw [g7, sk]
            show _ = ((cN _ a.toNat + bL _ _ _ a.toNat : Nat) : Int)
            unfold bL
            rw [hcast, if_neg hc]; rfl
          · dsimp only
            rw [c103, g8 b b0 b1]
            by_cases hb : b = a
            · rw [hb, if_neg (by omega), if_pos (by omega)]
              unfold rd
              rw [if_neg (fun q => hc q.2)]
            · by_cases hb2 : b < a
              · rw [if_pos hb2, if_pos (by omega)]
              · rw [if_neg hb2, if_neg (by omega)]
        have hRa := hr a
        refine ok_weqc (by omega) (fun h2 => ?_) (fun h2 => st_Lt (no φ FX.refl (fun q => h2 q.1)))
        obtain ⟨ψ, p1, p2⟩ := value_eq (N := N) (σ := φ) hXφ ht (n := 3) (by omega) (by
          rcases hl with hl | hl
          · exact .inl (by rw [g9.2.2 (t + 2) (by simp; omega)]; exact hl)
          · exact .inr (hl.keep fun d _ _ => g9.2.2 _ (by simp; omega))) hN
        refine tx_rcv hXφ ht (ok_rw p1 ?_)
        dsimp only
        refine ok_ite (fun h3 => ?_) (fun h3 => st_Lt (no ψ p2 (fun q => h3 (by rw [← key]; exact q.2))))
        have c5 : ψ.2.1 (t + 5) = φ.2.1 (t + 5) := p2.2.2 _ (by simp)
        have c103 : ψ.2.1 103 = υ.2.1 103 := (p2.2.2 103 (by simp; omega)).trans q103
        refine sx_gR (p2.X hXφ) rfl rfl rfl ?_
        refine sx_sI (p2.X hXφ) rfl rfl (by decide) (by omega) (by omega) ?_
        refine st_Lt (st_Lt ?_)
        refine hback _ ⟨(g9.trans (p2.mono (by simp))).uI (by simp), ?_, ?_, ?_, by dsimp only; omega, by dsimp only; omega, ?_, fun b b0 b1 => ?_⟩ (by dsimp only; omega)
        · dsimp only; rw [uI_k (by omega), c5]; exact q2
        · dsimp only; rw [uI_k (by omega), c5]; exact q8
        · dsimp only; rw [uI_k (by omega), c5]; exact q9
        · dsimp only
          rw [g7, sk]
          show _ = ((cN _ a.toNat + bL _ _ _ a.toNat : Nat) : Int)
          unfold bL
          rw [hcast, if_pos ⟨h2, by rw [key]; exact h3⟩]; rfl
        · dsimp only
          rw [uW_at, c103, g8 b b0 b1]
          by_cases hb : b = a
          · rw [if_pos hb, hb, if_pos (by omega)]
            unfold rd
            rw [if_pos ⟨by omega, h2, by rw [key]; exact h3⟩]
          · rw [if_neg hb]
            by_cases hb2 : b < a
            · rw [if_pos hb2, if_pos (by omega)]
            · rw [if_neg hb2, if_neg (by omega)]
      · have : a = fI σ 100 0 := by omega
        subst this
        exact ok_some ⟨g7, g1, g2, g3, fun b b0 b1 => by rw [g8 b b0 b1, if_pos b1]⟩
    · dsimp only
      rw [uI_k (by omega), if_neg (by omega)]; exact hR a b c
  obtain ⟨⟨υ, v'⟩, e, h1, h2⟩ := H
  dsimp only at h1 h2
  subst h1
  exact ⟨υ, e, h2⟩
end F
