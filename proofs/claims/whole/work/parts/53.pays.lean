/-! the pure part: pays -/
def qS (l c m : Int) : Int → Int := fun j => if j = 0 then l else if j = 1 then c else m
def clp (v : Int) : Int := if wr v < 0 then 0 else if 100 < wr v then 100 else wr v
def fstV (c v : Int) : Int := Int.tdiv (wr (c * clp v)) 100
def fsP (σ : St) (m t : Nat) (E : Int → Int) (p : Int) : Int := fstV (σ.2.1 (m + 5) p) (lv σ t 0 (qS (σ.2.1 (m + 2) p) (σ.2.1 (m + 5) p) (E p)))
def pyN (σ : St) (m t : Nat) (E : Int → Int) (ld : Int) : Nat → Int → Int → Int
  | 0, _, s => s
  | c + 1, p, s => pyN σ m t E ld c (p + 1) (if E p < 1000000 then s + (if ld = 0 then fsP σ m t E p else σ.2.1 (m + 5) p - fsP σ m t E p) else s)
theorem wr_mul (a b : Int) : wr (a * wr b) = wr (a * b) := by
  have h : ∃ k : Int, b = wr b + 4294967296 * k := ⟨(b - wr b) / 4294967296, by unfold wr; omega⟩
  obtain ⟨k, hk⟩ := h
  have e : a * b = a * wr b + 4294967296 * (a * k) := by
    calc a * b = a * (wr b + 4294967296 * k) := by rw [← hk]
      _ = a * wr b + a * (4294967296 * k) := Int.mul_add _ _ _
      _ = a * wr b + 4294967296 * (a * k) := by rw [Int.mul_left_comm]
  rw [e]
  generalize a * wr b = x
  generalize a * k = y
  unfold wr
  omega
theorem fstX (c v : Int) : Int.tdiv (wr (c * mxZ 0 (mnZ 100 v))) 100 = fstV c v := by
  have w0 : wr 0 = 0 := by decide
  have w1 : wr 100 = 100 := by decide
  unfold fstV clp mnZ
  rw [w1]
  by_cases h1 : wr v < 100
  · rw [if_pos h1]
    unfold mxZ
    rw [w0]
    by_cases h2 : 0 < wr v
    · rw [if_pos h2, if_neg (by omega), if_neg (by omega), wr_mul]
    · rw [if_neg h2]
      by_cases h3 : wr v < 0
      · rw [if_pos h3]
      · rw [if_neg h3, if_neg (by omega), show wr v = 0 by omega]
  · rw [if_neg h1]
    unfold mxZ
    rw [w0, w1, if_pos (by decide), if_neg (by omega)]
    by_cases h2 : 100 < wr v
    · rw [if_pos h2]
    · rw [if_neg h2, show wr v = 100 by omega]
section F
variable {N : Nat} {σ σm : St}
theorem paidByFirst_eq {m t : Nat} {bk : Int} (hI : IMach m bk σ σm) (ht : isT t) {τ : St} (hX : WXr τ.1 τ.2.2) (f0 : FX [72, t + 4, t + 5] σ τ) (hl : σ.2.1 (t + 2) 0 = -1 ∨ TLx t 0 σ) {E : Int → Int} {p : Int} (hp : 0 ≤ p ∧ p < fI σ m 1) (hE : τ.2.1 72 p = E p) (hN : 1000 < N) : ∃ υ, f_X1_paidByFirst N τ 66 m p t = some (υ, fsP σ m t E p) ∧ FX [72, t + 4, t + 5] σ υ ∧ υ.2.1 72 = τ.2.1 72 := by
  have hm := hI.1
  obtain ⟨i1, i2, i3, i4, ⟨r1, r2, r3, r4, r5⟩, rp, rj, _⟩ := hI
  have htl := isT_le ht
  have hml := isM_le hm
  have em : ∀ d, d ≤ 14 → τ.2.1 (m + d) = σ.2.1 (m + d) := fun d hd => f0.2.2 _ (by simp; omega)
  have et : ∀ d, 1 ≤ d → d ≤ 3 → τ.2.1 (t + d) = σ.2.1 (t + d) := fun d _ hd => f0.2.2 _ (by simp; omega)
  have H : Ok (f_X1_paidByFirst N τ 66 m p t) (fun w => w.2 = fsP σ m t E p ∧ FX [72, t + 4, t + 5] σ w.1 ∧ w.1.2.1 72 = τ.2.1 72) := by
    unfold f_X1_paidByFirst
    refine mx_gR hX hm rfl ?_
    refine mx_aI hX hm rfl (by decide) (by omega) (by omega) ?_
    refine mx_gR hX hm rfl ?_
    refine mx_aI hX hm rfl (by decide) (by omega) (by omega) ?_
    rw [em 2 (by decide), em 5 (by decide)]
    refine tx_rcv hX ht (ok_rw (ask_eq hX ht (by omega)) ?_)
    dsimp only
    generalize hA : σ.2.1 (m + 2) p = A
    generalize hB : σ.2.1 (m + 5) p = B
    refine tx_rcv (σ := uI τ (t + 5) (23 - 23) A) hX ht (ok_rw (ask_eq (σ := uI τ (t + 5) (23 - 23) A) hX ht (by omega)) ?_)
    dsimp only
    refine sx_gR (σ := uI (uI τ (t + 5) (23 - 23) A) (t + 5) (24 - 23) B) hX rfl rfl rfl ?_
    refine sx_aI (σ := uI (uI τ (t + 5) (23 - 23) A) (t + 5) (24 - 23) B) hX rfl rfl (by decide) (by omega) (by omega) ?_
    rw [uI_k (by omega), uI_k (by omega), hE]
    generalize hC : E p = C
    refine tx_rcv (σ := uI (uI τ (t + 5) (23 - 23) A) (t + 5) (24 - 23) B) hX ht (ok_rw (ask_eq (σ := uI (uI τ (t + 5) (23 - 23) A) (t + 5) (24 - 23) B) hX ht (by omega)) ?_)
    dsimp only
    have x3 : ∀ d, 1 ≤ d → d ≤ 3 → (uI (uI (uI τ (t + 5) (23 - 23) A) (t + 5) (24 - 23) B) (t + 5) (25 - 23) C).2.1 (t + d) = σ.2.1 (t + d) := fun d a b => (t5X d a b).trans ((t5X d a b).trans ((t5X d a b).trans (et d a b)))
    obtain ⟨υ, e, f⟩ := value_eq (N := N) (σ := uI (uI (uI τ (t + 5) (23 - 23) A) (t + 5) (24 - 23) B) (t + 5) (25 - 23) C) hX ht (n := 0) (by omega) (by
      rcases hl with hl | hl
      · exact .inl (by rw [x3 2 (by decide) (by decide)]; exact hl)
      · exact .inr (hl.keep x3)) hN
    refine tx_rcv (σ := uI (uI (uI τ (t + 5) (23 - 23) A) (t + 5) (24 - 23) B) (t + 5) (25 - 23) C) hX ht (ok_rw e ?_)
    refine st_Lt (ok_some ?_)
    dsimp only
    rw [fstX]
    refine ⟨?_, ((((f0.uI (by simp)).uI (by simp)).uI (by simp)).trans (f.mono (by simp))), ?_⟩
    · unfold fsP
      rw [lv_keep x3, lv_congr (q' := qS A B C) hl, hA, hB, hC]
      intro k hk
      unfold asksW at hk
      have : k = 23 ∨ k = 24 ∨ k = 25 := by omega
      rcases this with rfl | rfl | rfl
      · rw [uI_j (by decide), uI_j (by decide), uI_eq]; rfl
      · rw [uI_j (by decide), uI_eq]; rfl
      · rw [uI_eq]; rfl
    · rw [f.2.2 72 (by simp; omega), uI_cell (by omega), uI_cell (by omega), uI_cell (by omega)]
  obtain ⟨⟨υ, v'⟩, e, h1, h2, h3⟩ := H
  dsimp only at h1 h2 h3
  subst h1
  exact ⟨υ, e, h2, h3⟩
theorem paidBy_eq {m t : Nat} {bk : Int} (hI : IMach m bk σ σm) (ht : isT t) {τ : St} (hX : WXr σ.1 σ.2.2) (f0 : FX [72] σ τ) (hl : σ.2.1 (t + 2) 0 = -1 ∨ TLx t 0 σ) {E : Int → Int} (hE : ∀ p : Int, 0 ≤ p → p < 12 → τ.2.1 72 p = cls (E p)) (hr : ∀ p, 0 ≤ E p ∧ E p ≤ 1000000) {ld : Int} (hld : 0 ≤ ld ∧ ld ≤ 1) (hN : 1000 < N) : ∃ υ, f_X1_paidBy N τ 66 ld m t = some (υ, pyN σ m t E ld (fI σ m 1).toNat 0 0) ∧ FX [72, t + 4, t + 5] σ υ := by
  have hm := hI.1
  have hI' := hI
  obtain ⟨i1, i2, i3, i4, ⟨r1, r2, r3, r4, r5⟩, rp, rj, _⟩ := hI
  have htl := isT_le ht
  have hml := isM_le hm
  have H : Ok (f_X1_paidBy N τ 66 ld m t) (fun w => w.2 = pyN σ m t E ld (fI σ m 1).toNat 0 0 ∧ FX [72, t + 4, t + 5] σ w.1) := by
    unfold f_X1_paidBy L_X1_paidBy_6
    refine ok_fix (fun w => FX [72, t + 4, t + 5] σ w.1 ∧ w.1.2.1 72 = τ.2.1 72 ∧ 0 ≤ w.2.2 ∧ w.2.2 ≤ fI σ m 1 ∧ pyN σ m t E ld (fI σ m 1 - w.2.2).toNat w.2.2 w.2.1 = pyN σ m t E ld (fI σ m 1).toNat 0 0) (fun w => (fI σ m 1 - w.2.2).toNat) (fun back w hI hback => ?_) _ ⟨f0.mono (by simp), rfl, Int.le_refl _, r2.2.1, by dsimp only; rw [Int.sub_zero]⟩ (by dsimp only; omega)
    obtain ⟨υ, s, p⟩ := w
    obtain ⟨g1, g2, g3, g4, g5⟩ := hI
    dsimp only at g1 g2 g3 g4 g5 hback ⊢
    have hX' := g1.X hX
    have e0 : fI υ m 1 = fI σ m 1 := g1.f (by simp; omega)
    refine mx_gI hX' hm ?_
    rw [e0]
    refine ok_wlt (by omega) (by omega) (fun h1 => ?_) (fun h1 => ?_)
    · have k1 : (fI σ m 1 - p).toNat = (fI σ m 1 - (p + 1)).toNat + 1 := by omega
      rw [k1] at g5
      have hp := hr p
      refine sx_gR hX' rfl rfl rfl ?_
      refine sx_aI hX' rfl rfl (by decide) (by omega) (by omega) ?_
      rw [g2, hE p g3 (by omega)]
      refine st_Jn ?_
      by_cases hc : E p = 1000000
      · rw [show cls (E p) = -1 from if_pos hc]
        refine ok_weq (by omega) (by omega) (fun h2 => st_Lt ?_) (fun h2 => by exfalso; omega)
        refine hback _ ⟨g1, g2, by dsimp only; omega, by dsimp only; omega, ?_⟩ (by dsimp only; omega)
        rw [← g5]
        show pyN σ m t E ld _ (p + 1) s = pyN σ m t E ld _ (p + 1) (if _ then _ else _)
        rw [if_neg (by omega)]
      · rw [show cls (E p) = E p from if_neg hc]
        refine ok_weq (by omega) (by omega) (fun h2 => by exfalso; omega) (fun h2 => ?_)
        obtain ⟨φ, p1, p2, p3⟩ := paidByFirst_eq (N := N) hI' ht hX' g1 hl (E := E) ⟨g3, h1⟩ (by rw [g2, hE p g3 (by omega)]; exact if_neg hc) hN
        refine sx_rcv hX' rfl rfl (ok_rw p1 ?_)
        refine st_Jn ?_
        dsimp only
        have fin : ∀ x, x = (if ld = 0 then fsP σ m t E p else σ.2.1 (m + 5) p - fsP σ m t E p) → Ok (back (φ, s + x, p + 1)) (fun w => w.2 = pyN σ m t E ld (fI σ m 1).toNat 0 0 ∧ FX [72, t + 4, t + 5] σ w.1) := fun x hx => by
          refine hback _ ⟨p2, p3.trans g2, by dsimp only; omega, by dsimp only; omega, ?_⟩ (by dsimp only; omega)
          rw [← g5]
          show pyN σ m t E ld _ (p + 1) _ = pyN σ m t E ld _ (p + 1) (if _ then _ else _)
          rw [if_pos (by omega), hx]
        refine ok_weqc (by omega) (fun h3 => st_Lt (st_Lt (fin _ (by rw [if_pos h3])))) (fun h3 => ?_)
        refine mx_gR (p2.X hX) hm rfl ?_
        refine mx_aI (p2.X hX) hm rfl (by decide) (by omega) (by omega) ?_
        rw [p2.2.2 (m + 5) (by simp; omega)]
        exact st_Lt (st_Lt (fin _ (by rw [if_neg h3])))
    · have : p = fI σ m 1 := by omega
      subst this
      rw [Int.sub_self] at g5
      exact ok_some ⟨g5, g1⟩
  obtain ⟨⟨υ, v'⟩, e, h1, h2⟩ := H
  dsimp only at h1 h2
  subst h1
  exact ⟨υ, e, h2⟩
theorem paysM {m t : Nat} {bk i : Int} (hI : IMach m bk σ σm) (hi : 0 ≤ i ∧ i ≤ 2) {τ : St} (hM : WMr σm.1 σm.2.2) (f0 : FM [38] [] σm τ) (hl : RTl t i 0 σ σm) {E : Int → Int} (hE : ∀ p : Int, 0 ≤ p → p < 12 → τ.2.1 38 p = E p) (hr : ∀ p, 0 ≤ E p ∧ E p ≤ 1000000) {ld : Int} (hld : 0 ≤ ld ∧ ld ≤ 1) (hN : 1000 < N) : ∃ υ, L_X12_pays_29 N 1 ld i (τ, 0, 0) = some (υ, pyN σ m t E ld (fI σ m 1).toNat 0 0) ∧ FM [38, 31] [50, 51, 52] σm υ := by
  have hm := hI.1
  have hI' := hI
  obtain ⟨i1, i2, i3, i4, ⟨r1, r2, r3, r4, r5⟩, rp, rj, _⟩ := hI
  have H : Ok (L_X12_pays_29 N 1 ld i (τ, 0, 0)) (fun w => w.2 = pyN σ m t E ld (fI σ m 1).toNat 0 0 ∧ FM [38, 31] [50, 51, 52] σm w.1) := by
    unfold L_X12_pays_29
    refine ok_fix (fun w => FM [38, 31] [50, 51, 52] σm w.1 ∧ w.1.2.1 38 = τ.2.1 38 ∧ 0 ≤ w.2.2 ∧ w.2.2 ≤ fI σ m 1 ∧ pyN σ m t E ld (fI σ m 1 - w.2.2).toNat w.2.2 w.2.1 = pyN σ m t E ld (fI σ m 1).toNat 0 0) (fun w => (fI σ m 1 - w.2.2).toNat) (fun back w hI hback => ?_) _ ⟨f0.mono (by simp) (by simp), rfl, Int.le_refl _, r2.2.1, by dsimp only; rw [Int.sub_zero]⟩ (by dsimp only; omega)
    obtain ⟨υ, s, p⟩ := w
    obtain ⟨g1, g2, g3, g4, g5⟩ := hI
    dsimp only at g1 g2 g3 g4 g5 hback ⊢
    have hM' := g1.M hM
    have ec : ∀ q, 4 ≤ q → q ≤ 21 → υ.2.1 q = σm.2.1 q := fun q a b => g1.2.2.1 q (by omega) (by simp; omega)
    have eb : fI υ 1 31 = bk := (g1.f (by decide)).trans i3
    refine sm_rcv hM' (ok_rw (parts_eq hM' eb i4) ?_)
    dsimp only
    rw [ec 5 (by decide) (by decide), r2.1]
    refine ok_wlt (by omega) (by omega) (fun h1 => ?_) (fun h1 => ?_)
    · have k1 : (fI σ m 1 - p).toNat = (fI σ m 1 - (p + 1)).toNat + 1 := by omega
      rw [k1] at g5
      have hp := hr p
      obtain ⟨q1, q2, q3, q4⟩ := rp p g3 h1
      refine sm_gR hM' rfl ?_
      refine sm_aI hM' rfl rfl (by decide) (by omega) (by omega) ?_
      rw [g2, hE p g3 (by omega)]
      refine st_Jn ?_
      refine ok_wlt (by omega) (by omega) (fun h2 => ?_) (fun h2 => st_Lt ?_)
      · refine sm_gR hM' rfl ?_
        refine sm_gI hM' ?_
        rw [eb]
        refine sm_aI hM' rfl rfl (by decide) (by omega) (by omega) ?_
        rw [ec 9 (by decide) (by decide), q1.1]
        generalize hA : σ.2.1 (m + 2) p = A
        refine sm_pI hM' ?_
        refine sm_gR (σ := uF υ 1 50 A) hM' rfl ?_
        refine sm_gI (σ := uF υ 1 50 A) hM' ?_
        rw [fI_j (by decide), eb]
        refine sm_aI (σ := uF υ 1 50 A) hM' rfl rfl (by decide) (by omega) (by omega) ?_
        rw [uF_k (by decide), ec 12 (by decide) (by decide), q4.1]
        generalize hB : σ.2.1 (m + 5) p = B at q4 ⊢
        refine sm_pI (σ := uF υ 1 50 A) hM' ?_
        refine sm_gR (σ := uF (uF υ 1 50 A) 1 51 B) hM' rfl ?_
        refine sm_aI (σ := uF (uF υ 1 50 A) 1 51 B) hM' rfl rfl (by decide) (by omega) (by omega) ?_
        rw [uF_k (by decide), uF_k (by decide), g2, hE p g3 (by omega)]
        generalize hC : E p = C at h2 hp ⊢
        refine sm_pI (σ := uF (uF υ 1 50 A) 1 51 B) hM' ?_
        have f1 : FM [38, 31] [50, 51, 52] υ (uF (uF (uF υ 1 50 A) 1 51 B) 1 52 C) := ((FM.refl.uF (by decide)).uF (by decide)).uF (by decide)
        have f2 := g1.trans f1
        obtain ⟨φ, e, f⟩ := work_eq (N := N) (σm := uF (uF (uF υ 1 50 A) 1 51 B) 1 52 C) hM' hi (n := 0) (by omega) (hl.keep (fun _ _ _ => rfl) (f2.2.2.1 25 (by decide) (by decide)) (f2.2.2.1 26 (by decide) (by decide)) (f2.2.2.1 27 (by decide) (by decide)) (f2.2.2.1 28 (by decide) (by decide)) (f2.2.2.1 32 (by decide) (by decide))) hN
        have hv : lv σ t 0 (fun j => fI (uF (uF (uF υ 1 50 A) 1 51 B) 1 52 C) 1 (50 + j.toNat)) = lv σ t 0 (qS A B C) := by
          refine lv_congr hl.x (fun k hk => ?_)
          unfold asksW at hk
          have : k = 23 ∨ k = 24 ∨ k = 25 := by omega
          rcases this with rfl | rfl | rfl
          · show fI _ 1 50 = A
            rw [fI_j (by decide), fI_j (by decide), fI_eq]
          · show fI _ 1 51 = B
            rw [fI_j (by decide), fI_eq]
          · show fI _ 1 52 = C
            rw [fI_eq]
        rw [hv] at e
        refine sm_rcv (σ := uF (uF (uF υ 1 50 A) 1 51 B) 1 52 C) hM' (ok_rw e ?_)
        refine st_Jn ?_
        dsimp only
        have f3 : FM [38, 31] [50, 51, 52] σm φ := f2.trans (f.mono (by simp) (by simp))
        have hM3 := f3.M hM
        have e51 : fI φ 1 51 = B := by rw [f.f (by simp), fI_j (by decide), fI_eq]
        have e38 : φ.2.1 38 = τ.2.1 38 := by rw [f.2.2.1 38 (by decide) (by decide), uF_cell (by decide), uF_cell (by decide), uF_cell (by decide)]; exact g2
        have fin : ∀ x, x = (if ld = 0 then fsP σ m t E p else σ.2.1 (m + 5) p - fsP σ m t E p) → Ok (back (φ, s + x, p + 1)) (fun w => w.2 = pyN σ m t E ld (fI σ m 1).toNat 0 0 ∧ FM [38, 31] [50, 51, 52] σm w.1) := fun x hx => by
          refine hback _ ⟨f3, e38, by dsimp only; omega, by dsimp only; omega, ?_⟩ (by dsimp only; omega)
          rw [← g5]
          show pyN σ m t E ld _ (p + 1) _ = pyN σ m t E ld _ (p + 1) (if _ then _ else _)
          rw [if_pos (by omega), hx]
        have hfs : fsP σ m t E p = fstV B (lv σ t 0 (qS A B C)) := by unfold fsP; rw [hA, hB, hC]
        have fin2 : ∀ y, Int.tdiv (wr (B * y)) 100 = fsP σ m t E p → Ok (Option.bind (gI shm φ 12 1 51) fun qCost_25 => Lt (Int.tdiv (wr (qCost_25 * y)) 100) fun x26 => Jn (fun t27 : Int => Lt (s + t27) fun x28 => Lt (p + 1) fun x10 => back (φ, x28, x10)) fun J168_28 => (if wr ld = 0 then J168_28 x26 else Option.bind (gI shm φ 12 1 51) fun qCost_30 => J168_28 (qCost_30 - x26))) (fun w => w.2 = pyN σ m t E ld (fI σ m 1).toNat 0 0 ∧ FM [38, 31] [50, 51, 52] σm w.1) := fun y hy => by
          refine sm_gI hM3 ?_
          rw [e51]
          refine st_Lt (st_Jn ?_)
          rw [hy]
          refine ok_weqc (by omega) (fun h3 => st_Lt (st_Lt (fin _ (by rw [if_pos h3])))) (fun h3 => ?_)
          refine sm_gI hM3 ?_
          rw [e51]
          exact st_Lt (st_Lt (fin _ (by rw [if_neg h3, hB])))
        generalize hV : lv σ t 0 (qS A B C) = V at hfs ⊢
        have w1 : wr 100 = 100 := by decide
        refine ok_ite (fun h3 => fin2 0 ?_) (fun h3 => ok_ite (fun h4 => fin2 100 ?_) (fun h4 => fin2 V ?_))
        · rw [hfs]; unfold fstV clp; rw [if_pos h3]
        · rw [hfs]; unfold fstV clp; rw [if_neg h3, if_pos (by omega)]
        · rw [hfs]; unfold fstV clp; rw [if_neg h3, if_neg (by omega), wr_mul]
      · refine hback _ ⟨g1, g2, by dsimp only; omega, by dsimp only; omega, ?_⟩ (by dsimp only; omega)
        rw [← g5]
        show pyN σ m t E ld _ (p + 1) s = pyN σ m t E ld _ (p + 1) (if _ then _ else _)
        rw [if_neg (by omega)]
    · have : p = fI σ m 1 := by omega
      subst this
      rw [Int.sub_self] at g5
      exact ok_some ⟨g5, g1⟩
  obtain ⟨⟨υ, v'⟩, e, h1, h2⟩ := H
  dsimp only at h1 h2
  subst h1
  exact ⟨υ, e, h2⟩
theorem op_pays (hX : WXr σ.1 σ.2.2) (hM : WMr σm.1 σm.2.2) {m : Nat} {bk : Int} (hI : IMach m bk σ σm) (hF : IFacts σ σm) {t : Int → Nat} {sp : Nat} (hT : ITre t sp σ σm) {a b c : Int} (ha : wr a = a) (hb : wr b = b) (hc : wr c = c) (hN : 1000 < N) : Ok (f_X11_pays N σ 1 a b c) (fun v => Ok (f_X12_pays N σm 1 a b c) (fun w => wr v.2 = wr w.2 ∧ FX [72, t b + 4, t b + 5] σ v.1 ∧ FM [38, 31] [50, 51, 52] σm w.1)) := by
  have hr := wr_rg ha
  have hs := wr_rg hb
  have ht := wr_rg hc
  unfold f_X11_pays f_X12_pays
  refine ok_within (by omega) (by omega) (by omega) (fun h1 => ?_) (fun h1 => ?_)
  · refine ok_z1 ?_
    refine ok_tongue hs (fun h2 => ?_) (fun h2 => ?_)
    · refine ok_z1 ?_
      obtain ⟨τ, t1, t2, t3⟩ := findMonths_eq hX hI hF ht hN
      obtain ⟨υ, u1, u2, u3⟩ := findMoves_eq hM hI hF ht hN
      obtain ⟨tb, tr⟩ := hT.1.1 b h2.1 (by omega)
      have rt := hT.2.1 b h2.1 (by omega) 0 (by omega) (by omega)
      obtain ⟨φ, p1, p2⟩ := paidBy_eq (N := N) hI tb hX t2 rt.x t3 (moE_rg hI hF c) h1 hN
      obtain ⟨ψ, s1, s2⟩ := paysM (N := N) hI (by omega) hM u2 rt u3 (moE_rg hI hF c) h1 hN
      refine sx_gR hX rfl rfl rfl ?_
      refine sx_gR1 hX hI.2.1 ?_
      refine sx_rcv hX rfl rfl (ok_rw t1 ?_)
      dsimp only
      refine sx_gR (t2.X hX) rfl rfl rfl ?_
      refine sx_gR1 (m := m) (t2.X hX) (by rw [t2.2.1]; exact hI.2.1) ?_
      refine sx_gR (t2.X hX) rfl rfl rfl ?_
      refine sx_aR (v := t b) (t2.X hX) rfl rfl (by decide) (by omega) (by omega) (by rw [t2.2.1]; exact tr) ?_
      refine sx_rcv (t2.X hX) rfl rfl (ok_rw p1 (ok_some ?_))
      refine ok_isIn (by omega) (by omega) (by omega) (fun h3 => ?_) (fun h3 => by exfalso; omega)
      refine ok_z1 ?_
      refine om_tongue hs (fun h4 => ?_) (fun h4 => by exfalso; omega)
      refine ok_z1 ?_
      refine sm_rcv hM (ok_rw u1 ?_)
      dsimp only
      rw [s1]
      exact ok_some ⟨rfl, p2, s2⟩
    · refine ok_z0 (ok_some ?_)
      refine ok_isIn (by omega) (by omega) (by omega) (fun h3 => ?_) (fun h3 => by exfalso; omega)
      refine ok_z1 ?_
      exact om_tongue hs (fun h4 => by exfalso; omega) (fun h4 => ok_z0 (ok_some ⟨rfl, FX.refl, FM.refl⟩))
  · refine ok_z0 (ok_some ?_)
    exact ok_isIn (by omega) (by omega) (by omega) (fun h3 => by exfalso; omega) (fun h3 => ok_z0 (ok_some ⟨rfl, FX.refl, FM.refl⟩))
end F
