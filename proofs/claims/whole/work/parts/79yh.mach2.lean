/-! the pure part: the lines of a machine, the class -/
section F
variable {N : Nat} {σ τ υ : St} {z : Zs} {r : RS}
def rP1 (z : Zs) (nm : Int → Int) (P k : Int) : RS := opNew z nm P (.inr (nxt z k))
def rP2 (z : Zs) (nm : Int → Int) (P k : Int) : RS := opN z 0 1 (opX z 1 (rP1 z nm P k))
def rP3 (z : Zs) (nm : Int → Int) (P k : Int) : RS := opN z 1 999 (opX z 2 (rP2 z nm P k))
def cmi (x : Int) : Bool := decide (x = 4 ∨ x = 3)
def rP4 (z : Zs) (nm : Int → Int) (P k : Int) : RS := opC z cmi (rP3 z nm P k)
def rP5 (z : Zs) (nm : Int → Int) (P k : Int) : RS := opN z 0 99 (opX z 5 (rP4 z nm P k))
def rP6 (z : Zs) (nm : Int → Int) (P k : Int) : RS := opN z 0 999 (opX z 6 (rP5 z nm P k))
def rP7 (z : Zs) (nm : Int → Int) (P k : Int) : RS := opX z 59 (rP6 z nm P k)
/-- a length as it is drawn -/
def lenV (z : Zs) (v : Int) (r : RS) : Int := match r with
  | .inl _ => 0
  | .inr k => if kZ z k = 4 then Int.tdiv (wr (v * 254)) 10 else v * 10
def vBy (z : Zs) (nm : Int → Int) (P k : Int) : Int := valN z (opX z 1 (rP1 z nm P k))
def vLen (z : Zs) (nm : Int → Int) (P k : Int) : Int := lenV z (valN z (opX z 2 (rP2 z nm P k))) (rP3 z nm P k)
def vGr (z : Zs) (nm : Int → Int) (P k : Int) : Int := valN z (opX z 5 (rP4 z nm P k))
def vCo (z : Zs) (nm : Int → Int) (P k : Int) : Int := valN z (opX z 6 (rP5 z nm P k))
theorem opC_al {c : Int → Bool} {k' : Int} (h : opC z c r = .inr k') : ∃ k, r = .inr k ∧ c (kZ z k) = true ∧ k' = nxt z k := by
  match r, h with
  | .inl d, h => cases h
  | .inr k, h =>
    have h : (if c (kZ z k) = true then Sum.inr (nxt z k) else Sum.inl (bad (kZ z k) 2, pZ z k) : RS) = .inr k' := h
    by_cases q : c (kZ z k) = true
    · rw [if_pos q] at h
      cases h
      exact ⟨k, rfl, q, rfl⟩
    · rw [if_neg q] at h; cases h
theorem opX_al {w k' : Int} (h : opX z w r = .inr k') : ∃ k, r = .inr k ∧ kZ z k = w ∧ k' = nxt z k := by
  obtain ⟨k, h1, h2, h3⟩ := opC_al h
  exact ⟨k, h1, of_decide_eq_true h2, h3⟩
theorem opN_al {lo hi k' : Int} (h : opN z lo hi r = .inr k') : ∃ k, r = .inr k ∧ kZ z k = 101 ∧ (lo ≤ wZ z k ∧ wZ z k ≤ hi) ∧ k' = nxt z k := by
  match r, h with
  | .inl d, h => cases h
  | .inr k, h =>
    have h : (if kZ z k = 101 then (if lo ≤ wZ z k ∧ wZ z k ≤ hi then Sum.inr (nxt z k) else Sum.inl (4, pZ z k)) else Sum.inl (bad (kZ z k) 2, pZ z k) : RS) = .inr k' := h
    by_cases q : kZ z k = 101
    · rw [if_pos q] at h
      by_cases q2 : lo ≤ wZ z k ∧ wZ z k ≤ hi
      · rw [if_pos q2] at h
        cases h
        exact ⟨k, rfl, q, q2, rfl⟩
      · rw [if_neg q2] at h; cases h
    · rw [if_neg q] at h; cases h
theorem opNew_al {nm : Int → Int} {P k' : Int} (h : opNew z nm P r = .inr k') : ∃ k, r = .inr k ∧ kZ z k = 100 ∧ fdW nm (wZ z k) P.toNat = -1 ∧ k' = nxt z k := by
  match r, h with
  | .inl d, h => cases h
  | .inr k, h =>
    have h : (if kZ z k = 100 then (if fdW nm (wZ z k) P.toNat = -1 then Sum.inr (nxt z k) else Sum.inl (3, pZ z k)) else Sum.inl (bad (kZ z k) 2, pZ z k) : RS) = .inr k' := h
    by_cases q : kZ z k = 100
    · rw [if_pos q] at h
      by_cases q2 : fdW nm (wZ z k) P.toNat = -1
      · rw [if_pos q2] at h
        cases h
        exact ⟨k, rfl, q, q2, rfl⟩
      · rw [if_neg q2] at h; cases h
    · rw [if_neg q] at h; cases h
theorem opOld_al {nm : Int → Int} {P b k' : Int} (h : opOld z nm P b r = .inr k') : ∃ k, r = .inr k ∧ kZ z k = 100 ∧ (0 ≤ fdW nm (wZ z k) P.toNat ∧ fdW nm (wZ z k) P.toNat < (P.toNat : Int) ∧ fdW nm (wZ z k) P.toNat ≠ b) ∧ k' = nxt z k := by
  match r, h with
  | .inl d, h => cases h
  | .inr k, h =>
    have h : (if kZ z k = 100 then (if fdW nm (wZ z k) P.toNat = -1 then Sum.inl (5, pZ z k) else if fdW nm (wZ z k) P.toNat = b then Sum.inl (6, pZ z k) else Sum.inr (nxt z k)) else Sum.inl (bad (kZ z k) 2, pZ z k) : RS) = .inr k' := h
    by_cases q : kZ z k = 100
    · rw [if_pos q] at h
      by_cases q2 : fdW nm (wZ z k) P.toNat = -1
      · rw [if_pos q2] at h; cases h
      · rw [if_neg q2] at h
        by_cases q3 : fdW nm (wZ z k) P.toNat = b
        · rw [if_pos q3] at h; cases h
        · rw [if_neg q3] at h
          cases h
          have := fdW_rg nm (wZ z k) P.toNat
          exact ⟨k, rfl, q, ⟨by omega, by omega, q3⟩, rfl⟩
    · rw [if_neg q] at h; cases h
theorem cmi_any {t : Int} (h : ∀ k, r = .inr k → t = if kZ z k = 4 then 4 else 3) : opX z t r = opC z cmi r := by
  match r, h with
  | .inl d, _ => rfl
  | .inr k, h =>
    rw [h k rfl]
    show (if decide (kZ z k = (if kZ z k = 4 then 4 else 3)) = true then _ else _) = (if cmi (kZ z k) = true then _ else _)
    unfold cmi
    by_cases c : kZ z k = 4
    · rw [if_pos c, if_pos (decide_eq_true c), if_pos (decide_eq_true (.inl c))]
    · rw [if_neg c]
      by_cases c2 : kZ z k = 3
      · rw [if_pos (decide_eq_true c2), if_pos (decide_eq_true (.inr c2))]
      · rw [if_neg (by simp; exact c2), if_neg (by simp; exact ⟨c, c2⟩)]
theorem td_eq {v : Int} (h : 1 ≤ v ∧ v ≤ 999) : 25 ≤ Int.tdiv (wr (v * 254)) 10 ∧ Int.tdiv (wr (v * 254)) 10 ≤ 25374 := by
  rw [wr_id (by omega) (by omega), Int.tdiv_eq_ediv_of_nonneg (by omega)]
  omega
/-- a PART's line -/
theorem partX {m : Nat} {P k : Int} {nm : Int → Int} (hz : Str z) (hm : isM m) (h : XR z (.inr k) σ) (hP : fI σ m 1 = P) (hr : 0 ≤ P ∧ P < 12) (hn : ∀ i : Int, 0 ≤ i → i < P → σ.2.1 (m + 1) i = nm i) (hN : 100 < N) : ∃ τ, f_X3_readPart N σ m 2 = some (τ, 0) ∧ FA (fun k i => k = 2 ∨ (m + 1 ≤ k ∧ k ≤ m + 5 ∧ i = P) ∨ (k = m ∧ i = 1)) σ τ ∧ XR z (rP7 z nm P k) τ ∧ ∀ k', rP7 z nm P k = .inr k' → fI τ m 1 = P + 1 ∧ τ.2.1 (m + 1) P = wZ z (nxt z k) ∧ (τ.2.1 (m + 2) P = vBy z nm P k ∧ 0 ≤ vBy z nm P k ∧ vBy z nm P k ≤ 1) ∧ (τ.2.1 (m + 3) P = vLen z nm P k ∧ 10 ≤ vLen z nm P k ∧ vLen z nm P k ≤ 25374) ∧ (τ.2.1 (m + 4) P = vGr z nm P k ∧ 0 ≤ vGr z nm P k ∧ vGr z nm P k ≤ 99) ∧ (τ.2.1 (m + 5) P = vCo z nm P k ∧ 0 ≤ vCo z nm P k ∧ vCo z nm P k ≤ 999) := by
  have hml := isM_le hm
  have hX := h.1
  have H : Ok (f_X3_readPart N σ m 2) (fun q => q.2 = 0 ∧ FA (fun k i => k = 2 ∨ (m + 1 ≤ k ∧ k ≤ m + 5 ∧ i = P) ∨ (k = m ∧ i = 1)) σ q.1 ∧ XR z (rP7 z nm P k) q.1 ∧ ∀ k', rP7 z nm P k = .inr k' → fI q.1 m 1 = P + 1 ∧ q.1.2.1 (m + 1) P = wZ z (nxt z k) ∧ (q.1.2.1 (m + 2) P = vBy z nm P k ∧ 0 ≤ vBy z nm P k ∧ vBy z nm P k ≤ 1) ∧ (q.1.2.1 (m + 3) P = vLen z nm P k ∧ 10 ≤ vLen z nm P k ∧ vLen z nm P k ≤ 25374) ∧ (q.1.2.1 (m + 4) P = vGr z nm P k ∧ 0 ≤ vGr z nm P k ∧ vGr z nm P k ≤ 99) ∧ (q.1.2.1 (m + 5) P = vCo z nm P k ∧ 0 ≤ vCo z nm P k ∧ vCo z nm P k ≤ 999)) := by
    unfold f_X3_readPart
    refine mx_gI hX hm ?_
    rw [hP]
    refine ok_wlt (by omega) (by omega) (fun _ => ?_) (fun q => by omega)
    obtain ⟨t1, e1, x1, f1⟩ := adv_eq (N := N) hz h
    refine sx_rcv hX rfl rfl (ok_rw e1 ?_)
    have F1 : FA (fun k i => k = 2 ∨ (m + 1 ≤ k ∧ k ≤ m + 5 ∧ i = P)) σ t1 := f1.fa fun _ => .inl rfl
    have P1 : fI t1 m 1 = P := (F1.f (by omega)).trans hP
    obtain ⟨t2, e2, f2, x2, w2⟩ := newX (N := N) (nm := nm) hz hm x1 P1 hr (fun i a b => (F1.c (by omega)).trans (hn i a b)) hN
    refine mx_rcv x1.1 hm (ok_rw e2 ?_)
    have F2 := F1.trans (f2.mono (B := fun k i => k = 2 ∨ (m + 1 ≤ k ∧ k ≤ m + 5 ∧ i = P)) fun k i q => by omega)
    have P2 : fI t2 m 1 = P := (F2.f (by omega)).trans hP
    have x2 : XR z (rP1 z nm P k) t2 := x2
    refine mx_gR x2.1 hm rfl ?_
    refine mx_gI x2.1 hm ?_
    rw [P2]
    obtain ⟨t3, v3, e3, x3, f3, g3⟩ := behind_eq (N := N) hz x2 (w := 1) (lo := 0) (hi := 1) (by decide) (by decide)
    refine sx_rcv x2.1 rfl rfl (ok_rw e3 ?_)
    have F3 := F2.trans (f3.fa fun _ => .inl rfl)
    have x3 : XR z (rP2 z nm P k) t3 := x3
    refine mx_sI x3.1 hm rfl (by decide) (by omega) (by omega) ?_
    have x4 : XR z (rP2 z nm P k) (uI t3 (m + 2) P v3) := x3.wI (by omega)
    have F4 : FA (fun k i => k = 2 ∨ (m + 1 ≤ k ∧ k ≤ m + 5 ∧ i = P)) σ (uI t3 (m + 2) P v3) := F3.wI (by omega)
    have w4 : (uI t3 (m + 2) P v3).2.1 (m + 2) P = v3 := uI_eq
    have n4 : (uI t3 (m + 2) P v3).2.1 (m + 1) P = t2.2.1 (m + 1) P := (uI_k (by omega)).trans (f3.c (by omega) (by simp))
    generalize uI t3 (m + 2) P v3 = t4 at x4 F4 w4 n4 ⊢
    obtain ⟨t5, v5, e5, x5, f5, g5⟩ := behind_eq (N := N) hz x4 (w := 2) (lo := 1) (hi := 999) (by decide) (by decide)
    refine sx_rcv x4.1 rfl rfl (ok_rw e5 ?_)
    have F5 := F4.trans (f5.fa fun _ => .inl rfl)
    have x5 : XR z (rP3 z nm P k) t5 := x5
    have P5 : fI t5 m 1 = P := (F5.f (by omega)).trans hP
    refine mx_gR x5.1 hm rfl ?_
    refine mx_gI x5.1 hm ?_
    rw [P5]
    refine sx_gI x5.1 rfl rfl ?_
    have k5 : ∀ k3, rP3 z nm P k = .inr k3 → fI t5 2 8 = kZ z k3 ∧ (0 ≤ kZ z k3 ∧ kZ z k3 ≤ 103) := fun k3 q => by
      rw [q] at x5
      exact ⟨x5.kd.2.1, (hz.rg x5.kd.1).2.1⟩
    refine ok_JnC (fun x => ∀ k3, rP3 z nm P k = .inr k3 → x = lenV z v5 (rP3 z nm P k)) (fun x6 hx6 => ?_) (fun J hJ => ?_)
    · refine mx_sI x5.1 hm rfl (by decide) (by omega) (by omega) ?_
      have y6 : XR z (rP3 z nm P k) (uI t5 (m + 3) P x6) := x5.wI (by omega)
      have F6 : FA (fun k i => k = 2 ∨ (m + 1 ≤ k ∧ k ≤ m + 5 ∧ i = P)) σ (uI t5 (m + 3) P x6) := F5.wI (by omega)
      have w6 : (uI t5 (m + 3) P x6).2.1 (m + 3) P = x6 := uI_eq
      have n6 : (uI t5 (m + 3) P x6).2.1 (m + 1) P = t2.2.1 (m + 1) P := (uI_k (by omega)).trans ((f5.c (by omega) (by simp)).trans n4)
      have m6 : (uI t5 (m + 3) P x6).2.1 (m + 2) P = v3 := (uI_k (by omega)).trans ((f5.c (by omega) (by simp)).trans w4)
      have k6 : fI (uI t5 (m + 3) P x6) 2 8 = fI t5 2 8 := fI_uk (by omega)
      generalize uI t5 (m + 3) P x6 = t6 at y6 F6 w6 n6 m6 k6 ⊢
      refine sx_gI y6.1 rfl rfl ?_
      rw [k6]
      refine ok_JnC (fun t => (t = 4 ∨ t = 3) ∧ ∀ k3, rP3 z nm P k = .inr k3 → t = if kZ z k3 = 4 then 4 else 3) (fun t ht => ?_) (fun J2 hJ2 => ?_)
      · obtain ⟨t7, e7, x7, f7⟩ := expect_eq (N := N) hz y6 (w := t) (by omega)
        refine sx_rcv y6.1 rfl rfl (ok_rw e7 ?_)
        rw [cmi_any ht.2] at x7
        have x7 : XR z (rP4 z nm P k) t7 := x7
        have F7 := F6.trans (f7.fa fun _ => .inl rfl)
        have P7 : fI t7 m 1 = P := (F7.f (by omega)).trans hP
        refine mx_gR x7.1 hm rfl ?_
        refine mx_gI x7.1 hm ?_
        rw [P7]
        obtain ⟨t8, v8, e8, x8, f8, g8⟩ := behind_eq (N := N) hz x7 (w := 5) (lo := 0) (hi := 99) (by decide) (by decide)
        refine sx_rcv x7.1 rfl rfl (ok_rw e8 ?_)
        have F8 := F7.trans (f8.fa fun _ => .inl rfl)
        have x8 : XR z (rP5 z nm P k) t8 := x8
        refine mx_sI x8.1 hm rfl (by decide) (by omega) (by omega) ?_
        have x9 : XR z (rP5 z nm P k) (uI t8 (m + 4) P v8) := x8.wI (by omega)
        have F9 : FA (fun k i => k = 2 ∨ (m + 1 ≤ k ∧ k ≤ m + 5 ∧ i = P)) σ (uI t8 (m + 4) P v8) := F8.wI (by omega)
        have w9 : (uI t8 (m + 4) P v8).2.1 (m + 4) P = v8 := uI_eq
        have n9 : ∀ d, d ≤ m + 3 → d ≠ 2 → (uI t8 (m + 4) P v8).2.1 d P = t6.2.1 d P := fun d hd d2 => (uI_k (by omega)).trans ((f8.c d2 (by simp)).trans (f7.c d2 (by simp)))
        generalize uI t8 (m + 4) P v8 = t9 at x9 F9 w9 n9 ⊢
        have P9 : fI t9 m 1 = P := (F9.f (by omega)).trans hP
        refine mx_gR x9.1 hm rfl ?_
        refine mx_gI x9.1 hm ?_
        rw [P9]
        obtain ⟨t10, v10, e10, x10, f10, g10⟩ := behind_eq (N := N) hz x9 (w := 6) (lo := 0) (hi := 999) (by decide) (by decide)
        refine sx_rcv x9.1 rfl rfl (ok_rw e10 ?_)
        have F10 := F9.trans (f10.fa fun _ => .inl rfl)
        have x10 : XR z (rP6 z nm P k) t10 := x10
        refine mx_sI x10.1 hm rfl (by decide) (by omega) (by omega) ?_
        have x11 : XR z (rP6 z nm P k) (uI t10 (m + 5) P v10) := x10.wI (by omega)
        have F11 : FA (fun k i => k = 2 ∨ (m + 1 ≤ k ∧ k ≤ m + 5 ∧ i = P)) σ (uI t10 (m + 5) P v10) := F10.wI (by omega)
        have w11 : (uI t10 (m + 5) P v10).2.1 (m + 5) P = v10 := uI_eq
        have n11 : ∀ d, d ≤ m + 4 → d ≠ 2 → (uI t10 (m + 5) P v10).2.1 d P = t9.2.1 d P := fun d hd d2 => (uI_k (by omega)).trans (f10.c d2 (by simp))
        generalize uI t10 (m + 5) P v10 = t11 at x11 F11 w11 n11 ⊢
        obtain ⟨t12, e12, x12, f12⟩ := expect_eq (N := N) hz x11 (w := 59) (by decide)
        refine sx_rcv x11.1 rfl rfl (ok_rw e12 ?_)
        have x12 : XR z (rP7 z nm P k) t12 := x12
        have F12 := F11.trans (f12.fa fun _ => .inl rfl)
        have n12 : ∀ d, d ≠ 2 → t12.2.1 d P = t11.2.1 d P := fun d d2 => f12.c d2 (by simp)
        have P12 : fI t12 m 1 = P := (F12.f (by omega)).trans hP
        refine sx_rcv x12.1 rfl rfl (ok_rw (sound_eq x12) ?_)
        have G12 : FA (fun k i => k = 2 ∨ (m + 1 ≤ k ∧ k ≤ m + 5 ∧ i = P) ∨ (k = m ∧ i = 1)) σ t12 := F12.mono fun k i q => by omega
        match hr7 : rP7 z nm P k, x12 with
        | .inl d, x12 => exact ok_z0 (ok_some ⟨rfl, G12, x12, fun k' q => by cases q⟩)
        | .inr kk, x12 =>
          refine ok_z1 ?_
          refine mx_gI x12.1 hm ?_
          rw [P12]
          refine mx_pI x12.1 hm (ok_some ⟨rfl, G12.wF (.inr (.inr ⟨rfl, rfl⟩)), x12.wF (by omega), fun k' _ => ?_⟩)
          obtain ⟨a6, r6, _, _⟩ := opX_al hr7
          obtain ⟨b6, s6, _, u6, _⟩ := opN_al r6
          obtain ⟨a5, r5, _, _⟩ := opX_al s6
          obtain ⟨b5, s5, _, u5, _⟩ := opN_al r5
          obtain ⟨a4, r4, _, _⟩ := opX_al s5
          obtain ⟨a3, r3, _, _⟩ := opC_al r4
          obtain ⟨b3, s3, _, u3, _⟩ := opN_al r3
          obtain ⟨a2, r2, _, _⟩ := opX_al s3
          obtain ⟨b2, s2, _, u2, _⟩ := opN_al r2
          obtain ⟨a1, r1, _, _⟩ := opX_al s2
          have q3 := g3 _ r2
          have q5 := g5 _ r3
          have q8 := g8 _ r5
          have q10 := g10 _ r6
          have ww := w2 _ _ rfl r1
          have hx6' := hx6 _ r3
          have e6 : x6 = vLen z nm P k := by rw [hx6', q5.1]; rfl
          have l6 : 10 ≤ x6 ∧ x6 ≤ 25374 := by
            rw [hx6', r3]
            show 10 ≤ (if kZ z a3 = 4 then Int.tdiv (wr (v5 * 254)) 10 else v5 * 10) ∧ (if kZ z a3 = 4 then Int.tdiv (wr (v5 * 254)) 10 else v5 * 10) ≤ 25374
            split
            · have := td_eq q5.2; omega
            · omega
          have cc : ∀ d : Nat, d ≠ 0 → (uF t12 m 1 (P + 1)).2.1 (m + d) P = t12.2.1 (m + d) P := fun d hd => uF_k (by omega)
          refine ⟨fI_eq, ?_, ⟨?_, ?_⟩, ⟨?_, ?_⟩, ⟨?_, ?_⟩, ⟨?_, ?_⟩⟩
          · rw [cc 1 (by decide), n12 _ (by omega), n11 _ (by omega) (by omega), n9 _ (by omega) (by omega), n6]; exact ww
          · rw [cc 2 (by decide), n12 _ (by omega), n11 _ (by omega) (by omega), n9 _ (by omega) (by omega), m6]; exact q3.1
          · rw [show vBy z nm P k = v3 from q3.1.symm]; exact q3.2
          · rw [cc 3 (by decide), n12 _ (by omega), n11 _ (by omega) (by omega), n9 _ (by omega) (by omega), w6]; exact e6
          · rw [← e6]; exact l6
          · rw [cc 4 (by decide), n12 _ (by omega), n11 _ (by omega) (by omega), w9]; exact q8.1
          · rw [show vGr z nm P k = v8 from q8.1.symm]; exact q8.2
          · rw [cc 5 (by decide), n12 _ (by omega), w11]; exact q10.1
          · rw [show vCo z nm P k = v10 from q10.1.symm]; exact q10.2
      · match h3 : rP3 z nm P k, x5, k5 with
        | .inl d, x5, k5 => exact ok_ite (fun _ => hJ2 _ ⟨.inl rfl, fun k3 q => by rw [h3] at q; cases q⟩) (fun _ => hJ2 _ ⟨.inr rfl, fun k3 q => by rw [h3] at q; cases q⟩)
        | .inr k3, x5, k5 =>
          have k5 := k5 k3 rfl
          rw [k5.1]
          refine ok_weq (by omega) (by omega) (fun c => hJ2 _ ⟨.inl rfl, fun k4 q => ?_⟩) (fun c => hJ2 _ ⟨.inr rfl, fun k4 q => ?_⟩)
          · rw [h3] at q; cases q; rw [if_pos c]
          · rw [h3] at q; cases q; rw [if_neg c]
    · match h3 : rP3 z nm P k, k5 with
      | .inl d, k5 => exact ok_ite (fun _ => hJ _ (fun k3 q => by rw [h3] at q; cases q)) (fun _ => hJ _ (fun k3 q => by rw [h3] at q; cases q))
      | .inr k3, k5 =>
        have k5 := k5 k3 rfl
        rw [k5.1]
        have lv : lenV z v5 (rP3 z nm P k) = if kZ z k3 = 4 then Int.tdiv (wr (v5 * 254)) 10 else v5 * 10 := by rw [h3]; rfl
        refine ok_weq (by omega) (by omega) (fun c => hJ _ (fun k4 q => ?_)) (fun c => hJ _ (fun k4 q => ?_))
        · rw [lv, if_pos c]
        · rw [lv, if_neg c]
  obtain ⟨⟨τ, v⟩, e, h1, h2⟩ := H
  dsimp only at h1 h2
  subst h1
  exact ⟨τ, e, h2⟩
end F
