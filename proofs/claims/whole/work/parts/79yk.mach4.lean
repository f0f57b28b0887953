/-! the pure part: the lines of a machine, the class: a row; any line -/
section F
variable {N : Nat} {σ τ υ : St} {z : Zs} {r : RS}
def opW (z : Zs) (r : RS) : RS := match r with
  | .inl d => .inl d
  | .inr k => if kZ z k = 100 ∨ kZ z k ≤ 33 then (if gdB (wZ z k) = true then .inr (nxt z k) else .inl (4, pZ z k)) else .inl (bad (kZ z k) 2, pZ z k)
def rR0 (z : Zs) (tb : Int → Int) (k : Int) : RS := if kZ z k = 101 ∧ wZ z k ≤ 7 ∧ tb (wZ z k) = 1 then .inl (3, pZ z k) else .inr k
def rR1 (z : Zs) (tb : Int → Int) (k : Int) : RS := opN z 0 7 (rR0 z tb (nxt z k))
def rR2 (z : Zs) (tb : Int → Int) (k : Int) : RS := opW z (rR1 z tb k)
def rR3 (z : Zs) (tb : Int → Int) (k : Int) : RS := opX z 59 (rR2 z tb k)
theorem opW_al {k' : Int} (h : opW z r = .inr k') : ∃ k, r = .inr k ∧ (kZ z k = 100 ∨ kZ z k ≤ 33) ∧ gdB (wZ z k) = true ∧ k' = nxt z k := by
  match r, h with
  | .inl d, h => cases h
  | .inr k, h =>
    have h : (if kZ z k = 100 ∨ kZ z k ≤ 33 then (if gdB (wZ z k) = true then Sum.inr (nxt z k) else Sum.inl (4, pZ z k)) else Sum.inl (bad (kZ z k) 2, pZ z k) : RS) = .inr k' := h
    by_cases q : kZ z k = 100 ∨ kZ z k ≤ 33
    · rw [if_pos q] at h
      by_cases q2 : gdB (wZ z k) = true
      · rw [if_pos q2] at h
        cases h
        exact ⟨k, rfl, q, q2, rfl⟩
      · rw [if_neg q2] at h; cases h
    · rw [if_neg q] at h; cases h
theorem rR0_al {tb : Int → Int} {k k' : Int} (h : rR0 z tb k = .inr k') : k' = k ∧ ¬ (kZ z k = 101 ∧ wZ z k ≤ 7 ∧ tb (wZ z k) = 1) := by
  unfold rR0 at h
  by_cases q : kZ z k = 101 ∧ wZ z k ≤ 7 ∧ tb (wZ z k) = 1
  · rw [if_pos q] at h; cases h
  · rw [if_neg q] at h; cases h; exact ⟨rfl, q⟩
theorem Str.wrg (h : Str z) {q : Int} (hq : 0 ≤ q ∧ q < KZ z) : 0 ≤ wZ z q ∧ wZ z q < 1099511627776 := by
  obtain ⟨⟨h1, h2, h3, h4⟩, h5⟩ := h.tok hq
  rcases h5 with h5 | ⟨g1, g2, g3, g4, g5, g6, g7⟩ | ⟨g1, g2, g3, g4, g5, g6, g7⟩ | ⟨g1, g2, g3, g4, g5, g6, g7⟩
  · omega
  · rw [g6]
    refine pkA_rg (fun j hj => ?_) (by split <;> omega)
    have := g4 (pZ z q + (j : Int)) (by omega) (by split at hj <;> omega)
    exact this
  · rw [g6]
    have : 0 ≤ pkD (tZ z) (pZ z q) (if eZ z (q + 1) - pZ z q ≤ 4 then eZ z (q + 1) - pZ z q else 4).toNat ∧ pkD (tZ z) (pZ z q) (if eZ z (q + 1) - pZ z q ≤ 4 then eZ z (q + 1) - pZ z q else 4).toNat ≤ 9999 := by
      refine pkD_rg (fun j hj => ?_) (by split <;> omega)
      have := g4 (pZ z q + (j : Int)) (by omega) (by split at hj <;> omega)
      exact this
    omega
  · omega
/-- the letters of a row -/
theorem groundsX {m : Nat} {R k : Int} (hz : Str z) (hm : isM m) (h : XR z (.inr k) σ) (hR : 0 ≤ R ∧ R ≤ 7) (hN : 100 < N) : ∃ τ, f_X3_readGrounds N σ m 2 R = some (τ, 0) ∧ FA (fun k i => k = 2 ∨ (k = m + 14 ∧ 8 * R ≤ i ∧ i < 8 * R + 8)) σ τ ∧ XR z (opW z (.inr k)) τ ∧ ∀ k', opW z (.inr k) = .inr k' → ∀ x : Nat, x < 8 → τ.2.1 (m + 14) (8 * R + (x : Int)) = ltr (wZ z k) x - 1 := by
  have hml := isM_le hm
  have hX := h.1
  obtain ⟨k1, k2, k3⟩ := h.kd
  have rk := hz.rg k1
  have rw0 := hz.wrg k1
  have H : Ok (f_X3_readGrounds N σ m 2 R) (fun q => q.2 = 0 ∧ FA (fun k i => k = 2 ∨ (k = m + 14 ∧ 8 * R ≤ i ∧ i < 8 * R + 8)) σ q.1 ∧ XR z (opW z (.inr k)) q.1 ∧ ∀ k', opW z (.inr k) = .inr k' → ∀ x : Nat, x < 8 → q.1.2.1 (m + 14) (8 * R + (x : Int)) = ltr (wZ z k) x - 1) := by
    have aw : ∃ b, f_X6_atWord N σ 2 = some (σ, b) ∧ ((b = 1 ∧ (kZ z k = 100 ∨ kZ z k ≤ 33)) ∨ (b = 0 ∧ ¬ (kZ z k = 100 ∨ kZ z k ≤ 33))) := by
      have H : Ok (f_X6_atWord N σ 2) (fun q => q.1 = σ ∧ ((q.2 = 1 ∧ (kZ z k = 100 ∨ kZ z k ≤ 33)) ∨ (q.2 = 0 ∧ ¬ (kZ z k = 100 ∨ kZ z k ≤ 33)))) := by
        unfold f_X6_atWord
        refine sx_gI hX rfl rfl ?_
        rw [k2]
        refine ok_weq (by omega) (by omega) (fun c => ok_some ⟨rfl, .inl ⟨rfl, .inl c⟩⟩) (fun c => ?_)
        refine sx_gI hX rfl rfl ?_
        rw [k2]
        exact ok_within (by omega) (by omega) (by omega) (fun c2 => ok_z1 (ok_some ⟨rfl, .inl ⟨rfl, .inr c2.2⟩⟩)) (fun c2 => ok_z0 (ok_some ⟨rfl, .inr ⟨rfl, by omega⟩⟩))
      obtain ⟨⟨υ, b⟩, e, h1, h2⟩ := H
      dsimp only at h1 h2
      subst h1
      exact ⟨b, e, h2⟩
    obtain ⟨b, eb, hb⟩ := aw
    unfold f_X3_readGrounds
    refine sx_rcv hX rfl rfl (ok_rw eb ?_)
    rcases hb with ⟨rfl, hw⟩ | ⟨rfl, hw⟩
    · refine ok_z1 ?_
      have ow : opW z (.inr k) = if gdB (wZ z k) = true then .inr (nxt z k) else .inl (4, pZ z k) := by
        show (if kZ z k = 100 ∨ kZ z k ≤ 33 then _ else _) = _
        rw [if_pos hw]
      refine ok_JnC (fun y => FA (fun k i => k = 2 ∨ (k = m + 14 ∧ 8 * R ≤ i ∧ i < 8 * R + 8)) σ y ∧ XR z (if gdB (wZ z k) = true then .inr k else .inl (4, pZ z k)) y ∧ ∀ x : Nat, x < 8 → y.2.1 (m + 14) (8 * R + (x : Int)) = ltr (wZ z k) x - 1) (fun y hy => ?_) (fun J hJ => ?_)
      · obtain ⟨y1, y2, y3⟩ := hy
        obtain ⟨τ, e, x4, f4⟩ := adv_eq (N := N) hz y2
        refine sx_rcv y2.1 rfl rfl (ok_rw e (ok_some ⟨rfl, y1.trans (f4.fa fun _ => .inl rfl), ?_, fun k' _ x hx => ?_⟩))
        · rw [ow]
          by_cases g : gdB (wZ z k) = true
          · rw [if_pos g] at x4 ⊢; exact x4
          · rw [if_neg g] at x4 ⊢; exact x4
        · rw [f4.c (by omega) (by simp)]; exact y3 x hx
      · unfold L_X3_readGrounds_15
        refine ok_fix (fun q => ∃ x : Nat, q.2 = (x : Int) ∧ x ≤ 8 ∧ FA (fun k i => k = 2 ∨ (k = m + 14 ∧ 8 * R ≤ i ∧ i < 8 * R + 8)) σ q.1 ∧ XR z (if (∀ x' : Nat, x' < x → 1 ≤ ltr (wZ z k) x' ∧ ltr (wZ z k) x' ≤ 8) then .inr k else .inl (4, pZ z k)) q.1 ∧ fI q.1 2 11 = wZ z k ∧ ∀ x' : Nat, x' < x → q.1.2.1 (m + 14) (8 * R + (x' : Int)) = ltr (wZ z k) x' - 1) (fun q => (8 - q.2).toNat) (fun back q hq hback => ?_) _ ⟨0, rfl, by decide, FA.refl, ?_, k3, fun x' q => by omega⟩ (by dsimp only; omega)
        · obtain ⟨y, xx⟩ := q
          obtain ⟨x, rfl, g1, g2, g3, g4, g5⟩ := hq
          dsimp only at g2 g3 g4 g5 hback ⊢
          refine ok_wlt (by omega) (by omega) (fun c => ?_) (fun c => hJ _ ⟨g2, ?_, fun x' q => g5 x' (by omega)⟩)
          · refine sx_gI g3.1 rfl rfl ?_
            rw [g4]
            refine st_Lt ?_
            rw [ltr_eq rw0 (by omega)]
            have lr : 0 ≤ ltr (wZ z k) x ∧ ltr (wZ z k) x < 32 := by unfold ltr; omega
            refine ok_rw (within_eq N y _ 1 8) ?_
            refine ok_JnC (fun u => FA (fun k i => k = 2 ∨ (k = m + 14 ∧ 8 * R ≤ i ∧ i < 8 * R + 8)) σ u ∧ XR z (if (∀ x' : Nat, x' < x + 1 → 1 ≤ ltr (wZ z k) x' ∧ ltr (wZ z k) x' ≤ 8) then .inr k else .inl (4, pZ z k)) u ∧ fI u 2 11 = wZ z k ∧ ∀ x' : Nat, x' < x → u.2.1 (m + 14) (8 * R + (x' : Int)) = ltr (wZ z k) x' - 1) (fun u hu => ?_) (fun J2 hJ2 => ?_)
            · obtain ⟨u1, u2, u3, u4⟩ := hu
              refine mx_rcv u2.1 hm (ok_bind ?_)
              unfold f_X3_setGround
              refine ok_within (by omega) (by omega) (by omega) (fun _ => ok_z1 ?_) (fun q => by omega)
              refine mx_gR u2.1 hm rfl ?_
              refine mx_sI u2.1 hm rfl (by decide) (by omega) (by omega) (ok_some (st_Lt (hback _ ⟨x + 1, by dsimp only; omega, by omega, u1.wI (.inr ⟨rfl, by omega, by omega⟩), u2.wI (by omega), (fI_uk (by omega)).trans u3, fun x' hx' => ?_⟩ (by dsimp only; omega))))
              dsimp only
              by_cases q : x' = x
              · rw [q, show R * 8 + (x : Int) = 8 * R + (x : Int) by omega, uI_eq]
              · rw [uI_j (by omega)]
                exact u4 x' (by omega)
            · have w1 : wr 1 = 1 := by decide
              have w8 : wr 8 = 8 := by decide
              rw [wr_id (z := ltr (wZ z k) x) (by omega) (by omega), w1, w8]
              by_cases gx : 1 ≤ ltr (wZ z k) x ∧ ltr (wZ z k) x ≤ 8
              · rw [if_pos gx]
                refine ok_z1 (hJ2 _ ⟨g2, ?_, g4, g5⟩)
                by_cases ga : ∀ x' : Nat, x' < x → 1 ≤ ltr (wZ z k) x' ∧ ltr (wZ z k) x' ≤ 8
                · rw [if_pos ga] at g3
                  rw [if_pos]
                  · exact g3
                  · intro x' hx'
                    by_cases q : x' = x
                    · rw [q]; exact gx
                    · exact ga x' (by omega)
                · rw [if_neg ga] at g3
                  rw [if_neg fun q => ga fun x' hx' => q x' (by omega)]
                  exact g3
              · rw [if_neg gx]
                obtain ⟨τ, e, x4, f4⟩ := refuse_eq (N := N) hz g3 (w := 4) (by decide)
                refine ok_z0 (sx_rcv g3.1 rfl rfl (ok_rw e (hJ2 _ ⟨g2.trans (f4.fa fun _ => .inl rfl), ?_, (f4.f (by decide)).trans g4, fun x' hx' => (f4.c (by omega) (by simp)).trans (g5 x' hx')⟩)))
                rw [if_neg fun q => gx (q x (by omega))]
                by_cases ga : ∀ x' : Nat, x' < x → 1 ≤ ltr (wZ z k) x' ∧ ltr (wZ z k) x' ≤ 8
                · rw [if_pos ga] at x4
                  have x4 : XR z (.inl (bad (kZ z k) 4, pZ z k)) τ := x4
                  unfold bad at x4
                  rw [if_neg (by omega)] at x4
                  exact x4
                · rw [if_neg ga] at x4
                  exact x4
          · have x8 : x = 8 := by omega
            subst x8
            by_cases ga : ∀ x' : Nat, x' < 8 → 1 ≤ ltr (wZ z k) x' ∧ ltr (wZ z k) x' ≤ 8
            · rw [if_pos ga] at g3
              rw [if_pos (gdB_iff.mpr ga)]; exact g3
            · rw [if_neg ga] at g3
              rw [if_neg (fun q => ga (gdB_iff.mp q))]; exact g3
        · rw [if_pos (fun x' q => by omega)]; exact h
    · obtain ⟨τ, e, x4, f4⟩ := refuse_eq (N := N) hz h (w := 2) (by decide)
      have ow : opW z (.inr k) = opF z 2 (.inr k) := by
        show (if kZ z k = 100 ∨ kZ z k ≤ 33 then _ else _) = _
        rw [if_neg hw]; rfl
      rw [ow]
      exact ok_z0 (sx_rcv hX rfl rfl (ok_rw e (ok_some ⟨rfl, f4.fa fun _ => .inl rfl, x4, fun k' q => by cases q⟩)))
  obtain ⟨⟨τ, v⟩, e, h1, h2⟩ := H
  dsimp only at h1 h2
  subst h1
  exact ⟨τ, e, h2⟩
/-- a row's line -/
theorem rowX {m : Nat} {k t0 : Int} {tb : Int → Int} (hz : Str z) (hm : isM m) (h : XR z (.inr k) σ) (ht0 : fI σ m 18 = t0) (ht : ∀ r : Int, 0 ≤ r → r ≤ 7 → andZ (shrZ t0 r) 1 = tb r ∧ (tb r = 0 ∨ tb r = 1)) (hN : 100 < N) : ∃ τ, f_X3_readRow N σ m 2 = some (τ, 0) ∧ FA (fun k i => k = 2 ∨ k = m + 14 ∨ (k = m ∧ i = 18)) σ τ ∧ XR z (rR3 z tb k) τ ∧ ∀ k', rR3 z tb k = .inr k' → (0 ≤ wZ z (nxt z k) ∧ wZ z (nxt z k) ≤ 7) ∧ fI τ m 18 = orZ t0 (shlZ 1 (wZ z (nxt z k))) ∧ (∀ c : Int, (c < 8 * wZ z (nxt z k) ∨ 8 * wZ z (nxt z k) + 8 ≤ c) → τ.2.1 (m + 14) c = σ.2.1 (m + 14) c) ∧ ∀ x : Nat, x < 8 → τ.2.1 (m + 14) (8 * wZ z (nxt z k) + (x : Int)) = ltr (wZ z (nxt z (nxt z k))) x - 1 := by
  have hml := isM_le hm
  have hX := h.1
  have H : Ok (f_X3_readRow N σ m 2) (fun q => q.2 = 0 ∧ FA (fun k i => k = 2 ∨ k = m + 14 ∨ (k = m ∧ i = 18)) σ q.1 ∧ XR z (rR3 z tb k) q.1 ∧ ∀ k', rR3 z tb k = .inr k' → (0 ≤ wZ z (nxt z k) ∧ wZ z (nxt z k) ≤ 7) ∧ fI q.1 m 18 = orZ t0 (shlZ 1 (wZ z (nxt z k))) ∧ (∀ c : Int, (c < 8 * wZ z (nxt z k) ∨ 8 * wZ z (nxt z k) + 8 ≤ c) → q.1.2.1 (m + 14) c = σ.2.1 (m + 14) c) ∧ ∀ x : Nat, x < 8 → q.1.2.1 (m + 14) (8 * wZ z (nxt z k) + (x : Int)) = ltr (wZ z (nxt z (nxt z k))) x - 1) := by
    unfold f_X3_readRow
    obtain ⟨t1, e1, x1, f1⟩ := adv_eq (N := N) hz h
    refine sx_rcv hX rfl rfl (ok_rw e1 ?_)
    have x1 : XR z (.inr (nxt z k)) t1 := x1
    have F1 : FA (fun k i => k = 2 ∨ k = m + 14 ∨ (k = m ∧ i = 18)) σ t1 := f1.fa fun _ => .inl rfl
    obtain ⟨k1, k2, k3⟩ := x1.kd
    have rk := hz.rg k1
    refine sx_gI x1.1 rfl rfl ?_
    rw [k2]
    refine ok_JnC (fun y => FT [] [12, 13] t1 y ∧ XR z (rR0 z tb (nxt z k)) y) (fun y hy => ?_) (fun J hJ => ?_)
    · obtain ⟨fy, xy⟩ := hy
      have Fy := F1.trans (fy.fa fun _ => .inl rfl)
      have g14 : ∀ c, y.2.1 (m + 14) c = σ.2.1 (m + 14) c := fun c => (fy.c (by omega) (by simp)).trans (f1.c (by omega) (by simp))
      have g18 : fI y m 18 = t0 := (fy.g (by omega) (by simp)).trans ((f1.g (by omega) (by simp)).trans ht0)
      obtain ⟨t2, v2, e2, x2, f2, g2⟩ := number_eq (N := N) hz xy (lo := 0) (hi := 7) (by decide)
      refine sx_rcv xy.1 rfl rfl (ok_rw e2 ?_)
      have x2 : XR z (rR1 z tb k) t2 := x2
      have F2 := Fy.trans (f2.fa fun _ => .inl rfl)
      refine sx_rcv x2.1 rfl rfl (ok_rw (sound_eq x2) ?_)
      match hr1 : rR1 z tb k, x2 with
      | .inl d, x2 =>
        have r3 : rR3 z tb k = .inl d := by unfold rR3 rR2; rw [hr1]; rfl
        rw [r3]
        exact ok_z0 (ok_some ⟨rfl, F2, x2, fun k' q => by cases q⟩)
      | .inr kk, x2 =>
        refine ok_z1 ?_
        obtain ⟨a0, r0, _, u0, n0⟩ := opN_al hr1
        obtain ⟨rfl, _⟩ := rR0_al r0
        subst n0
        have q2 := g2 _ hr1
        have v2e : v2 = wZ z (nxt z k) := by rw [q2.1, r0]; rfl
        refine mx_gI x2.1 hm ?_
        rw [show fI t2 m 18 = t0 from (f2.g (by omega) (by simp)).trans g18, v2e]
        refine mx_pI x2.1 hm ?_
        have x3 : XR z (.inr (nxt z (nxt z k))) (uF t2 m 18 (orZ t0 (shlZ 1 (wZ z (nxt z k))))) := x2.wF (by omega)
        have F3 : FA (fun k i => k = 2 ∨ k = m + 14 ∨ (k = m ∧ i = 18)) σ (uF t2 m 18 (orZ t0 (shlZ 1 (wZ z (nxt z k))))) := F2.wF (.inr (.inr ⟨rfl, rfl⟩))
        have w3 : fI (uF t2 m 18 (orZ t0 (shlZ 1 (wZ z (nxt z k))))) m 18 = orZ t0 (shlZ 1 (wZ z (nxt z k))) := fI_eq
        have g3 : ∀ c, (uF t2 m 18 (orZ t0 (shlZ 1 (wZ z (nxt z k))))).2.1 (m + 14) c = σ.2.1 (m + 14) c := fun c => (uF_k (by omega)).trans ((f2.c (by omega) (by simp)).trans (g14 c))
        generalize uF t2 m 18 (orZ t0 (shlZ 1 (wZ z (nxt z k)))) = t3 at x3 F3 w3 g3 ⊢
        obtain ⟨t4, e4, F4, x4, l4⟩ := groundsX (N := N) (R := wZ z (nxt z k)) hz hm x3 (by omega) hN
        refine mx_rcv x3.1 hm (ok_rw e4 ?_)
        have r2 : rR2 z tb k = opW z (.inr (nxt z (nxt z k))) := by unfold rR2; rw [hr1]
        rw [← r2] at x4 l4
        obtain ⟨t5, e5, x5, f5⟩ := expect_eq (N := N) hz x4 (w := 59) (by decide)
        refine sx_rcv x4.1 rfl rfl (ok_rw e5 (ok_some ⟨rfl, ?_, x5, fun k' q => ?_⟩))
        · exact (F3.trans (F4.mono fun k i q => by omega)).trans (f5.fa fun _ => .inl rfl)
        · obtain ⟨a5, r5, _, _⟩ := opX_al q
          refine ⟨by omega, ?_, fun c hc => ?_, fun x hx => ?_⟩
          · rw [f5.g (by omega) (by simp), F4.f (by omega)]; exact w3
          · rw [f5.c (by omega) (by simp), F4.c (by omega)]; exact g3 c
          · rw [f5.c (by omega) (by simp)]; exact l4 _ r5 x hx
    · refine ok_weq (by omega) (by omega) (fun c => ?_) (fun c => hJ _ ⟨FT.refl, ?_⟩)
      · obtain ⟨n1, n2⟩ := x1.num hz c
        refine sx_gI x1.1 rfl rfl ?_
        rw [n1]
        refine ok_within (by omega) (by omega) (by omega) (fun c2 => ok_z1 ?_) (fun c2 => ok_z0 (hJ _ ⟨FT.refl, ?_⟩))
        · refine mx_gI x1.1 hm ?_
          rw [show fI t1 m 18 = t0 from (f1.g (by omega) (by simp)).trans ht0]
          refine sx_gI x1.1 rfl rfl ?_
          rw [n1]
          obtain ⟨b1, b2⟩ := ht (wZ z (nxt z k)) c2.1 c2.2
          rw [b1]
          refine ok_weq (by omega) (by omega) (fun c3 => ?_) (fun c3 => hJ _ ⟨FT.refl, ?_⟩)
          · obtain ⟨τ, e, x4, f4⟩ := refuse_eq (N := N) hz x1 (w := 3) (by decide)
            refine sx_rcv x1.1 rfl rfl (ok_rw e (hJ _ ⟨f4, ?_⟩))
            unfold rR0
            rw [if_pos ⟨c, c2.2, c3⟩]
            have x4 : XR z (.inl (bad (kZ z (nxt z k)) 3, pZ z (nxt z k))) τ := x4
            unfold bad at x4
            rw [if_neg (by omega)] at x4
            exact x4
          · unfold rR0
            rw [if_neg fun q => c3 q.2.2]
            exact x1
        · unfold rR0
          rw [if_neg fun q => by omega]
          exact x1
      · unfold rR0
        rw [if_neg fun q => c q.1]
        exact x1
  obtain ⟨⟨τ, v⟩, e, h1, h2⟩ := H
  dsimp only at h1 h2
  subst h1
  exact ⟨τ, e, h2⟩
end F
