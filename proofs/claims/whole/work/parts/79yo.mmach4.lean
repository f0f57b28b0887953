/-! the pure part: the lines of a machine, the reference: a row -/
section F
variable {N : Nat} {σ τ υ : St} {z : Zs} {r : RS}
theorem rowFits {Q : St × Int → Prop} {T : Int → Int} {n a e b0 : Int} (hM : WMr σ.1 σ.2.2) (ht : MTx T n σ) (h7 : fI σ 1 7 = e) (ha : 0 ≤ a ∧ a ≤ e ∧ e ≤ n) (hb0 : b0 = 0 ∨ b0 = 1) (hN : 2000 < N) {J : Int → Option (St × Int)} (hJ : ∀ b, (b = 0 ∨ b = 1) → (b = 1 ↔ (b0 = 1 ∧ ∀ j : Int, a ≤ j → j < e → T j ≤ 104)) → Ok (J b) Q) : Ok (L_X12_readRow_122 N 1 σ J (b0, a)) Q := by
  unfold L_X12_readRow_122
  have r := ht.2.1
  refine ok_fix (fun q => (a ≤ q.2 ∧ q.2 ≤ e) ∧ (q.1 = 0 ∨ q.1 = 1) ∧ (q.1 = 1 ↔ (b0 = 1 ∧ ∀ j : Int, a ≤ j → j < q.2 → T j ≤ 104))) (fun q => (e - q.2).toNat) (fun back q hq hback => ?_) _ ⟨by dsimp only; omega, hb0, ⟨fun q => ⟨q, fun j x y => by dsimp only at y; omega⟩, fun q => q.1⟩⟩ (by dsimp only; omega)
  obtain ⟨b, t⟩ := q
  obtain ⟨g1, g2, g3⟩ := hq
  dsimp only at g1 g2 g3 hback ⊢
  refine sm_gI hM ?_
  rw [h7]
  refine ok_wlt (by omega) (by omega) (fun c => ?_) (fun c => hJ b g2 (by rw [show e = t by omega]; exact g3))
  refine ok_JnC (fun b' => (b' = 0 ∨ b' = 1) ∧ (b' = 1 ↔ (b0 = 1 ∧ ∀ j : Int, a ≤ j → j < t + 1 → T j ≤ 104))) (fun b' hb' => st_Lt (hback _ ⟨by dsimp only; omega, hb'.1, hb'.2⟩ (by dsimp only; omega))) (fun J2 hJ2 => ?_)
  refine ok_JnC (fun _ => ¬ (b0 = 1 ∧ ∀ j : Int, a ≤ j → j < t + 1 → T j ≤ 104)) (fun _ hu => hJ2 _ ⟨.inl rfl, fun q => by omega, fun q => absurd q hu⟩) (fun J3 hJ3 => ?_)
  refine ok_weqc (by omega) (fun c2 => hJ3 _ fun q => ?_) (fun c2 => ?_)
  · have := g3.mpr ⟨q.1, fun j x y => q.2 j x (by omega)⟩
    omega
  · have b1 := g3.mp (by omega)
    refine ok_sign hM ht (by omega) ?_
    rw [sgn_in (by omega)]
    have rp := (ht.2.2 t (by omega) (by omega)).2
    refine ok_wlt (by omega) (by omega) (fun c3 => hJ3 _ fun q => ?_) (fun c3 => hJ2 _ ⟨.inr rfl, fun _ => ⟨b1.1, fun j x y => ?_⟩, fun _ => rfl⟩)
    · have := q.2 t (by omega) (by omega)
      omega
    · by_cases k : j = t
      · rw [k]; omega
      · exact b1.2 j x (by omega)
theorem rowLay {Q : St × Int → Prop} {T : Int → Int} {n a R rb : Int} {q3 : St × Int} (h : MR z r σ) (hT : tZ z = T) (hnn : nZ z = n) (hb0 : fI σ 1 32 = rb) (hrb : rb = 0 ∨ rb = 1) (h6 : fI σ 1 6 = a) (ha : 0 ≤ a ∧ a + 8 ≤ n) (hR : 0 ≤ R ∧ R ≤ 7) (hq3 : q3.2 = R) (hN : 2000 < N) {J : St → Option (St × Int)} (hJ : ∀ y, FA (fun k i => k = 21 ∧ 64 * rb + 8 * R ≤ i ∧ i < 64 * rb + 8 * R + 8) σ y → MR z r y → (∀ x : Nat, x < 8 → y.2.1 21 (64 * rb + 8 * R + (x : Int)) = T (a + (x : Int)) - 97) → Ok (J y) Q) : Ok (L_X12_readRow_186 N 1 q3 J (σ, 0)) Q := by
  unfold L_X12_readRow_186
  have r := h.2.1.2.1
  refine ok_fix (fun q => ∃ x : Nat, q.2 = (x : Int) ∧ x ≤ 8 ∧ FA (fun k i => k = 21 ∧ 64 * rb + 8 * R ≤ i ∧ i < 64 * rb + 8 * R + 8) σ q.1 ∧ MR z _ q.1 ∧ ∀ x' : Nat, x' < x → q.1.2.1 21 (64 * rb + 8 * R + (x' : Int)) = T (a + (x' : Int)) - 97) (fun q => (8 - q.2).toNat) (fun back q hq hback => ?_) _ ⟨0, rfl, by decide, FA.refl, h, fun x' q => by omega⟩ (by dsimp only; omega)
  obtain ⟨y, xx⟩ := q
  obtain ⟨x, rfl, g1, g2, g3, g4⟩ := hq
  dsimp only at g2 g3 g4 hback ⊢
  refine ok_wlt (by omega) (by omega) (fun c => ?_) (fun c => hJ y g2 g3 fun x' q => g4 x' (by omega))
  refine sm_gR g3.1 rfl ?_
  refine sm_gI g3.1 ?_
  refine sm_gI g3.1 ?_
  rw [show fI y 1 32 = rb from (g2.f (by omega)).trans hb0, show fI y 1 6 = a from (g2.f (by omega)).trans h6, hq3]
  refine ok_sign g3.1 g3.2.1 (by omega) ?_
  rw [sgn_in (by omega), hT]
  refine sm_sI g3.1 rfl rfl (by decide) (by omega) (by omega) (st_Lt (hback _ ⟨x + 1, by dsimp only; omega, by omega, g2.wI ⟨rfl, by omega, by omega⟩, g3.wI (by decide), fun x' hx' => ?_⟩ (by dsimp only; omega)))
  dsimp only
  by_cases q : x' = x
  · rw [q, uI_eq]
  · rw [uI_j (by omega)]; exact g4 x' (by omega)
/-- a row's line but for its end -/
theorem rowM {k rb : Int} {tb : Int → Int} (hz : Str z) (h : MR z (.inr (nxt z k)) σ) (hb0 : fI σ 1 32 = rb) (hrb : rb = 0 ∨ rb = 1) (ht : ∀ r : Int, 0 ≤ r → r ≤ 7 → wz (σ.2.1 22 (8 * rb + r)) = tb r ∧ (tb r = 0 ∨ tb r = 1)) (hN : 2000 < N) : ∃ τ, f_X12_readRow N σ 1 = some (τ, 0) ∧ FA (fun k i => (k = 1 ∧ (i < 0 ∨ (4 ≤ i ∧ i ≤ 10))) ∨ (k = 22 ∧ 8 * rb ≤ i ∧ i < 8 * rb + 8) ∨ (k = 21 ∧ 64 * rb ≤ i ∧ i < 64 * rb + 64)) σ τ ∧ MR z (rR2 z tb k) τ ∧ ∀ k', rR2 z tb k = .inr k' → (∀ r : Int, 0 ≤ r → r ≤ 7 → wz (τ.2.1 22 (8 * rb + r)) = if r = wZ z (nxt z k) then 1 else tb r) ∧ (∀ c : Int, 0 ≤ c → c < 64 → (c < 8 * wZ z (nxt z k) ∨ 8 * wZ z (nxt z k) + 8 ≤ c) → τ.2.1 21 (64 * rb + c) = σ.2.1 21 (64 * rb + c)) ∧ ∀ x : Nat, x < 8 → τ.2.1 21 (64 * rb + 8 * wZ z (nxt z k) + (x : Int)) = ltr (wZ z (nxt z (nxt z k))) x - 1 := by
  obtain ⟨k1, k6, k8, kn, kt, ke, knm, knu, kw, k7⟩ := h.kd
  have hzn := hz.1
  have H : Ok (f_X12_readRow N σ 1) (fun q => q.2 = 0 ∧ FA (fun k i => (k = 1 ∧ (i < 0 ∨ (4 ≤ i ∧ i ≤ 10))) ∨ (k = 22 ∧ 8 * rb ≤ i ∧ i < 8 * rb + 8) ∨ (k = 21 ∧ 64 * rb ≤ i ∧ i < 64 * rb + 64)) σ q.1 ∧ MR z (rR2 z tb k) q.1 ∧ ∀ k', rR2 z tb k = .inr k' → (∀ r : Int, 0 ≤ r → r ≤ 7 → wz (q.1.2.1 22 (8 * rb + r)) = if r = wZ z (nxt z k) then 1 else tb r) ∧ (∀ c : Int, 0 ≤ c → c < 64 → (c < 8 * wZ z (nxt z k) ∨ 8 * wZ z (nxt z k) + 8 ≤ c) → q.1.2.1 21 (64 * rb + c) = σ.2.1 21 (64 * rb + c)) ∧ ∀ x : Nat, x < 8 → q.1.2.1 21 (64 * rb + 8 * wZ z (nxt z k) + (x : Int)) = ltr (wZ z (nxt z (nxt z k))) x - 1) := by
    unfold f_X12_readRow
    refine sm_gI h.1 ?_
    refine ok_JnC (fun y => FM [] [4, 5] σ y ∧ MR z (rR0 z tb (nxt z k)) y) (fun y hy => ?_) (fun J hJ => ?_)
    · obtain ⟨f1, m1⟩ := hy
      obtain ⟨t2, v2, e2, m2, f2, g2⟩ := numeral_eq (N := N) hz m1 (lo := 0) (hi := 7) (by decide) hN
      refine sm_rcv m1.1 (ok_rw e2 ?_)
      have m2 : MR z (rR1 z tb k) t2 := m2
      have f2 : FM [] [4, 5, 6, 7, 8, 9, 10] σ t2 := (f1.mono (fun _ h => h) (by simp)).trans f2
      have F2 : FA (fun k i => (k = 1 ∧ (i < 0 ∨ (4 ≤ i ∧ i ≤ 10))) ∨ (k = 22 ∧ 8 * rb ≤ i ∧ i < 8 * rb + 8) ∨ (k = 21 ∧ 64 * rb ≤ i ∧ i < 64 * rb + 64)) σ t2 := f7 f2 fun i q => .inl ⟨rfl, q⟩
      refine sm_rcv m2.1 (ok_rw (isGood_eq m2) ?_)
      match hr1 : rR1 z tb k, m2 with
      | .inl d, m2 =>
        have r2 : rR2 z tb k = .inl d := by unfold rR2; rw [hr1]; rfl
        rw [r2]
        exact ok_z0 (ok_some ⟨rfl, F2, m2, fun k' q => by cases q⟩)
      | .inr kk, m2 =>
        refine ok_z1 ?_
        obtain ⟨a0, r0, _, u0, n0⟩ := opN_al hr1
        obtain ⟨rfl, _⟩ := rR0_al r0
        subst n0
        have v2e : v2 = wZ z (nxt z k) := by rw [g2 _ hr1, r0]; rfl
        have r2 : rR2 z tb k = opW z (.inr (nxt z (nxt z k))) := by unfold rR2; rw [hr1]
        refine sm_gR m2.1 rfl ?_
        refine sm_gI m2.1 ?_
        rw [show fI t2 1 32 = rb from (f2.f (by decide)).trans hb0, v2e]
        refine sm_sI m2.1 rfl rfl (by decide) (by omega) (by omega) ?_
        have m3 := m2.wI (k := 22) (i := 8 * rb + wZ z (nxt z k)) (v := 1) (by decide)
        have F3 := F2.wI (k := 22) (i := 8 * rb + wZ z (nxt z k)) (v := 1) (.inr (.inl ⟨rfl, by omega, by omega⟩))
        have w3 : ∀ r : Int, 0 ≤ r → r ≤ 7 → wz ((uI t2 22 (8 * rb + wZ z (nxt z k)) 1).2.1 22 (8 * rb + r)) = if r = wZ z (nxt z k) then 1 else tb r := fun r a b => by
          by_cases q : r = wZ z (nxt z k)
          · rw [q, uI_eq, if_pos rfl]; decide
          · rw [uI_j (by omega), if_neg q, f2.c (by decide) (by simp)]
            exact (ht r a b).1
        have g3 : ∀ c, (uI t2 22 (8 * rb + wZ z (nxt z k)) 1).2.1 21 c = σ.2.1 21 c := fun c => (uI_k (by decide)).trans (f2.c (by decide) (by simp))
        generalize uI t2 22 (8 * rb + wZ z (nxt z k)) 1 = t3 at m3 F3 w3 g3 ⊢
        obtain ⟨j1, j6, j8, jn, jt, je, jnm, jnu, jw, j7⟩ := m3.kd
        have jr := hz.rg j1
        have jt0 := (hz.tok j1).rg
        refine sm_gI m3.1 ?_
        refine ok_JnC (fun y => ∃ ry, MR z ry y ∧ FM [] [4, 5] t3 y ∧ ((ry = .inr (nxt z (nxt z k)) ∧ (kZ z (nxt z (nxt z k)) = 100 ∨ kZ z (nxt z (nxt z k)) ≤ 33)) ∨ ∃ d, ry = .inl d ∧ rR2 z tb k = .inl d)) (fun y hy => ?_) (fun J3 hJ3 => ?_)
        · obtain ⟨ry, m4, f4, hy⟩ := hy
          have y7 : fI y 1 7 = eZ z (nxt z (nxt z k) + 1) := (f4.f (by decide)).trans j7
          have y6 : fI y 1 6 = pZ z (nxt z (nxt z k)) := (f4.f (by decide)).trans j6
          refine sm_gI m4.1 ?_
          refine sm_gI m4.1 ?_
          rw [y7, y6]
          refine ok_JnC (fun b => (b = 0 ∨ b = 1) ∧ (b = 1 ↔ eZ z (nxt z (nxt z k) + 1) - pZ z (nxt z (nxt z k)) = 8)) (fun b hb => ?_) (fun J4 hJ4 => ?_)
          · refine sm_gI m4.1 ?_
            rw [y6]
            refine ok_JnC (fun b' => (b' = 0 ∨ b' = 1) ∧ (b' = 1 ↔ (b = 1 ∧ ∀ j : Int, pZ z (nxt z (nxt z k)) ≤ j → j < eZ z (nxt z (nxt z k) + 1) → tZ z j ≤ 104))) (fun b' hb' => ?_) (fun J5 hJ5 => rowFits m4.1 m4.2.1 y7 ⟨by omega, by omega, by omega⟩ hb.1 hN fun b' x y => hJ5 b' ⟨x, y⟩)
            have fits : (kZ z (nxt z (nxt z k)) = 100 ∨ kZ z (nxt z (nxt z k)) ≤ 33) → (b' = 1 ↔ gdB (wZ z (nxt z (nxt z k))) = true) := fun hw => by
              obtain ⟨mm, w1, w2, w3, w4, w5, w6, _⟩ := hz.word j1 hw
              rw [w6, gdB_word w5 w2, hb'.2, hb.2, w3]
              constructor
              · rintro ⟨q1, q2⟩
                refine ⟨by omega, fun x hx => q2 _ (by omega) (by omega)⟩
              · rintro ⟨q1, q2⟩
                refine ⟨by omega, fun j x y => ?_⟩
                have := q2 (j - pZ z (nxt z (nxt z k))).toNat (by omega)
                rw [show pZ z (nxt z (nxt z k)) + ((j - pZ z (nxt z (nxt z k))).toNat : Int) = j by omega] at this
                exact this
            refine sm_rcv m4.1 (ok_rw (isGood_eq m4) ?_)
            refine ok_JnC (fun x => ∃ rx, MR z rx x ∧ FM [] [4, 5] t3 x ∧ ((rx = .inr (nxt z (nxt z k)) ∧ (kZ z (nxt z (nxt z k)) = 100 ∨ kZ z (nxt z (nxt z k)) ≤ 33) ∧ gdB (wZ z (nxt z (nxt z k))) = true) ∨ ∃ d, rx = .inl d ∧ rR2 z tb k = .inl d)) (fun x hx => ?_) (fun J6 hJ6 => ?_)
            · obtain ⟨rx, m5, f5, hx⟩ := hx
              have F5 := F3.trans ((f5.mono (K := [4, 5, 6, 7, 8, 9, 10]) (fun _ h => h) (by simp)).fa (A := fun k i => (k = 1 ∧ (i < 0 ∨ (4 ≤ i ∧ i ≤ 10))) ∨ (k = 22 ∧ 8 * rb ≤ i ∧ i < 8 * rb + 8) ∨ (k = 21 ∧ 64 * rb ≤ i ∧ i < 64 * rb + 64)) (fun i q => .inl ⟨rfl, .inl q⟩) (fun j hj => .inl ⟨rfl, .inr (by simp at hj; omega)⟩))
              refine sm_rcv m5.1 (ok_rw (isGood_eq m5) ?_)
              rcases hx with ⟨rfl, hw, hg⟩ | ⟨d, rfl, hd⟩
              · refine ok_z1 ?_
                have o2 : rR2 z tb k = .inr (nxt z (nxt z (nxt z k))) := by
                  rw [r2]
                  show (if kZ z (nxt z (nxt z k)) = 100 ∨ kZ z (nxt z (nxt z k)) ≤ 33 then _ else _) = _
                  rw [if_pos hw, if_pos hg]
                obtain ⟨mm, w1, w2, w3', w4, w5, w6, _⟩ := hz.word j1 hw
                have g8 := hg
                rw [w6, gdB_word w5 w2] at g8
                obtain ⟨rfl, g9⟩ := g8
                refine ok_JnC (fun y' => FA (fun k i => (k = 1 ∧ (i < 0 ∨ (4 ≤ i ∧ i ≤ 10))) ∨ (k = 22 ∧ 8 * rb ≤ i ∧ i < 8 * rb + 8) ∨ (k = 21 ∧ 64 * rb ≤ i ∧ i < 64 * rb + 64)) σ y' ∧ MR z (.inr (nxt z (nxt z k))) y' ∧ (∀ r : Int, 0 ≤ r → r ≤ 7 → wz (y'.2.1 22 (8 * rb + r)) = if r = wZ z (nxt z k) then 1 else tb r) ∧ (∀ c : Int, 0 ≤ c → c < 64 → (c < 8 * wZ z (nxt z k) ∨ 8 * wZ z (nxt z k) + 8 ≤ c) → y'.2.1 21 (64 * rb + c) = σ.2.1 21 (64 * rb + c)) ∧ ∀ x : Nat, x < 8 → y'.2.1 21 (64 * rb + 8 * wZ z (nxt z k) + (x : Int)) = ltr (wZ z (nxt z (nxt z k))) x - 1) (fun y' hy' => ?_) (fun J7 hJ7 => ?_)
                · obtain ⟨p1, p2, p3, p4, p5⟩ := hy'
                  obtain ⟨τ, e, m, f⟩ := next_eq (N := N) hz p2 hN
                  have f' : FM [] [4, 5, 6, 7, 8, 9, 10] y' τ := f.mono (fun _ h => h) (by simp)
                  refine sm_rcv p2.1 (ok_rw e (ok_some ⟨rfl, p1.trans (f7 f' fun i q => .inl ⟨rfl, q⟩), by rw [o2]; exact m, fun _ _ => ⟨fun r a b => ?_, fun c a b q => ?_, fun x hx => ?_⟩⟩))
                  · rw [f.c (by decide) (by simp)]; exact p3 r a b
                  · rw [f.c (by decide) (by simp)]; exact p4 c a b q
                  · rw [f.c (by decide) (by simp)]; exact p5 x hx
                · refine rowLay (R := wZ z (nxt z k)) (rb := rb) (a := pZ z (nxt z (nxt z k))) m5 rfl rfl ((F5.f (by omega)).trans hb0) hrb ((f5.f (by decide)).trans j6) (by omega) (by omega) rfl hN (fun y' q1 q2 q3 => hJ7 _ ⟨?_, q2, fun r a b => ?_, fun c a b q => ?_, fun x hx => ?_⟩)
                  · exact F5.trans (q1.mono fun k i q => by omega)
                  · rw [q1.c (by omega), f5.c (by decide) (by simp)]; exact w3 r a b
                  · rw [q1.c (by omega), f5.c (by decide) (by simp)]; exact g3 _
                  · rw [q3 x hx, w6, ltr_8 w5 hx]; omega
              · exact ok_z0 (ok_some ⟨rfl, F5, by rw [hd]; exact m5, fun k' q => by rw [hd] at q; cases q⟩)
            · rcases hy with ⟨rfl, hw⟩ | ⟨d, rfl, hd⟩
              · refine ok_z1 ?_
                rcases hb'.1 with rfl | rfl
                · refine ok_z0 ?_
                  refine sm_gI m4.1 ?_
                  rw [y6]
                  obtain ⟨τ, e, m, f⟩ := fails_eq (N := N) hz m4 (w := 4) (p := pZ z (nxt z (nxt z k))) (by decide)
                  refine sm_rcv m4.1 (ok_rw e (hJ6 _ ⟨_, m, f4.trans f, .inr ⟨_, rfl, ?_⟩⟩))
                  rw [r2]
                  show (if kZ z (nxt z (nxt z k)) = 100 ∨ kZ z (nxt z (nxt z k)) ≤ 33 then _ else _) = _
                  rw [if_pos hw, if_neg fun q => by have := (fits hw).mpr q; omega]
                · exact ok_z1 (hJ6 _ ⟨_, m4, f4, .inl ⟨rfl, hw, (fits hw).mp rfl⟩⟩)
              · exact ok_z0 (hJ6 _ ⟨_, m4, f4, .inr ⟨d, rfl, hd⟩⟩)
          · refine ok_weq (by omega) (by omega) (fun c => hJ4 _ ⟨.inr rfl, fun _ => c, fun _ => rfl⟩) (fun c => hJ4 _ ⟨.inl rfl, fun q => by omega, fun q => absurd q c⟩)
        · refine ok_weq (by omega) (by omega) (fun c => hJ3 _ ⟨_, m3, FM.refl, .inl ⟨rfl, .inl (jn.mp c)⟩⟩) (fun c => ?_)
          refine sm_gI m3.1 ?_
          refine ok_weq (by omega) (by omega) (fun c2 => hJ3 _ ⟨_, m3, FM.refl, .inl ⟨rfl, .inr (jw.mp c2).2⟩⟩) (fun c2 => ?_)
          obtain ⟨τ, e, m, f⟩ := wrong_eq (N := N) hz m3
          refine sm_rcv m3.1 (ok_rw e (hJ3 _ ⟨_, m, f, .inr ⟨_, rfl, ?_⟩⟩))
          rw [r2]
          show (if kZ z (nxt z (nxt z k)) = 100 ∨ kZ z (nxt z (nxt z k)) ≤ 33 then _ else _) = _
          rw [if_neg (by
            intro q
            rcases q with q | q
            · exact c (jn.mpr q)
            · exact c2 (jw.mpr ⟨jr.2.1.1, q⟩))]
    · have alive : ¬ (kZ z (nxt z k) = 101 ∧ wZ z (nxt z k) ≤ 7 ∧ tb (wZ z (nxt z k)) = 1) → MR z (rR0 z tb (nxt z k)) σ := fun q => by
        unfold rR0
        rw [if_neg q]; exact h
      refine ok_weq (by omega) (by omega) (fun c => ?_) (fun c => hJ _ ⟨FM.refl, alive fun q => c (kt.mpr q.1)⟩)
      have c := kt.mp c
      have rn := hz.num k1 c
      refine sm_gI h.1 ?_
      rw [knu c]
      refine ok_wlt (by omega) (by omega) (fun c2 => ?_) (fun c2 => hJ _ ⟨FM.refl, alive fun q => by omega⟩)
      refine sm_gR h.1 rfl ?_
      refine sm_gI h.1 ?_
      refine sm_gI h.1 ?_
      rw [hb0, knu c]
      refine sm_aI h.1 rfl rfl (by decide) (by omega) (by omega) ?_
      obtain ⟨t1, t2⟩ := ht (wZ z (nxt z k)) rn.1 (by omega)
      rw [t1]
      rcases t2 with t2 | t2
      · rw [t2]
        exact ok_z0 (hJ _ ⟨FM.refl, alive fun q => by omega⟩)
      · rw [t2]
        refine ok_z1 ?_
        refine sm_gI h.1 ?_
        rw [k6]
        obtain ⟨τ, e, m, f⟩ := fails_eq (N := N) hz h (w := 3) (p := pZ z (nxt z k)) (by decide)
        refine sm_rcv h.1 (ok_rw e (hJ _ ⟨f, ?_⟩))
        unfold rR0
        rw [if_pos ⟨c, by omega, t2⟩]
        exact m
  obtain ⟨⟨τ, v⟩, e, h1, h2⟩ := H
  dsimp only at h1 h2
  subst h1
  exact ⟨τ, e, h2⟩
end F
