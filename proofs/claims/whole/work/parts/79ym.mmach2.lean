/-! the pure part: the lines of a machine, the reference -/
section F
variable {N : Nat} {σ τ υ : St} {z : Zs} {r : RS}
theorem f7 {A : Nat → Int → Prop} (f : FM [] [4, 5, 6, 7, 8, 9, 10] σ τ) (s : ∀ i : Int, (i < 0 ∨ (4 ≤ i ∧ i ≤ 10)) → A 1 i) : FA A σ τ := f.fa (fun i q => s i (.inl q)) (fun j hj => s _ (.inr (by simp at hj; omega)))
theorem new_of {nm : Int → Int} {P k : Int} : opC z (fun x => decide (x = 100)) (if kZ z k = 100 ∧ fdW nm (wZ z k) P.toNat ≠ -1 then .inl (3, pZ z k) else .inr k) = opNew z nm P (.inr k) := by
  show _ = (if kZ z k = 100 then (if fdW nm (wZ z k) P.toNat = -1 then Sum.inr (nxt z k) else Sum.inl (3, pZ z k)) else Sum.inl (bad (kZ z k) 2, pZ z k) : RS)
  by_cases c : kZ z k = 100
  · rw [if_pos c]
    by_cases c2 : fdW nm (wZ z k) P.toNat = -1
    · rw [if_neg (fun q => q.2 c2), if_pos c2]
      exact if_pos (decide_eq_true c)
    · rw [if_pos ⟨c, c2⟩, if_neg c2]
      rfl
  · rw [if_neg (fun q => c q.1), if_neg c]
    exact if_neg (by simp; exact c)
/-- a PART's line but for its end -/
theorem partM {P k rb : Int} {nm : Int → Int} (hz : Str z) (h : MR z (.inr (nxt z k)) σ) (hb0 : fI σ 1 32 = rb) (hrb : rb = 0 ∨ rb = 1) (hP : σ.2.1 5 rb = P) (hr : 0 ≤ P ∧ P < 12) (hn : NmR nm P rb σ) (hN : 2000 < N) : ∃ τ, f_X12_readPart N σ 1 = some (τ, 0) ∧ FA (fun k i => (k = 1 ∧ (i < 0 ∨ (4 ≤ i ∧ i ≤ 10))) ∨ (k = 5 ∧ i = rb) ∨ ((9 ≤ k ∧ k ≤ 12 ∨ k = 23) ∧ i = 12 * rb + P)) σ τ ∧ MR z (rP6 z nm P k) τ ∧ τ.2.1 5 rb = P + 1 ∧ ∀ k', rP6 z nm P k = .inr k' → Nm (wZ z (nxt z k)) (τ.2.1 23 (12 * rb + P)) ∧ τ.2.1 9 (12 * rb + P) = vBy z nm P k ∧ τ.2.1 10 (12 * rb + P) = vLen z nm P k ∧ τ.2.1 11 (12 * rb + P) = vGr z nm P k ∧ τ.2.1 12 (12 * rb + P) = vCo z nm P k := by
  obtain ⟨k1, k6, k8, kn, kt, ke, knm, knu, _⟩ := h.kd
  have H : Ok (f_X12_readPart N σ 1) (fun q => q.2 = 0 ∧ FA (fun k i => (k = 1 ∧ (i < 0 ∨ (4 ≤ i ∧ i ≤ 10))) ∨ (k = 5 ∧ i = rb) ∨ ((9 ≤ k ∧ k ≤ 12 ∨ k = 23) ∧ i = 12 * rb + P)) σ q.1 ∧ MR z (rP6 z nm P k) q.1 ∧ q.1.2.1 5 rb = P + 1 ∧ ∀ k', rP6 z nm P k = .inr k' → Nm (wZ z (nxt z k)) (q.1.2.1 23 (12 * rb + P)) ∧ q.1.2.1 9 (12 * rb + P) = vBy z nm P k ∧ q.1.2.1 10 (12 * rb + P) = vLen z nm P k ∧ q.1.2.1 11 (12 * rb + P) = vGr z nm P k ∧ q.1.2.1 12 (12 * rb + P) = vCo z nm P k) := by
    unfold f_X12_readPart
    refine sm_gI h.1 ?_
    refine sm_gR h.1 rfl ?_
    refine sm_gI h.1 ?_
    rw [hb0]
    refine sm_aI h.1 rfl rfl (by decide) (by omega) (by omega) ?_
    rw [hP]
    refine st_Lt ?_
    refine sm_gI h.1 ?_
    rw [hb0]
    refine st_Lt ?_
    refine ok_JnC (fun y => FA (fun k i => (k = 1 ∧ (i < 0 ∨ (4 ≤ i ∧ i ≤ 10))) ∨ ((9 ≤ k ∧ k ≤ 12 ∨ k = 23) ∧ i = 12 * rb + P)) σ y ∧ fI y 1 10 = fI σ 1 10 ∧ fI y 1 8 = fI σ 1 8 ∧ MR z (if kZ z (nxt z k) = 100 ∧ fdW nm (wZ z (nxt z k)) P.toNat ≠ -1 then .inl (3, pZ z (nxt z k)) else .inr (nxt z k)) y) (fun y hy => ?_) (fun J hJ => ?_)
    · obtain ⟨F1, y10, y8, m1⟩ := hy
      refine sm_gR m1.1 rfl ?_
      refine sm_gI m1.1 ?_
      rw [y10]
      refine sm_sI m1.1 rfl rfl (by decide) (by omega) (by omega) ?_
      have m2 := m1.wI (k := 23) (i := 12 * rb + P) (v := fI σ 1 10) (by decide)
      have F2 := F1.wI (k := 23) (i := 12 * rb + P) (v := fI σ 1 10) (.inr ⟨.inr rfl, rfl⟩)
      have w2 : (uI y 23 (12 * rb + P) (fI σ 1 10)).2.1 23 (12 * rb + P) = fI σ 1 10 := uI_eq
      have z8 : fI (uI y 23 (12 * rb + P) (fI σ 1 10)) 1 8 = fI σ 1 8 := (fI_uk (by decide)).trans y8
      generalize uI y 23 (12 * rb + P) (fI σ 1 10) = t2 at m2 F2 w2 z8 ⊢
      refine sm_gI m2.1 ?_
      rw [z8]
      refine ok_JnC (fun b => (b = 0 ∨ b = 1) ∧ (b = 1 ↔ kZ z (nxt z k) = 100)) (fun b hb => ?_) (fun J2 hJ2 => ?_)
      · obtain ⟨t3, e3, m3, f3⟩ := must_eq (N := N) (c := fun x => decide (x = 100)) hz m2 hb.1 (fun k2 q => by
          have e : k2 = nxt z k := by
            split at q
            · cases q
            · cases q; rfl
          rw [e, hb.2]
          exact decide_eq_true_iff.symm) hN
        refine sm_rcv m2.1 (ok_rw e3 ?_)
        rw [new_of] at m3
        have m3 : MR z (rP1 z nm P k) t3 := m3
        have F3 := F2.trans (f7 f3 fun i q => .inl ⟨rfl, q⟩)
        have w3 : t3.2.1 23 (12 * rb + P) = fI σ 1 10 := (f3.c (by decide) (by simp)).trans w2
        refine ok_wm hz m3 (j := 1) (by decide) rfl hN (fun t4 m4 f4 => ?_)
        refine sm_gR m4.1 rfl ?_
        obtain ⟨t5, v5, e5, m5, f5, g5⟩ := numeral_eq (N := N) hz m4 (lo := 0) (hi := 1) (by decide) hN
        refine sm_rcv m4.1 (ok_rw e5 ?_)
        have m5 : MR z (rP2 z nm P k) t5 := m5
        have f5 := f4.trans f5
        have F5 := F3.trans (f7 f5 fun i q => .inl ⟨rfl, q⟩)
        refine sm_sI m5.1 rfl rfl (by decide) (by omega) (by omega) ?_
        have m6 := m5.wI (k := 9) (i := 12 * rb + P) (v := v5) (by decide)
        have F6 := F5.wI (k := 9) (i := 12 * rb + P) (v := v5) (.inr ⟨.inl (by decide), rfl⟩)
        have w6 : (uI t5 9 (12 * rb + P) v5).2.1 9 (12 * rb + P) = v5 := uI_eq
        have n6 : (uI t5 9 (12 * rb + P) v5).2.1 23 (12 * rb + P) = fI σ 1 10 := (uI_k (by decide)).trans ((f5.c (by decide) (by simp)).trans w3)
        generalize uI t5 9 (12 * rb + P) v5 = t6 at m6 F6 w6 n6 ⊢
        refine ok_wm hz m6 (j := 2) (by decide) rfl hN (fun t7 m7 f7' => ?_)
        obtain ⟨t8, v8, e8, m8, f8, g8⟩ := numeral_eq (N := N) hz m7 (lo := 1) (hi := 999) (by decide) hN
        refine sm_rcv m7.1 (ok_rw e8 ?_)
        have m8 : MR z (rP3 z nm P k) t8 := m8
        have f8 := f7'.trans f8
        have F8 := F6.trans (f7 f8 fun i q => .inl ⟨rfl, q⟩)
        obtain ⟨b4, e4, b4a, b4b⟩ := isWord_eq (N := N) hz m8 (j := 4) (w := 1768842088) (by decide) rfl
        refine sm_rcv m8.1 (ok_rw e4 ?_)
        refine ok_JnC (fun b => (b = 0 ∨ b = 1) ∧ ∀ k2, rP3 z nm P k = .inr k2 → (b = 1 ↔ cmi (kZ z k2) = true)) (fun b hb2 => ?_) (fun J3 hJ3 => ?_)
        · obtain ⟨t9, e9, m9, f9⟩ := must_eq (N := N) (c := cmi) hz m8 hb2.1 hb2.2 hN
          refine sm_rcv m8.1 (ok_rw e9 ?_)
          have m9 : MR z (rP4 z nm P k) t9 := m9
          have F9 := F8.trans (f7 f9 fun i q => .inl ⟨rfl, q⟩)
          refine sm_gR m9.1 rfl ?_
          refine ok_JnC (fun x => ∀ k2, rP3 z nm P k = .inr k2 → x = lenV z v8 (rP3 z nm P k)) (fun x hx => ?_) (fun J4 hJ4 => ?_)
          · refine sm_sI m9.1 rfl rfl (by decide) (by omega) (by omega) ?_
            have m10 := m9.wI (k := 10) (i := 12 * rb + P) (v := x) (by decide)
            have F10 := F9.wI (k := 10) (i := 12 * rb + P) (v := x) (.inr ⟨.inl (by decide), rfl⟩)
            have w10 : (uI t9 10 (12 * rb + P) x).2.1 10 (12 * rb + P) = x := uI_eq
            have n10 : (uI t9 10 (12 * rb + P) x).2.1 23 (12 * rb + P) = fI σ 1 10 := (uI_k (by decide)).trans ((f9.c (by decide) (by simp)).trans ((f8.c (by decide) (by simp)).trans n6))
            have p10 : (uI t9 10 (12 * rb + P) x).2.1 9 (12 * rb + P) = v5 := (uI_k (by decide)).trans ((f9.c (by decide) (by simp)).trans ((f8.c (by decide) (by simp)).trans w6))
            generalize uI t9 10 (12 * rb + P) x = t10 at m10 F10 w10 n10 p10 ⊢
            refine ok_wm hz m10 (j := 5) (by decide) rfl hN (fun t11 m11 f11 => ?_)
            refine sm_gR m11.1 rfl ?_
            obtain ⟨t12, v12, e12, m12, f12, g12⟩ := numeral_eq (N := N) hz m11 (lo := 0) (hi := 99) (by decide) hN
            refine sm_rcv m11.1 (ok_rw e12 ?_)
            have m12 : MR z (rP5 z nm P k) t12 := m12
            have f12 := f11.trans f12
            have F12 := F10.trans (f7 f12 fun i q => .inl ⟨rfl, q⟩)
            refine sm_sI m12.1 rfl rfl (by decide) (by omega) (by omega) ?_
            have m13 := m12.wI (k := 11) (i := 12 * rb + P) (v := v12) (by decide)
            have F13 := F12.wI (k := 11) (i := 12 * rb + P) (v := v12) (.inr ⟨.inl (by decide), rfl⟩)
            have w13 : (uI t12 11 (12 * rb + P) v12).2.1 11 (12 * rb + P) = v12 := uI_eq
            have n13 : ∀ d, d ≠ 1 → d ≠ 11 → (uI t12 11 (12 * rb + P) v12).2.1 d (12 * rb + P) = t10.2.1 d (12 * rb + P) := fun d d1 d2 => (uI_k d2).trans (f12.c d1 (by simp))
            generalize uI t12 11 (12 * rb + P) v12 = t13 at m13 F13 w13 n13 ⊢
            refine ok_wm hz m13 (j := 6) (by decide) rfl hN (fun t14 m14 f14 => ?_)
            refine sm_gR m14.1 rfl ?_
            obtain ⟨t15, v15, e15, m15, f15, g15⟩ := numeral_eq (N := N) hz m14 (lo := 0) (hi := 999) (by decide) hN
            refine sm_rcv m14.1 (ok_rw e15 ?_)
            have m15 : MR z (rP6 z nm P k) t15 := m15
            have f15 := f14.trans f15
            have F15 := F13.trans (f7 f15 fun i q => .inl ⟨rfl, q⟩)
            refine sm_sI m15.1 rfl rfl (by decide) (by omega) (by omega) ?_
            have m16 := m15.wI (k := 12) (i := 12 * rb + P) (v := v15) (by decide)
            have F16 := F15.wI (k := 12) (i := 12 * rb + P) (v := v15) (.inr ⟨.inl (by decide), rfl⟩)
            have w16 : (uI t15 12 (12 * rb + P) v15).2.1 12 (12 * rb + P) = v15 := uI_eq
            have n16 : ∀ d, d ≠ 1 → d ≠ 12 → (uI t15 12 (12 * rb + P) v15).2.1 d (12 * rb + P) = t13.2.1 d (12 * rb + P) := fun d d1 d2 => (uI_k d2).trans (f15.c d1 (by simp))
            generalize uI t15 12 (12 * rb + P) v15 = t16 at m16 F16 w16 n16 ⊢
            refine sm_gR m16.1 rfl ?_
            refine sm_gI m16.1 ?_
            rw [show fI t16 1 32 = rb from (F16.f (by omega)).trans hb0]
            refine sm_aI m16.1 rfl rfl (by decide) (by omega) (by omega) ?_
            rw [show t16.2.1 5 rb = P from (F16.c (by omega)).trans hP]
            refine sm_sI m16.1 rfl rfl (by decide) (by omega) (by omega) (ok_some ⟨rfl, (F16.mono fun k i q => by omega).wI (.inr (.inl ⟨rfl, rfl⟩)), m16.wI (by decide), uI_eq, fun k' hr6 => ?_⟩)
            obtain ⟨a5, r5, _, _⟩ := opN_al hr6
            obtain ⟨b5, s5, _, _⟩ := opX_al r5
            obtain ⟨a4, r4, _, _⟩ := opN_al s5
            obtain ⟨b4, s4, _, _⟩ := opX_al r4
            obtain ⟨a3, r3, _, _⟩ := opC_al s4
            obtain ⟨b3, s3, _, _⟩ := opN_al r3
            obtain ⟨a2, r2, _, _⟩ := opX_al s3
            obtain ⟨b2, s2, _, _⟩ := opN_al r2
            obtain ⟨a1, r1, _, _⟩ := opX_al s2
            obtain ⟨b1, s1, kk, _, _⟩ := opNew_al r1
            cases s1
            have eb : ∀ d, d ≠ 5 → (uI t16 5 rb (P + 1)).2.1 d (12 * rb + P) = t16.2.1 d (12 * rb + P) := fun d hd => uI_k hd
            dsimp only
            refine ⟨?_, ?_, ?_, ?_, ?_⟩
            · rw [eb 23 (by decide), n16 23 (by decide) (by decide), n13 23 (by decide) (by decide), n10]
              exact knm kk
            · rw [eb 9 (by decide), n16 9 (by decide) (by decide), n13 9 (by decide) (by decide), p10]
              exact g5 _ r2
            · rw [eb 10 (by decide), n16 10 (by decide) (by decide), n13 10 (by decide) (by decide), w10, hx _ r3, g8 _ r3]
              rfl
            · rw [eb 11 (by decide), n16 11 (by decide) (by decide), w13]
              exact g12 _ s5
            · rw [eb 12 (by decide), w16]
              exact g15 _ hr6
          · match h3 : rP3 z nm P k, b4b with
            | .inl d, b4b => exact ok_ite (fun _ => hJ4 _ (fun k2 q => by rw [h3] at q; cases q)) (fun _ => hJ4 _ (fun k2 q => by rw [h3] at q; cases q))
            | .inr k2, b4b =>
              have b4b := b4b k2 rfl
              have lv : lenV z v8 (rP3 z nm P k) = if kZ z k2 = 4 then Int.tdiv (wr (v8 * 254)) 10 else v8 * 10 := by rw [h3]; rfl
              rcases b4a with rfl | rfl
              · refine ok_z0 (hJ4 _ fun k3 q => ?_)
                rw [lv, if_neg fun q => by have := b4b.mpr q; omega]
              · refine ok_z1 (hJ4 _ fun k3 q => ?_)
                rw [lv, if_pos (b4b.mp rfl)]
        · obtain ⟨b3, e3', b3a, b3b⟩ := isWord_eq (N := N) hz m8 (j := 3) (w := 25453) (by decide) rfl
          refine ok_JnC (fun _ => ∀ k2, rP3 z nm P k = .inr k2 → cmi (kZ z k2) = true) (fun _ hu => hJ3 _ ⟨.inr rfl, fun k2 q => ⟨fun _ => hu k2 q, fun _ => rfl⟩⟩) (fun J5 hJ5 => ?_)
          rcases b4a with rfl | rfl
          · refine ok_z0 (sm_rcv m8.1 (ok_rw e3' ?_))
            rcases b3a with rfl | rfl
            · refine ok_z0 (hJ3 _ ⟨.inl rfl, fun k2 q => ⟨fun u => by omega, fun u => ?_⟩⟩)
              have u : kZ z k2 = 4 ∨ kZ z k2 = 3 := of_decide_eq_true u
              rcases u with u | u
              · exact (b4b k2 q).mpr u
              · exact (b3b k2 q).mpr u
            · exact ok_z1 (hJ5 _ fun k2 q => decide_eq_true (.inr ((b3b k2 q).mp rfl)))
          · exact ok_z1 (hJ5 _ fun k2 q => decide_eq_true (.inl ((b4b k2 q).mp rfl)))
      · refine ok_weq (by omega) (by omega) (fun q => hJ2 _ ⟨.inr rfl, fun _ => kn.mp q, fun _ => rfl⟩) (fun q => hJ2 _ ⟨.inl rfl, fun u => by omega, fun u => absurd (kn.mpr u) q⟩)
    · unfold L_X12_readPart_26
      refine ok_fix (fun q => ∃ t : Int, q.2 = 12 * rb + t ∧ (0 ≤ t ∧ t ≤ P) ∧ FM [] [4, 5] σ q.1 ∧ MR z (if kZ z (nxt z k) = 100 ∧ fdW nm (wZ z (nxt z k)) t.toNat ≠ -1 then .inl (3, pZ z (nxt z k)) else .inr (nxt z k)) q.1) (fun q => (12 * rb + P - q.2).toNat) (fun back q hq hback => ?_) _ ⟨0, by dsimp only; omega, by omega, FM.refl, ?_⟩ (by dsimp only; omega)
      · obtain ⟨y, tt⟩ := q
        obtain ⟨t, rfl, g1, g2, g3⟩ := hq
        dsimp only at g2 g3 hback ⊢
        have y8 : fI y 1 8 = fI σ 1 8 := g2.f (by decide)
        have y10 : fI y 1 10 = fI σ 1 10 := g2.f (by decide)
        refine ok_wlt (by omega) (by omega) (fun c => ?_) (fun c => hJ _ ⟨(g2.mono (K := [4, 5, 6, 7, 8, 9, 10]) (fun _ h => h) (by simp)).fa (fun i q => .inl ⟨rfl, .inl q⟩) (fun j hj => .inl ⟨rfl, .inr (by simp at hj; omega)⟩), y10, y8, by rw [show P = t by omega]; exact g3⟩)
        refine sm_gI g3.1 ?_
        rw [y8]
        refine ok_JnC (fun y' => FM [] [4, 5] σ y' ∧ MR z (if kZ z (nxt z k) = 100 ∧ fdW nm (wZ z (nxt z k)) (t + 1).toNat ≠ -1 then .inl (3, pZ z (nxt z k)) else .inr (nxt z k)) y') (fun y' hy' => st_Lt (hback _ ⟨t + 1, by dsimp only; omega, by omega, hy'.1, hy'.2⟩ (by dsimp only; omega))) (fun J2 hJ2 => ?_)
        refine ok_weq (by omega) (by omega) (fun c2 => ?_) (fun c2 => hJ2 _ ⟨g2, ?_⟩)
        · have c3 := kn.mp c2
          refine sm_gR g3.1 rfl ?_
          refine sm_aI g3.1 rfl rfl (by decide) (by omega) (by omega) ?_
          refine sm_gI g3.1 ?_
          rw [y10]
          have en : y.2.1 23 (12 * rb + t) = σ.2.1 23 (12 * rb + t) := g2.c (by decide) (by simp)
          rw [en]
          have hst := fdW_st hn (knm c3) (i := t) ⟨g1.1, by omega⟩
          have hwl := hn.wlx (knm c3) (i := t) ⟨g1.1, by omega⟩
          refine ok_ite (fun c4 => ?_) (fun c4 => hJ2 _ ⟨g2, ?_⟩)
          · rw [if_pos (hwl.1.mp c4)] at hst
            refine sm_gI g3.1 ?_
            obtain ⟨τ, e, m, f⟩ := fails_eq (N := N) hz g3 (w := 3) (p := fI y 1 6) (by decide)
            refine sm_rcv g3.1 (ok_rw e (hJ2 _ ⟨g2.trans f, ?_⟩))
            rw [if_pos ⟨c3, by rw [hst]; omega⟩]
            by_cases c5 : fdW nm (wZ z (nxt z k)) t.toNat = -1
            · rw [if_neg fun q => q.2 c5] at m
              have m : MR z (.inl (3, fI y 1 6)) τ := m
              rw [show fI y 1 6 = pZ z (nxt z k) from (g2.f (by decide)).trans k6] at m
              exact m
            · rw [if_pos ⟨c3, c5⟩] at m
              exact m
          · rw [if_neg fun e => c4 (hwl.1.mpr e)] at hst
            rw [hst]; exact g3
        · have c3 : ¬ kZ z (nxt z k) = 100 := fun q => c2 (kn.mpr q)
          rw [if_neg fun q => c3 q.1] at g3 ⊢
          exact g3
      · have : ¬ (kZ z (nxt z k) = 100 ∧ fdW nm (wZ z (nxt z k)) (0 : Int).toNat ≠ -1) := fun q => q.2 rfl
        rw [if_neg this]
        exact h
  obtain ⟨⟨τ, v⟩, e, h1, h2⟩ := H
  dsimp only at h1 h2
  subst h1
  exact ⟨τ, e, h2⟩
end F
