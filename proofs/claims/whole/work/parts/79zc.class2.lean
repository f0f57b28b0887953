/-! the pure part: the class reads an expression as it is to be read -/
section F
variable {N : Nat} {σ τ υ : St} {z : Zs} {t : Nat} {n : Int}
theorem Gg_1 {z : Zs} {n : Int} {g : Nat} {L d : Int} {s : PS} : Gg z n (g + 1) 1 L d s = bndP (Gg z n g 0 (L + 1) d s) (LpG z (fun s => Gg z n g 0 (L + 1) d s) L (if L = 2 then 1 else 60)) := rfl
theorem cl_R (hz : Str z) (ht : isT t) (hn : 0 ≤ n ∧ n ≤ 3) (n7 : nZ z ≤ 700) (hN : 1000 < N) : ∀ (g tag : Nat) (L d : Int) (s : PS) (σ : St), ndG g tag L d → (tag = 2 → kZ z s.1 = 22) → CX z t s σ → (0 ≤ s.2.1 ∧ s.2.1 ≤ 60) → (s.2.2.length : Int) ≤ s.1 → Ok (f_R N g tag σ t 2 n L d) (fun q => FA (TAf t) σ q.1 ∧ CR z t (Gg z n g tag L d s) q.1)
  | 0, tag, L, d, s, σ, hg, _, _, _, _ => by
    unfold ndG at hg
    omega
  | g + 1, 0, L, d, s, σ, hg, _, h, hu, hl => by
    have hX := h.1.1
    obtain ⟨k1, k2, k3⟩ := h.1.kd
    have rk := hz.rg k1
    show Ok (B_X7_readLevel N (f_R N g) σ t 2 n L d) _
    unfold ndG at hg
    unfold B_X7_readLevel
    unfold Gg
    refine ok_weq (by omega) (by omega) (fun c => ?_) (fun c => ?_)
    · rw [if_pos c]
      exact tx_rcv hX ht (ok_bind (ok_mono (cl_R hz ht hn n7 hN g 3 0 d s σ (by unfold ndG; omega) (fun q => absurd q (by decide)) h hu hl) fun v hv => ok_some hv))
    · rw [if_neg c]
      have nx : ¬ (L = 2 ∧ kZ z s.1 = 22) → Ok (Option.bind (rcv shx σ 7 t (f_R N g 1 σ t 2 n L d)) fun q2 => some (q2.1, (0 : Int))) (fun q => FA (TAf t) σ q.1 ∧ CR z t (if L = 2 ∧ kZ z s.1 = 22 then Gg z n g 2 0 d s else Gg z n g 1 L d s) q.1) := fun q => by
        rw [if_neg q]
        exact tx_rcv hX ht (ok_bind (ok_mono (cl_R hz ht hn n7 hN g 1 L d s σ (by unfold ndG; omega) (fun q => absurd q (by decide)) h hu hl) fun v hv => ok_some hv))
      refine st_Jn ?_
      refine ok_weq (by omega) (by omega) (fun c2 => ?_) (fun c2 => nx fun q => c2 q.1)
      refine sx_gI hX rfl rfl ?_
      rw [k2]
      refine ok_weq (by omega) (by omega) (fun c3 => ?_) (fun c3 => nx fun q => c3 q.2)
      rw [if_pos ⟨c2, c3⟩]
      exact tx_rcv hX ht (ok_bind (ok_mono (cl_R hz ht hn n7 hN g 2 0 d s σ (by unfold ndG; omega) (fun _ => c3) h hu hl) fun v hv => ok_some hv))
  | g + 1, 1, L, d, s, σ, hg, _, h, hu, hl => by
    have hX := h.1.1
    have k1 := h.1.kd.1
    have htl := isT_le ht
    show Ok (B_X7_readJoined N (f_R N g) σ t 2 n L d) _
    unfold ndG at hg
    unfold B_X7_readJoined
    rw [Gg_1]
    refine ok_JnC (fun x => x = ((if L = 2 then 1 else 60 : Nat) : Int)) (fun x hx => ?_) (fun J hJ => ok_weq (by omega) (by omega) (fun c => hJ _ (by rw [if_pos c]; rfl)) (fun c => hJ _ (by rw [if_neg c]; rfl)))
    generalize hm : (if L = 2 then 1 else 60 : Nat) = most at hx
    have hm2 : 1 ≤ most ∧ most ≤ 60 := by
      rw [← hm]
      split <;> decide
    refine tx_rcv hX ht (ok_bind (ok_mono (cl_R hz ht hn n7 hN g 0 (L + 1) d s σ (by unfold ndG; omega) (fun q => absurd q (by decide)) h hu hl) fun v hv => ?_))
    obtain ⟨F1, c1⟩ := hv
    have hF : ∀ a b : PS, 0 ≤ a.1 → a.1 < KZ z → 0 ≤ a.2.1 → Gg z n g 0 (L + 1) d a = .inr b → GP z n a b := fun a b a0 a1 a2 ea => Gg_props hz g 0 (L + 1) d a b a0 a1 a2 (fun q => absurd q (by decide)) (fun _ => by omega) ea
    unfold L_X7_readJoined_27
    refine ok_fix (fun w => FA (TAf t) σ w.1 ∧ ((∃ dd, DX z t dd w.1 ∧ bndP (Gg z n g 0 (L + 1) d s) (LpG z (fun s => Gg z n g 0 (L + 1) d s) L most) = .inl dd) ∨ ∃ (s1 : PS) (i : Nat), CX z t s1 w.1 ∧ GP z n s s1 ∧ i ≤ most ∧ w.2 = (most : Int) - (i : Int) ∧ bndP (Gg z n g 0 (L + 1) d s) (LpG z (fun s => Gg z n g 0 (L + 1) d s) L most) = LpG z (fun s => Gg z n g 0 (L + 1) d s) L i s1)) (fun w => ((most : Int) - w.2).toNat) (fun back w hw hback => ?_) _ ⟨F1, ?_⟩ (by dsimp only; omega)
    · obtain ⟨y, c⟩ := w
      obtain ⟨g1, hw⟩ := hw
      dsimp only at g1 hw hback ⊢
      rcases hw with ⟨dd, hd, hr⟩ | ⟨s1, i, hc, hgp, hi, rfl, hr⟩
      · have done : Ok (some (y, (0 : Int))) (fun q => FA (TAf t) σ q.1 ∧ CR z t (bndP (Gg z n g 0 (L + 1) d s) (LpG z (fun s => Gg z n g 0 (L + 1) d s) L most)) q.1) := by
          rw [hr]; exact ok_some ⟨g1, hd⟩
        refine ok_ite (fun _ => ?_) (fun _ => done)
        exact sx_rcv hd.1.1 rfl rfl (ok_rw (sound_eq hd.1) (ok_z0 done))
      · have fin : LpG z (fun s => Gg z n g 0 (L + 1) d s) L i s1 = .inr s1 → Ok (some (y, (0 : Int))) (fun q => FA (TAf t) σ q.1 ∧ CR z t (bndP (Gg z n g 0 (L + 1) d s) (LpG z (fun s => Gg z n g 0 (L + 1) d s) L most)) q.1) := fun q => by
          rw [hr, q]; exact ok_some ⟨g1, hc⟩
        have hX1 := hc.1.1
        obtain ⟨j1, j2, j3⟩ := hc.1.kd
        have rj := hz.rg j1
        rw [hx]
        match i, hi, hr, fin with
        | 0, hi, hr, fin => exact ok_wlt (by omega) (by omega) (fun q => by omega) (fun _ => fin rfl)
        | i + 1, hi, hr, fin =>
          refine ok_wlt (by omega) (by omega) (fun _ => ?_) (fun q => by omega)
          refine sx_rcv hX1 rfl rfl (ok_rw (sound_eq hc.1) (ok_z1 ?_))
          refine sx_gI hX1 rfl rfl ?_
          rw [j2]
          refine ok_rw (levelOf_eq rj.2.1) ?_
          have hlr : -1 ≤ lvl (kZ z s1.1) ∧ lvl (kZ z s1.1) ≤ 4 := by
            by_cases q : lvl (kZ z s1.1) = -1
            · omega
            · have := (lvl_bin q).2.2.2; omega
          refine ok_weq (by dsimp only; omega) (by omega) (fun c => ?_) (fun c => fin (by unfold LpG; rw [if_neg c]))
          dsimp only at c
          have hb : lvl (kZ z s1.1) ≠ -1 := by omega
          obtain ⟨_, k102, _⟩ := lvl_bin hb
          have nx := nx1 hz j1 k102
          refine sx_gI hX1 rfl rfl ?_
          rw [j2]
          obtain ⟨y2, e2, x2, f2⟩ := adv_eq (N := N) hz hc.1
          refine sx_rcv hX1 rfl rfl (ok_rw e2 ?_)
          have h2 : CX z t (nxt z s1.1, s1.2.1, s1.2.2) y2 := hc.of ht x2 (f5T f2)
          obtain ⟨p1, p2, p3, p4, seg, p5, p6, p7, p8⟩ := id hgp
          have hlen : (s1.2.2.length : Int) ≤ s1.1 := by
            rw [p5, List.length_append]; omega
          refine tx_rcv h2.1.1 ht (ok_bind (ok_mono (cl_R hz ht hn n7 hN g 0 (L + 1) d _ y2 (by unfold ndG; omega) (fun q => absurd q (by decide)) h2 (by dsimp only; omega) (by dsimp only; omega)) fun v2 hv2 => ?_))
          obtain ⟨F3, c3⟩ := hv2
          have lp : LpG z (fun s => Gg z n g 0 (L + 1) d s) L (i + 1) s1 = bndP (Gg z n g 0 (L + 1) d (nxt z s1.1, s1.2.1, s1.2.2)) (fun s' => LpG z (fun s => Gg z n g 0 (L + 1) d s) L i (s'.1, s'.2.1, (-1 - kZ z s1.1) :: s'.2.2)) := if_pos c
          match hq : Gg z n g 0 (L + 1) d (nxt z s1.1, s1.2.1, s1.2.2), c3 with
          | .inl dd, c3 =>
            obtain ⟨y4, e4, f4, h4⟩ := (c3 : DX z t dd v2.1).put (N := N) ht (-1 - kZ z s1.1)
            refine tx_rcv (c3 : DX z t dd v2.1).1.1 ht (ok_rw e4 (st_Lt (hback _ ⟨((g1.trans (fT (f5T f2))).trans F3).trans f4, .inl ⟨dd, h4, ?_⟩⟩ (by dsimp only; omega))))
            rw [hr, lp, hq]; rfl
          | .inr s2, c3 =>
            have gp2 := hF (nxt z s1.1, s1.2.1, s1.2.2) s2 (by dsimp only; omega) (by dsimp only; omega) (by dsimp only; omega) hq
            have gp3 := hgp.join hz (by omega) rfl hb gp2
            obtain ⟨q1, q2, q3, q4, seg2, q5, q6, q7, q8⟩ := gp2
            dsimp only at q1 q5 q6
            have hl2 : (s2.2.2.length : Int) ≤ 699 := by
              have zK := hz.2.2.1
              rw [q5, List.length_append]; omega
            obtain ⟨y4, e4, f4, h4⟩ := (c3 : CX z t s2 v2.1).put (N := N) ht hl2 (-1 - kZ z s1.1)
            refine tx_rcv (c3 : CX z t s2 v2.1).1.1 ht (ok_rw e4 (st_Lt (hback _ ⟨((g1.trans (fT (f5T f2))).trans F3).trans f4, .inr ⟨_, i, h4, gp3, by omega, by dsimp only; omega, ?_⟩⟩ (by dsimp only; omega))))
            rw [hr, lp, hq]; rfl
    · match hq : Gg z n g 0 (L + 1) d s, c1 with
      | .inl dd, c1 => exact .inl ⟨dd, c1, rfl⟩
      | .inr s1, c1 => exact .inr ⟨s1, most, c1, hF s s1 (by omega) k1.2 hu.1 hq, Nat.le_refl _, by dsimp only; omega, rfl⟩
  | g + 1, 2, L, d, s, σ, hg, hk, h, hu, hl => by
    have hX := h.1.1
    have k1 := h.1.kd.1
    have hk := hk rfl
    have nx := nx1 hz k1 (by omega)
    show Ok (B_X7_readNot N (f_R N g) σ t 2 n d) _
    unfold ndG at hg
    unfold B_X7_readNot
    unfold Gg
    have hl7 : (s.2.2.length : Int) ≤ 700 := by
      have := hz.2.2.1
      omega
    refine ok_wlt (by omega) (by omega) (fun c => ?_) (fun c => ?_)
    · rw [if_pos c]
      obtain ⟨τ, e, x, f⟩ := refuse_eq (N := N) hz h.1 (w := 2) (by decide)
      have x : XR z (.inl (bad (kZ z s.1) 2, pZ z s.1)) τ := x
      rw [show bad (kZ z s.1) 2 = 2 by unfold bad; rw [if_neg (by omega)]] at x
      exact sx_rcv hX rfl rfl (ok_rw e (ok_some ⟨fT (f2T f), h.dead ht hl7 x (f2T f)⟩))
    · rw [if_neg (by omega)]
      obtain ⟨τ, e, x, f⟩ := adv_eq (N := N) hz h.1
      refine sx_rcv hX rfl rfl (ok_rw e ?_)
      have h1 : CX z t (nxt z s.1, s.2.1, s.2.2) τ := h.of ht x (f5T f)
      refine tx_rcv h1.1.1 ht (ok_bind (ok_mono (cl_R hz ht hn n7 hN g 0 2 (d + 1) _ τ (by unfold ndG; omega) (fun q => absurd q (by decide)) h1 hu (by dsimp only; omega)) fun v hv => ?_))
      obtain ⟨F1, c1⟩ := hv
      match hq : Gg z n g 0 2 (d + 1) (nxt z s.1, s.2.1, s.2.2), c1 with
      | .inl dd, c1 =>
        obtain ⟨y4, e4, f4, h4⟩ := (c1 : DX z t dd v.1).put (N := N) ht (-23)
        exact tx_rcv (c1 : DX z t dd v.1).1.1 ht (ok_rw e4 (ok_some ⟨((fT (f5T f)).trans F1).trans f4, h4⟩))
      | .inr s2, c1 =>
        obtain ⟨q1, q2, q3, q4, seg2, q5, q6, q7, q8⟩ := Gg_props hz g 0 2 (d + 1) (nxt z s.1, s.2.1, s.2.2) s2 (by dsimp only; omega) (by dsimp only; omega) hu.1 (fun q => absurd q (by decide)) (by decide) hq
        dsimp only at q1 q5 q6
        have hl2 : (s2.2.2.length : Int) ≤ 699 := by
          have zK := hz.2.2.1
          rw [q5, List.length_append]; omega
        obtain ⟨y4, e4, f4, h4⟩ := (c1 : CX z t s2 v.1).put (N := N) ht hl2 (-23)
        exact tx_rcv (c1 : CX z t s2 v.1).1.1 ht (ok_rw e4 (ok_some ⟨((fT (f5T f)).trans F1).trans f4, h4⟩))
  | g + 1, m + 3, L, d, s, σ, hg, _, h, hu, hl => by
    have hX := h.1.1
    have htl := isT_le ht
    obtain ⟨k1, k2, k3⟩ := h.1.kd
    have rk := hz.rg k1
    have zK := hz.2.2.1
    show Ok (B_X7_readUnit N (f_R N g) σ t 2 n d) _
    unfold ndG at hg
    unfold B_X7_readUnit
    unfold Gg
    refine tx_gI hX ht ?_
    rw [h.2.1]
    refine tx_pI hX ht ?_
    have h1 : CX z t (s.1, s.2.1 + 1, s.2.2) (uF σ t 1 (s.2.1 + 1)) := ⟨h.1.wF (by omega), fI_eq, (fI_j (by decide)).trans h.2.2.1, by rw [uF_cell (by omega)]; exact h.2.2.2⟩
    have F1 : FA (TAf t) σ (uF σ t 1 (s.2.1 + 1)) := FA.refl.wF (.inr (.inl ⟨rfl, .inl rfl⟩))
    generalize uF σ t 1 (s.2.1 + 1) = τ at h1 F1 ⊢
    have hX1 := h1.1.1
    have hl7 : (s.2.2.length : Int) ≤ 700 := by omega
    have ref : ∀ w : Int, 1 ≤ w ∧ w ≤ 7 → ∀ {R : PRs}, R = .inl (bad (kZ z s.1) w, pZ z s.1) → ∀ {f : St × Int → Option (St × Int)}, (∀ τ', f (τ', 0) = some (τ', 0)) → Ok (Option.bind (rcv shx τ 6 2 (f_X6_refuse N τ 2 w)) f) (fun q => FA (TAf t) σ q.1 ∧ CR z t R q.1) := fun w hw R hR f hf => by
      obtain ⟨τ', e, x, f'⟩ := refuse_eq (N := N) hz h1.1 (w := w) hw
      refine sx_rcv hX1 rfl rfl (ok_rw e ?_)
      rw [hf, hR]
      exact ok_some ⟨F1.trans (fT (f2T f')), h1.dead ht hl7 x (f2T f')⟩
    refine tx_gI hX1 ht ?_
    rw [h1.2.1]
    refine ok_wlt (by omega) (by dsimp only; omega) (fun c1 => ?_) (fun c1 => ?_)
    · rw [if_pos c1]
      exact ref 2 (by decide) rfl fun _ => rfl
    dsimp only at c1
    rw [if_neg (by omega)]
    refine sx_gI hX1 rfl rfl ?_
    rw [h1.1.kd.2.1]
    dsimp only
    refine ok_weq (by omega) (by omega) (fun c2 => ?_) (fun c2 => ?_)
    · rw [if_pos c2]
      have nx := nx1 hz k1 (by omega)
      refine sx_gI hX1 rfl rfl ?_
      rw [(h1.1.num hz c2).1]
      obtain ⟨τ2, e2, f2, h2⟩ := h1.put (N := N) ht (by dsimp only; omega) (wZ z s.1)
      refine tx_rcv hX1 ht (ok_rw e2 ?_)
      obtain ⟨τ3, e3, x3, f3⟩ := adv_eq (N := N) hz h2.1
      exact sx_rcv h2.1.1 rfl rfl (ok_rw e3 (ok_some ⟨(F1.trans f2).trans (fT (f5T f3)), h2.of ht x3 (f5T f3)⟩))
    rw [if_neg c2]
    refine sx_gI hX1 rfl rfl ?_
    rw [h1.1.kd.2.1]
    dsimp only
    obtain ⟨b, eb, hb⟩ := mayAsk_eq (N := N) (σ := τ) hn (kd := kZ z s.1) rk.2.1
    refine ok_rw eb ?_
    rcases hb with ⟨rfl, hb⟩ | ⟨rfl, hb⟩
    · rw [if_pos hb]
      have ra := askB_rg hb
      have nx := nx1 hz k1 (by omega)
      refine ok_z1 ?_
      refine sx_gI hX1 rfl rfl ?_
      rw [h1.1.kd.2.1]
      obtain ⟨τ2, e2, f2, h2⟩ := h1.put (N := N) ht (by dsimp only; omega) (-1 - kZ z s.1)
      refine tx_rcv hX1 ht (ok_rw e2 ?_)
      obtain ⟨τ3, e3, x3, f3⟩ := adv_eq (N := N) hz h2.1
      exact sx_rcv h2.1.1 rfl rfl (ok_rw e3 (ok_some ⟨(F1.trans f2).trans (fT (f5T f3)), h2.of ht x3 (f5T f3)⟩))
    rw [if_neg hb]
    refine ok_z0 ?_
    refine sx_gI hX1 rfl rfl ?_
    rw [h1.1.kd.2.1]
    dsimp only
    refine ok_within (by omega) (by omega) (by omega) (fun c4 => ok_z1 ?_) (fun c4 => ok_z0 ?_)
    · rw [if_pos c4]
      refine ref 7 (by decide) ?_ fun _ => rfl
      unfold bad
      rw [if_neg (by omega)]
    rw [if_neg (by omega)]
    refine sx_gI hX1 rfl rfl ?_
    rw [h1.1.kd.2.1]
    dsimp only
    refine st_Jn ?_
    refine ok_weq (by omega) (by omega) (fun c5 => ?_) (fun c5 => ?_)
    · refine ok_wlt (by omega) (by omega) (fun c6 => ?_) (fun c6 => ?_)
      · rw [if_neg (by omega)]
        exact ref 2 (by decide) rfl fun _ => rfl
      rw [if_pos ⟨c5, by omega⟩]
      have nx := nx1 hz k1 (by omega)
      obtain ⟨τ2, e2, x2, f2⟩ := adv_eq (N := N) hz h1.1
      refine sx_rcv hX1 rfl rfl (ok_rw e2 ?_)
      have h2 : CX z t (nxt z s.1, s.2.1 + 1, s.2.2) τ2 := h1.of ht x2 (f5T f2)
      refine tx_rcv h2.1.1 ht (ok_bind (ok_mono (cl_R hz ht hn n7 hN g 0 0 (d + 1) _ τ2 (by unfold ndG; omega) (fun q => absurd q (by decide)) h2 (by dsimp only; omega) (by dsimp only; omega)) fun v hv => ?_))
      obtain ⟨F3, c3⟩ := hv
      match hq : Gg z n g 0 0 (d + 1) (nxt z s.1, s.2.1 + 1, s.2.2), c3 with
      | .inl dd, c3 =>
        have c3 : DX z t dd v.1 := c3
        obtain ⟨τ3, e3, x3, f3⟩ := expect_eq (N := N) hz c3.1 (w := 41) (by decide)
        exact sx_rcv c3.1.1 rfl rfl (ok_rw e3 (ok_some ⟨((F1.trans (fT (f5T f2))).trans F3).trans (fT f3), DX.of ht x3 f3 c3.2⟩))
      | .inr s2, c3 =>
        have c3 : CX z t s2 v.1 := c3
        obtain ⟨q1, q2, q3, q4, seg2, q5, q6, q7, q8⟩ := Gg_props hz g 0 0 (d + 1) (nxt z s.1, s.2.1 + 1, s.2.2) s2 (by dsimp only; omega) (by dsimp only; omega) (by dsimp only; omega) (fun q => absurd q (by decide)) (by decide) hq
        dsimp only at q1 q5 q6
        have hl2 : (s2.2.2.length : Int) ≤ 699 := by
          rw [q5, List.length_append]; omega
        obtain ⟨τ3, e3, x3, f3⟩ := expect_eq (N := N) hz c3.1 (w := 41) (by decide)
        refine sx_rcv c3.1.1 rfl rfl (ok_rw e3 (ok_some ⟨((F1.trans (fT (f5T f2))).trans F3).trans (fT f3), ?_⟩))
        show CR z t (if kZ z s2.1 = 41 then Sum.inr (nxt z s2.1, s2.2.1, s2.2.2) else Sum.inl (bad (kZ z s2.1) 2, pZ z s2.1)) τ3
        by_cases c7 : kZ z s2.1 = 41
        · rw [if_pos c7]
          have : opX z 41 (.inr s2.1) = .inr (nxt z s2.1) := if_pos (decide_eq_true c7)
          rw [this] at x3
          exact c3.of ht x3 f3
        · rw [if_neg c7]
          have : opX z 41 (.inr s2.1) = .inl (bad (kZ z s2.1) 2, pZ z s2.1) := if_neg (by simp; exact c7)
          rw [this] at x3
          exact c3.dead ht (by omega) x3 f3
    · rw [if_neg (fun q => c5 q.1)]
      exact ref 2 (by decide) rfl fun _ => rfl
end F
