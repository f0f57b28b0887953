/-! the pure part: a treaty's line, each side -/
section F
variable {N : Nat} {σ τ υ : St} {z : Zs} {n : Int} {t : Nat}
def rW (z : Zs) (n k : Int) : RS := if n = 0 then .inr (nxt z k) else opX z 19 (.inr (nxt z k))
def rE (z : Zs) (n u : Int) (code : List Int) (r : RS) : PRs := match r with
  | .inl dd => .inl dd
  | .inr k2 => Gg z n 150 0 0 0 (k2, u, code)
def rF (z : Zs) (r : PRs) : PRs := match r with
  | .inl dd => .inl dd
  | .inr s => if kZ z s.1 = 59 then .inr (nxt z s.1, s.2.1, s.2.2) else .inl (bad (kZ z s.1) 2, pZ z s.1)
def rTl (z : Zs) (n k u : Int) (code : List Int) : PRs := rF z (rE z n u code (rW z n k))
/-- of a treaty's cells -/
def TCf (t : Nat) (n : Int) : Nat → Int → Prop := fun k i => k = 2 ∨ (k = t ∧ (i = 1 ∨ i = 2)) ∨ k = t + 1 ∨ ((k = t + 2 ∨ k = t + 3) ∧ i = n)
theorem told_eq (hX : WXr σ.1 σ.2.2) (ht : isT t) (hn : 0 ≤ n ∧ n ≤ 3) (hr : rg (σ.2.1 (t + 2) n)) : f_X7_isTold N σ t n = some (σ, if σ.2.1 (t + 2) n = -1 then 0 else 1) := by
  unfold rg at hr
  have H : Ok (f_X7_isTold N σ t n) (fun q => q = (σ, if σ.2.1 (t + 2) n = -1 then 0 else 1)) := by
    unfold f_X7_isTold
    refine ok_within (by omega) (by omega) (by omega) (fun _ => ok_z1 ?_) (fun q => by omega)
    refine tx_gR hX ht rfl ?_
    refine tx_aI hX ht rfl (by decide) (by omega) (by omega) ?_
    exact ok_weq (by omega) (by omega) (fun q => ok_some (by rw [if_pos q])) (fun q => ok_some (by rw [if_neg q]))
  obtain ⟨q, e, rfl⟩ := H
  exact e
/-- the class -/
theorem tlineX {k u : Int} {code : List Int} (hz : Str z) (ht : isT t) (n7 : nZ z ≤ 700) (hN : 1000 < N) (h : CX z t (k, u, code) σ) (hu : 0 ≤ u ∧ u ≤ 60) (hl : (code.length : Int) ≤ k) (hn : 0 ≤ n ∧ n ≤ 3) (hk : kZ z k = n + 15) (hs : σ.2.1 (t + 2) n = -1) : Ok (f_X7_readLine N σ t 2) (fun q => FA (TCf t n) σ q.1 ∧ ((∃ dd, rTl z n k u code = .inl dd ∧ XR z (.inl dd) q.1) ∨ ∃ s', rTl z n k u code = .inr s' ∧ CX z t s' q.1 ∧ q.1.2.1 (t + 2) n = (code.length : Int) ∧ q.1.2.1 (t + 3) n = (s'.2.2.length : Int))) := by
  have htl := isT_le ht
  have hX := h.1.1
  obtain ⟨k1, k2, k3⟩ := h.1.kd
  dsimp only at k1 k2
  have zK := hz.2.2.1
  obtain ⟨nx, nxl⟩ := nx1 hz k1 (by omega)
  unfold f_X7_readLine
  refine sx_gI hX rfl rfl ?_
  rw [k2, hk, show n + 15 - 15 = n by omega]
  refine st_Lt ?_
  refine ok_within (by omega) (by omega) (by omega) (fun _ => ?_) (fun q => by omega)
  refine st_Jn (ok_z1 ?_)
  refine tx_rcv hX ht (ok_rw (told_eq hX ht hn (by rw [hs]; unfold rg; decide)) ?_)
  rw [if_pos hs]
  refine ok_z0 ?_
  obtain ⟨t1, e1, x1, f1⟩ := adv_eq (N := N) hz h.1
  refine sx_rcv hX rfl rfl (ok_rw e1 ?_)
  have F1 : FA (TCf t n) σ t1 := f1.fa fun _ => .inl rfl
  have c1 : CX z t (nxt z k, u, code) t1 := h.of ht x1 (f5T f1)
  refine ok_JnC (fun y => FA (TCf t n) σ y ∧ ((∃ dd, rW z n k = .inl dd ∧ DX z t dd y) ∨ ∃ k', rW z n k = .inr k' ∧ (k' < KZ z ∧ k + 1 ≤ k') ∧ CX z t (k', u, code) y) ∧ fI y t 2 = (code.length : Int)) (fun y hy => ?_) (fun J hJ => ?_)
  · obtain ⟨Fy, hy, hyl⟩ := hy
    have hXy : WXr y.1 y.2.2 := Fy.X hX
    refine tx_gR hXy ht rfl ?_
    refine tx_gI hXy ht ?_
    rw [hyl]
    refine tx_sI hXy ht rfl (by decide) (by omega) (by omega) ?_
    have F2 : FA (TCf t n) σ (uI y (t + 2) n (code.length : Int)) := Fy.wI (.inr (.inr (.inr ⟨.inl rfl, rfl⟩)))
    have v2 : (uI y (t + 2) n (code.length : Int)).2.1 (t + 2) n = (code.length : Int) := uI_eq
    have hXy2 : WXr (uI y (t + 2) n (code.length : Int)).1 (uI y (t + 2) n (code.length : Int)).2.2 := hXy
    have go : ∀ {P : St × Int → Prop}, Ok (f_R N 150 0 (uI y (t + 2) n (code.length : Int)) t 2 n 0 0) P → Ok (f_X7_readLevel N (uI y (t + 2) n (code.length : Int)) t 2 n 0 0) P := fun q => q
    refine tx_rcv hXy2 ht (ok_bind (go ?_))
    rcases hy with ⟨dd, hw, hd⟩ | ⟨k', hw, hk', hc⟩
    · have hd2 : DX z t dd (uI y (t + 2) n (code.length : Int)) := ⟨hd.1.wI (by omega), by rw [fI_uk (by omega)]; exact hd.2.1, by rw [fI_uk (by omega)]; exact hd.2.2⟩
      refine ok_mono (dead_R hz ht hN 150 0 0 0 _ (by unfold ndG; decide) hd2) fun v hv => ?_
      obtain ⟨Fv, dv⟩ := hv
      have rl : rTl z n k u code = .inl dd := by unfold rTl; rw [hw]; rfl
      refine tx_gR dv.1.1 ht rfl ?_
      refine tx_gI dv.1.1 ht ?_
      refine tx_sI dv.1.1 ht rfl (by decide) (by omega) (by omega) ?_
      have d3 : XR z (.inl dd) (uI v.1 (t + 3) n (fI v.1 t 2)) := dv.1.wI (by omega)
      obtain ⟨t4, e4, x4, f4⟩ := expect_eq (N := N) hz d3 (w := 59) (by decide)
      refine sx_rcv d3.1 rfl rfl (ok_rw e4 (ok_some ⟨?_, .inl ⟨dd, rl, x4⟩⟩))
      exact ((F2.trans (Fv.mono fun k i q => by unfold TAf at q; unfold TCf; omega)).wI (.inr (.inr (.inr ⟨.inr rfl, rfl⟩)))).trans (f4.fa fun _ => .inl rfl)
    · have hc2 : CX z t (k', u, code) (uI y (t + 2) n (code.length : Int)) := ⟨hc.1.wI (by omega), (fI_uk (by omega)).trans hc.2.1, (fI_uk (by omega)).trans hc.2.2.1, by rw [uI_cell (by omega)]; exact hc.2.2.2⟩
      refine ok_mono (cl_R hz ht hn n7 hN 150 0 0 0 (k', u, code) _ (by unfold ndG; decide) (fun q => absurd q (by decide)) hc2 hu (by dsimp only; omega)) fun v hv => ?_
      obtain ⟨Fv, cv'⟩ := hv
      have F3 : FA (TCf t n) σ v.1 := F2.trans (Fv.mono fun k i q => by unfold TAf at q; unfold TCf; omega)
      have re : rTl z n k u code = rF z (Gg z n 150 0 0 0 (k', u, code)) := by unfold rTl; rw [hw]; rfl
      rw [re]
      match hq : Gg z n 150 0 0 0 (k', u, code), cv' with
      | .inl dd, cv' =>
        have dv : DX z t dd v.1 := cv'
        refine tx_gR dv.1.1 ht rfl ?_
        refine tx_gI dv.1.1 ht ?_
        refine tx_sI dv.1.1 ht rfl (by decide) (by omega) (by omega) ?_
        have d3 : XR z (.inl dd) (uI v.1 (t + 3) n (fI v.1 t 2)) := dv.1.wI (by omega)
        obtain ⟨t4, e4, x4, f4⟩ := expect_eq (N := N) hz d3 (w := 59) (by decide)
        exact sx_rcv d3.1 rfl rfl (ok_rw e4 (ok_some ⟨(F3.wI (.inr (.inr (.inr ⟨.inr rfl, rfl⟩)))).trans (f4.fa fun _ => .inl rfl), .inl ⟨dd, rfl, x4⟩⟩))
      | .inr s', cv' =>
        have dv : CX z t s' v.1 := cv'
        refine tx_gR dv.1.1 ht rfl ?_
        refine tx_gI dv.1.1 ht ?_
        rw [dv.2.2.1]
        refine tx_sI dv.1.1 ht rfl (by decide) (by omega) (by omega) ?_
        have d3 : CX z t s' (uI v.1 (t + 3) n (s'.2.2.length : Int)) := ⟨dv.1.wI (by omega), (fI_uk (by omega)).trans dv.2.1, (fI_uk (by omega)).trans dv.2.2.1, by rw [uI_cell (by omega)]; exact dv.2.2.2⟩
        have w2 : (uI v.1 (t + 3) n (s'.2.2.length : Int)).2.1 (t + 2) n = (code.length : Int) := (uI_k (by omega)).trans ((Fv.c (by unfold TAf; omega)).trans v2)
        have w3 : (uI v.1 (t + 3) n (s'.2.2.length : Int)).2.1 (t + 3) n = (s'.2.2.length : Int) := uI_eq
        obtain ⟨t4, e4, x4, f4⟩ := expect_eq (N := N) hz d3.1 (w := 59) (by decide)
        refine sx_rcv d3.1.1 rfl rfl (ok_rw e4 (ok_some ⟨(F3.wI (.inr (.inr (.inr ⟨.inr rfl, rfl⟩)))).trans (f4.fa fun _ => .inl rfl), ?_⟩))
        show (∃ dd, (if kZ z s'.1 = 59 then Sum.inr (nxt z s'.1, s'.2.1, s'.2.2) else Sum.inl (bad (kZ z s'.1) 2, pZ z s'.1) : PRs) = .inl dd ∧ _) ∨ ∃ s1, (if kZ z s'.1 = 59 then Sum.inr (nxt z s'.1, s'.2.1, s'.2.2) else Sum.inl (bad (kZ z s'.1) 2, pZ z s'.1) : PRs) = .inr s1 ∧ _
        by_cases c : kZ z s'.1 = 59
        · have e : opX z 59 (.inr s'.1) = .inr (nxt z s'.1) := if_pos (decide_eq_true c)
          rw [e] at x4
          refine .inr ⟨_, if_pos c, d3.of ht x4 f4, ?_, ?_⟩
          · rw [f4.c (by omega) (by simp)]; exact w2
          · rw [f4.c (by omega) (by simp)]; exact w3
        · have e : opX z 59 (.inr s'.1) = .inl (bad (kZ z s'.1) 2, pZ z s'.1) := if_neg (by simp; exact c)
          rw [e] at x4
          exact .inl ⟨_, if_neg c, x4⟩
  · refine ok_weqc (by omega) (fun c => hJ _ ⟨F1, .inr ⟨nxt z k, by unfold rW; rw [if_pos c], ⟨by omega, by omega⟩, c1⟩, c1.2.2.1⟩) (fun c => ?_)
    obtain ⟨t2, e2, x2, f2⟩ := expect_eq (N := N) hz c1.1 (w := 19) (by decide)
    refine sx_rcv c1.1.1 rfl rfl (ok_rw e2 (hJ _ ⟨F1.trans (f2.fa fun _ => .inl rfl), ?_, (f2.g (by omega) (by simp)).trans c1.2.2.1⟩))
    have rw0 : rW z n k = opX z 19 (.inr (nxt z k)) := by unfold rW; rw [if_neg c]
    rw [rw0]
    match hq : opX z 19 (.inr (nxt z k)), x2 with
    | .inl dd, x2 => exact .inl ⟨dd, rfl, c1.dead ht (by dsimp only; omega) x2 f2⟩
    | .inr k', x2 =>
      obtain ⟨a, e, _, e'⟩ := opX_al hq
      cases e
      have := nxt_ge (z := z) (k := nxt z k) (by omega)
      have := nxt_rg hz (k := nxt z k) (by omega)
      exact .inr ⟨k', rfl, ⟨by omega, by omega⟩, c1.of ht x2 f2⟩
/-- the reference's codes -/
def MC (s : PS) (σ : St) : Prop := fI σ 1 46 = s.2.1 ∧ fI σ 1 45 = (s.2.2.length : Int) ∧ CdR (σ.2.1 27) (σ.2.1 28) s.2.2
theorem e_eq {s : PS} (hz : Str z) (n7 : nZ z ≤ 700) (hn : 0 ≤ n ∧ n ≤ 3) (hN : 5000 < N) (h : MR z (.inr s.1) σ) (hc : MC s σ) (h49 : fI σ 1 49 = n) (hu : 0 ≤ s.2.1 ∧ s.2.1 ≤ 60) (hl : (s.2.2.length : Int) ≤ s.1) : Ok (f_X12_e N σ 1) (fun q => FA EAf σ q.1 ∧ ((∃ dd, Gg z n 150 0 0 0 s = .inl dd ∧ MR z (.inl dd) q.1) ∨ ∃ s', Gg z n 150 0 0 0 s = .inr s' ∧ ((MR z (.inr s'.1) q.1 ∧ MC s' q.1) ∨ (MR z (.inl (bad (kZ z s'.1) 2, pZ z s'.1)) q.1 ∧ kZ z s'.1 ≠ 59)))) := by
  have hM := h.1
  have zK := hz.2.2.1
  obtain ⟨hc1, hc2, hc3⟩ := hc
  unfold f_X12_e
  refine sm_pI hM ?_
  refine sm_pI (σ := uF σ 1 48 0) hM ?_
  have w48 : fI (uF (uF σ 1 48 0) 1 47 0) 1 48 = 0 := (fI_j (by decide)).trans fI_eq
  refine sm_rcv (σ := uF (uF σ 1 48 0) 1 47 0) hM (ok_rw (pput_eq (σ := uF (uF σ 1 48 0) 1 47 0) (p := 0) hM w48 (by decide)) ?_)
  have r0 : RP z n s [2] (uF (uI (uI (uF (uF σ 1 48 0) 1 47 0) 29 0 8) 30 0 0) 1 48 (0 + 1)) := by
    refine ⟨((((h.wF rfl).wF rfl).wI (by decide)).wI (by decide)).wF rfl, ⟨?_, ?_, fI_eq, ?_, ?_⟩, ?_, ⟨?_, fun q => absurd q (by decide), trivial⟩, ?_, by decide⟩
    · rw [fI_j (by decide), fI_uk (by decide), fI_uk (by decide), fI_j (by decide), fI_j (by decide)]; exact hc1
    · rw [fI_j (by decide), fI_uk (by decide), fI_uk (by decide), fI_j (by decide), fI_j (by decide)]; exact hc2
    · rw [fI_j (by decide), fI_uk (by decide), fI_uk (by decide), fI_eq]; rfl
    · rw [fI_j (by decide), fI_uk (by decide), fI_uk (by decide), fI_j (by decide), fI_j (by decide)]; exact h49
    · rw [uF_cell (by decide), uF_cell (by decide), uI_cell (by decide), uI_cell (by decide), uI_cell (by decide), uI_cell (by decide), uF_cell (by decide), uF_cell (by decide), uF_cell (by decide), uF_cell (by decide)]; exact hc3
    · rw [uF_k (by decide), uI_k (by decide)]
      exact uI_eq
    · show (s.2.2.length : Int) + (0 + (if (2 : Int) < 0 then 1 else 0)) ≤ s.1
      rw [if_neg (by decide)]; omega
  have F0 : FA EAf σ (uF (uI (uI (uF (uF σ 1 48 0) 1 47 0) 29 0 8) 30 0 0) 1 48 (0 + 1)) := ((((FA.refl.wF (.inl ⟨rfl, by omega⟩)).wF (.inl ⟨rfl, by omega⟩)).wI (.inr (.inr (.inl rfl)))).wI (.inr (.inr (.inr rfl)))).wF (.inl ⟨rfl, by omega⟩)
  generalize uF (uI (uI (uF (uF σ 1 48 0) 1 47 0) 29 0 8) 30 0 0) 1 48 (0 + 1) = x0 at r0 F0 ⊢
  have k1 := h.kd.1
  have R : Rn N (fuel z s.1) x0 1 (fun q => FA EAf σ q.1 ∧ ((∃ dd, Gg z n 150 0 0 0 s = .inl dd ∧ MR z (.inl dd) q.1) ∨ ∃ s', Gg z n 150 0 0 0 s = .inr s' ∧ ((MR z (.inr s'.1) q.1 ∧ MC s' q.1) ∨ (MR z (.inl (bad (kZ z s'.1) 2, pZ z s'.1)) q.1 ∧ kZ z s'.1 ≠ 59)))) := by
    refine rf_G hz n7 hn hN 150 0 0 0 s [2] x0 _ (by unfold ndG; decide) (fun q => absurd q (by decide)) (fun q => absurd q (by decide)) ⟨2, [], rfl, .inl (by decide), fun q => absurd q (by decide)⟩ List.mem_cons_self rfl (by decide) r0 hu (fun dd x e m f => ⟨F0.trans f, .inl ⟨dd, e, m⟩⟩) (fun s' x Q0 c1 e po f => ?_)
    obtain ⟨p1, p2, p3, p4⟩ := po
    have p4 : lvl (kZ z s'.1) < 0 ∨ (lvl (kZ z s'.1) = 2 ∧ cmpB (Q0 ++ [2]) = true) := p4
    obtain ⟨F', hFe'⟩ : ∃ F', fuel z s'.1 = F' + 1 := ⟨fuel z s'.1 - 1, by unfold fuel; omega⟩
    have hF2' : 2 ≤ F' := by unfold fuel at hFe'; omega
    rw [hFe']
    refine it_behind p1 (by rw [List.length_append, List.length_cons]; omega) ?_
    rcases p4 with p4 | ⟨p4, p5⟩
    · have l1 : lvl (kZ z s'.1) = -1 := by have := lvl_rg (kZ z s'.1); omega
      refine behindEnd hz n7 p1 (op_none l1) (fun q hq => ⟨(p3 q hq).1, (p3 q hq).2.2⟩) (by omega) (fun x3 hr3 f3 => ?_)
      dsimp only at hr3 ⊢
      rw [p2] at hr3
      refine (it_empty hr3 ⟨(F0.trans f).trans f3, .inr ⟨s', e, .inl ⟨hr3.1, hr3.2.1.1, hr3.2.1.2.1, hr3.2.2.1⟩⟩⟩).le (by omega)
    · have hop : lvl (kZ z s'.1) ≠ -1 := by omega
      have eT := rkL_T hop
      rw [p4] at eT
      refine behindCmp hz p1 eT p5 ⟨2, List.mem_append_right _ List.mem_cons_self, by decide, by decide⟩ (by omega) (fun x3 m3 f3 => ?_)
      dsimp only at m3 ⊢
      have c5 : kZ z s'.1 ≠ 59 := fun q => by
        rw [q] at p4
        exact absurd p4 (by decide)
      exact (it_dead m3 ⟨(F0.trans f).trans f3, .inr ⟨s', e, .inr ⟨m3, c5⟩⟩⟩).le (by omega)
  exact R N (by unfold fuel; omega)
/-- which line begins here, the reference -/
def TRf : Nat → Int → Prop := fun k i => (k = 1 ∧ (i < 0 ∨ (4 ≤ i ∧ i ≤ 10) ∨ (45 ≤ i ∧ i ≤ 49))) ∨ (k = 24 ∧ i = 3) ∨ ((k = 25 ∨ k = 26 ∨ k = 32) ∧ 12 ≤ i ∧ i ≤ 15) ∨ ((k = 27 ∨ k = 28) ∧ 2100 ≤ i) ∨ k = 29 ∨ k = 30
theorem eT : ∀ k i, EAf k i → TRf k i := fun k i q => by
  unfold EAf at q
  unfold TRf
  omega
theorem f7T (f : FM [] [4, 5, 6, 7, 8, 9, 10] σ τ) : FA TRf σ τ := f7 f fun i q => .inl ⟨rfl, by omega⟩
theorem MC.of {s : PS} (h : MC s σ) (f : FM [] [4, 5, 6, 7, 8, 9, 10] σ τ) (k : Int) : MC (k, s.2.1, s.2.2) τ := ⟨(f.f (by decide)).trans h.1, (f.f (by decide)).trans h.2.1, by rw [f.2.2.1 27 (by decide) (by simp), f.2.2.1 28 (by decide) (by simp)]; exact h.2.2⟩
theorem tlineM {k u : Int} {code : List Int} (hz : Str z) (n7 : nZ z ≤ 700) (hN : 5000 < N) (h : MR z (.inr k) σ) (hc : MC (k, u, code) σ) (hu : 0 ≤ u ∧ u ≤ 60) (hl : (code.length : Int) ≤ k) (he : ∀ i : Int, 0 ≤ i → i ≤ 3 → wz (σ.2.1 32 (12 + i)) = 0 ∨ wz (σ.2.1 32 (12 + i)) = 1) : Ok (f_X12_readTreaty N σ 1) (fun q => FA TRf σ q.1 ∧ ((¬ (15 ≤ kZ z k ∧ kZ z k ≤ 18 ∧ wz (σ.2.1 32 (12 + (kZ z k - 15))) = 0) ∧ MR z (.inl (bad (kZ z k) 2, pZ z k)) q.1) ∨ ((15 ≤ kZ z k ∧ kZ z k ≤ 18 ∧ wz (σ.2.1 32 (12 + (kZ z k - 15))) = 0) ∧ ((∃ dd, rTl z (kZ z k - 15) k u code = .inl dd ∧ MR z (.inl dd) q.1) ∨ ∃ s', rTl z (kZ z k - 15) k u code = .inr s' ∧ MR z (.inr s'.1) q.1 ∧ MC s' q.1 ∧ q.1.2.1 25 (12 + (kZ z k - 15)) = (code.length : Int) ∧ q.1.2.1 26 (12 + (kZ z k - 15)) = (s'.2.2.length : Int) ∧ q.1.2.1 32 (12 + (kZ z k - 15)) = 1 ∧ q.1.2.1 24 3 = σ.2.1 24 3 + 1 ∧ ∀ i : Int, i ≠ 12 + (kZ z k - 15) → q.1.2.1 25 i = σ.2.1 25 i ∧ q.1.2.1 26 i = σ.2.1 26 i ∧ q.1.2.1 32 i = σ.2.1 32 i)))) := by
  have hM := h.1
  have zK := hz.2.2.1
  have k1 := h.kd.1
  obtain ⟨b15, e15, a15, i15⟩ := isWord_eq (N := N) hz h (j := 15) (w := 495672455781) (by decide) rfl
  obtain ⟨b16, e16, a16, i16⟩ := isWord_eq (N := N) hz h (j := 16) (w := 465557354085) (by decide) rfl
  obtain ⟨b17, e17, a17, i17⟩ := isWord_eq (N := N) hz h (j := 17) (w := 6712441) (by decide) rfl
  obtain ⟨b18, e18, a18, i18⟩ := isWord_eq (N := N) hz h (j := 18) (w := 1801807216) (by decide) rfl
  have i15 := i15 k rfl
  have i16 := i16 k rfl
  have i17 := i17 k rfl
  have i18 := i18 k rfl
  unfold f_X12_readTreaty
  refine sm_rcv hM (ok_rw e15 ?_)
  refine ok_JnC (fun t2 => (15 ≤ kZ z k ∧ kZ z k ≤ 18 ∧ t2 = kZ z k - 15) ∨ (¬ (15 ≤ kZ z k ∧ kZ z k ≤ 18) ∧ t2 = -1)) (fun t2 ht2 => ?_) (fun J hJ => ?_)
  rotate_left
  · rcases a15 with rfl | rfl
    rotate_left
    · exact ok_z1 (hJ _ (.inl (by omega)))
    refine ok_z0 (sm_rcv hM (ok_rw e16 ?_))
    rcases a16 with rfl | rfl
    rotate_left
    · exact ok_z1 (hJ _ (.inl (by omega)))
    refine ok_z0 (sm_rcv hM (ok_rw e17 ?_))
    rcases a17 with rfl | rfl
    rotate_left
    · exact ok_z1 (hJ _ (.inl (by omega)))
    refine ok_z0 (sm_rcv hM (ok_rw e18 ?_))
    rcases a18 with rfl | rfl
    · exact ok_z0 (hJ _ (.inr (by omega)))
    · exact ok_z1 (hJ _ (.inl (by omega)))
  obtain ⟨xw, ew, mw, fw⟩ := wrong_eq (N := N) hz h
  refine ok_JnC (fun y => ((15 ≤ kZ z k ∧ kZ z k ≤ 18 ∧ wz (σ.2.1 32 (12 + (kZ z k - 15))) = 0) ∧ y = σ) ∨ (¬ (15 ≤ kZ z k ∧ kZ z k ≤ 18 ∧ wz (σ.2.1 32 (12 + (kZ z k - 15))) = 0) ∧ y = xw)) (fun y hy => ?_) (fun J hJ => ?_)
  rotate_left
  · refine ok_JnC (fun _ => ¬ (15 ≤ kZ z k ∧ kZ z k ≤ 18 ∧ wz (σ.2.1 32 (12 + (kZ z k - 15))) = 0)) (fun _ hu => sm_rcv hM (ok_rw ew (hJ _ (.inr ⟨hu, rfl⟩)))) (fun J2 hJ2 => ?_)
    rcases ht2 with ⟨q1, q2, rfl⟩ | ⟨q1, rfl⟩
    · refine ok_wlt0 (by omega) (fun q => by omega) (fun _ => ?_)
      refine sm_gR hM rfl ?_
      refine ok_JnC (fun t36 => t36 = kZ z k - 15) (fun t36 h36 => ?_) (fun J3 hJ3 => ok_wlt0 (by omega) (fun q => by omega) (fun _ => hJ3 _ rfl))
      subst h36
      refine sm_aI hM rfl rfl (by decide) (by omega) (by omega) ?_
      have hq := he (kZ z k - 15) (by omega) (by omega)
      exact ok_weqc (by omega) (fun c => hJ _ (.inl ⟨⟨q1, q2, c⟩, rfl⟩)) (fun c => hJ2 _ fun c' => c c'.2.2)
    · exact ok_wlt0 (by decide) (fun _ => hJ2 _ fun c => q1 ⟨c.1, c.2.1⟩) (fun q => absurd q (by decide))
  rcases hy with ⟨hg, rfl⟩ | ⟨hb, rfl⟩
  rotate_left
  · exact sm_rcv mw.1 (ok_rw (isGood_eq mw) (ok_z0 (ok_some ⟨f7T (fw.mono (fun _ h => h) (by simp)), .inl ⟨hb, mw⟩⟩)))
  have hn : t2 = kZ z k - 15 := by omega
  have hn3 : 0 ≤ t2 ∧ t2 ≤ 3 := by omega
  rw [← hn]
  obtain ⟨nx, nxl⟩ := nx1 hz k1 (by omega)
  refine sm_rcv hM (ok_rw (isGood_eq h) (ok_z1 ?_))
  obtain ⟨y1, e1, m1, f1⟩ := next_eq (N := N) hz h (by omega)
  have f1' : FM [] [4, 5, 6, 7, 8, 9, 10] y y1 := f1.mono (fun _ h => h) (by simp)
  refine sm_rcv hM (ok_rw e1 ?_)
  refine ok_JnC (fun x => MR z (rW z t2 k) x ∧ FM [] [4, 5, 6, 7, 8, 9, 10] y x) (fun x hx => ?_) (fun J hJ => ?_)
  rotate_left
  · refine ok_weqc (by omega) (fun c => hJ _ ⟨by unfold rW; rw [if_pos c]; exact m1, f1'⟩) (fun c => ?_)
    refine ok_wm hz m1 (j := 19) (by decide) rfl (by omega) (fun x m f => hJ _ ⟨by unfold rW; rw [if_neg c]; exact m, f1'.trans f⟩)
  obtain ⟨mx, fx⟩ := hx
  refine sm_pI mx.1 ?_
  have m2 : MR z (rW z t2 k) (uF x 1 49 t2) := mx.wF rfl
  have Fx2 : FA TRf y (uF x 1 49 t2) := (f7T fx).wF (.inl ⟨rfl, by omega⟩)
  have mc2 : MC (k, u, code) (uF x 1 49 t2) := ⟨(fI_j (by decide)).trans ((fx.f (by decide)).trans hc.1), (fI_j (by decide)).trans ((fx.f (by decide)).trans hc.2.1), by
    rw [uF_cell (by decide), uF_cell (by decide), fx.2.2.1 27 (by decide) (by simp), fx.2.2.1 28 (by decide) (by simp)]; exact hc.2.2⟩
  have v49 : fI (uF x 1 49 t2) 1 49 = t2 := fI_eq
  have oc : ∀ kk, kk ≠ 1 → (uF x 1 49 t2).2.1 kk = y.2.1 kk := fun kk hk => (uF_cell hk).trans (fx.2.2.1 kk hk (by simp))
  generalize uF x 1 49 t2 = x2 at m2 Fx2 mc2 v49 oc ⊢
  refine sm_gR m2.1 rfl (sm_gI m2.1 ?_)
  rw [mc2.2.1]
  refine sm_sI m2.1 rfl rfl (by decide) (by omega) (by omega) ?_
  dsimp only
  have m3 : MR z (rW z t2 k) (uI x2 25 (12 + t2) (code.length : Int)) := m2.wI (by decide)
  have Fx3 : FA TRf y (uI x2 25 (12 + t2) (code.length : Int)) := Fx2.wI (.inr (.inr (.inl ⟨.inl rfl, by omega, by omega⟩)))
  have mc3 : MC (k, u, code) (uI x2 25 (12 + t2) (code.length : Int)) := ⟨(fI_uk (by decide)).trans mc2.1, (fI_uk (by decide)).trans mc2.2.1, by rw [uI_cell (by decide), uI_cell (by decide)]; exact mc2.2.2⟩
  have w49 : fI (uI x2 25 (12 + t2) (code.length : Int)) 1 49 = t2 := (fI_uk (by decide)).trans v49
  have w25 : (uI x2 25 (12 + t2) (code.length : Int)).2.1 25 (12 + t2) = (code.length : Int) := uI_eq
  have w25' : ∀ i, i ≠ 12 + t2 → (uI x2 25 (12 + t2) (code.length : Int)).2.1 25 i = y.2.1 25 i := fun i hi => (uI_j hi).trans (by rw [oc 25 (by decide)])
  have oc3 : ∀ kk, kk ≠ 1 → kk ≠ 25 → (uI x2 25 (12 + t2) (code.length : Int)).2.1 kk = y.2.1 kk := fun kk a b => (uI_cell b).trans (oc kk a)
  generalize uI x2 25 (12 + t2) (code.length : Int) = x3 at m3 Fx3 mc3 w49 w25 w25' oc3 ⊢
  refine sm_rcv m3.1 (ok_rw (isGood_eq m3) ?_)
  refine ok_JnC (fun v => FA EAf x3 v ∧ ((∃ dd, rE z t2 u code (rW z t2 k) = .inl dd ∧ MR z (.inl dd) v) ∨ ∃ s', rE z t2 u code (rW z t2 k) = .inr s' ∧ ((MR z (.inr s'.1) v ∧ MC s' v) ∨ (MR z (.inl (bad (kZ z s'.1) 2, pZ z s'.1)) v ∧ kZ z s'.1 ≠ 59)))) (fun v hv => ?_) (fun J hJ => ?_)
  rotate_left
  · match hr : rW z t2 k, m3 with
    | .inl dd, m3 => exact ok_z0 (hJ _ ⟨FA.refl, .inl ⟨dd, by rw [hr]; rfl, m3⟩⟩)
    | .inr k2, m3 =>
      refine ok_z1 ?_
      have kk : k + 1 ≤ k2 := by
        unfold rW at hr
        by_cases c : t2 = 0
        · rw [if_pos c] at hr
          cases hr
          omega
        · rw [if_neg c] at hr
          obtain ⟨a, e, _, e'⟩ := opX_al hr
          cases e
          have := nxt_ge (z := z) (k := nxt z k) (by omega)
          omega
      have ee := e_eq (N := N) (s := (k2, u, code)) hz n7 hn3 hN m3 ⟨mc3.1, mc3.2.1, mc3.2.2⟩ w49 hu (by dsimp only; omega)
      obtain ⟨q, eq, Fq, res⟩ := ee
      exact sm_rcv m3.1 (ok_rw eq (hJ _ ⟨Fq, by rw [show rE z t2 u code (rW z t2 k) = Gg z t2 150 0 0 0 (k2, u, code) by rw [hr]; rfl]; exact res⟩))
  obtain ⟨Fv, res⟩ := hv
  have Fv' : FA TRf y v := Fx3.trans (Fv.mono eT)
  have ov : ∀ kk, kk = 24 ∨ kk = 25 ∨ kk = 26 ∨ kk = 32 → ∀ i, v.2.1 kk i = x3.2.1 kk i := fun kk hk i => Fv.c (by unfold EAf; omega)
  have hMv : WMr v.1 v.2.2 := Fv'.M hM
  -- the codes' number
  obtain ⟨cl, hcl⟩ : ∃ cl, fI v 1 45 = cl := ⟨_, rfl⟩
  refine sm_gR hMv rfl (sm_gI hMv ?_)
  rw [hcl]
  refine sm_sI hMv rfl rfl (by decide) (by omega) (by omega) ?_
  refine sm_gR (σ := uI v 26 (12 + t2) cl) hMv rfl ?_
  refine sm_sI (σ := uI v 26 (12 + t2) cl) hMv rfl rfl (by decide) (by omega) (by omega) ?_
  have F5 : FA TRf y (uI (uI v 26 (12 + t2) cl) 32 (12 + t2) 1) := (Fv'.wI (.inr (.inr (.inl ⟨.inr (.inl rfl), by omega, by omega⟩)))).wI (.inr (.inr (.inl ⟨.inr (.inr rfl), by omega, by omega⟩)))
  have u26 : (uI (uI v 26 (12 + t2) cl) 32 (12 + t2) 1).2.1 26 (12 + t2) = cl := (uI_k (by decide)).trans uI_eq
  have u32 : (uI (uI v 26 (12 + t2) cl) 32 (12 + t2) 1).2.1 32 (12 + t2) = 1 := uI_eq
  have u25 : (uI (uI v 26 (12 + t2) cl) 32 (12 + t2) 1).2.1 25 (12 + t2) = (code.length : Int) := (uI_k (by decide)).trans ((uI_k (by decide)).trans ((ov 25 (by omega) _).trans w25))
  have uo : ∀ i, i ≠ 12 + t2 → (uI (uI v 26 (12 + t2) cl) 32 (12 + t2) 1).2.1 25 i = y.2.1 25 i ∧ (uI (uI v 26 (12 + t2) cl) 32 (12 + t2) 1).2.1 26 i = y.2.1 26 i ∧ (uI (uI v 26 (12 + t2) cl) 32 (12 + t2) 1).2.1 32 i = y.2.1 32 i := fun i hi => by
    refine ⟨(uI_k (by decide)).trans ((uI_k (by decide)).trans ((ov 25 (by omega) _).trans (w25' i hi))), (uI_k (by decide)).trans ((uI_j hi).trans ((ov 26 (by omega) _).trans ?_)), (uI_j hi).trans ((uI_k (by decide)).trans ((ov 32 (by omega) _).trans ?_))⟩
    · rw [oc3 26 (by decide) (by decide)]
    · rw [oc3 32 (by decide) (by decide)]
  have u24 : (uI (uI v 26 (12 + t2) cl) 32 (12 + t2) 1).2.1 24 3 = y.2.1 24 3 := (uI_k (by decide)).trans ((uI_k (by decide)).trans ((ov 24 (by omega) _).trans (by rw [oc3 24 (by decide) (by decide)])))
  have um : ∀ {r : RS}, MR z r v → MR z r (uI (uI v 26 (12 + t2) cl) 32 (12 + t2) 1) := fun m => (m.wI (by decide)).wI (by decide)
  have uc : ∀ {s : PS}, MC s v → MC s (uI (uI v 26 (12 + t2) cl) 32 (12 + t2) 1) := fun m => ⟨(fI_uk (by decide)).trans ((fI_uk (by decide)).trans m.1), (fI_uk (by decide)).trans ((fI_uk (by decide)).trans m.2.1), by rw [uI_cell (by decide), uI_cell (by decide), uI_cell (by decide), uI_cell (by decide)]; exact m.2.2⟩
  have fin : ∀ {r : RS}, MR z r v → ∀ {x5 : St}, x5 = uI (uI v 26 (12 + t2) cl) 32 (12 + t2) 1 → ∀ {P : St × Int → Prop}, (∀ x6, MR z (opX z 59 r) x6 → FM [] [4, 5, 6, 7, 8, 9, 10] x5 x6 → P (uI x6 24 3 (x6.2.1 24 3 + 1), 0)) → Ok (Option.bind (rcv shm x5 12 1 (f_X12_is N x5 1 59)) fun q18 =>
 Option.bind (rcv shm x5 12 1 (f_X12_must N x5 1 q18.2)) fun q19 =>
 Option.bind (gR shm q19.1 12 1 36) fun treatyLines_20 =>
 Option.bind (aI shm q19.1 1 treatyLines_20 3) fun a21 =>
 Option.bind (sI shm q19.1 1 treatyLines_20 3 (a21 + 1)) fun σ22 =>
 some (σ22, 0)) P := fun {r} m {x5} e5 {P} hP => by
    have m5 : MR z r x5 := by rw [e5]; exact um m
    refine ok_sm hz m5 (by unfold isSg; decide) (by omega) (fun x6 m6 f6 => ?_)
    refine sm_gR m6.1 rfl ?_
    refine sm_aI m6.1 rfl rfl (by decide) (by decide) (by decide) ?_
    exact sm_sI m6.1 rfl rfl (by decide) (by decide) (by decide) (ok_some (hP x6 m6 f6))
  have rl : rTl z t2 k u code = rF z (rE z t2 u code (rW z t2 k)) := rfl
  rw [rl]
  rcases res with ⟨dd, hr, hd⟩ | ⟨s', hr, res⟩
  · refine fin hd rfl (fun x6 m6 f6 => ⟨(F5.trans (f7T f6)).wI (.inr (.inl ⟨rfl, rfl⟩)), .inr ⟨by rw [hn]; exact hg, .inl ⟨dd, by rw [hr]; rfl, m6.wI (by decide)⟩⟩⟩)
  · rcases res with ⟨ms, mcs⟩ | ⟨md, c⟩
    · refine fin ms rfl (fun x6 m6 f6 => ⟨(F5.trans (f7T f6)).wI (.inr (.inl ⟨rfl, rfl⟩)), .inr ⟨by rw [hn]; exact hg, ?_⟩⟩)
      rw [hr]
      show (∃ dd, (if kZ z s'.1 = 59 then Sum.inr (nxt z s'.1, s'.2.1, s'.2.2) else Sum.inl (bad (kZ z s'.1) 2, pZ z s'.1) : PRs) = .inl dd ∧ _) ∨ ∃ s1, (if kZ z s'.1 = 59 then Sum.inr (nxt z s'.1, s'.2.1, s'.2.2) else Sum.inl (bad (kZ z s'.1) 2, pZ z s'.1) : PRs) = .inr s1 ∧ _
      by_cases c : kZ z s'.1 = 59
      · have e : opX z 59 (.inr s'.1) = .inr (nxt z s'.1) := if_pos (decide_eq_true c)
        rw [e] at m6
        have mc6 := (uc mcs).of f6 (nxt z s'.1)
        have ecl : cl = (s'.2.2.length : Int) := hcl.symm.trans mcs.2.1
        refine .inr ⟨_, if_pos c, m6.wI (by decide), ⟨(fI_uk (by decide)).trans mc6.1, (fI_uk (by decide)).trans mc6.2.1, by rw [uI_cell (by decide), uI_cell (by decide)]; exact mc6.2.2⟩, ?_, ?_, ?_, ?_, fun i hi => ⟨?_, ?_, ?_⟩⟩
        · rw [uI_k (by decide), f6.c (by decide) (by simp)]; exact u25
        · rw [uI_k (by decide), f6.c (by decide) (by simp), u26]; exact ecl
        · rw [uI_k (by decide), f6.c (by decide) (by simp)]; exact u32
        · rw [uI_eq, f6.c (by decide) (by simp), u24]
        · rw [uI_k (by decide), f6.c (by decide) (by simp)]; exact (uo i hi).1
        · rw [uI_k (by decide), f6.c (by decide) (by simp)]; exact (uo i hi).2.1
        · rw [uI_k (by decide), f6.c (by decide) (by simp)]; exact (uo i hi).2.2
      · have e : opX z 59 (.inr s'.1) = .inl (bad (kZ z s'.1) 2, pZ z s'.1) := if_neg (by simp; exact c)
        rw [e] at m6
        exact .inl ⟨_, if_neg c, m6.wI (by decide)⟩
    · refine fin md rfl (fun x6 m6 f6 => ⟨(F5.trans (f7T f6)).wI (.inr (.inl ⟨rfl, rfl⟩)), .inr ⟨by rw [hn]; exact hg, .inl ⟨_, ?_, m6.wI (by decide)⟩⟩⟩)
      rw [hr]
      exact if_neg c
end F
