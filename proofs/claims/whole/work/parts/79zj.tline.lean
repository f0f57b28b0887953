/-! the pure part: a treaty's lines, both sides -/
theorem Stk.lt {f g : Int → Int} : ∀ {a l : List Int}, Stk f l → Stk g (a ++ l) → ∀ j : Int, 0 ≤ j → j < (l.length : Int) → g j = f j
  | [], [], _, _, j, h0, h1 => by simp at h1; omega
  | [], x :: xs, h, h', j, h0, h1 => by
    have h' : g (xs.length : Int) = x ∧ Stk g xs := h'
    by_cases q : j = (xs.length : Int)
    · rw [q, h'.1, h.1]
    · rw [List.length_cons] at h1
      exact Stk.lt (a := []) h.2 h'.2 j h0 (by omega)
  | _ :: a, l, h, h', j, h0, h1 => Stk.lt (a := a) h h'.2 j h0 h1
theorem Stk.idx {f g h : Int → Int} : ∀ {l : List Int}, Stk f l → CdR g h l → ∀ j : Int, 0 ≤ j → j < (l.length : Int) → g (2100 + j) = rc (f j) ∧ (0 ≤ f j → h (2100 + j) = f j)
  | [], _, _, j, h0, h1 => by simp at h1; omega
  | x :: xs, hs, hc, j, h0, h1 => by
    by_cases q : j = (xs.length : Int)
    · subst q
      rw [hs.1]
      exact ⟨hc.1, hc.2.1⟩
    · rw [List.length_cons] at h1
      exact Stk.idx hs.2 hc.2.2 j h0 (by omega)
theorem Stk.mem {f : Int → Int} : ∀ {a l : List Int}, Stk f (a ++ l) → ∀ j : Int, (l.length : Int) ≤ j → j < ((a ++ l).length : Int) → f j ∈ a
  | [], l, _, j, h0, h1 => by simp at h1; omega
  | x :: a, l, h, j, h0, h1 => by
    by_cases q : j = ((a ++ l).length : Int)
    · have h' : f ((a ++ l).length : Int) = x ∧ Stk f (a ++ l) := h
      rw [q, h'.1]; exact List.mem_cons_self
    · rw [List.cons_append, List.length_cons] at h1
      have h' : f ((a ++ l).length : Int) = x ∧ Stk f (a ++ l) := h
      exact List.mem_cons_of_mem _ (Stk.mem h'.2 j h0 (by omega))
theorem Run_snoc {c : Int → Int} : ∀ {k : Nat} {p : Int} {n n1 n2 : Nat}, Run c k p n n1 → hs (c (p + (k : Int))) n1 n2 → Run c (k + 1) p n n2
  | 0, p, n, n1, n2, h, h2 => by
    have h : n = n1 := h
    subst h
    rw [show p + ((0 : Nat) : Int) = p by omega] at h2
    exact ⟨n2, h2, rfl⟩
  | k + 1, p, n, n1, n2, h, h2 => by
    obtain ⟨x, h3, h4⟩ := h
    rw [show p + ((k + 1 : Nat) : Int) = p + 1 + (k : Int) by omega] at h2
    exact ⟨x, h3, Run_snoc h4 h2⟩
theorem RunR.run {f : Int → Int} {base : List Int} : ∀ {seg : List Int} {h h' : Nat}, Stk f (seg ++ base) → RunR seg h h' → Run f seg.length (base.length : Int) h h'
  | [], _, _, _, hr => hr
  | c :: cs, h, h', hst, hr => by
    obtain ⟨x, h3, h4⟩ := hr
    have ih := RunR.run (base := base) hst.2 h3
    have e : f ((base.length : Int) + (cs.length : Int)) = c := by
      have this : f ((cs ++ base).length : Int) = c := hst.1
      rw [List.length_append] at this
      rw [← this]
      congr 1
      omega
    exact Run_snoc ih (by rw [e]; exact h4)
theorem Run_congr {f g : Int → Int} : ∀ {k : Nat} {p : Int} {n n' : Nat}, Run f k p n n' → (∀ j : Int, p ≤ j → j < p + (k : Int) → g j = f j) → Run g k p n n'
  | 0, _, _, _, h, _ => h
  | k + 1, p, n, n', h, e => by
    obtain ⟨x, h3, h4⟩ := h
    exact ⟨x, by rw [e p (by omega) (by omega)]; exact h3, Run_congr h4 fun j a b => e j (by omega) (by omega)⟩
section F
variable {N : Nat} {σ τ υ σm τm w : St} {z : Zs} {n : Int} {t : Nat}
theorem rTl_props {k u : Int} {code : List Int} {s' : PS} (hz : Str z) (hk : 0 ≤ k ∧ k < KZ z) (kd : kZ z k ≠ 102) (hu : 0 ≤ u) (e : rTl z n k u code = .inr s') : k < s'.1 ∧ s'.1 < KZ z ∧ u < s'.2.1 ∧ s'.2.1 ≤ 60 ∧ ∃ seg : List Int, s'.2.2 = seg ++ code ∧ (seg.length : Int) ≤ s'.1 - k ∧ RunR seg 0 1 ∧ ∀ c, c ∈ seg → -34 ≤ c ∧ c ≤ -24 → asksW n (-1 - c) := by
  unfold rTl at e
  obtain ⟨nx, nxl⟩ := nx1 hz hk kd
  match hw : rW z n k, e with
  | .inl dd, e => cases e
  | .inr k2, e =>
    have k2r : k + 1 ≤ k2 ∧ k2 < KZ z := by
      unfold rW at hw
      by_cases c : n = 0
      · rw [if_pos c] at hw
        cases hw
        omega
      · rw [if_neg c] at hw
        obtain ⟨a, e1, _, e2⟩ := opX_al hw
        cases e1
        have := nxt_ge (z := z) (k := nxt z k) (by omega)
        have := nxt_rg hz (k := nxt z k) (by omega)
        omega
    have e : rF z (Gg z n 150 0 0 0 (k2, u, code)) = .inr s' := e
    match hg : Gg z n 150 0 0 0 (k2, u, code), e with
    | .inl dd, e => cases e
    | .inr s1, e =>
      obtain ⟨p1, p2, p3, p4, seg, p5, p6, p7, p8⟩ := Gg_props hz 150 0 0 0 (k2, u, code) s1 (by dsimp only; omega) k2r.2 hu (fun q => absurd q (by decide)) (by decide) hg
      have e : (if kZ z s1.1 = 59 then Sum.inr (nxt z s1.1, s1.2.1, s1.2.2) else Sum.inl (bad (kZ z s1.1) 2, pZ z s1.1) : PRs) = .inr s' := e
      by_cases c : kZ z s1.1 = 59
      · rw [if_pos c] at e
        cases e
        dsimp only at p1 p3 p5 p6 p7 ⊢
        have := nx1 hz (k := s1.1) ⟨by omega, p2⟩ (by omega)
        exact ⟨by omega, by omega, p3, p4, seg, p5, by omega, p7 0 (by omega), p8⟩
      · rw [if_neg c] at e; cases e
def bI (x : Int) : Int := if x = -1 then 0 else 1
def tcn (f : Int → Int) : Int := bI (f 0) + bI (f 1) + bI (f 2) + bI (f 3)
theorem bI_rg (x : Int) : 0 ≤ bI x ∧ bI x ≤ 1 := by unfold bI; split <;> decide
/-- both readers between two lines of a treaty -/
def TL (z : Zs) (t : Nat) (k u : Int) (code : List Int) (σ σm : St) : Prop := CX z t (k, u, code) σ ∧ (MR z (.inr k) σm ∧ MC (k, u, code) σm) ∧ ((0 ≤ u ∧ u ≤ 60) ∧ (code.length : Int) ≤ k) ∧ (σm.2.1 24 3 = fI σ t 0 ∧ fI σ t 0 = tcn (σ.2.1 (t + 2))) ∧ ∀ n : Int, 0 ≤ n → n ≤ 3 → RTl t 3 n σ σm ∧ (σ.2.1 (t + 2) n ≠ -1 → σ.2.1 (t + 3) n ≤ (code.length : Int))
def TCa (t : Nat) : Nat → Int → Prop := fun k _ => k = 2 ∨ k = 5 ∨ k = 6 ∨ k = 7 ∨ (t ≤ k ∧ k ≤ t + 3)
/-- a line that can't begin here, the class -/
theorem tbadX {k u : Int} {code : List Int} (hz : Str z) (ht : isT t) (h : CX z t (k, u, code) σ) (hl : (code.length : Int) ≤ k) (hb : ¬ (15 ≤ kZ z k ∧ kZ z k ≤ 18 ∧ σ.2.1 (t + 2) (kZ z k - 15) = -1)) (hr : ∀ n : Int, 0 ≤ n → n ≤ 3 → rg (σ.2.1 (t + 2) n)) : Ok (f_X7_readLine N σ t 2) (fun q => FA (TCa t) σ q.1 ∧ XR z (.inl (bad (kZ z k) 2, pZ z k)) q.1) := by
  have hX := h.1.1
  obtain ⟨k1, k2, k3⟩ := h.1.kd
  dsimp only at k1 k2
  have rk1 := hz.rg k1
  obtain ⟨τ, e, x, f⟩ := refuse_eq (N := N) hz h.1 (w := 2) (by decide)
  have fin : Ok (Option.bind (rcv shx σ 6 2 (f_X6_refuse N σ 2 2)) fun q5 => some (q5.1, (0 : Int))) (fun q => FA (TCa t) σ q.1 ∧ XR z (.inl (bad (kZ z k) 2, pZ z k)) q.1) := sx_rcv hX rfl rfl (ok_rw e (ok_some ⟨f.fa fun _ => .inl rfl, x⟩))
  unfold f_X7_readLine
  refine sx_gI hX rfl rfl ?_
  rw [k2]
  refine st_Lt ?_
  refine ok_within (by omega) (by omega) (by omega) (fun c => ?_) (fun _ => st_Jn (ok_z0 fin))
  refine st_Jn (ok_z1 ?_)
  refine tx_rcv hX ht (ok_rw (told_eq hX ht c (hr _ c.1 c.2)) ?_)
  rw [if_neg (fun q => hb ⟨by omega, by omega, q⟩)]
  exact ok_z1 fin
theorem line2T {k u : Int} {code : List Int} (hz : Str z) (ht : isT t) (n7 : nZ z ≤ 700) (hN : 5000 < N) (h : TL z t k u code σ σm) (kd : kZ z k ≠ 102) : Ok (f_X7_readLine N σ t 2) (fun v => Ok (f_X12_readTreaty N σm 1) (fun w => FA (TCa t) σ v.1 ∧ FA TRf σm w.1 ∧ ((∃ dd, XR z (.inl dd) v.1 ∧ MR z (.inl dd) w.1) ∨ ∃ (k' u' : Int) (code' : List Int), k < k' ∧ TL z t k' u' code' (uF v.1 t 0 (fI v.1 t 0 + 1)) w.1))) := by
  have htl := isT_le ht
  obtain ⟨hc, ⟨hm, hmc⟩, ⟨hu, hl⟩, ⟨l1, l2⟩, hr⟩ := h
  have k1 := hc.1.kd.1
  dsimp only at k1
  have zK := hz.2.2.1
  have told : ∀ n : Int, 0 ≤ n → n ≤ 3 → (σ.2.1 (t + 2) n = -1 ∧ wz (σm.2.1 32 (12 + n)) = 0) ∨ (0 ≤ σ.2.1 (t + 2) n ∧ σ.2.1 (t + 2) n ≤ 700 ∧ wz (σm.2.1 32 (12 + n)) = 1) := fun n a b => by
    rcases (hr n a b).1 with ⟨q1, q2⟩ | ⟨q1, q2, _⟩
    · exact .inl ⟨q1, q2⟩
    · have := q1.1
      exact .inr ⟨by omega, by omega, q2⟩
  have hM2 := tlineM (N := N) hz n7 hN hm hmc hu hl (fun i a b => by
    rcases told i a b with q | q
    · exact .inl q.2
    · exact .inr q.2.2)
  obtain ⟨w1, ew, Fw, res⟩ := hM2
  rcases res with ⟨hb, hd⟩ | ⟨hg, res⟩
  · refine ok_mono (tbadX (N := N) hz ht hc hl (fun q => hb ⟨q.1, q.2.1, ?_⟩) (fun n a b => ?_)) (fun v hv => ok_eq ew ⟨hv.1, Fw, .inl ⟨_, hv.2, hd⟩⟩)
    · rcases told (kZ z k - 15) (by omega) (by omega) with c | c
      · exact c.2
      · omega
    · unfold rg
      rcases told n a b with c | c <;> omega
  · have hn : 0 ≤ kZ z k - 15 ∧ kZ z k - 15 ≤ 3 := by omega
    have hs : σ.2.1 (t + 2) (kZ z k - 15) = -1 := by
      rcases told (kZ z k - 15) hn.1 hn.2 with c | c
      · exact c.1
      · omega
    have hXl := tlineX (N := N) (n := kZ z k - 15) hz ht n7 (by omega) hc hu hl hn (by omega) hs
    refine ok_mono hXl fun v hv => ok_eq ew ⟨?_, Fw, ?_⟩
    · exact hv.1.mono fun k i q => by
        unfold TCf at q
        unfold TCa
        omega
    obtain ⟨Fv, hv⟩ := hv
    rcases hv with ⟨dd, e, xd⟩ | ⟨s', e, cx, w2, w3⟩
    · rcases res with ⟨dd', e', md⟩ | ⟨s2, e', _⟩
      · rw [e] at e'
        cases e'
        exact .inl ⟨dd, xd, md⟩
      · rw [e] at e'
        cases e'
    · rcases res with ⟨dd', e', md⟩ | ⟨s2, e', ms, mcs, m25, m26, m32, m24, mo⟩
      · rw [e] at e'
        cases e'
      rw [e] at e'
      cases e'
      obtain ⟨p1, p2, p3, p4, seg, p5, p6, p7, p8⟩ := rTl_props hz k1 kd hu.1 e
      refine .inr ⟨s'.1, s'.2.1, s'.2.2, p1, ?_⟩
      obtain ⟨nn, hnn⟩ : ∃ nn, kZ z k - 15 = nn := ⟨_, rfl⟩
      rw [hnn] at hn hs Fv w2 w3 m25 m26 m32 mo p8
      have cx' : CX z t s' (uF v.1 t 0 (fI v.1 t 0 + 1)) := ⟨cx.1.wF (by omega), (fI_j (by decide)).trans cx.2.1, (fI_j (by decide)).trans cx.2.2.1, by rw [uF_cell (by omega)]; exact cx.2.2.2⟩
      have v0 : fI (uF v.1 t 0 (fI v.1 t 0 + 1)) t 0 = fI σ t 0 + 1 := by
        rw [fI_eq, Fv.f (by unfold TCf; omega)]
      have vn : (uF v.1 t 0 (fI v.1 t 0 + 1)).2.1 (t + 2) nn = (code.length : Int) := (uF_k (by omega)).trans w2
      have vn3 : (uF v.1 t 0 (fI v.1 t 0 + 1)).2.1 (t + 3) nn = (s'.2.2.length : Int) := (uF_k (by omega)).trans w3
      have vi : ∀ i : Int, i ≠ nn → (uF v.1 t 0 (fI v.1 t 0 + 1)).2.1 (t + 2) i = σ.2.1 (t + 2) i ∧ (uF v.1 t 0 (fI v.1 t 0 + 1)).2.1 (t + 3) i = σ.2.1 (t + 3) i := fun i hi => ⟨(uF_k (by omega)).trans (Fv.c (by unfold TCf; omega)), (uF_k (by omega)).trans (Fv.c (by unfold TCf; omega))⟩
      have hst : Stk ((uF v.1 t 0 (fI v.1 t 0 + 1)).2.1 (t + 1)) (seg ++ code) := by
        rw [← p5]; exact cx'.2.2.2
      have same : ∀ j : Int, 0 ≤ j → j < (code.length : Int) → (uF v.1 t 0 (fI v.1 t 0 + 1)).2.1 (t + 1) j = σ.2.1 (t + 1) j := fun j a b => Stk.lt hc.2.2.2 hst j a b
      have idx : ∀ j : Int, 0 ≤ j → j < (s'.2.2.length : Int) → w1.1.2.1 27 (700 * 3 + j) = rc ((uF v.1 t 0 (fI v.1 t 0 + 1)).2.1 (t + 1) j) ∧ (0 ≤ (uF v.1 t 0 (fI v.1 t 0 + 1)).2.1 (t + 1) j → w1.1.2.1 28 (700 * 3 + j) = (uF v.1 t 0 (fI v.1 t 0 + 1)).2.1 (t + 1) j) := fun j a b => Stk.idx cx'.2.2.2 mcs.2.2 j a b
      have ln : (s'.2.2.length : Int) = (seg.length : Int) + (code.length : Int) := by rw [p5, List.length_append]; omega
      have sl : (s'.2.2.length : Int) ≤ s'.1 := by omega
      generalize uF v.1 t 0 (fI v.1 t 0 + 1) = x at cx' v0 vn vn3 vi hst same idx ⊢
      refine ⟨cx', ⟨ms, mcs⟩, ⟨⟨by omega, p4⟩, sl⟩, ⟨by rw [m24, v0, l1], ?_⟩, fun i a b => ?_⟩
      · rw [v0, l2]
        unfold tcn
        have bl : bI (code.length : Int) = 1 := if_neg (by omega)
        have bm : bI (-1) = 0 := rfl
        have hn' : nn = 0 ∨ nn = 1 ∨ nn = 2 ∨ nn = 3 := by omega
        rcases hn' with rfl | rfl | rfl | rfl
        · rw [(vi 1 (by decide)).1, (vi 2 (by decide)).1, (vi 3 (by decide)).1, vn, hs, bl, bm]; omega
        · rw [(vi 0 (by decide)).1, (vi 2 (by decide)).1, (vi 3 (by decide)).1, vn, hs, bl, bm]; omega
        · rw [(vi 0 (by decide)).1, (vi 1 (by decide)).1, (vi 3 (by decide)).1, vn, hs, bl, bm]; omega
        · rw [(vi 0 (by decide)).1, (vi 1 (by decide)).1, (vi 2 (by decide)).1, vn, hs, bl, bm]; omega
      · by_cases q : i = nn
        · subst q
          refine ⟨.inr ⟨⟨?_, ?_, fun j c d r => ?_⟩, ?_, ?_, ?_, fun j c d => ?_⟩, fun _ => by rw [vn3]; exact Int.le_refl _⟩
          · rw [vn, vn3]
            have := nx1 hz k1 kd
            omega
          · rw [vn, vn3, show ((s'.2.2.length : Int) - (code.length : Int)).toNat = seg.length by omega]
            exact RunR.run hst p7
          · rw [vn] at c
            rw [vn3] at d
            exact p8 _ (Stk.mem hst j c (by rw [List.length_append]; omega)) r
          · show wz (w1.1.2.1 32 (4 * 3 + i)) = 1
            rw [show (4 * 3 + i : Int) = 12 + i by omega, m32]; decide
          · show w1.1.2.1 25 (4 * 3 + i) = _
            rw [show (4 * 3 + i : Int) = 12 + i by omega, m25, vn]
          · show w1.1.2.1 26 (4 * 3 + i) = _
            rw [show (4 * 3 + i : Int) = 12 + i by omega, m26, vn3]
          · rw [vn] at c
            rw [vn3] at d
            exact idx j (by omega) d
        · obtain ⟨h1, h2⟩ := hr i a b
          obtain ⟨vi1, vi2⟩ := vi i q
          have mi := mo (12 + i) (by omega)
          refine ⟨?_, fun c => by rw [vi2]; rw [vi1] at c; have := h2 c; omega⟩
          rcases h1 with ⟨g1, g2⟩ | ⟨⟨g1, g2, g3⟩, g4, g5, g6, g7⟩
          · refine .inl ⟨by rw [vi1]; exact g1, ?_⟩
            show wz (w1.1.2.1 32 (4 * 3 + i)) = 0
            rw [show (4 * 3 + i : Int) = 12 + i by omega, mi.2.2]
            exact g2
          · have hle := h2 (by omega)
            refine .inr ⟨⟨by rw [vi1, vi2]; exact g1, ?_, fun j c d r => ?_⟩, ?_, ?_, ?_, fun j c d => ?_⟩
            · rw [vi1, vi2]
              exact Run_congr g2 fun j c d => same j (by omega) (by omega)
            · rw [vi1] at c
              rw [vi2] at d
              rw [same j (by omega) (by omega)] at r ⊢
              exact g3 j c d r
            · show wz (w1.1.2.1 32 (4 * 3 + i)) = 1
              rw [show (4 * 3 + i : Int) = 12 + i by omega, mi.2.2]
              exact g4
            · show w1.1.2.1 25 (4 * 3 + i) = _
              rw [show (4 * 3 + i : Int) = 12 + i by omega, mi.1, vi1]
              exact g5
            · show w1.1.2.1 26 (4 * 3 + i) = _
              rw [show (4 * 3 + i : Int) = 12 + i by omega, mi.2.1, vi2]
              exact g6
            · rw [vi1] at c
              rw [vi2] at d
              exact idx j (by omega) (by omega)
end F
