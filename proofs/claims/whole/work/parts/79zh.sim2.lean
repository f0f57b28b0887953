/-! the pure part: the reference reads an expression as it is to be read, all of it -/
section F
variable {N : Nat} {σ τ υ : St} {z : Zs} {n : Int}
theorem cmpB_top {a : List Int} {y : Int} {ys : List Int} (h : ∀ q, q ∈ a → rk q = 5 ∨ rk q = 6) (hy : rk y ≠ 4 ∧ rk y ≠ 5 ∧ rk y ≠ 6) : cmpB (a ++ y :: ys) = false := by
  rw [cmpB_skip h]
  show (if rk y = 5 ∨ rk y = 6 then _ else decide (rk y = 4)) = false
  rw [if_neg (by omega)]
  exact decide_eq_false hy.1
set_option maxHeartbeats 4000000 in
theorem rf_G (hz : Str z) (n7 : nZ z ≤ 700) (hn : 0 ≤ n ∧ n ≤ 3) (hN : 5000 < N) : ∀ (g tag : Nat) (L d : Int) (s : PS) (P : List Int) (σ : St) (Q : St × Int → Prop), ndG g tag L d → (tag = 1 → L = 2 → kZ z s.1 ≠ 22) → (tag = 2 → kZ z s.1 = 22) → cpt P (lvT tag L) (kZ z s.1) → (2 : Int) ∈ P → cnt P = d → (P.length : Int) ≤ 6 * d + lvT tag L + 1 → RP z n s P σ → (0 ≤ s.2.1 ∧ s.2.1 ≤ 60) → (∀ dd x, Gg z n g tag L d s = .inl dd → MR z (.inl dd) x → FA EAf σ x → Q (x, 0)) → (∀ s' x Q0 c1, Gg z n g tag L d s = .inr s' → PO z n P (lvT tag L) s' x Q0 c1 → FA EAf σ x → Rn N (fuel z s'.1) x 0 Q) → Rn N (fuel z s.1) σ 1 Q
  | 0, tag, L, d, s, P, σ, Q, hg, _, _, _, _, _, _, _, _, _, _ => by
    unfold ndG at hg
    omega
  | g + 1, 0, L, d, s, P, σ, Q, hg, _, _, hcp, h2, hc, hlen, h, hu, wd, wa => by
    unfold ndG at hg
    unfold Gg at wd wa
    by_cases c : L = 5
    · subst c
      rw [if_pos rfl] at wd wa
      exact rf_G hz n7 hn hN g 3 0 d s P σ Q (by unfold ndG; omega) (fun q => absurd q (by decide)) (fun q => absurd q (by decide)) hcp h2 hc hlen h hu wd wa
    · rw [if_neg c] at wd wa
      by_cases c2 : L = 2 ∧ kZ z s.1 = 22
      · rw [if_pos c2] at wd wa
        obtain ⟨rfl, c3⟩ := c2
        exact rf_G hz n7 hn hN g 2 0 d s P σ Q (by unfold ndG; omega) (fun q => absurd q (by decide)) (fun _ => c3) hcp h2 hc hlen h hu wd wa
      · rw [if_neg c2] at wd wa
        exact rf_G hz n7 hn hN g 1 L d s P σ Q (by unfold ndG; omega) (fun _ l2 q => c2 ⟨l2, q⟩) (fun q => absurd q (by decide)) hcp h2 hc hlen h hu wd wa
  | g + 1, 1, L, d, s, P, σ, Q, hg, hk, _, hcp, h2, hc, hlen, h, hu, wd, wa => by
    unfold ndG at hg
    have hL : 0 ≤ L ∧ L ≤ 4 := by omega
    have hk := hk rfl
    obtain ⟨r1, r2, r3, r4, r5, r6, r7⟩ := rkL_mn hL
    obtain ⟨y, ys, hPe, hy, hy2⟩ := hcp
    have hy : 7 ≤ rk y ∨ rk y < rkL L := hy
    have hlen : (P.length : Int) ≤ 6 * d + L + 1 := hlen
    have hF : ∀ a b : PS, 0 ≤ a.1 → a.1 < KZ z → 0 ≤ a.2.1 → Gg z n g 0 (L + 1) d a = .inr b → GP z n a b := fun a b a0 a1 a2 ea => Gg_props hz g 0 (L + 1) d a b a0 a1 a2 (fun q => absurd q (by decide)) (fun _ => by omega) ea
    have ih : ∀ (s : PS) (P : List Int) (σ : St) (Q : St × Int → Prop), cpt P (L + 1) (kZ z s.1) → (2 : Int) ∈ P → cnt P = d → (P.length : Int) ≤ 6 * d + (L + 1) + 1 → RP z n s P σ → (0 ≤ s.2.1 ∧ s.2.1 ≤ 60) → (∀ dd x, Gg z n g 0 (L + 1) d s = .inl dd → MR z (.inl dd) x → FA EAf σ x → Q (x, 0)) → (∀ s' x Q0 c1, Gg z n g 0 (L + 1) d s = .inr s' → PO z n P (L + 1) s' x Q0 c1 → FA EAf σ x → Rn N (fuel z s'.1) x 0 Q) → Rn N (fuel z s.1) σ 1 Q := fun s P σ Q a1 a2 a3 a4 a5 a6 a7 a8 => rf_G hz n7 hn hN g 0 (L + 1) d s P σ Q (by unfold ndG; omega) (fun q => absurd q (by decide)) (fun q => absurd q (by decide)) a1 a2 a3 a4 a5 a6 a7 a8
    have k1 := h.1.kd.1
    rw [Gg_1] at wd wa
    refine ih s P σ Q ⟨y, ys, hPe, by omega, fun q q2 => ?_⟩ h2 hc (by omega) h hu (fun dd x e m f => ?_) (fun s1 x Q0 c1 e po f => ?_)
    · by_cases l2 : L = 2
      · exact absurd q2 (hk l2)
      · exact hy2 (show 3 ≤ L by omega) q2
    · rw [e] at wd
      exact wd dd x rfl m f
    · rw [e] at wd wa
      obtain ⟨p1, p2, p3, p4⟩ := po
      have hgp := hF s s1 k1.1 k1.2 hu.1 e
      refine rf_L hz n7 hN hL hg.1 (most := if L = 2 then 1 else 60) ⟨fun q => if_pos q, fun q => if_neg q⟩ ih hF ⟨k1.1, hu.1⟩ ⟨y, ys, hPe, hy⟩ h2 hc hlen (fun dd x' e' m f' => wd dd x' e' m f') (fun s' x' Q0' c1' e' po' f' => wa s' x' Q0' c1' e' po' f') (if L = 2 then 1 else 60) s1 x Q0 c1 (Nat.le_refl _) rfl hgp (by have := hgp.2.2.1; omega) p1 p2 (fun q hq => by have := p3 q hq; omega) p4 (fun l2 => ⟨fun q => ?_, fun q => ?_⟩) f
      · rw [if_pos l2] at q
        exact absurd q (by decide)
      · exfalso
        subst l2
        rw [hPe, cmpB_top (fun q hq => by have := p3 q hq; have m3 : mnL (2 + 1) = 5 := rfl; omega) (by have m4 : rkL 2 = 4 := rfl; omega)] at q
        cases q
  | g + 1, 2, L, d, s, P, σ, Q, hg, _, hk, hcp, h2, hc, hlen, h, hu, wd, wa => by
    unfold ndG at hg
    have hk := hk rfl
    obtain ⟨y, ys, rfl, hy, _⟩ := hcp
    have m4 : rkL 2 = 4 := rfl
    have hy : 7 ≤ rk y ∨ rk y < rkL 2 := hy
    have hlen : ((y :: ys).length : Int) ≤ 6 * d + 2 + 1 := hlen
    have k1 := h.1.kd.1
    have bg : rk y ≤ 3 ∨ 7 ≤ rk y := by omega
    unfold Gg at wd wa
    have f1 := fuel_nx hz k1 (by omega)
    rw [f1]
    have fdead : ∀ {dd : Int × Int} {x : St} {w : Int}, MR z (.inl dd) x → Q (x, 0) → Rn N (fuel z (nxt z s.1)) x w Q := fun m q => (it_dead m q).le (by unfold fuel; omega)
    refine it_unit h (by rw [List.length_cons]; omega) ?_
    refine unitM hz n7 hn h hu (by omega) (by omega) (by omega) (fun _ _ c x hr hF => ?_) (fun _ _ c x m hF => ?_) (fun c => absurd ⟨hk, bg⟩ c) (fun _ c => absurd c (by omega)) (fun _ c => by have := askB_rg c; omega) (fun _ c => by omega) (fun _ c => by omega) (fun c => absurd ⟨hk, bg⟩ c)
    · rw [if_neg (by omega)] at wd wa
      dsimp only
      refine rf_G hz n7 hn hN g 0 2 (d + 1) (nxt z s.1, s.2.1, s.2.2) (-23 :: y :: ys) x Q (by unfold ndG; omega) (fun q => absurd q (by decide)) (fun q => absurd q (by decide)) ⟨-23, _, rfl, .inr (by decide), fun q => absurd q (by decide)⟩ (List.mem_cons_of_mem _ h2) ?_ ?_ hr hu (fun dd x2 e m f => ?_) (fun s1 x2 Q0 c1 e po f => ?_)
      · show cnt (y :: ys) + (if (-23 : Int) = -23 ∨ (-23 : Int) = 1 then 1 else 0) = d + 1
        rw [if_pos (.inl rfl)]; omega
      · rw [List.length_cons]
        show _ ≤ 6 * (d + 1) + 2 + 1
        omega
      · rw [e] at wd
        exact wd dd x2 rfl m (hF.trans f)
      · rw [e] at wa
        obtain ⟨p1, p2, p3, p4⟩ := po
        have p4 : lvl (kZ z s1.1) < 2 ∨ (lvl (kZ z s1.1) = 2 ∧ cmpB (Q0 ++ -23 :: y :: ys) = true) := p4
        refine wa (s1.1, s1.2.1, -23 :: s1.2.2) x2 (Q0 ++ [-23]) c1 rfl ⟨by rw [List.append_assoc]; exact p1, by rw [emA_app, p2]; rfl, fun q hq => ?_, ?_⟩ (hF.trans f)
        · rcases List.mem_append.mp hq with hq | hq
          · exact p3 q hq
          · rcases List.mem_cons.mp hq with rfl | hq
            · show (-23 : Int) < 0 ∧ mnL 2 ≤ rk (-23) ∧ rk (-23) ≤ 6
              decide
            · cases hq
        · rw [List.append_assoc]; exact p4
    · rw [if_pos (by omega)] at wd
      exact fdead m (wd _ x rfl m hF)
  | g + 1, m' + 3, L, d, s, P, σ, Q, hg, _, _, hcp, h2, hc, hlen, h, hu, wd, wa => by
    unfold ndG at hg
    have e3 : m' = 0 := by omega
    subst e3
    obtain ⟨y, ys, rfl, hy, hy2⟩ := hcp
    have hy2 := hy2 (show (3 : Int) ≤ 5 by decide)
    have hlen : ((y :: ys).length : Int) ≤ 6 * d + 5 + 1 := hlen
    have k1 := h.1.kd.1
    have nbg : ¬ (kZ z s.1 = 22 ∧ (rk y ≤ 3 ∨ 7 ≤ rk y)) := fun q => by
      have := hy2 q.1
      omega
    unfold Gg at wd wa
    have hfu : ∀ k : Int, 0 < fuel z k := fun k => by unfold fuel; omega
    have fdead : ∀ {dd : Int × Int} {x : St} {w k : Int}, MR z (.inl dd) x → Q (x, 0) → Rn N (fuel z k) x w Q := fun m q => (it_dead m q).le (by unfold fuel; omega)
    have zK := hz.2.2.1
    obtain ⟨F, hFe⟩ : ∃ F, fuel z s.1 = F + 1 := ⟨fuel z s.1 - 1, by have := hfu s.1; omega⟩
    have hF2 : 2 ≤ F := by unfold fuel at hFe; omega
    have fd2 : ∀ {dd : Int × Int} {x : St} {w : Int}, MR z (.inl dd) x → Q (x, 0) → Rn N F x w Q := fun m q => (it_dead m q).le (by omega)
    rw [hFe]
    have fnx : kZ z s.1 ≠ 102 → F = fuel z (nxt z s.1) := fun q => by
      have := fuel_nx hz k1 q
      omega
    refine it_unit h (by rw [List.length_cons]; omega) ?_
    refine unitM hz n7 hn h hu (by omega) (by omega) (by omega) (fun c c2 => absurd ⟨c, c2⟩ nbg) (fun c c2 => absurd ⟨c, c2⟩ nbg) (fun _ c x m f => ?_) (fun c c2 x hr f => ?_) (fun c c2 x hr f => ?_) (fun c c2 c3 x m f => ?_) (fun c c2 c3 x hr f => ?_) (fun _ c c2 c3 c4 x m f => ?_)
    · rw [if_pos (by omega)] at wd
      exact fd2 m (wd _ x rfl m f)
    · rw [if_neg (by omega), if_pos c2] at wa
      rw [fnx (by omega)]
      refine wa (nxt z s.1, s.2.1 + 1, wZ z s.1 :: s.2.2) x [] (wZ z s.1 :: s.2.2) rfl ⟨hr, rfl, (fun q hq => by cases hq), .inl ?_⟩ f
      have := lvl_rg (kZ z (nxt z s.1))
      show lvl (kZ z (nxt z s.1)) < 5
      omega
    · have ra := askB_rg c2
      rw [if_neg (by omega), if_neg (by omega), if_pos c2] at wa
      rw [fnx (by omega)]
      refine wa (nxt z s.1, s.2.1 + 1, (-1 - kZ z s.1) :: s.2.2) x [] ((-1 - kZ z s.1) :: s.2.2) rfl ⟨hr, rfl, (fun q hq => by cases hq), .inl ?_⟩ f
      have := lvl_rg (kZ z (nxt z s.1))
      show lvl (kZ z (nxt z s.1)) < 5
      omega
    · rw [if_neg (by omega), if_neg (by omega), if_neg c3, if_pos c2] at wd
      exact fd2 m (wd _ x rfl m f)
    · have na : ¬ askB n (kZ z s.1) = true := fun q => by have := askB_rg q; omega
      rw [if_neg (by omega), if_neg (by omega), if_neg na, if_neg (by omega), if_pos ⟨c2, by omega⟩] at wd wa
      rw [fnx (by omega)]
      dsimp only
      refine rf_G hz n7 hn hN g 0 0 (d + 1) (nxt z s.1, s.2.1 + 1, s.2.2) (1 :: y :: ys) x Q (by unfold ndG; omega) (fun q => absurd q (by decide)) (fun q => absurd q (by decide)) ⟨1, _, rfl, .inl (by decide), fun q => absurd q (by decide)⟩ (List.mem_cons_of_mem _ h2) ?_ ?_ hr (by dsimp only; omega) (fun dd x2 e m f2 => ?_) (fun s1 x2 Q0 c1 e po f2 => ?_)
      · show cnt (y :: ys) + (if (1 : Int) = -23 ∨ (1 : Int) = 1 then 1 else 0) = d + 1
        rw [if_pos (.inr rfl)]; omega
      · rw [List.length_cons]
        show _ ≤ 6 * (d + 1) + 0 + 1
        omega
      · rw [e] at wd
        exact wd dd x2 rfl m (f.trans f2)
      · rw [e] at wd wa
        have wd : ∀ dd x, (if kZ z s1.1 = 41 then Sum.inr (nxt z s1.1, s1.2.1, s1.2.2) else Sum.inl (bad (kZ z s1.1) 2, pZ z s1.1) : PRs) = .inl dd → MR z (.inl dd) x → FA EAf σ x → Q (x, 0) := wd
        have wa : ∀ s' x Q0 c1, (if kZ z s1.1 = 41 then Sum.inr (nxt z s1.1, s1.2.1, s1.2.2) else Sum.inl (bad (kZ z s1.1) 2, pZ z s1.1) : PRs) = .inr s' → PO z n (y :: ys) (lvT (0 + 3) L) s' x Q0 c1 → FA EAf σ x → Rn N (fuel z s'.1) x 0 Q := wa
        obtain ⟨p1, p2, p3, p4⟩ := po
        have p4 : lvl (kZ z s1.1) < 0 ∨ (lvl (kZ z s1.1) = 2 ∧ cmpB (Q0 ++ 1 :: y :: ys) = true) := p4
        have k2 := p1.1.kd.1
        dsimp only at k2
        obtain ⟨F', hFe'⟩ : ∃ F', fuel z s1.1 = F' + 1 := ⟨fuel z s1.1 - 1, by have := hfu s1.1; omega⟩
        have hF2' : 2 ≤ F' := by unfold fuel at hFe'; omega
        rw [hFe']
        refine it_behind p1 (by rw [List.length_append, List.length_cons]; omega) ?_
        rcases p4 with p4 | ⟨p4, p5⟩
        · have l1 : lvl (kZ z s1.1) = -1 := by have := lvl_rg (kZ z s1.1); omega
          refine behindClose hz n7 p1 (op_none l1) (fun q hq => ⟨(p3 q hq).1, (p3 q hq).2.2⟩) (by omega) (fun c5 x3 hr3 f3 => ?_) (fun c5 x3 m3 f3 => ?_)
          · dsimp only at c5 hr3 ⊢
            rw [p2] at hr3
            rw [if_pos c5] at wa
            have := fuel_nx hz k2 (by omega)
            rw [show F' = fuel z (nxt z s1.1) by omega]
            refine wa _ x3 [] s1.2.2 rfl ⟨hr3, rfl, (fun q hq => by cases hq), .inl ?_⟩ ((f.trans f2).trans f3)
            have := lvl_rg (kZ z (nxt z s1.1))
            show lvl (kZ z (nxt z s1.1)) < 5
            omega
          · dsimp only at c5 m3 ⊢
            rw [if_neg c5] at wd
            exact (it_dead m3 (wd _ x3 rfl m3 ((f.trans f2).trans f3))).le (by omega)
        · have hop : lvl (kZ z s1.1) ≠ -1 := by omega
          have eT := rkL_T hop
          rw [p4] at eT
          refine behindCmp hz p1 eT p5 ⟨1, List.mem_append_right _ List.mem_cons_self, by decide, by decide⟩ (by omega) (fun x3 m3 f3 => ?_)
          dsimp only at m3 ⊢
          have c5 : kZ z s1.1 ≠ 41 := fun q => by
            rw [q] at p4
            exact absurd p4 (by decide)
          rw [if_neg c5] at wd
          exact (it_dead m3 (wd _ x3 rfl m3 ((f.trans f2).trans f3))).le (by omega)
    · have na : ¬ askB n (kZ z s.1) = true := fun q => by have := askB_rg q; omega
      rw [if_neg (by omega), if_neg c2, if_neg na, if_neg c3, if_neg (by omega)] at wd
      exact fd2 m (wd _ x rfl m f)
end F
