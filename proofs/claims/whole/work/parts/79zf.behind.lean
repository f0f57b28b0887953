/-! the pure part: the reference behind a unit -/
section F
variable {N : Nat} {σ τ υ : St} {z : Zs} {n : Int}
theorem op_facts {kd : Int} (h : lvl kd ≠ -1) : rkT kd = rk (-1 - kd) ∧ 1 ≤ rkT kd ∧ -1 - kd < 0 ∧ ¬ (-1 - kd = -23 ∨ -1 - kd = 1) ∧ (rkT kd = 2 → rc (-1 - kd) = 38) ∧ (rkT kd = 1 → rc (-1 - kd) = 124) ∧ (rkT kd ≠ 2 → rkT kd ≠ 1 → rc (-1 - kd) = kd ∧ isSg kd) := by
  have : kd = 20 ∨ kd = 21 ∨ kd = 42 ∨ kd = 43 ∨ kd = 45 ∨ kd = 60 ∨ kd = 61 ∨ kd = 62 := by
    unfold lvl at h
    repeat' split at h
    all_goals first | omega | (exact absurd rfl h)
  unfold isSg
  rcases this with rfl | rfl | rfl | rfl | rfl | rfl | rfl | rfl <;> decide
theorem op_none {kd : Int} (h : lvl kd = -1) : rkT kd = 0 := by
  unfold lvl at h
  unfold rkT
  repeat' split at h
  all_goals first | omega | skip
  repeat' split
  all_goals first | omega | skip
/-- an operator -/
theorem behindOp {Q : St × Int → Prop} {s : PS} {y : Int} {ys Q0 : List Int} (hz : Str z) (n7 : nZ z ≤ 700) (h : RP z n s (Q0 ++ y :: ys) σ) (hop : lvl (kZ z s.1) ≠ -1) (h0 : ∀ q, q ∈ Q0 → q < 0 ∧ rkT (kZ z s.1) ≤ rk q ∧ rk q ≤ 6) (hy : 7 ≤ rk y ∨ rk y < rkT (kZ z s.1)) (hcmp : ¬ (rkT (kZ z s.1) = 4 ∧ cmpB (Q0 ++ y :: ys) = true)) (hB : ∃ x, x ∈ Q0 ++ y :: ys ∧ rk x ≠ 5 ∧ rk x ≠ 6) (hlen : (y :: ys).length ≤ 50) (hN : 3000 < N) (k : ∀ x, RP z n (nxt z s.1, s.2.1, emA Q0 s.2.2) ((-1 - kZ z s.1) :: y :: ys) x → FA EAf σ x → Q (x, 1)) : Ok (f_X12_behind N σ 1) Q := by
  obtain ⟨o1, o2, o3, o4, o5, o6, o7⟩ := op_facts hop
  have rr := rkT_rg (kZ z s.1)
  have hM := h.1.1
  have k1 := h.1.kd.1
  have zK := hz.2.2.1
  have nx := nx1 hz k1 (lvl_bin hop).2.1
  unfold f_X12_behind
  refine sm_rcv hM (ok_rw (rank_eq hz h.1) ?_)
  refine ok_JnC (fun _ => True) (fun _ _ => ?_) (fun J hJ => ?_)
  · refine ok_JnC (fun x => RP z n (s.1, s.2.1, emA Q0 s.2.2) (y :: ys) x ∧ FA EAf σ x) (fun x hx => ?_) (fun J hJ => popM hz n7 h rr h0 ⟨y, ys, rfl, hy⟩ (by omega) fun x a b => hJ x ⟨a, b⟩)
    obtain ⟨hr, hF⟩ := hx
    have hMx := hr.1.1
    refine ok_w0lt (by dsimp only; omega) (fun _ => ?_) (fun q => by dsimp only at q; omega)
    refine ok_JnC (fun b => b = rc (-1 - kZ z s.1)) (fun b hb => ?_) (fun J2 hJ2 => ?_)
    · subst hb
      obtain ⟨h9a, h9b⟩ := hr.2.2.2.2
      dsimp only at h9a
      obtain ⟨x2, e2, F2, r2⟩ := (show RP z n (s.1, s.2.1, emA Q0 s.2.2) (y :: ys) x from hr).1 |> fun _ => (⟨_, pput_eq (N := N) (a := rkT (kZ z s.1)) (b := rc (-1 - kZ z s.1)) hMx hr.2.1.2.2.1 (by rw [List.length_cons] at hlen ⊢; omega), (((FA.refl.wI (.inr (.inr (.inl rfl)))).wI (.inr (.inr (.inr rfl)))).wF (.inl ⟨rfl, by omega⟩) : FA EAf x _), rfl⟩ : ∃ x2, f_X12_put N x 1 (rkT (kZ z s.1)) (rc (-1 - kZ z s.1)) = some (x2, 0) ∧ FA EAf x x2 ∧ x2 = uF (uI (uI x 29 ((y :: ys).length : Int) (rkT (kZ z s.1))) 30 ((y :: ys).length : Int) (rc (-1 - kZ z s.1))) 1 48 (((y :: ys).length : Int) + 1))
      refine sm_rcv hMx (ok_rw e2 ?_)
      obtain ⟨h1, ⟨h2, h3, h4, h5, h6⟩, h7, h8, _, h10⟩ := hr
      have m2 : MR z (.inr s.1) x2 := by
        rw [r2]
        exact ((h1.wI (by decide)).wI (by decide)).wF rfl
      obtain ⟨x3, e3, m3, f3⟩ := next_eq (N := N) hz m2 (by omega)
      refine sm_rcv m2.1 (ok_rw e3 (ok_some (k x3 ?_ ((hF.trans F2).trans (f7E (f3.mono (fun _ h => h) (by simp)))))))
      have j : ∀ i : Nat, i ≠ 48 → i ∉ [6, 7, 8, 9, 10] → fI x3 1 i = fI x 1 i := fun i a b => by
        rw [f3.f b, r2, fI_j a, fI_uk (by decide), fI_uk (by decide)]
      refine ⟨m3, ⟨(j 46 (by decide) (by decide)).trans h2, (j 45 (by decide) (by decide)).trans h3, ?_, ?_, (j 49 (by decide) (by decide)).trans h6⟩, ?_, ⟨?_, fun _ => ?_, ?_⟩, ?_, by rw [List.length_cons]; omega⟩
      · rw [f3.f (by decide), r2, fI_eq, List.length_cons (a := -1 - kZ z s.1)]; omega
      · rw [j 47 (by decide) (by decide), h5]
        show cnt (y :: ys) = cnt (y :: ys) + (if -1 - kZ z s.1 = -23 ∨ -1 - kZ z s.1 = 1 then 1 else 0)
        rw [if_neg o4]; omega
      · rw [f3.2.2.1 27 (by decide) (by simp), f3.2.2.1 28 (by decide) (by simp), r2, uF_cell (by decide), uF_cell (by decide), uI_cell (by decide), uI_cell (by decide), uI_cell (by decide), uI_cell (by decide)]; exact h7
      · rw [f3.2.2.1 29 (by decide) (by simp), r2, uF_k (by decide), uI_k (by decide), uI_eq]; exact o1
      · rw [f3.2.2.1 30 (by decide) (by simp), r2, uF_k (by decide), uI_eq]
      · rw [f3.2.2.1 29 (by decide) (by simp), f3.2.2.1 30 (by decide) (by simp), r2]
        refine h8.congr fun i p q => ⟨?_, ?_⟩
        · rw [uF_k (by decide), uI_k (by decide), uI_j (by omega)]
        · rw [uF_k (by decide), uI_j (by omega), uI_k (by decide)]
      · show ((emA Q0 s.2.2).length : Int) + (npn (y :: ys) + (if -1 - kZ z s.1 < 0 then 1 else 0)) ≤ nxt z s.1
        rw [if_pos o3]; omega
    · dsimp only
      refine ok_weq (by omega) (by omega) (fun q => hJ2 _ (o5 q).symm) (fun q => ?_)
      refine ok_weq (by omega) (by omega) (fun q2 => hJ2 _ (o6 q2).symm) (fun q2 => ?_)
      obtain ⟨o8, o9⟩ := o7 q q2
      refine sm_gI hMx ?_
      have k6 := hr.1.kd.2.1
      dsimp only at k6
      rw [k6]
      have rk1 := hz.rg k1
      refine ok_sign hMx hr.1.2.1 (by omega) (hJ2 _ ?_)
      -- the sign here
      obtain ⟨_, _, _, g4, _⟩ := (hr.1.2.2 : MS z s.1 x)
      dsimp only at g4
      have t5 : tZ z (pZ z s.1) = kZ z s.1 := by
        unfold TkM at g4
        unfold isSg at o9
        rcases g4 with v | v | v | v | v | v
        · omega
        · omega
        · omega
        · omega
        · omega
        · exact v.2.2
      have pn : pZ z s.1 < nZ z := by
        have l := (hz.tok k1).rg
        have := l.2.2.2.2.2.2.1 (lvl_bin hop).2.1
        omega
      rw [sgn_in pn, t5, o8]
  · dsimp only
    refine ok_weq (by omega) (by omega) (fun q => ?_) (fun _ => hJ _ trivial)
    refine sm_rcv hM (ok_rw (compared_eq h hB (by omega)) ?_)
    rw [if_neg fun q2 => hcmp ⟨q, q2⟩]
    exact ok_z0 (hJ _ trivial)
/-- a second relation -/
theorem behindCmp {Q : St × Int → Prop} {s : PS} {P : List Int} (hz : Str z) (h : RP z n s P σ) (hr : rkT (kZ z s.1) = 4) (hcmp : cmpB P = true) (hB : ∃ x, x ∈ P ∧ rk x ≠ 5 ∧ rk x ≠ 6) (hN : 3000 < N) (k : ∀ x, MR z (.inl (bad (kZ z s.1) 2, pZ z s.1)) x → FA EAf σ x → Q (x, 1)) : Ok (f_X12_behind N σ 1) Q := by
  have hM := h.1.1
  unfold f_X12_behind
  refine sm_rcv hM (ok_rw (rank_eq hz h.1) ?_)
  refine st_Jn ?_
  dsimp only
  rw [hr]
  refine ok_weq (by omega) (by omega) (fun _ => ?_) (fun q => by omega)
  refine sm_rcv hM (ok_rw (compared_eq h hB (by omega)) ?_)
  rw [if_pos hcmp]
  refine ok_z1 ?_
  obtain ⟨xw, ew, mw, fw⟩ := wrong_eq (N := N) hz h.1
  exact sm_rcv hM (ok_rw ew (ok_some (k xw mw (f7E (fw.mono (fun _ h => h) (by simp))))))
/-- a bracket's end -/
theorem behindClose {Q : St × Int → Prop} {s : PS} {ys Q0 : List Int} (hz : Str z) (n7 : nZ z ≤ 700) (h : RP z n s (Q0 ++ 1 :: ys) σ) (hr : rkT (kZ z s.1) = 0) (h0 : ∀ q, q ∈ Q0 → q < 0 ∧ rk q ≤ 6) (hN : 3000 < N) (k1 : kZ z s.1 = 41 → ∀ x, RP z n (nxt z s.1, s.2.1, emA Q0 s.2.2) ys x → FA EAf σ x → Q (x, 0)) (k2 : kZ z s.1 ≠ 41 → ∀ x, MR z (.inl (bad (kZ z s.1) 2, pZ z s.1)) x → FA EAf σ x → Q (x, 0)) : Ok (f_X12_behind N σ 1) Q := by
  have hM := h.1.1
  have zK := hz.2.2.1
  unfold f_X12_behind
  refine sm_rcv hM (ok_rw (rank_eq hz h.1) ?_)
  refine ok_JnC (fun _ => True) (fun _ _ => ?_) (fun J hJ => ?_)
  · refine ok_JnC (fun x => RP z n (s.1, s.2.1, emA Q0 s.2.2) (1 :: ys) x ∧ FA EAf σ x) (fun x hx => ?_) (fun J hJ => popM hz n7 h (by dsimp only; omega) (fun q hq => ⟨(h0 q hq).1, by dsimp only; have := rk_rg q; omega, (h0 q hq).2⟩) ⟨1, ys, rfl, .inl (by decide)⟩ (by omega) fun x a b => hJ x ⟨a, b⟩)
    obtain ⟨hr', hF⟩ := hx
    have hMx := hr'.1.1
    obtain ⟨g1, ⟨g2, g3, g4, g5, g6⟩, g7, g8, g9, g10⟩ := hr'
    have kk := g1.kd.1
    dsimp only at g2 g3 g9 kk
    rw [List.length_cons] at g4 g10
    refine ok_w0lt (by dsimp only; omega) (fun q => by dsimp only at q; omega) (fun _ => ?_)
    refine sm_gI hMx ?_
    rw [g4, show ((ys.length + 1 : Nat) : Int) - 1 = (ys.length : Int) by omega]
    refine sm_pI hMx ?_
    have m1 : MR z (.inr s.1) (uF x 1 48 (ys.length : Int)) := g1.wF rfl
    have w48 : fI (uF x 1 48 (ys.length : Int)) 1 48 = (ys.length : Int) := fI_eq
    have wj : ∀ j, j ≠ 48 → fI (uF x 1 48 (ys.length : Int)) 1 j = fI x 1 j := fun j hj => fI_j hj
    have wc : ∀ k, k ≠ 1 → (uF x 1 48 (ys.length : Int)).2.1 k = x.2.1 k := fun k hk => uF_cell hk
    have F1 : FA EAf σ (uF x 1 48 (ys.length : Int)) := hF.wF (.inl ⟨rfl, by omega⟩)
    generalize uF x 1 48 (ys.length : Int) = x1 at m1 w48 wj wc F1 ⊢
    refine sm_gR m1.1 rfl (sm_gI m1.1 ?_)
    rw [w48]
    refine sm_aI m1.1 rfl rfl (by decide) (by omega) (by omega) ?_
    rw [wc 29 (by decide), g8.1]
    refine ok_weq (by decide) (by decide) (fun _ => ?_) (fun q => absurd (by decide) q)
    refine sm_gI m1.1 ?_
    have g5 : fI x 1 47 = cnt ys + 1 := g5
    rw [wj 47 (by decide), g5, show cnt ys + 1 - 1 = cnt ys by omega]
    refine sm_pI m1.1 ?_
    have r2 : RP z n (s.1, s.2.1, emA Q0 s.2.2) ys (uF x1 1 47 (cnt ys)) := ⟨m1.wF rfl, ⟨(fI_j (by decide)).trans ((wj 46 (by decide)).trans g2), (fI_j (by decide)).trans ((wj 45 (by decide)).trans g3), (fI_j (by decide)).trans w48, fI_eq, (fI_j (by decide)).trans ((wj 49 (by decide)).trans g6)⟩, by rw [uF_cell (by decide), uF_cell (by decide), wc 27 (by decide), wc 28 (by decide)]; exact g7, by rw [uF_cell (by decide), uF_cell (by decide), wc 29 (by decide), wc 30 (by decide)]; exact g8.2.2, by
      have g9 : ((emA Q0 s.2.2).length : Int) + (npn ys + (if (1 : Int) < 0 then 1 else 0)) ≤ s.1 := g9
      rw [if_neg (by decide)] at g9
      dsimp only; omega, by omega⟩
    have F2 : FA EAf σ (uF x1 1 47 (cnt ys)) := F1.wF (.inl ⟨rfl, by omega⟩)
    generalize uF x1 1 47 (cnt ys) = x2 at r2 F2 ⊢
    refine ok_sm hz r2.1 (by unfold isSg; decide) (by omega) (fun x3 m3 f3 => ok_some ?_)
    have F3 := F2.trans (f7E f3)
    by_cases c : kZ z s.1 = 41
    · have e : opX z 41 (.inr s.1) = .inr (nxt z s.1) := if_pos (decide_eq_true c)
      have m3 : MR z (opX z 41 (.inr s.1)) x3 := m3
      rw [e] at m3
      exact k1 c x3 (r2.of m3 f3 (by have := nxt_ge kk.2; dsimp only; omega)) F3
    · have e : opX z 41 (.inr s.1) = .inl (bad (kZ z s.1) 2, pZ z s.1) := if_neg (by simp; exact c)
      have m3 : MR z (opX z 41 (.inr s.1)) x3 := m3
      rw [e] at m3
      exact k2 c x3 m3 F3
  · dsimp only
    rw [hr]
    exact ok_weq (by omega) (by omega) (fun q => by omega) (fun _ => hJ _ trivial)
/-- the expression's end -/
theorem behindEnd {Q : St × Int → Prop} {s : PS} {Q0 : List Int} (hz : Str z) (n7 : nZ z ≤ 700) (h : RP z n s (Q0 ++ [2]) σ) (hr : rkT (kZ z s.1) = 0) (h0 : ∀ q, q ∈ Q0 → q < 0 ∧ rk q ≤ 6) (hN : 3000 < N) (k : ∀ x, RP z n (s.1, s.2.1, emA Q0 s.2.2) [] x → FA EAf σ x → Q (x, 0)) : Ok (f_X12_behind N σ 1) Q := by
  have hM := h.1.1
  unfold f_X12_behind
  refine sm_rcv hM (ok_rw (rank_eq hz h.1) ?_)
  refine ok_JnC (fun _ => True) (fun _ _ => ?_) (fun J hJ => ?_)
  · refine ok_JnC (fun x => RP z n (s.1, s.2.1, emA Q0 s.2.2) [2] x ∧ FA EAf σ x) (fun x hx => ?_) (fun J hJ => popM hz n7 h (by dsimp only; omega) (fun q hq => ⟨(h0 q hq).1, by dsimp only; have := rk_rg q; omega, (h0 q hq).2⟩) ⟨2, [], rfl, .inl (by decide)⟩ (by omega) fun x a b => hJ x ⟨a, b⟩)
    obtain ⟨hr', hF⟩ := hx
    have hMx := hr'.1.1
    obtain ⟨g1, ⟨g2, g3, g4, g5, g6⟩, g7, g8, g9, g10⟩ := hr'
    refine ok_w0lt (by dsimp only; omega) (fun q => by dsimp only at q; omega) (fun _ => ?_)
    refine sm_gI hMx ?_
    rw [g4, show (([2] : List Int).length : Int) - 1 = 0 from rfl]
    refine sm_pI hMx ?_
    have m1 : MR z (.inr s.1) (uF x 1 48 0) := g1.wF rfl
    refine sm_gR m1.1 rfl (sm_gI m1.1 ?_)
    rw [show fI (uF x 1 48 0) 1 48 = 0 from fI_eq]
    refine sm_aI m1.1 rfl rfl (by decide) (by omega) (by omega) ?_
    rw [uF_cell (by decide), show x.2.1 29 0 = rk 2 from g8.1]
    refine ok_weq (by decide) (by decide) (fun q => absurd q (by decide)) (fun _ => ok_some (k _ ⟨m1, ⟨(fI_j (by decide)).trans g2, (fI_j (by decide)).trans g3, fI_eq, (fI_j (by decide)).trans g5, (fI_j (by decide)).trans g6⟩, ?_, trivial, g9, by decide⟩ (hF.wF (.inl ⟨rfl, by omega⟩))))
    rw [uF_cell (by decide), uF_cell (by decide)]; exact g7
  · dsimp only
    rw [hr]
    exact ok_weq (by omega) (by omega) (fun q => by omega) (fun _ => hJ _ trivial)
end F
