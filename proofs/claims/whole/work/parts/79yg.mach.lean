/-! the pure part: a line of a machine, the class: names -/
/-- of all cells only the named points are others -/
def FA (A : Nat → Int → Prop) (σ τ : St) : Prop := τ.1 = σ.1 ∧ τ.2.2 = σ.2.2 ∧ ∀ k i, ¬ A k i → τ.2.1 k i = σ.2.1 k i
section G
variable {σ τ υ : St} {A B : Nat → Int → Prop}
theorem FA.refl : FA A σ σ := ⟨rfl, rfl, fun _ _ _ => rfl⟩
theorem FA.trans (h : FA A σ τ) (g : FA A τ υ) : FA A σ υ := ⟨g.1.trans h.1, g.2.1.trans h.2.1, fun k i q => (g.2.2 k i q).trans (h.2.2 k i q)⟩
theorem FA.mono (h : FA A σ τ) (s : ∀ k i, A k i → B k i) : FA B σ τ := ⟨h.1, h.2.1, fun k i q => h.2.2 k i fun p => q (s k i p)⟩
theorem FA.wI {k : Nat} {i v : Int} (h : FA A σ τ) (hk : A k i) : FA A σ (uI τ k i v) := ⟨h.1, h.2.1, fun k' i' q => by
  rw [uI_rd, if_neg (fun e => q (by rw [e.1, e.2]; exact hk))]
  exact h.2.2 k' i' q⟩
theorem FA.wF {k j : Nat} {v : Int} (h : FA A σ τ) (hk : A k (j : Int)) : FA A σ (uF τ k j v) := h.wI hk
theorem FA.c (h : FA A σ τ) {k : Nat} {i : Int} (hk : ¬ A k i) : τ.2.1 k i = σ.2.1 k i := h.2.2 k i hk
theorem FA.f (h : FA A σ τ) {k j : Nat} (hk : ¬ A k (j : Int)) : fI τ k j = fI σ k j := h.2.2 k _ hk
theorem FA.X (h : FA A σ τ) (hX : WXr σ.1 σ.2.2) : WXr τ.1 τ.2.2 := by rw [h.1, h.2.1]; exact hX
theorem FA.M (h : FA A σ τ) (hM : WMr σ.1 σ.2.2) : WMr τ.1 τ.2.2 := by rw [h.1, h.2.1]; exact hM
theorem FT.fa {J : List Nat} (h : FT [] J σ τ) (s : ∀ i, A 2 i) : FA A σ τ := ⟨h.1, h.2.1, fun k i q => h.c (fun e => q (by rw [e]; exact s i)) (by simp)⟩
theorem FM.fa {J : List Nat} (h : FM [] J σ τ) (s : ∀ i : Int, i < 0 → A 1 i) (s2 : ∀ j : Nat, j ∈ J → A 1 (j : Int)) : FA A σ τ := ⟨h.1, h.2.1, fun k i q => by
  by_cases e : k = 1
  · subst e
    by_cases i0 : i < 0
    · exact absurd (s i i0) q
    · have := h.f (j := i.toNat) (fun hj => q (by
        have := s2 _ hj
        rw [show ((i.toNat : Nat) : Int) = i by omega] at this
        exact this))
      unfold fI at this
      rw [show ((i.toNat : Nat) : Int) = i by omega] at this
      exact this
  · exact h.c e (by simp)⟩
end G
section F
variable {N : Nat} {σ τ υ : St} {z : Zs} {r : RS}
theorem XR.wI (h : XR z r σ) {k : Nat} {i v : Int} (hk : k ≠ 2 ∧ k ≠ 5 ∧ k ≠ 6 ∧ k ≠ 7) : XR z r (uI σ k i v) := by
  obtain ⟨h1, h2, h3⟩ := h
  refine ⟨h1, fun q x y => ?_, ?_⟩
  · rw [uI_k (Ne.symm hk.2.1), uI_k (Ne.symm hk.2.2.1), uI_k (Ne.symm hk.2.2.2)]
    exact h2 q x y
  · have e : ∀ j, fI (uI σ k i v) 2 j = fI σ 2 j := fun j => fI_uk (Ne.symm hk.1)
    match r, h3 with
    | .inl d, h3 =>
      show XD z d _
      have h3 : XD z d σ := h3
      unfold XD at h3 ⊢
      simp only [e]
      exact h3
    | .inr k, h3 =>
      show XS z k _
      have h3 : XS z k σ := h3
      unfold XS at h3 ⊢
      simp only [e]
      exact h3
theorem XR.wF (h : XR z r σ) {k j : Nat} {v : Int} (hk : k ≠ 2 ∧ k ≠ 5 ∧ k ≠ 6 ∧ k ≠ 7) : XR z r (uF σ k j v) := h.wI hk
theorem XR.kd {k : Int} (h : XR z (.inr k) σ) : (0 ≤ k ∧ k < KZ z) ∧ fI σ 2 8 = kZ z k ∧ fI σ 2 11 = wZ z k := by
  obtain ⟨g1, g2, g3, g4⟩ := (h.2.2 : XS z k σ)
  exact ⟨g1, g3.1, g3.2.2⟩
theorem XR.num (hz : Str z) {k : Int} (h : XR z (.inr k) σ) (hk : kZ z k = 101) : fI σ 2 10 = wZ z k ∧ 0 ≤ wZ z k ∧ wZ z k ≤ 9999 := by
  obtain ⟨g1, g2, g3, g4, g5⟩ := (h.2.2 : XS z k σ)
  rw [if_pos hk] at g4
  exact ⟨g4, hz.num g1 hk⟩
/-- the first of the names -/
def fdW (nm : Int → Int) (w : Int) : Nat → Int
  | 0 => -1
  | i + 1 => if fdW nm w i = -1 then (if wl (nm (i : Int)) = wl w then (i : Int) else -1) else fdW nm w i
theorem fdW_spec (nm : Int → Int) (w : Int) : ∀ p : Nat, (fdW nm w p = -1 ∧ ∀ i : Int, 0 ≤ i → i < (p : Int) → wl (nm i) ≠ wl w) ∨ (0 ≤ fdW nm w p ∧ fdW nm w p < (p : Int) ∧ wl (nm (fdW nm w p)) = wl w)
  | 0 => .inl ⟨rfl, fun i x y => by omega⟩
  | p + 1 => by
    have ih := fdW_spec nm w p
    unfold fdW
    rcases ih with ⟨h1, h2⟩ | ⟨h1, h2, h3⟩
    · rw [if_pos h1]
      by_cases c : wl (nm (p : Int)) = wl w
      · rw [if_pos c]
        exact .inr ⟨by omega, by omega, c⟩
      · rw [if_neg c]
        refine .inl ⟨rfl, fun i x y => ?_⟩
        by_cases q : i = (p : Int)
        · rw [q]; exact c
        · exact h2 i x (by omega)
    · rw [if_neg (by omega)]
      exact .inr ⟨h1, by omega, h3⟩
theorem fdW_rg (nm : Int → Int) (w : Int) (p : Nat) : -1 ≤ fdW nm w p ∧ fdW nm w p < (p : Int) := by
  rcases fdW_spec nm w p with h | h <;> omega
theorem fdW_hit {nm : Int → Int} {w : Int} {i : Nat} : ∀ p : Nat, fdW nm w i = -1 → wl (nm (i : Int)) = wl w → i < p → fdW nm w p = (i : Int)
  | 0, _, _, h => by omega
  | p + 1, h1, h2, h3 => by
    unfold fdW
    by_cases c : i = p
    · subst c
      rw [if_pos h1, if_pos h2]
    · rw [fdW_hit p h1 h2 (by omega), if_neg (by omega)]
theorem named_eq {m : Nat} {P w : Int} {nm : Int → Int} (hX : WXr σ.1 σ.2.2) (hm : isM m) (hP : fI σ m 1 = P) (hr : 0 ≤ P ∧ P ≤ 12) (hn : ∀ i : Int, 0 ≤ i → i < P → σ.2.1 (m + 1) i = nm i) (hN : 100 < N) : f_X3_partNamed N σ m w = some (σ, fdW nm w P.toNat) := by
  have H : Ok (f_X3_partNamed N σ m w) (fun q => q = (σ, fdW nm w P.toNat)) := by
    unfold f_X3_partNamed L_X3_partNamed_2
    refine ok_fix (fun t => (0 ≤ t ∧ t ≤ P) ∧ fdW nm w t.toNat = -1) (fun t => (P - t).toNat) (fun back t ht hback => ?_) _ ⟨by omega, rfl⟩ (by omega)
    obtain ⟨g1, g2⟩ := ht
    refine mx_gI hX hm ?_
    rw [hP]
    refine ok_wlt (by omega) (by omega) (fun c => ?_) (fun c => ok_some (by rw [show P = t by omega, g2]))
    refine mx_gR hX hm rfl ?_
    refine mx_aI hX hm rfl (by decide) (by omega) (by omega) ?_
    rw [hn t (by omega) c]
    refine ok_ite (fun e => ok_some ?_) (fun e => st_Lt (hback _ ⟨by omega, ?_⟩ (by omega)))
    · rw [fdW_hit (i := t.toNat) P.toNat g2 (by rw [show ((t.toNat : Nat) : Int) = t by omega]; exact e) (by omega), show ((t.toNat : Nat) : Int) = t by omega]
    · rw [show (t + 1).toNat = t.toNat + 1 by omega]
      unfold fdW
      rw [if_pos g2, show ((t.toNat : Nat) : Int) = t by omega, if_neg e]
  obtain ⟨q, e, rfl⟩ := H
  exact e
def opNew (z : Zs) (nm : Int → Int) (P : Int) (r : RS) : RS := match r with
  | .inl d => .inl d
  | .inr k => if kZ z k = 100 then (if fdW nm (wZ z k) P.toNat = -1 then .inr (nxt z k) else .inl (3, pZ z k)) else .inl (bad (kZ z k) 2, pZ z k)
def opOld (z : Zs) (nm : Int → Int) (P b : Int) (r : RS) : RS := match r with
  | .inl d => .inl d
  | .inr k => if kZ z k = 100 then (if fdW nm (wZ z k) P.toNat = -1 then .inl (5, pZ z k) else if fdW nm (wZ z k) P.toNat = b then .inl (6, pZ z k) else .inr (nxt z k)) else .inl (bad (kZ z k) 2, pZ z k)
def valO (z : Zs) (nm : Int → Int) (P : Int) (r : RS) : Int := match r with
  | .inl _ => 0
  | .inr k => fdW nm (wZ z k) P.toNat
theorem opOld_any {nm : Int → Int} {P b b' : Int} (h : ∀ k, r = .inr k → b = b') : opOld z nm P b r = opOld z nm P b' r := by
  match r, h with
  | .inl d, _ => rfl
  | .inr k, h => rw [h k rfl]
theorem newX {m : Nat} {P : Int} {nm : Int → Int} (hz : Str z) (hm : isM m) (h : XR z r σ) (hP : fI σ m 1 = P) (hr : 0 ≤ P ∧ P < 12) (hn : ∀ i : Int, 0 ≤ i → i < P → σ.2.1 (m + 1) i = nm i) (hN : 100 < N) : ∃ τ, f_X3_readNewName N σ m 2 = some (τ, 0) ∧ FA (fun k i => k = 2 ∨ (k = m + 1 ∧ i = P)) σ τ ∧ XR z (opNew z nm P r) τ ∧ ∀ k k', r = .inr k → opNew z nm P r = .inr k' → τ.2.1 (m + 1) P = wZ z k := by
  have hml := isM_le hm
  have hX := h.1
  have hP1 : -2147483648 ≤ fI σ m 1 ∧ fI σ m 1 < 2147483648 := by omega
  obtain ⟨τ2, e2, x2, f2⟩ := refuse_eq (N := N) hz h (w := 2) (by decide)
  obtain ⟨τ3, e3, x3, f3⟩ := refuse_eq (N := N) hz h (w := 3) (by decide)
  have F2 : FA (fun k i => k = 2 ∨ (k = m + 1 ∧ i = P)) σ τ2 := f2.fa fun _ => .inl rfl
  have F3 : FA (fun k i => k = 2 ∨ (k = m + 1 ∧ i = P)) σ τ3 := f3.fa fun _ => .inl rfl
  have h4 : XR z r (uI σ (m + 1) P (fI σ 2 11)) := h.wI (by omega)
  obtain ⟨τ4, e4, x4, f4⟩ := adv_eq (N := N) hz h4
  have F4 : FA (fun k i => k = 2 ∨ (k = m + 1 ∧ i = P)) σ τ4 := (FA.refl.wI (.inr ⟨rfl, rfl⟩)).trans (f4.fa fun _ => .inl rfl)
  have v4 : τ4.2.1 (m + 1) P = fI σ 2 11 := by rw [f4.c (by omega) (by simp), uI_eq]
  have H : Ok (f_X3_readNewName N σ m 2) (fun q => q.2 = 0 ∧ FA (fun k i => k = 2 ∨ (k = m + 1 ∧ i = P)) σ q.1 ∧ XR z (opNew z nm P r) q.1 ∧ ∀ k k', r = .inr k → opNew z nm P r = .inr k' → q.1.2.1 (m + 1) P = wZ z k) := by
    unfold f_X3_readNewName
    refine sx_gI hX rfl rfl ?_
    match r, h, x2, x3, x4 with
    | .inl d, h, x2, x3, x4 =>
      refine ok_ite (fun _ => ?_) (fun _ => sx_rcv hX rfl rfl (ok_rw e2 (ok_some ⟨rfl, F2, x2, fun k k' q => by cases q⟩)))
      refine sx_gI hX rfl rfl ?_
      refine mx_rcv hX hm (ok_rw (named_eq hX hm hP (by omega) hn hN) ?_)
      refine ok_ite (fun _ => ?_) (fun _ => sx_rcv hX rfl rfl (ok_rw e3 (ok_some ⟨rfl, F3, x3, fun k k' q => by cases q⟩)))
      refine mx_gI hX hm ?_
      refine ok_wlt hP1 (by omega) (fun _ => ?_) (fun _ => ok_some ⟨rfl, FA.refl, h, fun k k' q => by cases q⟩)
      refine mx_gR hX hm rfl ?_
      refine mx_gI hX hm ?_
      refine sx_gI hX rfl rfl ?_
      rw [hP]
      refine mx_sI hX hm rfl (by decide) (by omega) (by omega) ?_
      exact sx_rcv (σ := uI σ (m + 1) P (fI σ 2 11)) hX rfl rfl (ok_rw e4 (ok_some ⟨rfl, F4, x4, fun k k' q => by cases q⟩))
    | .inr k, h, x2, x3, x4 =>
      obtain ⟨k1, k2, k3⟩ := h.kd
      have rk := hz.rg k1
      rw [k2]
      refine ok_weq (by omega) (by omega) (fun c => ?_) (fun c => sx_rcv hX rfl rfl (ok_rw e2 (ok_some ⟨rfl, F2, ?_, fun k k' _ q => ?_⟩)))
      · have rf := fdW_rg nm (wZ z k) P.toNat
        refine sx_gI hX rfl rfl ?_
        refine mx_rcv hX hm (ok_rw (named_eq hX hm hP (by omega) hn hN) ?_)
        rw [k3]
        refine ok_weq (by dsimp only; omega) (by omega) (fun c2 => ?_) (fun c2 => sx_rcv hX rfl rfl (ok_rw e3 (ok_some ⟨rfl, F3, ?_, fun k k' _ q => ?_⟩)))
        · refine mx_gI hX hm ?_
          refine ok_wlt hP1 (by omega) (fun _ => ?_) (fun q => by omega)
          refine mx_gR hX hm rfl ?_
          refine mx_gI hX hm ?_
          refine sx_gI hX rfl rfl ?_
          rw [hP]
          refine mx_sI hX hm rfl (by decide) (by omega) (by omega) ?_
          refine sx_rcv (σ := uI σ (m + 1) P (fI σ 2 11)) hX rfl rfl (ok_rw e4 (ok_some ⟨rfl, F4, ?_, fun k k' q _ => ?_⟩))
          · rw [show opNew z nm P (.inr k) = .inr (nxt z k) by show (if kZ z k = 100 then _ else _) = _; rw [if_pos c, if_pos c2]]
            exact x4
          · cases q
            rw [v4, k3]
        · rw [show opNew z nm P (.inr k) = opF z 3 (.inr k) by
            show (if kZ z k = 100 then _ else _) = Sum.inl (bad (kZ z k) 3, pZ z k)
            unfold bad
            rw [if_pos c, if_neg c2, if_neg (by omega)]]
          exact x3
        · exfalso
          rw [show opNew z nm P (.inr _) = .inl (3, _) by show (if kZ z _ = 100 then _ else _) = _; rw [if_pos c, if_neg c2]] at q
          cases q
      · rw [show opNew z nm P (.inr k) = opF z 2 (.inr k) by
          show (if kZ z k = 100 then _ else _) = Sum.inl (bad (kZ z k) 2, pZ z k)
          rw [if_neg c]]
        exact x2
      · exfalso
        rw [show opNew z nm P (.inr _) = .inl (bad _ 2, _) by show (if kZ z _ = 100 then _ else _) = _; rw [if_neg c]] at q
        cases q
  obtain ⟨⟨τ, v⟩, e, h1, h2⟩ := H
  dsimp only at h1 h2
  subst h1
  exact ⟨τ, e, h2⟩
theorem oldX {m : Nat} {P b : Int} {nm : Int → Int} (hz : Str z) (hm : isM m) (h : XR z r σ) (hP : fI σ m 1 = P) (hr : 0 ≤ P ∧ P ≤ 12) (hn : ∀ i : Int, 0 ≤ i → i < P → σ.2.1 (m + 1) i = nm i) (hb : ∀ k, r = .inr k → -1 ≤ b ∧ b ≤ 12) (hN : 100 < N) : ∃ τ v, f_X3_readOldName N σ m 2 b = some (τ, v) ∧ XR z (opOld z nm P b r) τ ∧ FT [] [7, 8, 9, 10, 11, 12, 13] σ τ ∧ ∀ k', opOld z nm P b r = .inr k' → v = valO z nm P r ∧ (0 ≤ v ∧ v < P) ∧ v ≠ b := by
  have hml := isM_le hm
  have hX := h.1
  obtain ⟨τ1, e1, x1, f1⟩ := adv_eq (N := N) hz h
  obtain ⟨τ2, e2, x2, f2⟩ := refuse_eq (N := N) hz h (w := 2) (by decide)
  obtain ⟨τ5, e5, x5, f5⟩ := refuse_eq (N := N) hz h (w := 5) (by decide)
  obtain ⟨τ6, e6, x6, f6⟩ := refuse_eq (N := N) hz h (w := 6) (by decide)
  have F1 : FT [] [7, 8, 9, 10, 11, 12, 13] σ τ1 := f1.mono (fun _ h => h) (by simp)
  have F2 : FT [] [7, 8, 9, 10, 11, 12, 13] σ τ2 := f2.mono (fun _ h => h) (by simp)
  have F5 : FT [] [7, 8, 9, 10, 11, 12, 13] σ τ5 := f5.mono (fun _ h => h) (by simp)
  have F6 : FT [] [7, 8, 9, 10, 11, 12, 13] σ τ6 := f6.mono (fun _ h => h) (by simp)
  have H : Ok (f_X3_readOldName N σ m 2 b) (fun q => XR z (opOld z nm P b r) q.1 ∧ FT [] [7, 8, 9, 10, 11, 12, 13] σ q.1 ∧ ∀ k', opOld z nm P b r = .inr k' → q.2 = valO z nm P r ∧ (0 ≤ q.2 ∧ q.2 < P) ∧ q.2 ≠ b) := by
    unfold f_X3_readOldName
    refine sx_gI hX rfl rfl ?_
    refine mx_rcv hX hm (ok_rw (named_eq hX hm hP hr hn hN) ?_)
    refine sx_gI hX rfl rfl ?_
    match r, h, x1, x2, x5, x6, hb with
    | .inl d, h, x1, x2, x5, x6, hb =>
      refine ok_ite (fun _ => ?_) (fun _ => sx_rcv hX rfl rfl (ok_rw e2 (ok_some ⟨x2, F2, fun k' q => by cases q⟩)))
      refine ok_ite (fun _ => sx_rcv hX rfl rfl (ok_rw e5 (ok_some ⟨x5, F5, fun k' q => by cases q⟩))) (fun _ => ?_)
      refine ok_ite (fun _ => sx_rcv hX rfl rfl (ok_rw e6 (ok_some ⟨x6, F6, fun k' q => by cases q⟩))) (fun _ => ?_)
      exact sx_rcv hX rfl rfl (ok_rw e1 (ok_some ⟨x1, F1, fun k' q => by cases q⟩))
    | .inr k, h, x1, x2, x5, x6, hb =>
      obtain ⟨k1, k2, k3⟩ := h.kd
      have rk := hz.rg k1
      have hb := hb k rfl
      have rf := fdW_rg nm (wZ z k) P.toNat
      rw [k2, k3]
      refine ok_weq (by omega) (by omega) (fun c => ?_) (fun c => ?_)
      · refine ok_weq (by dsimp only; omega) (by omega) (fun c2 => ?_) (fun c2 => ?_)
        · have o : opOld z nm P b (.inr k) = opF z 5 (.inr k) := by
            show (if kZ z k = 100 then _ else _) = Sum.inl (bad (kZ z k) 5, pZ z k)
            unfold bad
            rw [if_pos c, if_pos c2, if_neg (by omega)]
          rw [o]
          exact sx_rcv hX rfl rfl (ok_rw e5 (ok_some ⟨x5, F5, fun k' q => by cases q⟩))
        · refine ok_weq (by dsimp only; omega) (by omega) (fun c3 => ?_) (fun c3 => ?_)
          · have o : opOld z nm P b (.inr k) = opF z 6 (.inr k) := by
              show (if kZ z k = 100 then _ else _) = Sum.inl (bad (kZ z k) 6, pZ z k)
              unfold bad
              rw [if_pos c, if_neg c2, if_pos c3, if_neg (by omega)]
            rw [o]
            exact sx_rcv hX rfl rfl (ok_rw e6 (ok_some ⟨x6, F6, fun k' q => by cases q⟩))
          · have o : opOld z nm P b (.inr k) = .inr (nxt z k) := by
              show (if kZ z k = 100 then _ else _) = _
              rw [if_pos c, if_neg c2, if_neg c3]
            rw [o]
            exact sx_rcv hX rfl rfl (ok_rw e1 (ok_some ⟨x1, F1, fun k' q => ⟨rfl, by dsimp only at c2 ⊢; omega, c3⟩⟩))
      · have o : opOld z nm P b (.inr k) = opF z 2 (.inr k) := by
          show (if kZ z k = 100 then _ else _) = Sum.inl (bad (kZ z k) 2, pZ z k)
          rw [if_neg c]
        rw [o]
        exact sx_rcv hX rfl rfl (ok_rw e2 (ok_some ⟨x2, F2, fun k' q => by cases q⟩))
  obtain ⟨⟨τ, v⟩, e, h⟩ := H
  exact ⟨τ, v, e, h⟩
end F
