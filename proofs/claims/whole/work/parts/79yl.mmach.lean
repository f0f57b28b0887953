/-! the pure part: a line of a machine, the reference: names -/
section F
variable {N : Nat} {σ τ υ : St} {z : Zs} {r : RS}
theorem MR.wI (h : MR z r σ) {k : Nat} {i v : Int} (hk : k ≠ 1 ∧ k ≠ 3) : MR z r (uI σ k i v) := by
  obtain ⟨h1, h2, h3⟩ := h
  refine ⟨h1, ⟨(fI_uk (Ne.symm hk.1)).trans h2.1, h2.2.1, fun j x y => ?_⟩, ?_⟩
  · rw [uI_k (Ne.symm hk.2)]; exact h2.2.2 j x y
  · have e : ∀ j, fI (uI σ k i v) 1 j = fI σ 1 j := fun j => fI_uk (Ne.symm hk.1)
    match r, h3 with
    | .inl d, h3 =>
      show MD d _
      have h3 : MD d σ := h3
      unfold MD at h3 ⊢
      simp only [e]
      exact h3
    | .inr k, h3 =>
      show MS z k _
      have h3 : MS z k σ := h3
      unfold MS at h3 ⊢
      simp only [e]
      exact h3
theorem MR.wF (h : MR z r σ) {j : Nat} {v : Int} (hk : avd [3, 4, 5, 6, 7, 8, 9, 10] [j] = true) : MR z r (uF σ 1 j v) := h.fm (A := []) (J := [j]) (FM.refl.uF (by simp)) rfl (by
  unfold avd at hk ⊢
  simp at hk ⊢
  omega)
theorem MR.kd {k : Int} (h : MR z (.inr k) σ) : (0 ≤ k ∧ k < KZ z) ∧ fI σ 1 6 = pZ z k ∧ (0 ≤ fI σ 1 8 ∧ fI σ 1 8 ≤ 5) ∧ (fI σ 1 8 = 2 ↔ kZ z k = 100) ∧ (fI σ 1 8 = 4 ↔ kZ z k = 101) ∧ (fI σ 1 8 = 0 ↔ kZ z k = 102) ∧ (kZ z k = 100 → Nm (wZ z k) (fI σ 1 10)) ∧ (kZ z k = 101 → fI σ 1 9 = wZ z k) ∧ (fI σ 1 8 = 3 ↔ (0 ≤ kZ z k ∧ kZ z k ≤ 33)) ∧ fI σ 1 7 = eZ z (k + 1) := by
  obtain ⟨g1, g2, g3, g4, g5, g6⟩ := (h.2.2 : MS z k σ)
  refine ⟨g1, g2, ?_⟩
  unfold TkM isSg at g4
  rcases g4 with v | v | v | v | v | v
  · refine ⟨by omega, by omega, by omega, by omega, fun q => by omega, fun q => by omega, by omega, g3⟩
  · refine ⟨by omega, by omega, by omega, by omega, fun q => by omega, fun q => by omega, by omega, g3⟩
  · refine ⟨by omega, by omega, by omega, by omega, fun q => v.2.2, fun q => by omega, by omega, g3⟩
  · refine ⟨by omega, by omega, by omega, by omega, fun q => by omega, fun q => by omega, by omega, g3⟩
  · refine ⟨by omega, by omega, by omega, by omega, fun q => by omega, fun q => v.2.2, by omega, g3⟩
  · refine ⟨by omega, by omega, by omega, by omega, fun q => by omega, fun q => by omega, by omega, g3⟩
/-- the names, both ways -/
def NmR (nm : Int → Int) (P rb : Int) (σ : St) : Prop := (∀ i : Int, 0 ≤ i → i < P → Nm (nm i) (σ.2.1 23 (12 * rb + i))) ∧ ∀ i j : Int, 0 ≤ i → i < j → j < P → nm i ≠ nm j
theorem NmR.keep {nm : Int → Int} {P rb : Int} (h : NmR nm P rb σ) (e : ∀ i : Int, 0 ≤ i → i < P → τ.2.1 23 (12 * rb + i) = σ.2.1 23 (12 * rb + i)) : NmR nm P rb τ := ⟨fun i x y => by rw [e i x y]; exact h.1 i x y, h.2⟩
theorem NmR.wlx {nm : Int → Int} {P rb w na i : Int} (h : NmR nm P rb σ) (hn : Nm w na) (hi : 0 ≤ i ∧ i < P) : (wl (σ.2.1 23 (12 * rb + i)) = wl na ↔ nm i = w) ∧ (wl (nm i) = wl w ↔ nm i = w) := by
  have a := h.1 i hi.1 hi.2
  have r1 := a.rg
  have r2 := hn.rg
  exact ⟨a.wlx hn, by rw [wl_id (by omega) (by omega), wl_id (by omega) (by omega)]⟩
theorem fdW_st {nm : Int → Int} {P rb w na : Int} (h : NmR nm P rb σ) (hn : Nm w na) {i : Int} (hi : 0 ≤ i ∧ i < P) : fdW nm w (i + 1).toNat = if nm i = w then i else fdW nm w i.toNat := by
  rw [show (i + 1).toNat = i.toNat + 1 by omega]
  show (if fdW nm w i.toNat = -1 then (if wl (nm (i.toNat : Int)) = wl w then (i.toNat : Int) else -1) else fdW nm w i.toNat) = _
  rw [show ((i.toNat : Nat) : Int) = i by omega]
  by_cases c : nm i = w
  · rw [if_pos c, if_pos ((h.wlx hn hi).2.mpr c)]
    rcases fdW_spec nm w i.toNat with ⟨q1, q2⟩ | ⟨q1, q2, q3⟩
    · rw [if_pos q1]
    · exfalso
      have := (h.wlx hn (i := fdW nm w i.toNat) (by omega)).2.mp q3
      exact h.2 _ i q1 (by omega) hi.2 (this.trans c.symm)
  · rw [if_neg c, if_neg fun q => c ((h.wlx hn hi).2.mp q)]
    split
    · rename_i q; exact q.symm
    · rfl
theorem oldM {P b rb : Int} {nm : Int → Int} (hz : Str z) (h : MR z r σ) (hb0 : fI σ 1 32 = rb) (hrb : rb = 0 ∨ rb = 1) (hP : σ.2.1 5 rb = P) (hr : 0 ≤ P ∧ P ≤ 12) (hn : NmR nm P rb σ) (hb : ∀ k, r = .inr k → -1 ≤ b ∧ b ≤ 12) (hN : 2000 < N) : ∃ τ v, f_X12_partNamed N σ 1 b = some (τ, v) ∧ MR z (opOld z nm P b r) τ ∧ FM [] [4, 5, 6, 7, 8, 9, 10] σ τ ∧ ∀ k', opOld z nm P b r = .inr k' → v = valO z nm P r := by
  have H : Ok (f_X12_partNamed N σ 1 b) (fun q => MR z (opOld z nm P b r) q.1 ∧ FM [] [4, 5, 6, 7, 8, 9, 10] σ q.1 ∧ ∀ k', opOld z nm P b r = .inr k' → q.2 = valO z nm P r) := by
    unfold f_X12_partNamed
    refine sm_rcv h.1 (ok_rw (isGood_eq h) ?_)
    match r, h, hb with
    | .inl d, h, hb => exact ok_z0 (ok_some ⟨h, FM.refl, fun k q => by cases q⟩)
    | .inr k, h, hb =>
      refine ok_z1 ?_
      have hb := hb k rfl
      obtain ⟨k1, k6, k8, kn, kt, ke, knm, knu, _⟩ := h.kd
      refine ok_JnC (fun v => kZ z k = 100 → v = fdW nm (wZ z k) P.toNat) (fun v hv => ?_) (fun J hJ => ?_)
      · refine sm_gI h.1 ?_
        refine ok_JnC (fun y => ∃ ry, MR z ry y ∧ FM [] [4, 5, 6, 7, 8, 9, 10] σ y ∧ ((ry = .inr k ∧ y = σ ∧ opOld z nm P b (.inr k) = .inr (nxt z k) ∧ kZ z k = 100) ∨ ∃ d, ry = .inl d ∧ opOld z nm P b (.inr k) = .inl d)) (fun y hy => ?_) (fun J hJ => ?_)
        · obtain ⟨ry, m1, f1, hy⟩ := hy
          refine sm_rcv m1.1 (ok_rw (isGood_eq m1) ?_)
          rcases hy with ⟨rfl, rfl, ho, hk⟩ | ⟨d, rfl, ho⟩
          · obtain ⟨τ, e, m, f⟩ := next_eq (N := N) hz m1 hN
            refine ok_z1 (sm_rcv m1.1 (ok_rw e (ok_some ⟨by rw [ho]; exact m, f.mono (fun _ h => h) (by simp), fun _ _ => hv hk⟩)))
          · refine ok_z0 (ok_some ⟨by rw [ho]; exact m1, f1, fun k' q => by rw [ho] at q; cases q⟩)
        · refine ok_weq (by omega) (by omega) (fun c => ?_) (fun c => ?_)
          · have c := kn.mp c
            have hv := hv c
            subst hv
            have rf := fdW_rg nm (wZ z k) P.toNat
            have ok : opOld z nm P b (.inr k) = if fdW nm (wZ z k) P.toNat = -1 then .inl (5, pZ z k) else if fdW nm (wZ z k) P.toNat = b then .inl (6, pZ z k) else .inr (nxt z k) := if_pos c
            refine ok_wlt0 (by omega) (fun c2 => ?_) (fun c2 => ?_)
            · refine sm_gI h.1 ?_
              rw [k6]
              obtain ⟨τ, e, m, f⟩ := fails_eq (N := N) hz h (w := 5) (p := pZ z k) (by decide)
              exact sm_rcv h.1 (ok_rw e (hJ _ ⟨_, m, f.mono (fun _ h => h) (by simp), .inr ⟨_, rfl, by rw [ok, if_pos (by omega)]⟩⟩))
            · refine ok_weq (by omega) (by omega) (fun c3 => ?_) (fun c3 => hJ _ ⟨.inr k, h, FM.refl, .inl ⟨rfl, rfl, by rw [ok, if_neg (by omega), if_neg c3], c⟩⟩)
              refine sm_gI h.1 ?_
              rw [k6]
              obtain ⟨τ, e, m, f⟩ := fails_eq (N := N) hz h (w := 6) (p := pZ z k) (by decide)
              exact sm_rcv h.1 (ok_rw e (hJ _ ⟨_, m, f.mono (fun _ h => h) (by simp), .inr ⟨_, rfl, by rw [ok, if_neg (by omega), if_pos c3]⟩⟩))
          · obtain ⟨τ, e, m, f⟩ := wrong_eq (N := N) hz h
            exact sm_rcv h.1 (ok_rw e (hJ _ ⟨_, m, f.mono (fun _ h => h) (by simp), .inr ⟨_, rfl, if_neg fun q => c (kn.mpr q)⟩⟩))
      · unfold L_X12_partNamed_13
        refine ok_fix (fun t => (0 ≤ t.2 ∧ t.2 ≤ P) ∧ (kZ z k = 100 → t.1 = fdW nm (wZ z k) t.2.toNat)) (fun t => (P - t.2).toNat) (fun back t ht hback => ?_) _ ⟨by dsimp only; omega, fun _ => rfl⟩ (by dsimp only; omega)
        obtain ⟨v, t⟩ := t
        obtain ⟨g1, g2⟩ := ht
        dsimp only at g1 g2 hback ⊢
        refine sm_gR h.1 rfl ?_
        refine sm_gI h.1 ?_
        rw [hb0]
        refine sm_aI h.1 rfl rfl (by decide) (by omega) (by omega) ?_
        rw [hP]
        refine ok_wlt (by omega) (by omega) (fun c => ?_) (fun c => hJ _ (fun q => by rw [show P = t by omega]; exact g2 q))
        refine sm_gR h.1 rfl ?_
        refine sm_gI h.1 ?_
        rw [hb0]
        refine sm_aI h.1 rfl rfl (by decide) (by omega) (by omega) ?_
        refine sm_gI h.1 ?_
        refine ok_JnC (fun v' => kZ z k = 100 → v' = fdW nm (wZ z k) (t + 1).toNat) (fun v' hv' => st_Lt (hback _ ⟨by dsimp only; omega, hv'⟩ (by dsimp only; omega))) (fun J2 hJ2 => ?_)
        refine ok_ite (fun c2 => hJ2 _ (fun q => ?_)) (fun c2 => hJ2 _ (fun q => ?_))
        · rw [fdW_st hn (knm q) ⟨g1.1, c⟩, if_pos ((hn.wlx (knm q) ⟨g1.1, c⟩).1.mp c2)]
        · rw [fdW_st hn (knm q) ⟨g1.1, c⟩, if_neg fun e => c2 ((hn.wlx (knm q) ⟨g1.1, c⟩).1.mpr e)]
          exact g2 q
  obtain ⟨⟨τ, v⟩, e, h⟩ := H
  exact ⟨τ, v, e, h⟩
/-- an own word that has to come -/
theorem ok_wm {α : Type} {Q : α → Prop} (hz : Str z) (h : MR z r σ) {j w : Int} (hj : 0 ≤ j ∧ j ≤ 33) (hw : wB j = w) (hN : 2000 < N) {f : St × Int → Option α} (k : ∀ τ, MR z (opX z j r) τ → FM [] [4, 5, 6, 7, 8, 9, 10] σ τ → Ok (f (τ, 0)) Q) : Ok (Option.bind (rcv shm σ 12 1 (f_X12_isWord N σ 1 w)) fun q1 => Option.bind (rcv shm σ 12 1 (f_X12_must N σ 1 q1.2)) f) Q := by
  obtain ⟨b, e1, b1, b2⟩ := isWord_eq (N := N) hz h hj hw
  refine sm_rcv h.1 (ok_rw e1 ?_)
  obtain ⟨τ, e2, m, g⟩ := must_eq (N := N) (c := fun x => decide (x = j)) hz h b1 (fun k q => (b2 k q).trans (decide_eq_true_iff).symm) hN
  exact sm_rcv h.1 (ok_rw e2 (k τ m g))
/-- a sign that has to come -/
theorem ok_sm {α : Type} {Q : α → Prop} (hz : Str z) (h : MR z r σ) {w : Int} (hj : isSg w) (hN : 2000 < N) {f : St × Int → Option α} (k : ∀ τ, MR z (opX z w r) τ → FM [] [4, 5, 6, 7, 8, 9, 10] σ τ → Ok (f (τ, 0)) Q) : Ok (Option.bind (rcv shm σ 12 1 (f_X12_is N σ 1 w)) fun q1 => Option.bind (rcv shm σ 12 1 (f_X12_must N σ 1 q1.2)) f) Q := by
  obtain ⟨b, e1, b1, b2⟩ := is_eq (N := N) hz h hj
  refine sm_rcv h.1 (ok_rw e1 ?_)
  obtain ⟨τ, e2, m, g⟩ := must_eq (N := N) (c := fun x => decide (x = w)) hz h b1 (fun k q => (b2 k q).trans (decide_eq_true_iff).symm) hN
  exact sm_rcv h.1 (ok_rw e2 (k τ m g))
end F
