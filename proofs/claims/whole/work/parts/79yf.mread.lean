/-! the pure part: the reference's steps -/
section F
variable {N : Nat} {σ τ υ : St} {z : Zs} {A J : List Nat} {r : RS}
def MS (z : Zs) (k : Int) (σ : St) : Prop := (0 ≤ k ∧ k < KZ z) ∧ fI σ 1 6 = pZ z k ∧ fI σ 1 7 = eZ z (k + 1) ∧ TkM (tZ z) (pZ z k) (kZ z k) (wZ z k) (fI σ 1 8) (fI σ 1 9) (fI σ 1 10) ∧ fI σ 1 4 = 0 ∧ fI σ 1 5 = -1
def MD (d : Int × Int) (σ : St) : Prop := (fI σ 1 4 = d.1 ∧ 1 ≤ d.1 ∧ d.1 ≤ 7) ∧ fI σ 1 5 = d.2 ∧ 0 ≤ fI σ 1 6 ∧ fI σ 1 6 ≤ 1300
def MZ (z : Zs) (r : RS) (σ : St) : Prop := match r with
  | .inl d => MD d σ
  | .inr k => MS z k σ
def MR (z : Zs) (r : RS) (σ : St) : Prop := WMr σ.1 σ.2.2 ∧ MTx (tZ z) (nZ z) σ ∧ MZ z r σ
theorem MR.fm (h : MR z r σ) (f : FM A J σ τ) (a : avd A [3] = true) (b : avd J [3, 4, 5, 6, 7, 8, 9, 10] = true) : MR z r τ := by
  obtain ⟨h1, h2, h3⟩ := h
  have cJ : ∀ k, k ∈ [3, 4, 5, 6, 7, 8, 9, 10] → k ∉ J := fun k hk => avd_of b hk
  refine ⟨f.M h1, h2.fm f (avd_of a (by decide)) (cJ 3 (by decide)), ?_⟩
  match r, h3 with
  | .inl d, h3 =>
    show MD d τ
    have h3 : MD d σ := h3
    unfold MD at h3 ⊢
    rw [f.f (cJ 4 (by decide)), f.f (cJ 5 (by decide)), f.f (cJ 6 (by decide))]
    exact h3
  | .inr k, h3 =>
    show MS z k τ
    have h3 : MS z k σ := h3
    unfold MS at h3 ⊢
    rw [f.f (cJ 4 (by decide)), f.f (cJ 5 (by decide)), f.f (cJ 6 (by decide)), f.f (cJ 7 (by decide)), f.f (cJ 8 (by decide)), f.f (cJ 9 (by decide)), f.f (cJ 10 (by decide))]
    exact h3
theorem isGood_eq (h : MR z r σ) : f_X12_isGood N σ 1 = some (σ, isA r) := by
  have H : Ok (f_X12_isGood N σ 1) (fun q => q = (σ, isA r)) := by
    unfold f_X12_isGood
    refine sm_gI h.1 ?_
    match r, h with
    | .inl d, h =>
      obtain ⟨⟨g4, g6, g7⟩, g5⟩ := (h.2.2 : MD d σ)
      rw [g4]
      exact ok_weqc (by omega) (fun q => by omega) (fun _ => ok_some rfl)
    | .inr k, h =>
      obtain ⟨g1, g2, g3, g4, g5, g6⟩ := (h.2.2 : MS z k σ)
      rw [g5]
      exact ok_weqc (by omega) (fun _ => ok_some rfl) (fun q => by omega)
  obtain ⟨q, e, rfl⟩ := H
  exact e
def opG (w p : Int) (r : RS) : RS := match r with
  | .inl d => .inl d
  | .inr _ => .inl (w, p)
theorem fails_eq (hz : Str z) (h : MR z r σ) {w p : Int} (hw : 1 ≤ w ∧ w ≤ 7) : ∃ τ, f_X12_fails N σ 1 w p = some (τ, 0) ∧ MR z (opG w p r) τ ∧ FM [] [4, 5] σ τ := by
  obtain ⟨hM, ht, h⟩ := h
  match r, h with
  | .inl d, h =>
    have H : Ok (f_X12_fails N σ 1 w p) (fun q => q = (σ, 0)) := by
      obtain ⟨⟨g4, g6, g7⟩, g5⟩ := (h : MD d σ)
      unfold f_X12_fails
      refine sm_gI hM ?_
      rw [g4]
      exact ok_w0lt (by omega) (fun _ => ok_some rfl) (fun q => by omega)
    obtain ⟨q, e, rfl⟩ := H
    exact ⟨σ, e, ⟨hM, ht, h⟩, FM.refl⟩
  | .inr k, h =>
    obtain ⟨g1, g2, g3, g4, g5, g6⟩ := (h : MS z k σ)
    have rk := hz.rg g1
    have zn := hz.1
    have H : Ok (f_X12_fails N σ 1 w p) (fun q => q = (uF (uF σ 1 4 w) 1 5 p, 0)) := by
      unfold f_X12_fails
      refine sm_gI hM ?_
      rw [g5]
      refine ok_w0lt (by omega) (fun q => by omega) (fun _ => ?_)
      exact sm_pI hM (sm_pI (σ := uF σ 1 4 w) hM (ok_some rfl))
    obtain ⟨q, e, rfl⟩ := H
    have f : FM [] [4, 5] σ (uF (uF σ 1 4 w) 1 5 p) := (FM.refl.uF (by decide)).uF (by decide)
    refine ⟨_, e, ⟨f.M hM, ht.fm f (by decide) (by decide), ⟨(fI_j (by decide)).trans fI_eq, hw⟩, fI_eq, ?_⟩, f⟩
    rw [f.f (by decide), g2]
    omega
theorem wrong_eq (hz : Str z) (h : MR z r σ) : ∃ τ, f_X12_wrong N σ 1 = some (τ, 0) ∧ MR z (opF z 2 r) τ ∧ FM [] [4, 5] σ τ := by
  have H : Ok (f_X12_wrong N σ 1) (fun q => q.2 = 0 ∧ MR z (opF z 2 r) q.1 ∧ FM [] [4, 5] σ q.1) := by
    unfold f_X12_wrong
    refine sm_gI h.1 ?_
    refine ok_JnC (fun x => (x = 1 ∨ x = 2) ∧ ∀ k, r = .inr k → x = bad (kZ z k) 2) (fun x hx => ?_) (fun J2 hJ2 => ?_)
    · refine sm_gI h.1 ?_
      obtain ⟨τ, e, m, f⟩ := fails_eq (N := N) hz h (w := x) (p := fI σ 1 6) (by omega)
      refine sm_rcv h.1 (ok_rw e (ok_some ⟨rfl, ?_, f⟩))
      match r, h, m, hx with
      | .inl d, h, m, hx => exact m
      | .inr k, h, m, hx =>
        obtain ⟨g1, g2, g3, g4, g5, g6⟩ := (h.2.2 : MS z k σ)
        have m : MR z (.inl (x, fI σ 1 6)) τ := m
        rw [hx.2 k rfl, g2] at m
        exact m
    · match r, h with
      | .inl d, h => exact ok_ite (fun _ => hJ2 _ ⟨.inl rfl, fun k q => by cases q⟩) (fun _ => hJ2 _ ⟨.inr rfl, fun k q => by cases q⟩)
      | .inr k, h =>
        obtain ⟨g1, g2, g3, g4, g5, g6⟩ := (h.2.2 : MS z k σ)
        have tk : (kZ z k = 103 ∧ fI σ 1 8 = 1) ∨ (kZ z k ≠ 103 ∧ (fI σ 1 8 = 0 ∨ 2 ≤ fI σ 1 8) ∧ fI σ 1 8 ≤ 5) := by
          unfold TkM isSg at g4
          omega
        refine ok_weq (by omega) (by omega) (fun q => hJ2 _ ⟨.inl rfl, fun k' e => ?_⟩) (fun q => hJ2 _ ⟨.inr rfl, fun k' e => ?_⟩)
        · cases e
          unfold bad; rw [if_pos (by omega)]
        · cases e
          unfold bad; rw [if_neg (by omega)]
  obtain ⟨⟨τ, v⟩, e, h1, h2⟩ := H
  dsimp only at h1 h2
  subst h1
  exact ⟨τ, e, h2⟩
theorem next_eq (hz : Str z) {k : Int} (h : MR z (.inr k) σ) (hN : 2000 < N) : ∃ τ, f_X12_next N σ 1 = some (τ, 0) ∧ MR z (.inr (nxt z k)) τ ∧ FM [] [6, 7, 8, 9, 10] σ τ := by
  obtain ⟨hM, ht, h⟩ := h
  obtain ⟨g1, g2, g3, g4, g5, g6⟩ := (h : MS z k σ)
  have en := hz.en (q := k + 1) (by omega)
  obtain ⟨τ, e, f, a, e', kd, w, t1, t2, t3, t4⟩ := nextM (N := N) hM ht en g3 hN
  refine ⟨τ, e, ⟨f.M hM, ht.fm f (by decide) (by decide), nxt_rg hz g1, ?_⟩, f⟩
  have key : a = pZ z (nxt z k) ∧ e' = eZ z (nxt z k + 1) ∧ kd = kZ z (nxt z k) ∧ w = wZ z (nxt z k) := by
    unfold nxt
    by_cases c : k + 1 < KZ z
    · rw [if_pos c]
      exact t1.uni (hz.tok (q := k + 1) (by omega))
    · rw [if_neg c]
      have ek : KZ z - 1 = k := by omega
      rw [ek]
      have tk := hz.tok g1
      have kk := hz.2.2.2.2.2
      rw [ek] at kk
      have l := tk.rg
      have en1 := l.2.2.2.2.2.2.2 kk
      have pk : pZ z k = nZ z ∧ wZ z k = 0 := by
        obtain ⟨_, h5⟩ := tk
        rcases h5 with h5 | ⟨u1, u2, u3, u4, u5, u6, u7⟩ | ⟨u1, u2, u3, u4, u5, u6, u7⟩ | ⟨u1, u2, u3, u4, u5, u6, u7⟩
        · exact ⟨h5.1, h5.2.2.2⟩
        · exfalso
          rcases u7 with ⟨_, u⟩ | ⟨_, u⟩
          · rcases u with u | u <;> omega
          · omega
        · omega
        · exfalso
          rcases u7 with ⟨u, v⟩ | ⟨_, u⟩
          · unfold isSg at u; omega
          · omega
      rw [en1] at t1
      rw [pk.1, pk.2, en1, kk]
      exact t1.uni ⟨⟨Int.le_refl _, Int.le_refl _, Int.le_refl _, fun j x y => by omega⟩, .inl ⟨rfl, rfl, rfl, rfl⟩⟩
  obtain ⟨rfl, rfl, rfl, rfl⟩ := key
  exact ⟨t2, t3, t4, (f.f (by decide)).trans g5, (f.f (by decide)).trans g6⟩
theorem is_eq (hz : Str z) (h : MR z r σ) {c : Int} (hc : isSg c) : ∃ b, f_X12_is N σ 1 c = some (σ, b) ∧ (b = 0 ∨ b = 1) ∧ ∀ k, r = .inr k → (b = 1 ↔ kZ z k = c) := by
  have hc2 : 40 ≤ c ∧ c ≤ 62 := by unfold isSg at hc; omega
  have H : Ok (f_X12_is N σ 1 c) (fun q => q.1 = σ ∧ (q.2 = 0 ∨ q.2 = 1) ∧ ∀ k, r = .inr k → (q.2 = 1 ↔ kZ z k = c)) := by
    unfold f_X12_is
    refine sm_gI h.1 ?_
    match r, h with
    | .inl d, h =>
      obtain ⟨g4, g5, g6⟩ := (h.2.2 : MD d σ)
      refine ok_ite (fun _ => ?_) (fun _ => ok_some ⟨rfl, .inl rfl, fun k q => by cases q⟩)
      refine sm_gI h.1 ?_
      refine ok_sign h.1 h.2.1 (by omega) ?_
      exact ok_ite (fun _ => ok_some ⟨rfl, .inr rfl, fun k q => by cases q⟩) (fun _ => ok_some ⟨rfl, .inl rfl, fun k q => by cases q⟩)
    | .inr k, h =>
      obtain ⟨g1, g2, g3, g4, g5, g6⟩ := (h.2.2 : MS z k σ)
      have rk := hz.rg g1
      have tkr : 0 ≤ fI σ 1 8 ∧ fI σ 1 8 ≤ 5 := by unfold TkM at g4; omega
      refine ok_weq (by omega) (by omega) (fun q => ?_) (fun q => ok_some ⟨rfl, .inl rfl, fun k' e => ?_⟩)
      · have t5 : isSg (kZ z k) ∧ tZ z (pZ z k) = kZ z k := by
          unfold TkM at g4
          rcases g4 with u | u | u | u | u | u
          · omega
          · omega
          · omega
          · omega
          · omega
          · exact ⟨u.1, u.2.2⟩
        have pn : pZ z k < nZ z := by
          by_cases c : pZ z k < nZ z
          · exact c
          · have l := (hz.tok g1).rg
            have kr : kZ z k ≠ 102 := by have := t5.1; unfold isSg at this; omega
            have := l.2.2.2.2.2.2.1 kr
            omega
        refine sm_gI h.1 ?_
        rw [g2]
        have zn := hz.1
        refine ok_sign h.1 h.2.1 (by omega) ?_
        rw [sgn_in pn, t5.2]
        refine ok_weq (by omega) (by omega) (fun q2 => ok_some ⟨rfl, .inr rfl, fun k' e => ?_⟩) (fun q2 => ok_some ⟨rfl, .inl rfl, fun k' e => ?_⟩)
        · cases e
          exact ⟨fun _ => q2, fun _ => rfl⟩
        · cases e
          exact ⟨fun u => by dsimp only at u; omega, fun u => absurd u q2⟩
      · cases e
        refine ⟨fun u => by dsimp only at u; omega, fun u => ?_⟩
        exfalso
        unfold TkM at g4
        rcases g4 with v | v | v | v | v | v <;> omega
  obtain ⟨⟨υ, b⟩, e, h1, h2⟩ := H
  dsimp only at h1 h2
  subst h1
  exact ⟨b, e, h2⟩
theorem isWord_eq (hz : Str z) (h : MR z r σ) {j w : Int} (hj : 0 ≤ j ∧ j ≤ 33) (hw : wB j = w) : ∃ b, f_X12_isWord N σ 1 w = some (σ, b) ∧ (b = 0 ∨ b = 1) ∧ ∀ k, r = .inr k → (b = 1 ↔ kZ z k = j) := by
  subst hw
  have H : Ok (f_X12_isWord N σ 1 (wB j)) (fun q => q.1 = σ ∧ (q.2 = 0 ∨ q.2 = 1) ∧ ∀ k, r = .inr k → (q.2 = 1 ↔ kZ z k = j)) := by
    unfold f_X12_isWord
    refine sm_gI h.1 ?_
    match r, h with
    | .inl d, h =>
      refine ok_ite (fun _ => ?_) (fun _ => ok_some ⟨rfl, .inl rfl, fun k q => by cases q⟩)
      refine sm_gI h.1 ?_
      exact ok_ite (fun _ => ok_some ⟨rfl, .inr rfl, fun k q => by cases q⟩) (fun _ => ok_some ⟨rfl, .inl rfl, fun k q => by cases q⟩)
    | .inr k, h =>
      obtain ⟨g1, g2, g3, g4, g5, g6⟩ := (h.2.2 : MS z k σ)
      have tkr : 0 ≤ fI σ 1 8 ∧ fI σ 1 8 ≤ 5 := by unfold TkM at g4; omega
      refine ok_weq (by omega) (by omega) (fun q => ?_) (fun q => ok_some ⟨rfl, .inl rfl, fun k' e => ?_⟩)
      · have t3 : (0 ≤ kZ z k ∧ kZ z k ≤ 33) ∧ fI σ 1 10 = wB (kZ z k) := by
          unfold TkM at g4
          rcases g4 with u | u | u | u | u | u
          · omega
          · omega
          · omega
          · exact ⟨u.1, u.2.2⟩
          · omega
          · omega
        refine sm_gI h.1 ?_
        rw [t3.2]
        have nm := (Nm.own t3.1).wlx (Nm.own hj)
        refine ok_ite (fun q2 => ok_some ⟨rfl, .inr rfl, fun k' e => ?_⟩) (fun q2 => ok_some ⟨rfl, .inl rfl, fun k' e => ?_⟩)
        · cases e
          exact ⟨fun _ => wA_inj t3.1 hj (nm.mp q2), fun _ => rfl⟩
        · cases e
          exact ⟨fun u => by dsimp only at u; omega, fun u => absurd (by rw [u]) q2⟩
      · cases e
        refine ⟨fun u => by dsimp only at u; omega, fun u => ?_⟩
        exfalso
        unfold TkM isSg at g4
        rcases g4 with v | v | v | v | v | v <;> omega
  obtain ⟨⟨υ, b⟩, e, h1, h2⟩ := H
  dsimp only at h1 h2
  subst h1
  exact ⟨b, e, h2⟩
theorem must_eq (hz : Str z) (h : MR z r σ) {b : Int} {c : Int → Bool} (hb : b = 0 ∨ b = 1) (hc : ∀ k, r = .inr k → (b = 1 ↔ c (kZ z k) = true)) (hN : 2000 < N) : ∃ τ, f_X12_must N σ 1 b = some (τ, 0) ∧ MR z (opC z c r) τ ∧ FM [] [4, 5, 6, 7, 8, 9, 10] σ τ := by
  have H : Ok (f_X12_must N σ 1 b) (fun q => q.2 = 0 ∧ MR z (opC z c r) q.1 ∧ FM [] [4, 5, 6, 7, 8, 9, 10] σ q.1) := by
    unfold f_X12_must
    refine sm_rcv h.1 (ok_rw (isGood_eq h) ?_)
    match r, h, hc with
    | .inl d, h, hc => exact ok_z0 (ok_some ⟨rfl, h, FM.refl⟩)
    | .inr k, h, hc =>
      refine ok_z1 ?_
      have hc := hc k rfl
      refine ok_weqc (by omega) (fun q => ?_) (fun q => ?_)
      · obtain ⟨τ, e, m, f⟩ := wrong_eq (N := N) hz h
        refine sm_rcv h.1 (ok_rw e (ok_some ⟨rfl, ?_, f.mono (fun _ h => h) (by simp)⟩))
        rw [show opC z c (.inr k) = opF z 2 (.inr k) from if_neg (by rw [← hc]; omega)]
        exact m
      · obtain ⟨τ, e, m, f⟩ := next_eq (N := N) hz h hN
        refine sm_rcv h.1 (ok_rw e (ok_some ⟨rfl, ?_, f.mono (fun _ h => h) (by simp)⟩))
        rw [show opC z c (.inr k) = .inr (nxt z k) from if_pos (hc.mp (by omega))]
        exact m
  obtain ⟨⟨τ, v⟩, e, h1, h2⟩ := H
  dsimp only at h1 h2
  subst h1
  exact ⟨τ, e, h2⟩
theorem numeral_eq (hz : Str z) (h : MR z r σ) {lo hi : Int} (hl : 0 ≤ lo ∧ lo ≤ 9999 ∧ 0 ≤ hi ∧ hi ≤ 9999) (hN : 2000 < N) : ∃ τ v, f_X12_numeral N σ 1 lo hi = some (τ, v) ∧ MR z (opN z lo hi r) τ ∧ FM [] [4, 5, 6, 7, 8, 9, 10] σ τ ∧ ∀ k, opN z lo hi r = .inr k → v = valN z r := by
  have H : Ok (f_X12_numeral N σ 1 lo hi) (fun q => MR z (opN z lo hi r) q.1 ∧ FM [] [4, 5, 6, 7, 8, 9, 10] σ q.1 ∧ ∀ k, opN z lo hi r = .inr k → q.2 = valN z r) := by
    unfold f_X12_numeral
    refine sm_rcv h.1 (ok_rw (isGood_eq h) ?_)
    match r, h with
    | .inl d, h => exact ok_z0 (ok_some ⟨h, FM.refl, fun k q => by cases q⟩)
    | .inr k, h =>
      refine ok_z1 ?_
      obtain ⟨g1, g2, g3, g4, g5, g6⟩ := (h.2.2 : MS z k σ)
      have tkr : (0 ≤ fI σ 1 8 ∧ fI σ 1 8 ≤ 5) ∧ (fI σ 1 8 = 4 ↔ kZ z k = 101) ∧ (kZ z k = 101 → fI σ 1 9 = wZ z k) := by
        unfold TkM isSg at g4
        rcases g4 with v | v | v | v | v | v <;> omega
      refine sm_gI h.1 ?_
      refine ok_JnC (fun x => (kZ z k = 101 ∧ x = σ) ∨ (kZ z k ≠ 101 ∧ MR z (.inl (bad (kZ z k) 2, pZ z k)) x ∧ FM [] [4, 5, 6, 7, 8, 9, 10] σ x)) (fun x hx => ?_) (fun J2 hJ2 => ?_)
      · have last : ∀ y, (∃ d, opN z lo hi (.inr k) = .inl d ∧ MR z (.inl d) y ∧ FM [] [4, 5, 6, 7, 8, 9, 10] σ y) ∨ (y = σ ∧ kZ z k = 101 ∧ lo ≤ wZ z k ∧ wZ z k ≤ hi) → Ok (Option.bind (gI shm y 12 1 9) fun number_6 => Option.bind (rcv shm y 12 1 (f_X12_isGood N y 1)) fun q7 => Jn (fun t8 : St => Option.bind (rcv shm t8 12 1 (f_X12_isGood N t8 1)) fun q9 => (if wr q9.2 = 0 then some (t8, lo) else some (t8, number_6))) fun J69_10 => (if wr q7.2 = 0 then J69_10 y else Option.bind (rcv shm y 12 1 (f_X12_next N y 1)) fun q12 => J69_10 q12.1)) (fun q => MR z (opN z lo hi (.inr k)) q.1 ∧ FM [] [4, 5, 6, 7, 8, 9, 10] σ q.1 ∧ ∀ k', opN z lo hi (.inr k) = .inr k' → q.2 = valN z (.inr k)) := fun y hy => by
          rcases hy with ⟨d, e1, m1, f1⟩ | ⟨rfl, q1, q2, q3⟩
          · refine sm_gI m1.1 (sm_rcv m1.1 (ok_rw (isGood_eq m1) (st_Jn (ok_z0 ?_))))
            refine sm_rcv m1.1 (ok_rw (isGood_eq m1) (ok_z0 (ok_some ⟨by rw [e1]; exact m1, f1, fun k' q => ?_⟩)))
            rw [e1] at q
            cases q
          · have on : opN z lo hi (.inr k) = .inr (nxt z k) := by
              show (if kZ z k = 101 then _ else _) = _
              rw [if_pos q1, if_pos ⟨q2, q3⟩]
            obtain ⟨τ, e, m, f⟩ := next_eq (N := N) hz h hN
            refine sm_gI h.1 (sm_rcv h.1 (ok_rw (isGood_eq h) (st_Jn (ok_z1 ?_))))
            refine sm_rcv h.1 (ok_rw e (sm_rcv m.1 (ok_rw (isGood_eq m) (ok_z1 (ok_some ⟨by rw [on]; exact m, f.mono (fun _ h => h) (by simp), fun k' q => ?_⟩)))))
            exact tkr.2.2 q1
        rcases hx with ⟨q, rfl⟩ | ⟨q, m, f⟩
        · refine sm_rcv h.1 (ok_rw (isGood_eq h) ?_)
          refine ok_JnC (fun y => (∃ d, opN z lo hi (.inr k) = .inl d ∧ MR z (.inl d) y ∧ FM [] [4, 5, 6, 7, 8, 9, 10] x y) ∨ (y = x ∧ kZ z k = 101 ∧ lo ≤ wZ z k ∧ wZ z k ≤ hi)) (fun y hy => last y hy) (fun J3 hJ3 => ?_)
          have rn := hz.num g1 q
          refine ok_z1 ?_
          refine sm_gI h.1 ?_
          rw [tkr.2.2 q]
          have out : ¬ (lo ≤ wZ z k ∧ wZ z k ≤ hi) → Ok (Option.bind (gI shm x 12 1 6) fun at_17 => Option.bind (rcv shm x 12 1 (f_X12_fails N x 1 4 at_17)) fun q18 => J3 q18.1) (fun q => MR z (opN z lo hi (.inr k)) q.1 ∧ FM [] [4, 5, 6, 7, 8, 9, 10] x q.1 ∧ ∀ k', opN z lo hi (.inr k) = .inr k' → q.2 = valN z (.inr k)) := fun o => by
            refine sm_gI h.1 ?_
            obtain ⟨τ, e, m, f⟩ := fails_eq (N := N) hz h (w := 4) (p := fI x 1 6) (by decide)
            refine sm_rcv h.1 (ok_rw e (hJ3 _ (.inl ⟨(4, pZ z k), ?_, ?_, f.mono (fun _ h => h) (by simp)⟩)))
            · show (if kZ z k = 101 then _ else _) = _
              rw [if_pos q, if_neg o]
            · have m : MR z (.inl (4, fI x 1 6)) τ := m
              rw [g2] at m
              exact m
          refine ok_JnC (fun _ => ¬ (lo ≤ wZ z k ∧ wZ z k ≤ hi)) (fun _ hu => out hu) (fun J4 hJ4 => ?_)
          refine ok_wlt (by omega) (by omega) (fun c => hJ4 _ (by omega)) (fun c => ?_)
          refine sm_gI h.1 ?_
          rw [tkr.2.2 q]
          refine ok_wlt (by omega) (by omega) (fun c2 => hJ4 _ (by omega)) (fun c2 => hJ3 _ (.inr ⟨rfl, q, by omega, by omega⟩))
        · refine sm_rcv m.1 (ok_rw (isGood_eq m) ?_)
          refine ok_JnC (fun y => (∃ d, opN z lo hi (.inr k) = .inl d ∧ MR z (.inl d) y ∧ FM [] [4, 5, 6, 7, 8, 9, 10] σ y) ∨ (y = σ ∧ kZ z k = 101 ∧ lo ≤ wZ z k ∧ wZ z k ≤ hi)) (fun y hy => last y hy) (fun J3 hJ3 => ?_)
          refine ok_z0 (hJ3 _ (.inl ⟨_, ?_, m, f⟩))
          show (if kZ z k = 101 then _ else _) = _
          rw [if_neg q]
      · refine ok_weq (by omega) (by omega) (fun q => hJ2 _ (.inl ⟨tkr.2.1.mp q, rfl⟩)) (fun q => ?_)
        obtain ⟨τ, e, m, f⟩ := wrong_eq (N := N) hz h
        exact sm_rcv h.1 (ok_rw e (hJ2 _ (.inr ⟨fun u => q (tkr.2.1.mpr u), m, f.mono (fun _ h => h) (by simp)⟩)))
  obtain ⟨⟨τ, v⟩, e, h⟩ := H
  exact ⟨τ, v, e, h⟩
end F
