/-! the pure part: UNLIKE -/
def Fr3 (n1 n2 n3 : Int) (D : Int → Int → Int → Prop) (r : Int) : Prop := (r = -1 ∧ ∀ g h v, (0 ≤ g ∧ g < n1) → (0 ≤ h ∧ h < n2) → (0 ≤ v ∧ v < n3) → ¬ D g h v) ∨ ∃ g h v, ((0 ≤ g ∧ g < n1) ∧ (0 ≤ h ∧ h < n2) ∧ (0 ≤ v ∧ v < n3)) ∧ D g h v ∧ r = 10000 * g + 100 * h + v ∧ (∀ v', 0 ≤ v' → v' < v → ¬ D g h v') ∧ (∀ h' v', (0 ≤ h' ∧ h' < h) → (0 ≤ v' ∧ v' < n3) → ¬ D g h' v') ∧ ∀ g' h' v', (0 ≤ g' ∧ g' < g) → (0 ≤ h' ∧ h' < n2) → (0 ≤ v' ∧ v' < n3) → ¬ D g' h' v'
def Fr2 (n1 n2 : Int) (D : Int → Int → Prop) (r : Int) : Prop := (r = -1 ∧ ∀ g h, (0 ≤ g ∧ g < n1) → (0 ≤ h ∧ h < n2) → ¬ D g h) ∨ ∃ g h, ((0 ≤ g ∧ g < n1) ∧ (0 ≤ h ∧ h < n2)) ∧ D g h ∧ r = 100 * g + h ∧ (∀ h', 0 ≤ h' → h' < h → ¬ D g h') ∧ ∀ g' h', (0 ≤ g' ∧ g' < g) → (0 ≤ h' ∧ h' < n2) → ¬ D g' h'
theorem Fr2.uniq {n1 n2 : Int} {D : Int → Int → Prop} {r s : Int} (a : Fr2 n1 n2 D r) (b : Fr2 n1 n2 D s) : r = s := by
  rcases a with ⟨a1, a2⟩ | ⟨g, h, ⟨a1, a2⟩, a3, a4, a5, a6⟩ <;> rcases b with ⟨b1, b2⟩ | ⟨g', h', ⟨b1, b2⟩, b3, b4, b5, b6⟩
  · omega
  · exact absurd b3 (a2 _ _ b1 b2)
  · exact absurd a3 (b2 _ _ a1 a2)
  · by_cases h1 : g < g'
    · exact absurd a3 (b6 _ _ ⟨a1.1, h1⟩ a2)
    · by_cases h2 : g' < g
      · exact absurd b3 (a6 _ _ ⟨b1.1, h2⟩ b2)
      · have : g' = g := by omega
        subst this
        by_cases h3 : h < h'
        · exact absurd a3 (b5 _ a2.1 h3)
        · by_cases h4 : h' < h
          · exact absurd b3 (a5 _ b2.1 h4)
          · omega
theorem Fr3.uniq {n1 n2 n3 : Int} {D : Int → Int → Int → Prop} {r s : Int} (a : Fr3 n1 n2 n3 D r) (b : Fr3 n1 n2 n3 D s) : r = s := by
  rcases a with ⟨a1, a2⟩ | ⟨g, h, v, ⟨a1, a2, a0⟩, a3, a4, a5, a6, a7⟩ <;> rcases b with ⟨b1, b2⟩ | ⟨g', h', v', ⟨b1, b2, b0⟩, b3, b4, b5, b6, b7⟩
  · omega
  · exact absurd b3 (a2 _ _ _ b1 b2 b0)
  · exact absurd a3 (b2 _ _ _ a1 a2 a0)
  · by_cases h1 : g < g'
    · exact absurd a3 (b7 _ _ _ ⟨a1.1, h1⟩ a2 a0)
    · by_cases h2 : g' < g
      · exact absurd b3 (a7 _ _ _ ⟨b1.1, h2⟩ b2 b0)
      · have : g' = g := by omega
        subst this
        by_cases h3 : h < h'
        · exact absurd a3 (b6 _ _ ⟨a2.1, h3⟩ a0)
        · by_cases h4 : h' < h
          · exact absurd b3 (a6 _ _ ⟨b2.1, h4⟩ b0)
          · have : h' = h := by omega
            subst this
            by_cases h5 : v < v'
            · exact absurd a3 (b5 _ a0.1 h5)
            · by_cases h6 : v' < v
              · exact absurd b3 (a5 _ b0.1 h6)
              · omega
theorem Fr2.full {n1 n2 N1 N2 : Int} {D : Int → Int → Prop} {r : Int} (h1 : n1 = N1 ∨ (n1 = 1 ∧ ∀ g h, D g h → D 0 h)) (h2 : n2 = N2 ∨ (n2 = 1 ∧ ∀ g h, D g h → D g 0)) (p1 : 1 ≤ N1) (p2 : 1 ≤ N2) (a : Fr2 n1 n2 D r) : Fr2 N1 N2 D r := by
  have r2 : ∀ g h, (0 ≤ h ∧ h < N2) → D g h → ∃ h', (0 ≤ h' ∧ h' < n2) ∧ D g h' := fun g h hh d => by
    rcases h2 with e | ⟨e, f⟩
    · exact ⟨h, by omega, d⟩
    · exact ⟨0, by omega, f g h d⟩
  have r1 : ∀ g h, (0 ≤ g ∧ g < N1) → D g h → ∃ g', (0 ≤ g' ∧ g' < n1) ∧ D g' h := fun g h hh d => by
    rcases h1 with e | ⟨e, f⟩
    · exact ⟨g, by omega, d⟩
    · exact ⟨0, by omega, f g h d⟩
  have hn1 : n1 ≤ N1 := by omega
  have hn2 : n2 ≤ N2 := by omega
  rcases a with ⟨a1, a2⟩ | ⟨g, h, ⟨a1, a2⟩, a3, a4, a5, a6⟩
  · refine .inl ⟨a1, fun g h hg hh d => ?_⟩
    obtain ⟨h', k1, k2⟩ := r2 g h hh d
    obtain ⟨g', k3, k4⟩ := r1 g h' hg k2
    exact a2 _ _ k3 k1 k4
  · refine .inr ⟨g, h, ⟨by omega, by omega⟩, a3, a4, a5, fun g' h' hg hh d => ?_⟩
    obtain ⟨h'', k1, k2⟩ := r2 g' h' hh d
    exact a6 _ _ hg k1 k2
theorem Fr3.full {n1 n2 n3 N1 N2 N3 : Int} {D : Int → Int → Int → Prop} {r : Int} (h1 : n1 = N1 ∨ (n1 = 1 ∧ ∀ g h v, D g h v → D 0 h v)) (h2 : n2 = N2 ∨ (n2 = 1 ∧ ∀ g h v, D g h v → D g 0 v)) (h3 : n3 = N3 ∨ (n3 = 1 ∧ ∀ g h v, D g h v → D g h 0)) (p1 : 1 ≤ N1) (p2 : 1 ≤ N2) (p3 : 1 ≤ N3) (a : Fr3 n1 n2 n3 D r) : Fr3 N1 N2 N3 D r := by
  have r3 : ∀ g h v, (0 ≤ v ∧ v < N3) → D g h v → ∃ v', (0 ≤ v' ∧ v' < n3) ∧ D g h v' := fun g h v hh d => by
    rcases h3 with e | ⟨e, f⟩
    · exact ⟨v, by omega, d⟩
    · exact ⟨0, by omega, f g h v d⟩
  have r2 : ∀ g h v, (0 ≤ h ∧ h < N2) → D g h v → ∃ h', (0 ≤ h' ∧ h' < n2) ∧ D g h' v := fun g h v hh d => by
    rcases h2 with e | ⟨e, f⟩
    · exact ⟨h, by omega, d⟩
    · exact ⟨0, by omega, f g h v d⟩
  have r1 : ∀ g h v, (0 ≤ g ∧ g < N1) → D g h v → ∃ g', (0 ≤ g' ∧ g' < n1) ∧ D g' h v := fun g h v hh d => by
    rcases h1 with e | ⟨e, f⟩
    · exact ⟨g, by omega, d⟩
    · exact ⟨0, by omega, f g h v d⟩
  have hn1 : n1 ≤ N1 := by omega
  have hn2 : n2 ≤ N2 := by omega
  have hn3 : n3 ≤ N3 := by omega
  rcases a with ⟨a1, a2⟩ | ⟨g, h, v, ⟨a1, a2, a0⟩, a3, a4, a5, a6, a7⟩
  · refine .inl ⟨a1, fun g h v hg hh hv d => ?_⟩
    obtain ⟨v', k5, k6⟩ := r3 g h v hv d
    obtain ⟨h', k1, k2⟩ := r2 g h v' hh k6
    obtain ⟨g', k3, k4⟩ := r1 g h' v' hg k2
    exact a2 _ _ _ k3 k1 k5 k4
  · refine .inr ⟨g, h, v, ⟨by omega, by omega, by omega⟩, a3, a4, a5, fun h' v' hh hv d => ?_, fun g' h' v' hg hh hv d => ?_⟩
    · obtain ⟨v'', k5, k6⟩ := r3 g h' v' hv d
      exact a6 _ _ hh k5 k6
    · obtain ⟨v'', k5, k6⟩ := r3 g' h' v' hv d
      obtain ⟨h'', k1, k2⟩ := r2 g' h' v'' hh k6
      exact a7 _ _ _ hg k1 k5 k2
def NoAsk (σ : St) (t : Nat) (n w : Int) : Prop := σ.2.1 (t + 2) n = -1 ∨ ∀ j, σ.2.1 (t + 2) n ≤ j → j < σ.2.1 (t + 3) n → σ.2.1 (t + 1) j ≠ -1 - w
theorem lv_no {σ : St} {t : Nat} {n w : Int} {q q' : Int → Int} (h : σ.2.1 (t + 2) n = -1 ∨ TLx t n σ) (hn : NoAsk σ t n w) (e : ∀ k, asksW n k → k ≠ w → q (k - 23) = q' (k - 23)) : lv σ t n q = lv σ t n q' := by
  unfold lv
  by_cases h1 : σ.2.1 (t + 2) n = -1
  · rw [if_pos h1, if_pos h1]
  · rw [if_neg h1, if_neg h1]
    rcases h with h | ⟨h2, h3, h4⟩
    · exact absurd h h1
    · rcases hn with hn | hn
      · exact absurd hn h1
      · unfold evV
        rw [evN_congr (q' := q')]
        intro j j0 j1 j2
        have h5 := hn j j0 (by omega)
        have := e _ (h4 j j0 (by omega) j2) (by omega)
        rw [show -1 - σ.2.1 (t + 1) j - 23 = -24 - σ.2.1 (t + 1) j by omega] at this
        exact this
section U
variable {N : Nat} {σ σm : St}
theorem asks_eq (hX : WXr σ.1 σ.2.2) {t : Nat} (ht : isT t) {n w : Int} (hn : 0 ≤ n ∧ n < 4) (hw : 23 ≤ w ∧ w ≤ 33) (h : σ.2.1 (t + 2) n = -1 ∨ TLx t n σ) (hN : 1000 < N) : ∃ r, f_X7_asks N σ t n w = some (σ, r) ∧ (r = 1 ∨ (r = 0 ∧ NoAsk σ t n w)) := by
  have H : Ok (f_X7_asks N σ t n w) (fun q => q.1 = σ ∧ (q.2 = 1 ∨ (q.2 = 0 ∧ NoAsk σ t n w))) := by
    unfold f_X7_asks
    refine tx_rcv hX ht (ok_bind ?_)
    unfold f_X7_isTold
    refine ok_within (by omega) (by omega) (by omega) (fun h2 => ?_) (fun h2 => by exfalso; omega)
    refine ok_z1 ?_
    refine tx_gR hX ht rfl ?_
    refine tx_aI hX ht rfl (by decide) (by omega) (by omega) ?_
    by_cases h1 : σ.2.1 (t + 2) n = -1
    · rw [h1]
      refine ok_weq (by omega) (by omega) (fun _ => ok_some (ok_z0 (ok_some ?_))) (fun h3 => absurd rfl h3)
      exact ⟨rfl, .inr ⟨rfl, .inl h1⟩⟩
    · rcases h with h | ⟨h2, h3, h4⟩
      · exact absurd h h1
      · refine ok_weq (by omega) (by omega) (fun h3 => by exfalso; omega) (fun h3 => ok_some (ok_z1 ?_))
        refine tx_gR hX ht rfl ?_
        refine tx_aI hX ht rfl (by decide) (by omega) (by omega) ?_
        unfold L_X7_asks_17
        refine ok_fix (fun i => σ.2.1 (t + 2) n ≤ i ∧ i ≤ σ.2.1 (t + 3) n ∧ ∀ j, σ.2.1 (t + 2) n ≤ j → j < i → σ.2.1 (t + 1) j ≠ -1 - w) (fun i => (σ.2.1 (t + 3) n - i).toNat) (fun back i hI hback => ?_) _ ⟨Int.le_refl _, h2.2.1, fun j a b => by omega⟩ (by omega)
        obtain ⟨g1, g2, g3⟩ := hI
        refine tx_gR hX ht rfl ?_
        refine tx_aI hX ht rfl (by decide) (by omega) (by omega) ?_
        refine ok_wlt (by omega) (by omega) (fun h5 => ?_) (fun h5 => ok_some ⟨rfl, .inr ⟨rfl, .inr fun j a b => g3 j a (by omega)⟩⟩)
        refine tx_gR hX ht rfl ?_
        refine tx_aI hX ht rfl (by decide) (by omega) (by omega) ?_
        refine ok_ite (fun _ => ok_some ⟨rfl, .inl rfl⟩) (fun h6 => st_Lt ?_)
        refine hback _ ⟨by omega, by omega, fun j a b => ?_⟩ (by omega)
        by_cases hj : j = i
        · rw [hj]; exact fun e => h6 (by rw [e])
        · exact g3 j a (by omega)
  obtain ⟨⟨τ, r⟩, e, h1, h2⟩ := H
  dsimp only at h1 h2
  subst h1
  exact ⟨r, e, h2⟩
theorem tries_eq (hX : WXr σ.1 σ.2.2) {ta tb : Nat} (hta : isT ta) (htb : isT tb) {n w f : Int} (hn : 0 ≤ n ∧ n < 4) (hw : 23 ≤ w ∧ w ≤ 33) (ha : σ.2.1 (ta + 2) n = -1 ∨ TLx ta n σ) (hb : σ.2.1 (tb + 2) n = -1 ∨ TLx tb n σ) (hN : 1000 < N) : ∃ r, f_X8_tries N σ ta tb n w f = some (σ, r) ∧ (r = f ∨ (r = 1 ∧ NoAsk σ ta n w ∧ NoAsk σ tb n w)) := by
  obtain ⟨r, e, h1⟩ := asks_eq (N := N) hX hta hn hw ha hN
  obtain ⟨s, e2, h2⟩ := asks_eq (N := N) hX htb hn hw hb hN
  have H : Ok (f_X8_tries N σ ta tb n w f) (fun q => q.1 = σ ∧ (q.2 = f ∨ (q.2 = 1 ∧ NoAsk σ ta n w ∧ NoAsk σ tb n w))) := by
    unfold f_X8_tries
    refine tx_rcv hX hta (ok_rw e ?_)
    dsimp only
    rcases h1 with rfl | ⟨rfl, h1⟩
    · exact ok_z1 (ok_some ⟨rfl, .inl rfl⟩)
    · refine ok_z0 ?_
      refine tx_rcv hX htb (ok_rw e2 ?_)
      dsimp only
      rcases h2 with rfl | ⟨rfl, h2⟩
      · exact ok_z1 (ok_some ⟨rfl, .inl rfl⟩)
      · exact ok_z0 (ok_some ⟨rfl, .inr ⟨rfl, h1, h2⟩⟩)
  obtain ⟨⟨τ, r⟩, e, h1, h2⟩ := H
  dsimp only at h1 h2
  subst h1
  exact ⟨r, e, h2⟩
def dF (σ : St) (ta tb : Nat) (g h v : Int) : Prop := flyB σ ta g h v ≠ flyB σ tb g h v
def dL (σ : St) (ta tb : Nat) (g h : Int) : Prop := leaveB σ ta g h ≠ leaveB σ tb g h
/-- what a treaty's asking leaves as it was -/
theorem two_no {ta tb : Nat} (hta : isT ta) (htb : isT tb) {A : List Nat} (hA : A = [ta + 4, ta + 5, tb + 4, tb + 5]) : (∀ d, 1 ≤ d → d ≤ 3 → ta + d ∉ A) ∧ ∀ d, 1 ≤ d → d ≤ 3 → tb + d ∉ A := by
  subst hA
  unfold isT at hta htb
  constructor <;> intro d d0 d1 <;> simp <;> omega
theorem fl_at {τ : St} (hX : WXr τ.1 τ.2.2) {ta : Nat} (hta : isT ta) (hl : σ.2.1 (ta + 2) 2 = -1 ∨ TLx ta 2 σ) (kx : ∀ d, 1 ≤ d → d ≤ 3 → τ.2.1 (ta + d) = σ.2.1 (ta + d)) (g h s : Int) (hN : 1000 < N) : ∃ υ, f_X7_mayFly N τ ta g h s = some (υ, flyB σ ta g h s) ∧ FX [ta + 4, ta + 5] τ υ := by
  obtain ⟨υ, e, f⟩ := fly_eq (N := N) hX hta (by
    rcases hl with hl | hl
    · exact .inl (by rw [kx 2 (by decide) (by decide)]; exact hl)
    · exact .inr (hl.keep kx)) g h s hN
  rw [flyB_keep kx] at e
  exact ⟨υ, e, f⟩
theorem le_at {τ : St} (hX : WXr τ.1 τ.2.2) {ta : Nat} (hta : isT ta) (hl : σ.2.1 (ta + 2) 1 = -1 ∨ TLx ta 1 σ) (kx : ∀ d, 1 ≤ d → d ≤ 3 → τ.2.1 (ta + d) = σ.2.1 (ta + d)) (g h : Int) (hN : 1000 < N) : ∃ υ, f_X7_mayLeave N τ ta g h = some (υ, leaveB σ ta g h) ∧ FX [ta + 4, ta + 5] τ υ := by
  obtain ⟨υ, e, f⟩ := leave_eq (N := N) hX hta (by
    rcases hl with hl | hl
    · exact .inl (by rw [kx 2 (by decide) (by decide)]; exact hl)
    · exact .inr (hl.keep kx)) g h hN
  rw [leaveB_keep kx] at e
  exact ⟨υ, e, f⟩
theorem b01_wr (v : Int) : wr (b01 v) = b01 v := by rcases b01_or v with h | h <;> rw [h] <;> decide
theorem xf55 {ta tb : Nat} (hX : WXr σ.1 σ.2.2) (hta : isT ta) (htb : isT tb) (hla : σ.2.1 (ta + 2) 2 = -1 ∨ TLx ta 2 σ) (hlb : σ.2.1 (tb + 2) 2 = -1 ∨ TLx tb 2 σ) {n : Int} (hn : 0 ≤ n ∧ n ≤ 31) {q3 t6 t11 : St × Int} (hq : q3.2 = n) {J85 : St × Int × Int × Int → Option (St × Int)} {J107 : St → Option (St × Int)} {Q : St × Int → Prop} (hN : 1000 < N) {τ0 : St} (h0 : FX [ta + 4, ta + 5, tb + 4, tb + 5] σ τ0) (yes : ∀ τ v, FX [ta + 4, ta + 5, tb + 4, tb + 5] σ τ → (0 ≤ v ∧ v < n) → dF σ ta tb t6.2 t11.2 v → (∀ v', 0 ≤ v' → v' < v → ¬ dF σ ta tb t6.2 t11.2 v') → Ok (J85 (τ, t6.2, t11.2, v)) Q) (no : ∀ τ, FX [ta + 4, ta + 5, tb + 4, tb + 5] σ τ → (∀ v, (0 ≤ v ∧ v < n) → ¬ dF σ ta tb t6.2 t11.2 v) → Ok (J107 τ) Q) : Ok (L_X8_inFlying_55 N ta tb q3 J85 t6 t11 J107 (τ0, 0)) Q := by
  have tn := two_no hta htb rfl
  unfold L_X8_inFlying_55
  refine ok_fix (fun w => FX [ta + 4, ta + 5, tb + 4, tb + 5] σ w.1 ∧ 0 ≤ w.2 ∧ w.2 ≤ n ∧ ∀ v', 0 ≤ v' → v' < w.2 → ¬ dF σ ta tb t6.2 t11.2 v') (fun w => (n - w.2).toNat) (fun back w hI hback => ?_) _ ⟨h0, Int.le_refl _, hn.1, fun v a b => by dsimp only at b; omega⟩ (by dsimp only; omega)
  obtain ⟨τ, v⟩ := w
  obtain ⟨g1, g2, g3, g4⟩ := hI
  dsimp only at g1 g2 g3 g4 hback ⊢
  rw [hq]
  refine ok_wlt (by omega) (by omega) (fun h1 => ?_) (fun h1 => no τ g1 (fun v' hv => g4 v' hv.1 (by omega)))
  obtain ⟨υ, e1, f1⟩ := fl_at (N := N) (g1.X hX) hta hla (fun d a b => g1.2.2 _ (tn.1 d a b)) t6.2 t11.2 v hN
  have g5 : FX [ta + 4, ta + 5, tb + 4, tb + 5] σ υ := g1.trans (f1.mono (by simp))
  obtain ⟨φ, e2, f2⟩ := fl_at (N := N) (g5.X hX) htb hlb (fun d a b => g5.2.2 _ (tn.2 d a b)) t6.2 t11.2 v hN
  have g6 : FX [ta + 4, ta + 5, tb + 4, tb + 5] σ φ := g5.trans (f2.mono (by simp))
  refine tx_rcv (g1.X hX) hta (ok_rw e1 ?_)
  dsimp only
  refine tx_rcv (g5.X hX) htb (ok_rw e2 ?_)
  dsimp only
  unfold flyB
  rw [b01_wr, b01_wr]
  refine ok_ite (fun h2 => st_Lt ?_) (fun h2 => yes φ v g6 ⟨g2, h1⟩ h2 g4)
  refine hback _ ⟨g6, by dsimp only; omega, by dsimp only; omega, fun v' a b => ?_⟩ (by dsimp only; omega)
  dsimp only at b
  by_cases hv : v' = v
  · rw [hv]; exact fun d => d h2
  · exact g4 v' a (by omega)
theorem inFlying_eq {ta tb : Nat} (hX : WXr σ.1 σ.2.2) (hta : isT ta) (htb : isT tb) (hla : σ.2.1 (ta + 2) 2 = -1 ∨ TLx ta 2 σ) (hlb : σ.2.1 (tb + 2) 2 = -1 ∨ TLx tb 2 σ) (hN : 1000 < N) : ∃ τ r, f_X8_inFlying N σ ta tb = some (τ, r) ∧ FX [ta + 4, ta + 5, tb + 4, tb + 5] σ τ ∧ Fr3 8 24 31 (dF σ ta tb) r := by
  obtain ⟨n1, e1, p1⟩ := tries_eq (N := N) (f := 8) hX hta htb (n := 2) (w := 27) (by omega) (by omega) hla hlb hN
  obtain ⟨n2, e2, p2⟩ := tries_eq (N := N) (f := 24) hX hta htb (n := 2) (w := 28) (by omega) (by omega) hla hlb hN
  obtain ⟨n3, e3, p3⟩ := tries_eq (N := N) (f := 31) hX hta htb (n := 2) (w := 29) (by omega) (by omega) hla hlb hN
  have ne : ∀ t : Nat, (σ.2.1 (t + 2) 2 = -1 ∨ TLx t 2 σ) → ∀ w, NoAsk σ t 2 w → ∀ g h v g' h' v', (w ≠ 27 → g = g') → (w ≠ 28 → h = h') → (w ≠ 29 → v = v') → flyB σ t g h v = flyB σ t g' h' v' := fun t hl w hw g h v g' h' v' a b c => by
    unfold flyB
    rw [lv_no hl hw (q' := qF g' h' v')]
    intro k hk hkw
    unfold asksW at hk
    have : k = 27 ∨ k = 28 ∨ k = 29 := by omega
    rcases this with rfl | rfl | rfl
    · exact a (Ne.symm hkw)
    · exact b (Ne.symm hkw)
    · exact c (Ne.symm hkw)
  have H : Ok (f_X8_inFlying N σ ta tb) (fun q => FX [ta + 4, ta + 5, tb + 4, tb + 5] σ q.1 ∧ Fr3 n1 n2 n3 (dF σ ta tb) q.2) := by
    unfold f_X8_inFlying
    refine ok_rw e1 (ok_rw e2 (ok_rw e3 (st_Jn ?_)))
    unfold L_X8_inFlying_37
    refine ok_fix (fun w => FX [ta + 4, ta + 5, tb + 4, tb + 5] σ w.1 ∧ 0 ≤ w.2 ∧ w.2 ≤ n1 ∧ ∀ g' h' v', (0 ≤ g' ∧ g' < w.2) → (0 ≤ h' ∧ h' < n2) → (0 ≤ v' ∧ v' < n3) → ¬ dF σ ta tb g' h' v') (fun w => (n1 - w.2).toNat) (fun back w hI hback => ?_) _ ⟨FX.refl, Int.le_refl _, by dsimp only; omega, fun g h v a b c => by dsimp only at a; omega⟩ (by dsimp only; omega)
    obtain ⟨τ, g⟩ := w
    obtain ⟨g1, g2, g3, g4⟩ := hI
    dsimp only at g1 g2 g3 g4 hback ⊢
    refine ok_wlt (by omega) (by omega) (fun h1 => ?_) (fun h1 => ok_some ⟨g1, .inl ⟨rfl, fun g' h' v' a b c => g4 g' h' v' (by omega) b c⟩⟩)
    refine st_Jn ?_
    unfold L_X8_inFlying_46
    refine ok_fix (fun w => FX [ta + 4, ta + 5, tb + 4, tb + 5] σ w.1 ∧ 0 ≤ w.2 ∧ w.2 ≤ n2 ∧ ∀ h' v', (0 ≤ h' ∧ h' < w.2) → (0 ≤ v' ∧ v' < n3) → ¬ dF σ ta tb g h' v') (fun w => (n2 - w.2).toNat) (fun back2 w hI hback2 => ?_) _ ⟨g1, Int.le_refl _, by dsimp only; omega, fun h v a c => by dsimp only at a; omega⟩ (by dsimp only; omega)
    obtain ⟨τ, h⟩ := w
    obtain ⟨k1, k2, k3, k4⟩ := hI
    dsimp only at k1 k2 k3 k4 hback2 ⊢
    refine ok_wlt (by omega) (by omega) (fun h2 => ?_) (fun h2 => st_Lt ?_)
    · refine st_Jn ?_
      refine xf55 hX hta htb hla hlb (n := n3) (by omega) rfl hN k1 (fun τ v f hv d fst => ok_some ⟨f, .inr ⟨g, h, v, ⟨⟨g2, h1⟩, ⟨k2, h2⟩, hv⟩, d, rfl, fst, k4, g4⟩⟩) (fun τ f nn => st_Lt ?_)
      refine hback2 _ ⟨f, by dsimp only; omega, by dsimp only; omega, fun h' v' a b => ?_⟩ (by dsimp only; omega)
      dsimp only at a
      by_cases hh : h' = h
      · rw [hh]; exact nn v' b
      · exact k4 h' v' (by omega) b
    · refine hback _ ⟨k1, by dsimp only; omega, by dsimp only; omega, fun g' h' v' a b c => ?_⟩ (by dsimp only; omega)
      dsimp only at a
      by_cases hg : g' = g
      · rw [hg]; exact k4 h' v' (by omega) c
      · exact g4 g' h' v' (by omega) b c
  obtain ⟨⟨τ, r⟩, e, h1, h2⟩ := H
  refine ⟨τ, r, e, h1, Fr3.full ?_ ?_ ?_ (by decide) (by decide) (by decide) h2⟩
  · rcases p1 with p | ⟨p, a, b⟩
    · exact .inl p
    · refine .inr ⟨p, fun g h v d => ?_⟩
      unfold dF at d ⊢
      rw [ne ta hla 27 a 0 h v g h v (fun q => absurd rfl q) (fun _ => rfl) (fun _ => rfl), ne tb hlb 27 b 0 h v g h v (fun q => absurd rfl q) (fun _ => rfl) (fun _ => rfl)]
      exact d
  · rcases p2 with p | ⟨p, a, b⟩
    · exact .inl p
    · refine .inr ⟨p, fun g h v d => ?_⟩
      unfold dF at d ⊢
      rw [ne ta hla 28 a g 0 v g h v (fun _ => rfl) (fun q => absurd rfl q) (fun _ => rfl), ne tb hlb 28 b g 0 v g h v (fun _ => rfl) (fun q => absurd rfl q) (fun _ => rfl)]
      exact d
  · rcases p3 with p | ⟨p, a, b⟩
    · exact .inl p
    · refine .inr ⟨p, fun g h v d => ?_⟩
      unfold dF at d ⊢
      rw [ne ta hla 29 a g h 0 g h v (fun _ => rfl) (fun _ => rfl) (fun q => absurd rfl q), ne tb hlb 29 b g h 0 g h v (fun _ => rfl) (fun _ => rfl) (fun q => absurd rfl q)]
      exact d
end U
