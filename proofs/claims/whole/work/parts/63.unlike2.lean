/-! the pure part: UNLIKE, the rest -/
section U
variable {N : Nat} {σ σm : St}
theorem inLeaving_eq {ta tb : Nat} (hX : WXr σ.1 σ.2.2) (hta : isT ta) (htb : isT tb) (hla : σ.2.1 (ta + 2) 1 = -1 ∨ TLx ta 1 σ) (hlb : σ.2.1 (tb + 2) 1 = -1 ∨ TLx tb 1 σ) (hN : 1000 < N) : ∃ τ r, f_X8_inLeaving N σ ta tb = some (τ, r) ∧ FX [ta + 4, ta + 5, tb + 4, tb + 5] σ τ ∧ Fr2 200 100 (dL σ ta tb) r := by
  have tn := two_no hta htb rfl
  obtain ⟨n1, e1, p1⟩ := tries_eq (N := N) (f := 200) hX hta htb (n := 1) (w := 25) (by omega) (by omega) hla hlb hN
  obtain ⟨n2, e2, p2⟩ := tries_eq (N := N) (f := 100) hX hta htb (n := 1) (w := 26) (by omega) (by omega) hla hlb hN
  have ne : ∀ t : Nat, (σ.2.1 (t + 2) 1 = -1 ∨ TLx t 1 σ) → ∀ w, NoAsk σ t 1 w → ∀ g h g' h', (w ≠ 25 → g = g') → (w ≠ 26 → h = h') → leaveB σ t g h = leaveB σ t g' h' := fun t hl w hw g h g' h' a b => by
    unfold leaveB
    rw [lv_no hl hw (q' := qL g' h')]
    intro k hk hkw
    unfold asksW at hk
    have : k = 25 ∨ k = 26 := by omega
    rcases this with rfl | rfl
    · exact a (Ne.symm hkw)
    · exact b (Ne.symm hkw)
  have H : Ok (f_X8_inLeaving N σ ta tb) (fun q => FX [ta + 4, ta + 5, tb + 4, tb + 5] σ q.1 ∧ Fr2 n1 n2 (dL σ ta tb) q.2) := by
    unfold f_X8_inLeaving
    refine ok_rw e1 (ok_rw e2 (st_Jn ?_))
    unfold L_X8_inLeaving_26
    refine ok_fix (fun w => FX [ta + 4, ta + 5, tb + 4, tb + 5] σ w.1 ∧ 0 ≤ w.2 ∧ w.2 ≤ n1 ∧ ∀ g' h', (0 ≤ g' ∧ g' < w.2) → (0 ≤ h' ∧ h' < n2) → ¬ dL σ ta tb g' h') (fun w => (n1 - w.2).toNat) (fun back w hI hback => ?_) _ ⟨FX.refl, Int.le_refl _, by dsimp only; omega, fun g h a b => by dsimp only at a; omega⟩ (by dsimp only; omega)
    obtain ⟨τ, g⟩ := w
    obtain ⟨g1, g2, g3, g4⟩ := hI
    dsimp only at g1 g2 g3 g4 hback ⊢
    refine ok_wlt (by omega) (by omega) (fun h1 => ?_) (fun h1 => ok_some ⟨g1, .inl ⟨rfl, fun g' h' a b => g4 g' h' (by omega) b⟩⟩)
    refine st_Jn ?_
    unfold L_X8_inLeaving_35
    refine ok_fix (fun w => FX [ta + 4, ta + 5, tb + 4, tb + 5] σ w.1 ∧ 0 ≤ w.2 ∧ w.2 ≤ n2 ∧ ∀ h', 0 ≤ h' → h' < w.2 → ¬ dL σ ta tb g h') (fun w => (n2 - w.2).toNat) (fun back2 w hI hback2 => ?_) _ ⟨g1, Int.le_refl _, by dsimp only; omega, fun h a b => by dsimp only at b; omega⟩ (by dsimp only; omega)
    obtain ⟨τ, h⟩ := w
    obtain ⟨k1, k2, k3, k4⟩ := hI
    dsimp only at k1 k2 k3 k4 hback2 ⊢
    refine ok_wlt (by omega) (by omega) (fun h2 => ?_) (fun h2 => st_Lt ?_)
    · obtain ⟨υ, u1, f1⟩ := le_at (N := N) (k1.X hX) hta hla (fun d a b => k1.2.2 _ (tn.1 d a b)) g h hN
      have g5 : FX [ta + 4, ta + 5, tb + 4, tb + 5] σ υ := k1.trans (f1.mono (by simp))
      obtain ⟨φ, u2, f2⟩ := le_at (N := N) (g5.X hX) htb hlb (fun d a b => g5.2.2 _ (tn.2 d a b)) g h hN
      have g6 : FX [ta + 4, ta + 5, tb + 4, tb + 5] σ φ := g5.trans (f2.mono (by simp))
      refine tx_rcv (k1.X hX) hta (ok_rw u1 ?_)
      dsimp only
      refine tx_rcv (g5.X hX) htb (ok_rw u2 ?_)
      dsimp only
      unfold leaveB
      rw [b01_wr, b01_wr]
      refine ok_ite (fun h3 => st_Lt ?_) (fun h3 => ok_some ⟨g6, .inr ⟨g, h, ⟨⟨g2, h1⟩, ⟨k2, h2⟩⟩, h3, rfl, k4, g4⟩⟩)
      refine hback2 _ ⟨g6, by dsimp only; omega, by dsimp only; omega, fun h' a b => ?_⟩ (by dsimp only; omega)
      dsimp only at b
      by_cases hv : h' = h
      · rw [hv]; exact fun d => d h3
      · exact k4 h' a (by omega)
    · refine hback _ ⟨k1, by dsimp only; omega, by dsimp only; omega, fun g' h' a b => ?_⟩ (by dsimp only; omega)
      dsimp only at a
      by_cases hg : g' = g
      · rw [hg]; exact k4 h' b.1 (by omega)
      · exact g4 g' h' (by omega) b
  obtain ⟨⟨τ, r⟩, e, h1, h2⟩ := H
  refine ⟨τ, r, e, h1, Fr2.full ?_ ?_ (by decide) (by decide) h2⟩
  · rcases p1 with p | ⟨p, a, b⟩
    · exact .inl p
    · refine .inr ⟨p, fun g h d => ?_⟩
      unfold dL at d ⊢
      rw [ne ta hla 25 a 0 h g h (fun q => absurd rfl q) (fun _ => rfl), ne tb hlb 25 b 0 h g h (fun q => absurd rfl q) (fun _ => rfl)]
      exact d
  · rcases p2 with p | ⟨p, a, b⟩
    · exact .inl p
    · refine .inr ⟨p, fun g h d => ?_⟩
      unfold dL at d ⊢
      rw [ne ta hla 26 a g 0 g h (fun _ => rfl) (fun q => absurd rfl q), ne tb hlb 26 b g 0 g h (fun _ => rfl) (fun q => absurd rfl q)]
      exact d
theorem flm_at {τ : St} (hM : WMr τ.1 τ.2.2) {t : Nat} {i : Int} (hi : 0 ≤ i ∧ i ≤ 2) (hl : RTl t i 2 σ σm) (f0 : FM [31] [54, 55, 56] σm τ) (g h s : Int) (hN : 1000 < N) : ∃ υ, f_X12_flies N τ 1 i g h s = some (υ, flyB σ t g h s) ∧ FM [31] [54, 55, 56] σm υ := by
  obtain ⟨υ, e, f⟩ := flies_eq (N := N) hM hi (hl.keep (fun _ _ _ => rfl) (f0.2.2.1 25 (by decide) (by decide)) (f0.2.2.1 26 (by decide) (by decide)) (f0.2.2.1 27 (by decide) (by decide)) (f0.2.2.1 28 (by decide) (by decide)) (f0.2.2.1 32 (by decide) (by decide))) g h s hN
  exact ⟨υ, e, f0.trans f⟩
theorem lem_at {τ : St} (hM : WMr τ.1 τ.2.2) {t : Nat} {i : Int} (hi : 0 ≤ i ∧ i ≤ 2) (hl : RTl t i 1 σ σm) (f0 : FM [31] [52, 53] σm τ) (g h : Int) (hN : 1000 < N) : ∃ υ, f_X12_leavesBy N τ 1 i g h = some (υ, leaveB σ t g h) ∧ FM [31] [52, 53] σm υ := by
  obtain ⟨υ, e, f⟩ := leaves_eq (N := N) hM hi (hl.keep (fun _ _ _ => rfl) (f0.2.2.1 25 (by decide) (by decide)) (f0.2.2.1 26 (by decide) (by decide)) (f0.2.2.1 27 (by decide) (by decide)) (f0.2.2.1 28 (by decide) (by decide)) (f0.2.2.1 32 (by decide) (by decide))) g h hN
  exact ⟨υ, e, f0.trans f⟩
theorem unlikeFlyM {ta tb : Nat} {a b : Int} (hM : WMr σm.1 σm.2.2) (ha : 0 ≤ a ∧ a ≤ 2) (hb : 0 ≤ b ∧ b ≤ 2) (hla : RTl ta a 2 σ σm) (hlb : RTl tb b 2 σ σm) (hN : 1000 < N) : ∃ τ r, f_X12_unlikeToFly N σm 1 a b = some (τ, r) ∧ FM [31] [54, 55, 56] σm τ ∧ Fr3 8 24 31 (dF σ ta tb) r := by
  have H : Ok (f_X12_unlikeToFly N σm 1 a b) (fun q => FM [31] [54, 55, 56] σm q.1 ∧ Fr3 8 24 31 (dF σ ta tb) q.2) := by
    unfold f_X12_unlikeToFly
    refine st_Jn ?_
    unfold L_X12_unlikeToFly_2
    refine ok_fix (fun w => FM [31] [54, 55, 56] σm w.1 ∧ 0 ≤ w.2 ∧ w.2 ≤ 8 ∧ ∀ g' h' v', (0 ≤ g' ∧ g' < w.2) → (0 ≤ h' ∧ h' < 24) → (0 ≤ v' ∧ v' < 31) → ¬ dF σ ta tb g' h' v') (fun w => (8 - w.2).toNat) (fun back w hI hback => ?_) _ ⟨FM.refl, Int.le_refl _, by dsimp only; omega, fun g h v a b c => by dsimp only at a; omega⟩ (by dsimp only; omega)
    obtain ⟨τ, g⟩ := w
    obtain ⟨g1, g2, g3, g4⟩ := hI
    dsimp only at g1 g2 g3 g4 hback ⊢
    refine ok_wlt (by omega) (by omega) (fun h1 => ?_) (fun h1 => ok_some ⟨g1, .inl ⟨rfl, fun g' h' v' a b c => g4 g' h' v' (by omega) b c⟩⟩)
    refine st_Jn ?_
    unfold L_X12_unlikeToFly_11
    refine ok_fix (fun w => FM [31] [54, 55, 56] σm w.1 ∧ 0 ≤ w.2 ∧ w.2 ≤ 24 ∧ ∀ h' v', (0 ≤ h' ∧ h' < w.2) → (0 ≤ v' ∧ v' < 31) → ¬ dF σ ta tb g h' v') (fun w => (24 - w.2).toNat) (fun back2 w hI hback2 => ?_) _ ⟨g1, Int.le_refl _, by dsimp only; omega, fun h v a c => by dsimp only at a; omega⟩ (by dsimp only; omega)
    obtain ⟨τ, h⟩ := w
    obtain ⟨k1, k2, k3, k4⟩ := hI
    dsimp only at k1 k2 k3 k4 hback2 ⊢
    refine ok_wlt (by omega) (by omega) (fun h2 => ?_) (fun h2 => st_Lt ?_)
    · refine st_Jn ?_
      unfold L_X12_unlikeToFly_21
      refine ok_fix (fun w => FM [31] [54, 55, 56] σm w.1 ∧ 0 ≤ w.2 ∧ w.2 ≤ 31 ∧ ∀ v', 0 ≤ v' → v' < w.2 → ¬ dF σ ta tb g h v') (fun w => (31 - w.2).toNat) (fun back3 w hI hback3 => ?_) _ ⟨k1, Int.le_refl _, by dsimp only; omega, fun v a b => by dsimp only at b; omega⟩ (by dsimp only; omega)
      obtain ⟨τ, v⟩ := w
      obtain ⟨m1, m2, m3, m4⟩ := hI
      dsimp only at m1 m2 m3 m4 hback3 ⊢
      refine ok_wlt (by omega) (by omega) (fun h3 => ?_) (fun h3 => st_Lt ?_)
      · obtain ⟨υ, u1, f1⟩ := flm_at (N := N) (m1.M hM) ha hla m1 g h v hN
        obtain ⟨φ, u2, f2⟩ := flm_at (N := N) (f1.M hM) hb hlb f1 g h v hN
        refine sm_rcv (m1.M hM) (ok_rw u1 ?_)
        dsimp only
        refine sm_rcv (f1.M hM) (ok_rw u2 ?_)
        dsimp only
        unfold flyB
        rw [b01_wr, b01_wr]
        refine ok_ite (fun h4 => st_Lt ?_) (fun h4 => ok_some ⟨f2, .inr ⟨g, h, v, ⟨⟨g2, h1⟩, ⟨k2, h2⟩, ⟨m2, h3⟩⟩, h4, rfl, m4, k4, g4⟩⟩)
        refine hback3 _ ⟨f2, by dsimp only; omega, by dsimp only; omega, fun v' a b => ?_⟩ (by dsimp only; omega)
        dsimp only at b
        by_cases hv : v' = v
        · rw [hv]; exact fun d => d h4
        · exact m4 v' a (by omega)
      · refine hback2 _ ⟨m1, by dsimp only; omega, by dsimp only; omega, fun h' v' a b => ?_⟩ (by dsimp only; omega)
        dsimp only at a
        by_cases hh : h' = h
        · rw [hh]; exact m4 v' b.1 (by omega)
        · exact k4 h' v' (by omega) b
    · refine hback _ ⟨k1, by dsimp only; omega, by dsimp only; omega, fun g' h' v' a b c => ?_⟩ (by dsimp only; omega)
      dsimp only at a
      by_cases hg : g' = g
      · rw [hg]; exact k4 h' v' (by omega) c
      · exact g4 g' h' v' (by omega) b c
  obtain ⟨⟨τ, r⟩, e, h1, h2⟩ := H
  exact ⟨τ, r, e, h1, h2⟩
theorem unlikeLeaveM {ta tb : Nat} {a b : Int} (hM : WMr σm.1 σm.2.2) (ha : 0 ≤ a ∧ a ≤ 2) (hb : 0 ≤ b ∧ b ≤ 2) (hla : RTl ta a 1 σ σm) (hlb : RTl tb b 1 σ σm) (hN : 1000 < N) {Q : St × Int → Prop} (hQ : ∀ τ r, FM [31] [52, 53] σm τ → Fr2 200 100 (dL σ ta tb) r → Q (τ, r)) : Ok (L_X12_unlike_30 N 1 a b (fun t3 : St × Int × Int => some (t3.1, ((100 * t3.2.1) + t3.2.2))) (σm, 0)) Q := by
  unfold L_X12_unlike_30
  refine ok_fix (fun w => FM [31] [52, 53] σm w.1 ∧ 0 ≤ w.2 ∧ w.2 ≤ 200 ∧ ∀ g' h', (0 ≤ g' ∧ g' < w.2) → (0 ≤ h' ∧ h' < 100) → ¬ dL σ ta tb g' h') (fun w => (200 - w.2).toNat) (fun back w hI hback => ?_) _ ⟨FM.refl, Int.le_refl _, by dsimp only; omega, fun g h a b => by dsimp only at a; omega⟩ (by dsimp only; omega)
  obtain ⟨τ, g⟩ := w
  obtain ⟨g1, g2, g3, g4⟩ := hI
  dsimp only at g1 g2 g3 g4 hback ⊢
  refine ok_wlt (by omega) (by omega) (fun h1 => ?_) (fun h1 => ok_some (hQ _ _ g1 (.inl ⟨rfl, fun g' h' a b => g4 g' h' (by omega) b⟩)))
  refine st_Jn ?_
  unfold L_X12_unlike_41
  refine ok_fix (fun w => FM [31] [52, 53] σm w.1 ∧ 0 ≤ w.2 ∧ w.2 ≤ 100 ∧ ∀ h', 0 ≤ h' → h' < w.2 → ¬ dL σ ta tb g h') (fun w => (100 - w.2).toNat) (fun back2 w hI hback2 => ?_) _ ⟨g1, Int.le_refl _, by dsimp only; omega, fun h a b => by dsimp only at b; omega⟩ (by dsimp only; omega)
  obtain ⟨τ, h⟩ := w
  obtain ⟨k1, k2, k3, k4⟩ := hI
  dsimp only at k1 k2 k3 k4 hback2 ⊢
  refine ok_wlt (by omega) (by omega) (fun h2 => ?_) (fun h2 => st_Lt ?_)
  · obtain ⟨υ, u1, f1⟩ := lem_at (N := N) (k1.M hM) ha hla k1 g h hN
    obtain ⟨φ, u2, f2⟩ := lem_at (N := N) (f1.M hM) hb hlb f1 g h hN
    refine sm_rcv (k1.M hM) (ok_rw u1 ?_)
    dsimp only
    refine sm_rcv (f1.M hM) (ok_rw u2 ?_)
    dsimp only
    unfold leaveB
    rw [b01_wr, b01_wr]
    refine ok_ite (fun h4 => st_Lt ?_) (fun h4 => ok_some (hQ _ _ f2 (.inr ⟨g, h, ⟨⟨g2, h1⟩, ⟨k2, h2⟩⟩, h4, rfl, k4, g4⟩)))
    refine hback2 _ ⟨f2, by dsimp only; omega, by dsimp only; omega, fun h' a b => ?_⟩ (by dsimp only; omega)
    dsimp only at b
    by_cases hv : h' = h
    · rw [hv]; exact fun d => d h4
    · exact k4 h' a (by omega)
  · refine hback _ ⟨k1, by dsimp only; omega, by dsimp only; omega, fun g' h' a b => ?_⟩ (by dsimp only; omega)
    dsimp only at a
    by_cases hg : g' = g
    · rw [hg]; exact k4 h' b.1 (by omega)
    · exact g4 g' h' (by omega) b
/-- what is kept of it -/
def IUnl (t : Int → Nat) (σ : St) : Prop := ∀ a b : Int, (0 ≤ a ∧ a ≤ 2) → (0 ≤ b ∧ b ≤ 2) → (σ.2.1 65 (3 * a + b) = -2 ∨ Fr2 200 100 (dL σ (t a) (t b)) (σ.2.1 65 (3 * a + b))) ∧ (σ.2.1 65 (3 * a + b + 9) = -2 ∨ Fr3 8 24 31 (dF σ (t a) (t b)) (σ.2.1 65 (3 * a + b + 9)))
theorem Fr2.rg {D : Int → Int → Prop} {r : Int} (h : Fr2 200 100 D r) : -1 ≤ r ∧ r ≤ 100000 := by
  rcases h with ⟨a1, a2⟩ | ⟨g, h, ⟨a1, a2⟩, a3, a4, a5, a6⟩ <;> omega
theorem Fr3.rg {D : Int → Int → Int → Prop} {r : Int} (h : Fr3 8 24 31 D r) : -1 ≤ r ∧ r ≤ 100000 := by
  rcases h with ⟨a1, a2⟩ | ⟨g, h, v, ⟨a1, a2, a0⟩, a3, a4, a5, a6⟩ <;> omega
theorem dL_keep {τ : St} {ta tb : Nat} (x : ∀ d, 1 ≤ d → d ≤ 3 → τ.2.1 (ta + d) = σ.2.1 (ta + d)) (y : ∀ d, 1 ≤ d → d ≤ 3 → τ.2.1 (tb + d) = σ.2.1 (tb + d)) : dL τ ta tb = dL σ ta tb := by
  funext g h
  unfold dL
  rw [leaveB_keep x, leaveB_keep y]
theorem dF_keep {τ : St} {ta tb : Nat} (x : ∀ d, 1 ≤ d → d ≤ 3 → τ.2.1 (ta + d) = σ.2.1 (ta + d)) (y : ∀ d, 1 ≤ d → d ≤ 3 → τ.2.1 (tb + d) = σ.2.1 (tb + d)) : dF τ ta tb = dF σ ta tb := by
  funext g h v
  unfold dF
  rw [flyB_keep x, flyB_keep y]
theorem IUnl.keep {t : Int → Nat} {τ : St} (h : IUnl t σ) (x : ∀ i : Int, (0 ≤ i ∧ i ≤ 2) → ∀ d, 1 ≤ d → d ≤ 3 → τ.2.1 (t i + d) = σ.2.1 (t i + d)) (y : τ.2.1 65 = σ.2.1 65) : IUnl t τ := fun a b ha hb => by
  rw [y, dL_keep (x a ha) (x b hb), dF_keep (x a ha) (x b hb)]
  exact h a b ha hb
theorem op_unlike (hX : WXr σ.1 σ.2.2) (hM : WMr σm.1 σm.2.2) {t : Int → Nat} {sp : Nat} (hT : ITre t sp σ σm) (hU : IUnl t σ) {a b c : Int} (ha : wr a = a) (hb : wr b = b) (hc : c = 0 ∨ c = 1) (hN : 1000 < N) : Ok (f_X11_unlike N σ 1 a b c) (fun v => Ok (f_X12_unlike N σm 1 a b c) (fun w => wr v.2 = wr w.2 ∧ FX [65, t a + 4, t a + 5, t b + 4, t b + 5] σ v.1 ∧ FM [31] [52, 53, 54, 55, 56] σm w.1 ∧ IUnl t v.1)) := by
  have hr := wr_rg ha
  have hs := wr_rg hb
  by_cases hv : (0 ≤ a ∧ a ≤ 2) ∧ (0 ≤ b ∧ b ≤ 2)
  · obtain ⟨ta, ra⟩ := hT.1.1 a hv.1.1 (by omega)
    obtain ⟨tb, rb⟩ := hT.1.1 b hv.2.1 (by omega)
    have rt1a := hT.2.1 a hv.1.1 (by omega) 1 (by omega) (by omega)
    have rt1b := hT.2.1 b hv.2.1 (by omega) 1 (by omega) (by omega)
    have rt2a := hT.2.1 a hv.1.1 (by omega) 2 (by omega) (by omega)
    have rt2b := hT.2.1 b hv.2.1 (by omega) 2 (by omega) (by omega)
    have hl : ∀ i : Int, (0 ≤ i ∧ i ≤ 2) → isT (t i) := fun i hi => (hT.1.1 i hi.1 (by omega)).1
    have mL : ∀ {Q : St × Int → Prop}, c = 0 → (∀ τ r, FM [31] [52, 53] σm τ → Fr2 200 100 (dL σ (t a) (t b)) r → Q (τ, r)) → Ok (f_X12_unlike N σm 1 a b c) Q := fun {Q} hc0 h => by
      unfold f_X12_unlike
      refine om_tongue hr (fun _ => ok_z1 ?_) (fun _ => by exfalso; omega)
      refine om_tongue hs (fun _ => ok_z1 ?_) (fun _ => by exfalso; omega)
      rw [hc0]
      refine ok_z0 (st_Jn ?_)
      exact unlikeLeaveM hM hv.1 hv.2 rt1a rt1b hN h
    have mF : ∀ {Q : St × Int → Prop}, c = 1 → (∀ τ r, FM [31] [54, 55, 56] σm τ → Fr3 8 24 31 (dF σ (t a) (t b)) r → Q (τ, r)) → Ok (f_X12_unlike N σm 1 a b c) Q := fun {Q} hc0 h => by
      obtain ⟨τ, r, e, f1, f2⟩ := unlikeFlyM (N := N) hM hv.1 hv.2 rt2a rt2b hN
      unfold f_X12_unlike
      refine om_tongue hr (fun _ => ok_z1 ?_) (fun _ => by exfalso; omega)
      refine om_tongue hs (fun _ => ok_z1 ?_) (fun _ => by exfalso; omega)
      rw [hc0]
      exact ok_z1 (sm_rcv hM (ok_rw e (ok_some (h _ _ f1 f2))))
    unfold f_X11_unlike
    refine ok_tongue hr (fun _ => ok_z1 ?_) (fun _ => by exfalso; omega)
    refine ok_tongue hs (fun _ => ok_z1 ?_) (fun _ => by exfalso; omega)
    refine sx_gR hX rfl rfl rfl ?_
    refine sx_gR hX rfl rfl rfl ?_
    refine sx_rcv hX rfl rfl (ok_bind ?_)
    unfold f_X8_between
    refine st_Jn ?_
    have same : a = b → (∀ r, Fr2 200 100 (dL σ (t a) (t b)) r → r = -1) ∧ (∀ r, Fr3 8 24 31 (dF σ (t a) (t b)) r → r = -1) := fun e => by
      subst e
      refine ⟨fun r h => ?_, fun r h => ?_⟩
      · rcases h with ⟨a1, a2⟩ | ⟨g, h, a1, a3, a4⟩
        · exact a1
        · exact absurd rfl a3
      · rcases h with ⟨a1, a2⟩ | ⟨g, h, v, a1, a3, a4⟩
        · exact a1
        · exact absurd rfl a3
    have hUab := hU a b hv.1 hv.2
    have hUrg : (-2 ≤ σ.2.1 65 (3 * a + b) ∧ σ.2.1 65 (3 * a + b) ≤ 100000) ∧ (-2 ≤ σ.2.1 65 (3 * a + b + 9) ∧ σ.2.1 65 (3 * a + b + 9) ≤ 100000) := by
      refine ⟨?_, ?_⟩
      · rcases hUab.1 with h | h
        · omega
        · have := h.rg; omega
      · rcases hUab.2 with h | h
        · omega
        · have := h.rg; omega
    -- behind a search
    have aft : ∀ {τ : St} {p r : Int}, FX [t a + 4, t a + 5, t b + 4, t b + 5] σ τ → (0 ≤ p ∧ p < 18) → (∀ x y : Int, (0 ≤ x ∧ x ≤ 2) → (0 ≤ y ∧ y ≤ 2) → (3 * x + y = p → Fr2 200 100 (dL σ (t x) (t y)) r) ∧ (3 * x + y + 9 = p → Fr3 8 24 31 (dF σ (t x) (t y)) r)) → FX [65, t a + 4, t a + 5, t b + 4, t b + 5] σ (uI τ 65 p r) ∧ IUnl t (uI τ 65 p r) := fun {τ p r} f hp hx => by
      have f2 : FX [65, t a + 4, t a + 5, t b + 4, t b + 5] σ (uI τ 65 p r) := (f.mono (by simp)).uI (by simp)
      have kx : ∀ i : Int, (0 ≤ i ∧ i ≤ 2) → ∀ d, 1 ≤ d → d ≤ 3 → (uI τ 65 p r).2.1 (t i + d) = σ.2.1 (t i + d) := fun i hi d d0 d1 => by
        refine f2.2.2 _ ?_
        have q1 := hl i hi
        have q2 := hl a hv.1
        have q3 := hl b hv.2
        unfold isT at q1 q2 q3
        simp
        omega
      have e65 : τ.2.1 65 = σ.2.1 65 := f.2.2 65 (by have q2 := hl a hv.1; have q3 := hl b hv.2; unfold isT at q2 q3; simp; omega)
      refine ⟨f2, fun x y hx1 hy1 => ?_⟩
      rw [dL_keep (kx x hx1) (kx y hy1), dF_keep (kx x hx1) (kx y hy1), uW_at, uW_at, e65]
      obtain ⟨k1, k2⟩ := hU x y hx1 hy1
      obtain ⟨k3, k4⟩ := hx x y hx1 hy1
      refine ⟨?_, ?_⟩
      · by_cases h1 : 3 * x + y = p
        · rw [if_pos h1]; exact .inr (k3 h1)
        · rw [if_neg h1]; exact k1
      · by_cases h1 : 3 * x + y + 9 = p
        · rw [if_pos h1]; exact .inr (k4 h1)
        · rw [if_neg h1]; exact k2
    have inj : ∀ {x y p q : Int}, (0 ≤ x ∧ x ≤ 2) → (0 ≤ y ∧ y ≤ 2) → (0 ≤ p ∧ p ≤ 2) → (0 ≤ q ∧ q ≤ 2) → 3 * x + y = 3 * p + q → x = p ∧ y = q := fun _ _ _ _ _ => by omega
    rcases hc with rfl | rfl
    · refine ok_z0 (st_Lt ?_)
      rw [Int.add_zero]
      refine ok_tongue hr (fun _ => ok_z1 ?_) (fun _ => by exfalso; omega)
      refine ok_tongue hs (fun _ => ok_z1 (st_Jn ?_)) (fun _ => by exfalso; omega)
      by_cases hab : a = b
      · refine ok_weq hr hs (fun _ => ?_) (fun h => absurd hab h)
        refine ok_weq hr hs (fun _ => ok_some (ok_some ?_)) (fun h => absurd hab h)
        exact mL rfl (fun τ r f1 f2 => ⟨by rw [(same hab).1 r f2], FX.refl, f1.mono (by simp) (by simp), hU⟩)
      · refine ok_weq hr hs (fun h => absurd h hab) (fun _ => ?_)
        refine sx_gR hX rfl rfl rfl ?_
        refine sx_aI hX rfl rfl (by decide) (by omega) (by omega) ?_
        refine ok_weq (by omega) (by omega) (fun h1 => ?_) (fun h1 => ?_)
        · refine sx_aR hX rfl rfl (by decide) (by omega) (by omega) ra ?_
          refine sx_aR hX rfl rfl (by decide) (by omega) (by omega) rb ?_
          refine sx_gR hX rfl rfl rfl ?_
          refine st_Jn (ok_z0 ?_)
          obtain ⟨τ, r, e, f1, f2⟩ := inLeaving_eq (N := N) hX ta tb rt1a.x rt1b.x hN
          refine ok_rw e ?_
          dsimp only
          refine sx_sI (f1.X hX) rfl rfl (by decide) (by omega) (by omega) ?_
          refine ok_weq hr hs (fun h => absurd h hab) (fun _ => ?_)
          refine sx_gR (σ := uI τ 65 (3 * a + b) r) (f1.X hX) rfl rfl rfl ?_
          refine sx_aI (σ := uI τ 65 (3 * a + b) r) (f1.X hX) rfl rfl (by decide) (by omega) (by omega) (ok_some (ok_some ?_))
          dsimp only
          rw [uI_eq]
          obtain ⟨q1, q2⟩ := aft f1 (p := 3 * a + b) (r := r) (by omega) (fun x y hx hy => ⟨fun e2 => by obtain ⟨rfl, rfl⟩ := inj hx hy hv.1 hv.2 e2; exact f2, fun e2 => by omega⟩)
          exact mL rfl (fun υ r' g1 g2 => ⟨by rw [f2.uniq g2], q1, g1.mono (by simp) (by simp), q2⟩)
        · refine ok_weq hr hs (fun h => absurd h hab) (fun _ => ?_)
          refine sx_gR hX rfl rfl rfl ?_
          refine sx_aI hX rfl rfl (by decide) (by omega) (by omega) (ok_some (ok_some ?_))
          have f2 := hUab.1.resolve_left h1
          exact mL rfl (fun υ r' g1 g2 => ⟨by rw [f2.uniq g2], FX.refl, g1.mono (by simp) (by simp), hU⟩)
    · refine ok_z1 (st_Lt ?_)
      refine ok_tongue hr (fun _ => ok_z1 ?_) (fun _ => by exfalso; omega)
      refine ok_tongue hs (fun _ => ok_z1 (st_Jn ?_)) (fun _ => by exfalso; omega)
      by_cases hab : a = b
      · refine ok_weq hr hs (fun _ => ?_) (fun h => absurd hab h)
        refine ok_weq hr hs (fun _ => ok_some (ok_some ?_)) (fun h => absurd hab h)
        exact mF rfl (fun τ r f1 f2 => ⟨by rw [(same hab).2 r f2], FX.refl, f1.mono (by simp) (by simp), hU⟩)
      · refine ok_weq hr hs (fun h => absurd h hab) (fun _ => ?_)
        refine sx_gR hX rfl rfl rfl ?_
        refine sx_aI hX rfl rfl (by decide) (by omega) (by omega) ?_
        refine ok_weq (by omega) (by omega) (fun h1 => ?_) (fun h1 => ?_)
        · refine sx_aR hX rfl rfl (by decide) (by omega) (by omega) ra ?_
          refine sx_aR hX rfl rfl (by decide) (by omega) (by omega) rb ?_
          refine sx_gR hX rfl rfl rfl ?_
          refine st_Jn (ok_z1 ?_)
          obtain ⟨τ, r, e, f1, f2⟩ := inFlying_eq (N := N) hX ta tb rt2a.x rt2b.x hN
          refine ok_rw e ?_
          dsimp only
          refine sx_sI (f1.X hX) rfl rfl (by decide) (by omega) (by omega) ?_
          refine ok_weq hr hs (fun h => absurd h hab) (fun _ => ?_)
          refine sx_gR (σ := uI τ 65 (3 * a + b + 9) r) (f1.X hX) rfl rfl rfl ?_
          refine sx_aI (σ := uI τ 65 (3 * a + b + 9) r) (f1.X hX) rfl rfl (by decide) (by omega) (by omega) (ok_some (ok_some ?_))
          dsimp only
          rw [uI_eq]
          obtain ⟨q1, q2⟩ := aft f1 (p := 3 * a + b + 9) (r := r) (by omega) (fun x y hx hy => ⟨fun e2 => by omega, fun e2 => by obtain ⟨rfl, rfl⟩ := inj hx hy hv.1 hv.2 (by omega); exact f2⟩)
          exact mF rfl (fun υ r' g1 g2 => ⟨by rw [f2.uniq g2], q1, g1.mono (by simp) (by simp), q2⟩)
        · refine ok_weq hr hs (fun h => absurd h hab) (fun _ => ?_)
          refine sx_gR hX rfl rfl rfl ?_
          refine sx_aI hX rfl rfl (by decide) (by omega) (by omega) (ok_some (ok_some ?_))
          have f2 := hUab.2.resolve_left h1
          exact mF rfl (fun υ r' g1 g2 => ⟨by rw [f2.uniq g2], FX.refl, g1.mono (by simp) (by simp), hU⟩)
  · unfold f_X11_unlike f_X12_unlike
    repeat' first
      | with_reducible apply st_Lt
      | with_reducible apply st_Jn
      | ((with_reducible apply ok_some); try dsimp only)
      | with_reducible apply ok_z0
      | with_reducible apply ok_z1
      | ((with_reducible apply ok_gF_hit); exact hX; exact rfl; exact rfl)
      | ((with_reducible apply om_gF_hit); exact hM)
      | ((with_reducible apply ok_gF_j); decide)
      | ((with_reducible apply ok_gF_k); (first | decide | omega))
      | ((with_reducible apply ok_gU_k); (first | decide | omega))
      | ((with_reducible apply ok_aF_k); (first | decide | omega))
      | ((with_reducible apply ok_aU_k); (first | decide | omega))
      | (with_reducible apply ok_rF)
      | (with_reducible apply ok_rU)
      | (with_reducible apply ok_qF)
      | (with_reducible apply ok_qU)
      | ((with_reducible apply sx_gI); exact hX; exact rfl; exact rfl)
      | ((with_reducible apply sx_gR); exact hX; exact rfl; exact rfl; exact rfl)
      | ((with_reducible apply sx_pI); exact hX; exact rfl; exact rfl)
      | ((with_reducible apply sx_rcv); exact hX; exact rfl; exact rfl)
      | ((with_reducible apply sx_aI); exact hX; exact rfl; exact rfl; exact (by decide); omega; omega)
      | ((with_reducible apply sx_sI); exact hX; exact rfl; exact rfl; exact (by decide); omega; omega)
      | ((with_reducible apply sm_gI); exact hM)
      | ((with_reducible apply sm_gR); exact hM; exact rfl)
      | ((with_reducible apply sm_pI); exact hM)
      | ((with_reducible apply sm_rcv); exact hM)
      | ((with_reducible apply sm_aI); exact hM; exact rfl; exact rfl; exact (by decide); omega; omega)
      | ((with_reducible apply sm_sI); exact hM; exact rfl; exact rfl; exact (by decide); omega; omega)
      | ((with_reducible apply ok_rZ); (first | exact .inl rfl | exact .inr rfl))
      | ((with_reducible refine ok_within ?_ ?_ ?_ (fun hc => ?_) (fun hc => ?_)); omega; omega; omega)
      | ((with_reducible refine ok_month ?_ (fun hc => ?_) (fun hc => ?_)); omega)
      | ((with_reducible refine ok_tongue ?_ (fun hc => ?_) (fun hc => ?_)); omega)
      | ((with_reducible refine ok_money ?_ (fun hc => ?_) (fun hc => ?_)); omega)
      | ((with_reducible refine om_month ?_ (fun hc => ?_) (fun hc => ?_)); omega)
      | ((with_reducible refine om_tongue ?_ (fun hc => ?_) (fun hc => ?_)); omega)
      | ((with_reducible refine ok_isIn ?_ ?_ ?_ (fun hc => ?_) (fun hc => ?_)); omega; omega; omega)
      | ((with_reducible refine ok_wltp ?_ ?_ ?_ ?_); omega; omega; omega)
      | ((with_reducible refine ok_wltn ?_ ?_ ?_ ?_); omega; omega; omega)
      | ((with_reducible refine ok_wlt ?_ ?_ (fun hc => ?_) (fun hc => ?_)); omega; omega)
      | ((with_reducible refine ok_wlt0 ?_ (fun hc => ?_) (fun hc => ?_)); omega)
      | ((with_reducible refine ok_w0lt ?_ (fun hc => ?_) (fun hc => ?_)); omega)
      | ((with_reducible refine ok_weq ?_ ?_ (fun hc => ?_) (fun hc => ?_)); omega; omega)
      | ((with_reducible refine ok_weqc ?_ (fun hc => ?_) (fun hc => ?_)); omega)
    all_goals first | (exfalso; omega) | exact ⟨rfl, FX.refl, FM.refl, hU⟩
end U
