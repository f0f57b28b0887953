/-! the pure part: a FLIGHT, one STEP in the class -/
section F
variable {N : Nat} {σ σm : St}
def wX (σ : St) (m : Nat) (d : Nat) (f : Int → Int) : Int := WW (σ.2.1 (m + 13)) (σ.2.1 (m + 12)) (σ.2.1 74) (σ.2.1 75) (fI σ 73 1) (fI σ 73 0) d f
def vX (σ : St) (m : Nat) (d : Nat) (f : Int → Int) : Int := VV (σ.2.1 (m + 13)) (σ.2.1 (m + 12)) (σ.2.1 74) (σ.2.1 75) (fI σ 73 1) (fI σ 73 0) d f
/-- a row of the table -/
def TLx2 (σ : St) (m : Nat) (pl dn : Int) (τ : St) : Prop := ∀ s : Int, 0 ≤ s → s ≤ 255 → (vld (σ.2.1 (m + 13)) (fv pl dn s) → τ.2.1 (77 + dn.toNat) s = if dn = 0 then vX σ m (fI σ 73 0).toNat (fv pl dn s) else wX σ m (fI σ 73 0 - dn).toNat (fv pl dn s)) ∧ (¬ vld (σ.2.1 (m + 13)) (fv pl dn s) → τ.2.1 (77 + dn.toNat) s = 1000)
/-- what is burnt first -/
def SBn (σ : St) (m : Nat) (d : Nat) (f : Int → Int) (k : Int) (v : Int) : Prop := ∃ u, (0 ≤ u ∧ u < k) ∧ 0 < f u ∧ v = wX σ m d (gB f u)
def BtOk (σ : St) (m : Nat) (pl dn : Int) (τ : St) : Prop := ∀ s : Int, 0 ≤ s → s ≤ 255 → (dn < fI σ 73 0 → vld (σ.2.1 (m + 13)) (fv pl dn s) → Mn (SBn σ m (fI σ 73 0 - (dn + 1)).toNat (fv pl dn s) 3) (τ.2.1 90 s)) ∧ (¬ (dn < fI σ 73 0 ∧ vld (σ.2.1 (m + 13)) (fv pl dn s)) → τ.2.1 90 s = 1000)
def FyOk (σ : St) : Prop := (0 ≤ fI σ 73 0 ∧ fI σ 73 0 ≤ 12) ∧ (0 ≤ fI σ 73 1 ∧ fI σ 73 1 ≤ 3) ∧ ∀ s : Int, 0 ≤ s → s < fI σ 73 0 → (0 ≤ σ.2.1 74 s ∧ σ.2.1 74 s ≤ 99) ∧ (0 ≤ σ.2.1 75 s ∧ σ.2.1 75 s ≤ 99)
theorem IFly.fy (h : IFly σ σm) : FyOk σ := ⟨h.1.2, h.2.1.2, fun s a b => ⟨⟨(h.2.2 s a b).2.1, (h.2.2 s a b).2.2.1⟩, (h.2.2 s a b).2.2.2.2⟩⟩
theorem wX_rg (hf : FyOk σ) (m d : Nat) (f : Int → Int) : 0 ≤ wX σ m d f ∧ wX σ m d f ≤ 1000 := by have := WW_rg (H := σ.2.1 (m + 13)) (A := σ.2.1 (m + 12)) (lo := σ.2.1 74) (hi := σ.2.1 75) (n := fI σ 73 0) hf.2.1 d f; unfold wX; omega
/-- a state of the flight, in the class -/
def FlX (σ τ : St) (m : Nat) (pl : Int) : Prop := WXr τ.1 τ.2.2 ∧ (τ.2.1 (m + 13) = σ.2.1 (m + 13) ∧ τ.2.1 (m + 12) = σ.2.1 (m + 12) ∧ τ.2.1 74 = σ.2.1 74 ∧ τ.2.1 75 = σ.2.1 75) ∧ fI τ 73 0 = fI σ 73 0 ∧ fI τ 73 1 = fI σ 73 1 ∧ fI τ 73 2 = pl
theorem FlX.step {τ υ : St} {m : Nat} {pl : Int} {A : List Nat} (h : FlX σ τ m pl) (hm : isM m) (f : FX A τ υ) (hA : ∀ k, k ∈ A → 76 ≤ k) : FlX σ υ m pl := by
  obtain ⟨h1, ⟨h2, h3, h4, h5⟩, h6, h7, h8⟩ := h
  have hml := isM_le hm
  have no : ∀ k, k < 76 → k ∉ A := fun k hk q => by have := hA k q; omega
  exact ⟨f.X h1, ⟨(f.2.2 _ (no _ (by omega))).trans h2, (f.2.2 _ (no _ (by omega))).trans h3, (f.2.2 _ (no _ (by omega))).trans h4, (f.2.2 _ (no _ (by omega))).trans h5⟩, (f.f (no _ (by omega))).trans h6, (f.f (no _ (by omega))).trans h7, (f.f (no _ (by omega))).trans h8⟩
theorem fb39 {m : Nat} (hm : isM m) (hk : Tk m σ) (hf : FyOk σ) {pl dn s : Int} (hd : 0 ≤ dn ∧ dn < fI σ 73 0) (hs : 0 ≤ s ∧ s ≤ 255) {t3 : St × Int} (e3 : t3.2 = s) {q6 : St × Int} (hq : (q6.2 = 1 ∧ vld (σ.2.1 (m + 13)) (fv pl dn s)) ∨ (q6.2 = 0 ∧ ¬ vld (σ.2.1 (m + 13)) (fv pl dn s))) {τ0 : St} (hτ : FlX σ τ0 m pl) (hT : TLx2 σ m pl (dn + 1) τ0) (h91 : ∀ t : Int, 0 ≤ t → t < 3 → τ0.2.1 91 t = fv pl dn s t) (h90 : τ0.2.1 90 s = 1000) {J : St → Option (St × Int)} {Q : St × Int → Prop} (hN : 1000 < N) (h : ∀ υ, FX [90] τ0 υ → (∀ x, x ≠ s → υ.2.1 90 x = τ0.2.1 90 x) → (vld (σ.2.1 (m + 13)) (fv pl dn s) → Mn (SBn σ m (fI σ 73 0 - (dn + 1)).toNat (fv pl dn s) 3) (υ.2.1 90 s)) → (¬ vld (σ.2.1 (m + 13)) (fv pl dn s) → υ.2.1 90 s = 1000) → Ok (J υ) Q) : Ok (L_X2_findBurnt_39 N 73 dn t3 q6 J (τ0, 0)) Q := by
  have hn := hf.1
  subst e3
  unfold L_X2_findBurnt_39
  refine ok_fix (fun w => FX [90] τ0 w.1 ∧ (∀ x, x ≠ t3.2 → w.1.2.1 90 x = τ0.2.1 90 x) ∧ (0 ≤ w.2 ∧ w.2 ≤ 3) ∧ (vld (σ.2.1 (m + 13)) (fv pl dn t3.2) → Mn (SBn σ m (fI σ 73 0 - (dn + 1)).toNat (fv pl dn t3.2) w.2) (w.1.2.1 90 t3.2)) ∧ (¬ vld (σ.2.1 (m + 13)) (fv pl dn t3.2) → w.1.2.1 90 t3.2 = 1000)) (fun w => (3 - w.2).toNat) (fun back w hI hback => ?_) _ ⟨FX.refl, fun _ _ => rfl, by dsimp only; omega, fun _ => ⟨by dsimp only; omega, fun v hv => by obtain ⟨u, hu, _⟩ := hv; dsimp only at hu; omega, .inl h90⟩, fun _ => h90⟩ (by dsimp only; omega)
  obtain ⟨τ, u⟩ := w
  obtain ⟨g1, g2, g3, g4, g5⟩ := hI
  dsimp only at g1 g2 g3 g4 g5 hback ⊢
  have hX := g1.X hτ.1
  refine ok_wlt (by omega) (by omega) (fun h1 => ?_) (fun h1 => ?_)
  · rcases hq with ⟨hq, hv⟩ | ⟨hq, hv⟩
    · rw [hq]
      refine ok_z1 ?_
      have kv := hk u g3.1 h1
      have fu := hv u g3.1 h1
      have hv3 := vld_iff.mp hv
      have kk0 := hk 0 (by decide) (by decide)
      have kk1 := hk 1 (by decide) (by decide)
      refine sx_gR hX rfl rfl rfl ?_
      refine sx_aI hX rfl rfl (by decide) (by omega) (by omega) ?_
      rw [g1.2.2 91 (by decide), h91 u g3.1 h1]
      refine st_Jn ?_
      obtain ⟨m1, m2, m3⟩ := g4 hv
      refine ok_w0lt (by omega) (fun h2 => ?_) (fun h2 => st_Lt ?_)
      · have hgb := vld_gB hv h2
        -- the state behind
        have hst : 0 ≤ t3.2 - wt u ∧ t3.2 - wt u ≤ 255 ∧ ag3 (fv pl (dn + 1) (t3.2 - wt u)) (gB (fv pl dn t3.2) u) := by
          have hsum := sum_gB (fv pl dn t3.2) ⟨g3.1, h1⟩
          rw [fv_sum] at hsum
          have hb0 := hgb 0 (by decide) (by decide)
          have hb1 := hgb 1 (by decide) (by decide)
          have es : t3.2 - wt u = 16 * (gB (fv pl dn t3.2) u 0) + gB (fv pl dn t3.2) u 1 := by
            have : u = 0 ∨ u = 1 ∨ u = 2 := by omega
            unfold gB wt fv
            rcases this with rfl | rfl | rfl <;> simp <;> omega
          refine ⟨by omega, by omega, fv_of es (by omega) (by omega)⟩
        have hrow : τ.2.1 (77 + (dn + 1).toNat) (t3.2 - wt u) = wX σ m (fI σ 73 0 - (dn + 1)).toNat (gB (fv pl dn t3.2) u) := by
          rw [g1.2.2 _ (by rw [List.mem_singleton]; omega)]
          rw [(hT _ hst.1 hst.2.1).1 (vld_congr (ag_sym hst.2.2) hgb), if_neg (by omega)]
          exact WW_congr hf.2.1.1 _ hst.2.2
        have wr1 := wX_rg hf m (fI σ 73 0 - (dn + 1)).toNat (gB (fv pl dn t3.2) u)
        have hm0 : 0 ≤ τ.2.1 90 t3.2 := by
          rcases m3 with e | ⟨u', _, _, e⟩
          · omega
          · have := wX_rg hf m (fI σ 73 0 - (dn + 1)).toNat (gB (fv pl dn t3.2) u'); omega
        refine sx_gR hX rfl rfl rfl ?_
        refine sx_gR hX rfl rfl rfl ?_
        refine sx_aI hX rfl rfl (by decide) (by omega) (by omega) ?_
        refine ok_rw (wtZ_eq ⟨g3.1, h1⟩) ?_
        refine sx_rcv hX rfl rfl (ok_rw (leastAt2_eq hX (by omega) ⟨hst.1, hst.2.1⟩) ?_)
        dsimp only
        rw [hrow, mnZ_eq (by omega) (by omega)]
        refine sx_sI hX rfl rfl (by decide) (by omega) (by omega) (st_Lt ?_)
        have il := imn_le (τ.2.1 90 t3.2) (wX σ m (fI σ 73 0 - (dn + 1)).toNat (gB (fv pl dn t3.2) u))
        refine hback _ ⟨g1.uI (by simp), fun x hx => ?_, by dsimp only; omega, fun _ => ?_, fun q => absurd hv q⟩ (by dsimp only; omega)
        · dsimp only; rw [uI_j hx]; exact g2 x hx
        · dsimp only
          rw [uI_eq]
          show Mn _ (imn (τ.2.1 90 t3.2) (wX σ m (fI σ 73 0 - (dn + 1)).toNat (gB (fv pl dn t3.2) u)))
          refine ⟨by omega, fun v hv' => ?_, ?_⟩
          · obtain ⟨u', hu', k1, k2⟩ := hv'
            by_cases hu2 : u' = u
            · rw [hu2] at k2; omega
            · have := m2 v ⟨u', by omega, k1, k2⟩; omega
          · rcases il.2.2 with e | e
            · rcases m3 with e2 | ⟨u', hu', k1, k2⟩
              · exact .inl (by omega)
              · exact .inr ⟨u', by omega, k1, by omega⟩
            · exact .inr ⟨u, by omega, h2, e⟩
      · refine hback _ ⟨g1, g2, by dsimp only; omega, fun _ => ⟨m1, fun v hv' => ?_, ?_⟩, fun q => absurd hv q⟩ (by dsimp only; omega)
        · obtain ⟨u', hu', k1, k2⟩ := hv'
          dsimp only at hu'
          by_cases hu2 : u' = u
          · rw [hu2] at k1; omega
          · exact m2 v ⟨u', by omega, k1, k2⟩
        · rcases m3 with e2 | ⟨u', hu', k1, k2⟩
          · exact .inl e2
          · exact .inr ⟨u', by dsimp only; omega, k1, k2⟩
    · rw [hq]
      exact ok_z0 (h τ g1 g2 (fun q => absurd q hv) g5)
  · have : u = 3 := by omega
    subst this
    exact h τ g1 g2 g4 g5
theorem findBurnt_eq {m : Nat} (hm : isM m) (hk : Tk m σ) (hf : FyOk σ) {pl dn : Int} (hp : 0 ≤ pl ∧ pl ≤ 100) (hd : 0 ≤ dn ∧ dn ≤ fI σ 73 0) {τ0 : St} (hτ : FlX σ τ0 m pl) (hT : dn < fI σ 73 0 → TLx2 σ m pl (dn + 1) τ0) (hN : 1000 < N) : ∃ τ, f_X2_findBurnt N τ0 73 m dn = some (τ, 0) ∧ FX [90, 91] τ0 τ ∧ BtOk σ m pl dn τ := by
  have hn := hf.1
  have H : Ok (f_X2_findBurnt N τ0 73 m dn) (fun w => w.2 = 0 ∧ FX [90, 91] τ0 w.1 ∧ BtOk σ m pl dn w.1) := by
    unfold f_X2_findBurnt
    refine sx_gR hτ.1 rfl rfl rfl ?_
    refine ok_rw (fill_ok (n := 256) rfl (by rw [hτ.1.1]; decide) (by decide) (by omega)) ?_
    have f0 : FX [90, 91] τ0 (uA τ0 90 256 1000) := FX.refl.uA (by simp)
    unfold L_X2_findBurnt_12
    refine ok_fix (fun w => FX [90, 91] τ0 w.1 ∧ (0 ≤ w.2 ∧ w.2 ≤ 256) ∧ ∀ s : Int, 0 ≤ s → s ≤ 255 → (s < w.2 → dn < fI σ 73 0 → vld (σ.2.1 (m + 13)) (fv pl dn s) → Mn (SBn σ m (fI σ 73 0 - (dn + 1)).toNat (fv pl dn s) 3) (w.1.2.1 90 s)) ∧ (¬ (s < w.2 ∧ dn < fI σ 73 0 ∧ vld (σ.2.1 (m + 13)) (fv pl dn s)) → w.1.2.1 90 s = 1000)) (fun w => (256 - w.2).toNat) (fun back w hI hback => ?_) _ ⟨f0, by dsimp only; omega, fun s a b => ⟨fun q => by dsimp only at q; omega, fun _ => uA_in (by omega)⟩⟩ (by dsimp only; omega)
    obtain ⟨τ, s⟩ := w
    obtain ⟨g1, g2, g3⟩ := hI
    dsimp only at g1 g2 g3 hback ⊢
    have hτ' := hτ.step hm g1 (by simp)
    have hX := hτ'.1
    refine ok_wlt (by omega) (by omega) (fun h1 => ?_) (fun h1 => ok_some ⟨rfl, g1, fun s a b => ⟨fun q => (g3 s a b).1 (by omega) q, fun q => (g3 s a b).2 (fun q2 => q q2.2)⟩⟩)
    refine sx_gI hX rfl rfl ?_
    rw [hτ'.2.2.1]
    refine ok_wlt (by omega) (by omega) (fun h2 => ?_) (fun h2 => ok_some ⟨rfl, g1, fun s a b => ⟨fun q => by omega, fun q => (g3 s a b).2 (fun q2 => by omega)⟩⟩)
    obtain ⟨υ, r, e, p1, p2, p3⟩ := fill2_eq (N := N) hm hk hX hτ'.2.1.1 (dn := dn) (s := s) hτ'.2.2.2.2 hp (by omega) (by omega)
    refine sx_rcv hX rfl rfl (ok_rw e (st_Jn ?_))
    have g4 : FX [90, 91] τ0 υ := g1.trans (p1.mono (by simp))
    have hτu := hτ.step hm g4 (by simp)
    have e90 : υ.2.1 90 = τ.2.1 90 := p1.2.2 90 (by decide)
    have hTu : TLx2 σ m pl (dn + 1) υ := fun s a b => by
      rw [g4.2.2 (77 + (dn + 1).toNat) (by simp; omega)]; exact hT h2 s a b
    refine fb39 hm hk hf (s := s) (by omega) (by omega) rfl p3 hτu hTu p2 (by rw [e90]; exact (g3 s g2.1 (by omega)).2 (fun q => by omega)) hN (fun φ k1 k2 k3 k4 => st_Lt ?_)
    refine hback _ ⟨g4.trans (k1.mono (by simp)), by dsimp only; omega, fun s' a b => ?_⟩ (by dsimp only; omega)
    dsimp only
    by_cases hs : s' = s
    · subst hs
      exact ⟨fun _ _ q => k3 q, fun q => k4 (fun q2 => q ⟨by omega, h2, q2⟩)⟩
    · rw [k2 s' hs, e90]
      exact ⟨fun q => (g3 s' a b).1 (by omega), fun q => (g3 s' a b).2 (fun q2 => q ⟨by omega, q2.2⟩)⟩
  obtain ⟨⟨τ, v⟩, e, h1, h2⟩ := H
  dsimp only at h1 h2
  subst h1
  exact ⟨τ, e, h2⟩
theorem mul_rg {a b x y : Int} (ha : 0 ≤ a ∧ a ≤ x) (hb : 0 ≤ b ∧ b ≤ y) : 0 ≤ a * b ∧ a * b ≤ x * y := ⟨Int.mul_nonneg ha.1 hb.1, Int.mul_le_mul ha.2 hb.2 hb.1 (by omega)⟩
theorem balanced_eq {m : Nat} (hm : isM m) (hk : Tk m σ) (hf : FyOk σ) {pl : Int} {τ : St} (hτ : FlX σ τ m pl) {f : Int → Int} (h91 : ∀ t : Int, 0 ≤ t → t < 3 → τ.2.1 91 t = f t) (hv : vld (σ.2.1 (m + 13)) f) {i : Int} (hi : 0 ≤ i ∧ i < fI σ 73 0) (hN : 1000 < N) : ∃ r, f_X2_isBalanced N τ 73 m i = some (τ, r) ∧ ((r = 1 ∧ balF (σ.2.1 (m + 12)) (σ.2.1 74 i) (σ.2.1 75 i) f) ∨ (r = 0 ∧ ¬ balF (σ.2.1 (m + 12)) (σ.2.1 74 i) (σ.2.1 75 i) f)) := by
  obtain ⟨hX, ⟨e13, e12, e74, e75⟩, e0, e1, e2⟩ := hτ
  have hn := hf.1
  have hlh := hf.2.2 i hi.1 hi.2
  have k0 := hk 0 (by decide) (by decide)
  have k1 := hk 1 (by decide) (by decide)
  have k2 := hk 2 (by decide) (by decide)
  have v0 := hv 0 (by decide) (by decide)
  have v1 := hv 1 (by decide) (by decide)
  have v2 := hv 2 (by decide) (by decide)
  have p0 := mul_rg (a := f 0) (b := σ.2.1 (m + 12) 0) (x := 15) (y := 99) (by omega) (by omega)
  have p1 := mul_rg (a := f 1) (b := σ.2.1 (m + 12) 1) (x := 15) (y := 99) (by omega) (by omega)
  have p2 := mul_rg (a := f 2) (b := σ.2.1 (m + 12) 2) (x := 15) (y := 99) (by omega) (by omega)
  have q0 := mul_rg (a := σ.2.1 74 i) (b := f 0 + f 1 + f 2) (x := 99) (y := 45) hlh.1 (by omega)
  have q1 := mul_rg (a := σ.2.1 75 i) (b := f 0 + f 1 + f 2) (x := 99) (y := 45) hlh.2 (by omega)
  have H : Ok (f_X2_isBalanced N τ 73 m i) (fun q => q.1 = τ ∧ ((q.2 = 1 ∧ balF (σ.2.1 (m + 12)) (σ.2.1 74 i) (σ.2.1 75 i) f) ∨ (q.2 = 0 ∧ ¬ balF (σ.2.1 (m + 12)) (σ.2.1 74 i) (σ.2.1 75 i) f))) := by
    unfold f_X2_isBalanced
    refine st_Jn ?_
    -- three steps of the loop
    unfold L_X2_isBalanced_8
    refine ok_fix (fun w => (0 ≤ w.2.2 ∧ w.2.2 ≤ 3) ∧ w.1 = (if 0 < w.2.2 then f 0 else 0) + (if 1 < w.2.2 then f 1 else 0) + (if 2 < w.2.2 then f 2 else 0) ∧ w.2.1 = (if 0 < w.2.2 then f 0 * σ.2.1 (m + 12) 0 else 0) + (if 1 < w.2.2 then f 1 * σ.2.1 (m + 12) 1 else 0) + (if 2 < w.2.2 then f 2 * σ.2.1 (m + 12) 2 else 0)) (fun w => (3 - w.2.2).toNat) (fun back w hI hback => ?_) _ ⟨by dsimp only; omega, rfl, rfl⟩ (by dsimp only; omega)
    obtain ⟨al, ba, t⟩ := w
    obtain ⟨g1, g2, g3⟩ := hI
    dsimp only at g1 g2 g3 hback ⊢
    refine ok_wlt (by omega) (by omega) (fun h1 => ?_) (fun h1 => ?_)
    · have kt := hk t g1.1 h1
      refine sx_gR hX rfl rfl rfl ?_
      refine sx_aI hX rfl rfl (by decide) g1.1 (by omega) ?_
      rw [h91 t g1.1 h1]
      refine st_Lt ?_
      refine sx_gR hX rfl rfl rfl ?_
      refine sx_aI hX rfl rfl (by decide) g1.1 (by omega) ?_
      rw [h91 t g1.1 h1]
      refine mx_gR hX hm rfl ?_
      refine mx_aI hX hm rfl (by decide) g1.1 (by omega) ?_
      rw [e12]
      refine st_Lt (st_Lt ?_)
      have : t = 0 ∨ t = 1 ∨ t = 2 := by omega
      refine hback _ ⟨by dsimp only; omega, ?_, ?_⟩ (by dsimp only; omega)
      · dsimp only
        rw [g2]
        rcases this with rfl | rfl | rfl <;> simp
      · dsimp only
        rw [g3]
        rcases this with rfl | rfl | rfl <;> simp
    · have : t = 3 := by omega
      subst this
      have ea : al = f 0 + f 1 + f 2 := g2
      have eb : ba = f 0 * σ.2.1 (m + 12) 0 + f 1 * σ.2.1 (m + 12) 1 + f 2 * σ.2.1 (m + 12) 2 := g3
      refine ok_weqc (by omega) (fun h2 => ok_some ⟨rfl, .inl ⟨rfl, ?_⟩⟩) (fun h2 => ?_)
      · have z0 : f 0 = 0 := by omega
        have z1 : f 1 = 0 := by omega
        have z2 : f 2 = 0 := by omega
        unfold balF
        rw [z0, z1, z2]
        simp
      · refine sx_gR hX rfl rfl rfl ?_
        refine sx_aI hX rfl rfl (by decide) hi.1 (by omega) ?_
        refine sx_gR hX rfl rfl rfl ?_
        refine sx_aI hX rfl rfl (by decide) hi.1 (by omega) ?_
        rw [e74, e75, ea, eb]
        refine ok_within (by omega) (by omega) (by omega) (fun h3 => ok_z1 (ok_some ⟨rfl, .inl ⟨rfl, h3⟩⟩)) (fun h3 => ok_z0 (ok_some ⟨rfl, .inr ⟨rfl, fun q => ?_⟩⟩))
        unfold balF at q
        omega
  obtain ⟨⟨τ', r⟩, e, h1, h2⟩ := H
  dsimp only at h1 h2
  subst h1
  exact ⟨r, e, h2⟩
end F
