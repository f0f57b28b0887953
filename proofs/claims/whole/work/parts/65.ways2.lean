/-! the pure part: WAYS, the class -/
def rwC (f : Int) : Nat := 96 + (f % 4).toNat
theorem rwC_or (f : Int) : rwC f = 96 ∨ rwC f = 97 ∨ rwC f = 98 ∨ rwC f = 99 := by unfold rwC; omega
def fsV (σ : St) (t : Nat) (hr br : Int) (g : Int) : Int := if wr (andZ (shrZ br g) 1) = 0 ∧ flyB σ t g hr 20 = 1 then 1 else 0
def Sel (D : Int → Int) (f best burnt : Int) : Prop := (best = 100000 ∧ burnt = 0 ∧ ∀ g, 0 ≤ g → g < f → 100000 ≤ D g) ∨ ((0 ≤ burnt ∧ burnt < f) ∧ D burnt = best ∧ best < 100000 ∧ (∀ g, 0 ≤ g → g < burnt → best < D g) ∧ ∀ g, 0 ≤ g → g < f → best ≤ D g)
theorem Sel.uniq {D : Int → Int} {f a b c d : Int} (h : Sel D f a b) (g : Sel D f c d) : a = c ∧ b = d := by
  rcases h with ⟨h1, h2, h3⟩ | ⟨h1, h2, h3, h4, h5⟩ <;> rcases g with ⟨g1, g2, g3⟩ | ⟨g1, g2, g3, g4, g5⟩
  · omega
  · have := h3 d g1.1 g1.2; omega
  · have := g3 b h1.1 h1.2; omega
  · have k1 := h5 d g1.1 g1.2
    have k2 := g5 b h1.1 h1.2
    by_cases e1 : b < d
    · have := g4 b h1.1 e1; omega
    · by_cases e2 : d < b
      · have := h4 d g1.1 e2; omega
      · omega
section W
variable {N : Nat} {σ σm : St}
theorem row95 (hX : WXr σ.1 σ.2.2) {i : Int} (hi : 0 ≤ i ∧ i ≤ 200) : σ.2.2 95 (Int.tmod (wr i) 4) = rwC i ∧ 0 ≤ Int.tmod (wr i) 4 ∧ Int.tmod (wr i) 4 < 4 := by
  rw [wr_id (by omega) (by omega), Int.tmod_eq_emod_of_nonneg hi.1]
  refine ⟨?_, by omega, by omega⟩
  have : i % 4 = 0 ∨ i % 4 = 1 ∨ i % 4 = 2 ∨ i % 4 = 3 := by omega
  unfold rwC
  rcases this with h | h | h | h <;> rw [h]
  · exact hX.2 95 0 96 rfl
  · exact hX.2 95 1 97 rfl
  · exact hX.2 95 2 98 rfl
  · exact hX.2 95 3 99 rfl
theorem rw_shp (f : Int) : shp shx (rwC f) = (1, 64) ∧ Nat.ble (rwC f) 113 = true := by rcases rwC_or f with h | h | h | h <;> rw [h] <;> exact ⟨rfl, rfl⟩
theorem minutesAt_eq {τ : St} (hX : WXr τ.1 τ.2.2) {f c : Int} (hf : -10 ≤ f ∧ f ≤ 100) (hc : -10 ≤ c ∧ c ≤ 100) {d : Int → Int} (h1 : 0 ≤ f → ∀ c, 0 ≤ c → c ≤ 63 → τ.2.1 (rwC f) c = d c) (h2 : f < 0 → d = fun _ => 100000) : f_X9_minutesAt N τ 92 f c = some (τ, atc d c) := by
  have H : Ok (f_X9_minutesAt N τ 92 f c) (fun q => q = (τ, atc d c)) := by
    unfold f_X9_minutesAt
    refine st_Jn (st_Jn ?_)
    refine ok_wlt0 (by omega) (fun h3 => ok_z0 (ok_some ?_)) (fun h3 => ?_)
    · rw [h2 h3]; unfold atc; split <;> rfl
    · refine ok_within (by omega) (by omega) (by omega) (fun h4 => ?_) (fun h4 => ok_z0 (ok_z0 (ok_some ?_)))
      · refine ok_z1 (ok_z1 ?_)
        obtain ⟨r1, r2, r3⟩ := row95 hX (i := f) (by omega)
        refine sx_gR hX rfl rfl rfl ?_
        refine sx_aR hX rfl rfl (by decide) r2 r3 r1 ?_
        refine sx_aI hX (rw_shp f).1 (rw_shp f).2 (by decide) h4.1 (by omega) (ok_some ?_)
        rw [h1 h3 c h4.1 h4.2]; unfold atc; rw [if_pos h4]
      · unfold atc; rw [if_neg (by omega)]
  obtain ⟨q, e, rfl⟩ := H
  exact e
theorem beside_eq {τ : St} (hX : WXr τ.1 τ.2.2) {f c : Int} (hf : -10 ≤ f ∧ f ≤ 100) (hc : 0 ≤ c ∧ c ≤ 63) {d : Int → Int} (hd : Rw d) (h1 : 0 ≤ f → ∀ c, 0 ≤ c → c ≤ 63 → τ.2.1 (rwC f) c = d c) (h2 : f < 0 → d = fun _ => 100000) : f_X9_beside N τ 92 f c = some (τ, bsd d c) := by
  have mA : ∀ y, (-10 ≤ y ∧ y ≤ 100) → f_X9_minutesAt N τ 92 f y = some (τ, atc d y) := fun y hy => minutesAt_eq hX hf hy h1 h2
  have ag := fun y => atc_rg hd y
  have b1 := bs1_rg hd c
  have b2 := bs2_rg hd c
  have e0 : Int.tmod (wr c) 8 = c % 8 := by rw [wr_id (by omega) (by omega), Int.tmod_eq_emod_of_nonneg hc.1]
  have H : Ok (f_X9_beside N τ 92 f c) (fun q => q = (τ, bsd d c)) := by
    unfold f_X9_beside
    rw [e0]
    refine st_Lt (st_Jn ?_)
    have fin : ∀ x, x = bs2 d c → Ok (Option.bind (rcv shx τ 9 92 (f_X9_minutesAt N τ 92 f (c - 8))) fun q4 => Lt (mnZ x q4.2) fun x5 => Option.bind (rcv shx τ 9 92 (f_X9_minutesAt N τ 92 f (c + 8))) fun q6 => some (τ, (mnZ x5 q6.2))) (fun q => q = (τ, bsd d c)) := fun x hx => by
      have a1 := ag (c - 8)
      have a2 := ag (c + 8)
      refine sx_rcv hX rfl rfl (ok_rw (mA _ (by omega)) (st_Lt ?_))
      refine sx_rcv hX rfl rfl (ok_rw (mA _ (by omega)) (ok_some ?_))
      dsimp only
      rw [hx, mnZ_eq (a := bs2 d c) (by omega) (by omega)]
      have a3 := imn_le (bs2 d c) (atc d (c - 8))
      show (τ, mnZ (imn (bs2 d c) (atc d (c - 8))) (atc d (c + 8))) = _
      rw [mnZ_eq (a := imn (bs2 d c) (atc d (c - 8))) (by omega) (by omega)]; rfl
    have mid : ∀ x, x = bs1 d c → Ok (Jn (fun t3 : Int => Option.bind (rcv shx τ 9 92 (f_X9_minutesAt N τ 92 f (c - 8))) fun q4 => Lt (mnZ t3 q4.2) fun x5 => Option.bind (rcv shx τ 9 92 (f_X9_minutesAt N τ 92 f (c + 8))) fun q6 => some (τ, (mnZ x5 q6.2))) fun J44_6 => (if wr (c % 8) < wr 7 then Option.bind (rcv shx τ 9 92 (f_X9_minutesAt N τ 92 f (c + 1))) fun q8 => Lt (mnZ x q8.2) fun x9 => J44_6 x9 else J44_6 x)) (fun q => q = (τ, bsd d c)) := fun x hx => by
      refine st_Jn ?_
      have a1 := ag (c + 1)
      refine ok_wlt (by omega) (by omega) (fun h3 => ?_) (fun h3 => fin x (by rw [hx]; unfold bs2; rw [if_neg (by omega)]))
      refine sx_rcv hX rfl rfl (ok_rw (mA _ (by omega)) (st_Lt ?_))
      dsimp only
      refine fin _ ?_
      rw [hx, mnZ_eq (by omega) (by omega)]; unfold bs2; rw [if_pos h3]; rfl
    refine ok_w0lt (by omega) (fun h3 => ?_) (fun h3 => mid _ (by unfold bs1; rw [if_neg (by omega)]))
    refine sx_rcv hX rfl rfl (ok_rw (mA _ (by omega)) ?_)
    dsimp only
    exact mid _ (by unfold bs1; rw [if_pos h3])
  obtain ⟨q, e, rfl⟩ := H
  exact e
/-- what is open -/
theorem open_eq (hX : WXr σ.1 σ.2.2) {t : Nat} (ht : isT t) (hl : σ.2.1 (t + 2) 2 = -1 ∨ TLx t 2 σ) (hr br : Int) (hN : 1000 < N) : ∃ τ, f_X9_open N σ 92 t hr br = some (τ, 0) ∧ FX [93, 94, t + 4, t + 5] σ τ ∧ ∀ g : Int, 0 ≤ g → g < 8 → wz (τ.2.1 93 g) = fsV σ t hr br g ∧ wz (τ.2.1 94 g) = flyB σ t g hr 9 := by
  have htl := isT_le ht
  have wz1 : ∀ v, wz (b01 v) = b01 v := fun v => by rcases b01_or v with h | h <;> rw [h] <;> decide
  have H : Ok (f_X9_open N σ 92 t hr br) (fun w => w.2 = 0 ∧ FX [93, 94, t + 4, t + 5] σ w.1 ∧ ∀ g : Int, 0 ≤ g → g < 8 → wz (w.1.2.1 93 g) = fsV σ t hr br g ∧ wz (w.1.2.1 94 g) = flyB σ t g hr 9) := by
    unfold f_X9_open L_X9_open_3
    refine ok_fix (fun w => FX [93, 94, t + 4, t + 5] σ w.1 ∧ 0 ≤ w.2 ∧ w.2 ≤ 8 ∧ ∀ g : Int, 0 ≤ g → g < w.2 → wz (w.1.2.1 93 g) = fsV σ t hr br g ∧ wz (w.1.2.1 94 g) = flyB σ t g hr 9) (fun w => (8 - w.2).toNat) (fun back w hI hback => ?_) _ ⟨FX.refl, Int.le_refl _, by dsimp only; omega, fun g a b => by dsimp only at b; omega⟩ (by dsimp only; omega)
    obtain ⟨τ, g⟩ := w
    obtain ⟨g1, g2, g3, g4⟩ := hI
    dsimp only at g1 g2 g3 g4 hback ⊢
    have kx : ∀ υ, FX [93, 94, t + 4, t + 5] σ υ → ∀ d, 1 ≤ d → d ≤ 3 → υ.2.1 (t + d) = σ.2.1 (t + d) := fun υ h d _ _ => h.2.2 _ (by simp; omega)
    refine ok_wlt (by omega) (by omega) (fun h1 => ?_) (fun h1 => ok_some ⟨rfl, g1, fun g a b => g4 g a (by omega)⟩)
    refine st_Jn ?_
    have rest : ∀ υ x, FX [t + 4, t + 5] τ υ → wz x = fsV σ t hr br g → Ok (Option.bind (sI shx υ 3 93 g x) fun σ6 => Option.bind (gR shx σ6 9 92 1) fun slow_7 => Option.bind (rcv shx σ6 7 t (f_X7_mayFly N σ6 t g hr 9)) fun q8 => Option.bind (sI shx q8.1 3 slow_7 g q8.2) fun σ9 => Lt (g + 1) fun x10 => back (σ9, x10)) (fun w => w.2 = 0 ∧ FX [93, 94, t + 4, t + 5] σ w.1 ∧ ∀ g : Int, 0 ≤ g → g < 8 → wz (w.1.2.1 93 g) = fsV σ t hr br g ∧ wz (w.1.2.1 94 g) = flyB σ t g hr 9) := fun υ x f hx => by
      have f2 : FX [93, 94, t + 4, t + 5] σ υ := g1.trans (f.mono (by simp))
      have f3 : FX [93, 94, t + 4, t + 5] σ (uI υ 93 g x) := f2.uI (by simp)
      refine sx_sI (f2.X hX) rfl rfl (by decide) g2 (by omega) ?_
      refine sx_gR (f3.X hX) rfl rfl rfl ?_
      obtain ⟨φ, e, f4⟩ := fl_at (N := N) (f3.X hX) ht hl (kx _ f3) g hr 9 hN
      have f5 : FX [93, 94, t + 4, t + 5] σ φ := f3.trans (f4.mono (by simp))
      refine tx_rcv (f3.X hX) ht (ok_rw e ?_)
      dsimp only
      refine sx_sI (f5.X hX) rfl rfl (by decide) g2 (by omega) (st_Lt ?_)
      refine hback _ ⟨f5.uI (by simp), by dsimp only; omega, by dsimp only; omega, fun g' a b => ?_⟩ (by dsimp only; omega)
      dsimp only at b ⊢
      have e93 : φ.2.1 93 = (uI υ 93 g x).2.1 93 := f4.2.2 93 (by simp; omega)
      have e94 : φ.2.1 94 = υ.2.1 94 := (f4.2.2 94 (by simp; omega)).trans (uI_cell (by decide))
      have u93 : υ.2.1 93 = τ.2.1 93 := f.2.2 93 (by simp; omega)
      have u94 : υ.2.1 94 = τ.2.1 94 := f.2.2 94 (by simp; omega)
      rw [uI_k (by decide), e93, uW_at, uW_at, e94, u93, u94]
      by_cases hg : g' = g
      · rw [if_pos hg, if_pos hg, hg]; exact ⟨hx, wz1 _⟩
      · rw [if_neg hg, if_neg hg]; exact g4 g' a (by omega)
    have no : ∀ υ, FX [t + 4, t + 5] τ υ → fsV σ t hr br g = 0 → Ok (Option.bind (sI shx υ 3 93 g 0) fun σ6 => Option.bind (gR shx σ6 9 92 1) fun slow_7 => Option.bind (rcv shx σ6 7 t (f_X7_mayFly N σ6 t g hr 9)) fun q8 => Option.bind (sI shx q8.1 3 slow_7 g q8.2) fun σ9 => Lt (g + 1) fun x10 => back (σ9, x10)) (fun w => w.2 = 0 ∧ FX [93, 94, t + 4, t + 5] σ w.1 ∧ ∀ g : Int, 0 ≤ g → g < 8 → wz (w.1.2.1 93 g) = fsV σ t hr br g ∧ wz (w.1.2.1 94 g) = flyB σ t g hr 9) := fun υ f h0 => rest υ 0 f (by rw [h0]; decide)
    refine ok_ite (fun h2 => ?_) (fun h2 => ?_)
    · refine sx_gR (g1.X hX) rfl rfl rfl ?_
      refine st_Jn (st_Jn (ok_z1 ?_))
      obtain ⟨φ, e, f4⟩ := fl_at (N := N) (g1.X hX) ht hl (kx _ g1) g hr 20 hN
      refine tx_rcv (g1.X hX) ht (ok_rw e ?_)
      dsimp only
      rcases b01_or (lv σ t 2 (qF g hr 20)) with h3 | h3
      · have h3' : flyB σ t g hr 20 = 0 := h3
        rw [h3']
        exact ok_z0 (no φ f4 (by unfold fsV; rw [if_neg (fun q => by omega)]))
      · have h3' : flyB σ t g hr 20 = 1 := h3
        rw [h3']
        exact ok_z1 (rest φ 1 f4 (by unfold fsV; rw [if_pos ⟨h2, h3'⟩]; decide))
    · refine sx_gR (g1.X hX) rfl rfl rfl ?_
      refine st_Jn (st_Jn (ok_z0 ?_))
      exact no τ FX.refl (by unfold fsV; rw [if_neg (fun q => h2 q.1)])
  obtain ⟨⟨τ, v⟩, e, h1, h2⟩ := H
  dsimp only at h1 h2
  subst h1
  exact ⟨τ, e, h2⟩
theorem findRow_eq {m : Nat} {bk : Int} (hI : IMach m bk σ σm) {τ0 : St} (hX : WXr τ0.1 τ0.2.2) (em : τ0.2.1 (m + 14) = σ.2.1 (m + 14)) {fs sl : Int → Int} {fr : Int} (hfs : ∀ c : Int, 0 ≤ c → c ≤ 63 → wz (τ0.2.1 93 (σ.2.1 (m + 14) c)) = fs c ∧ wz (τ0.2.1 94 (σ.2.1 (m + 14) c)) = sl c) {f : Int} (hf : 1 ≤ f ∧ f ≤ 99) (r3 : 3 ≤ f → ∀ c, 0 ≤ c → c ≤ 63 → τ0.2.1 (rwC (f - 3)) c = dd fs sl fr (f - 3).toNat c) (r2 : 2 ≤ f → ∀ c, 0 ≤ c → c ≤ 63 → τ0.2.1 (rwC (f - 2)) c = dd fs sl fr (f - 2).toNat c) (hN : 1000 < N) : ∃ τ, f_X9_findRow N τ0 92 m f = some (τ, 0) ∧ FX [rwC f] τ0 τ ∧ ∀ c, 0 ≤ c → c ≤ 63 → τ.2.1 (rwC f) c = dd fs sl fr f.toNat c := by
  have hm := hI.1
  have hml := isM_le hm
  have rg := hI.2.2.2.2.2.2.2.2.2
  obtain ⟨q1, q2, q3⟩ := row95 hX (i := f) (by omega)
  have rc := rwC_or f
  -- the rows read
  obtain ⟨d3, hd3, e3, z3⟩ : ∃ d, Rw d ∧ (0 ≤ f - 3 → d = dd fs sl fr (f - 3).toNat) ∧ (f - 3 < 0 → d = fun _ => 100000) := by
    by_cases h : 3 ≤ f
    · exact ⟨_, (dd_rw fs sl fr (f - 3).toNat).1, fun _ => rfl, fun q => by omega⟩
    · exact ⟨_, far_rw, fun q => by omega, fun _ => rfl⟩
  obtain ⟨d2, hd2, e2, z2⟩ : ∃ d, Rw d ∧ (0 ≤ f - 2 → d = dd fs sl fr (f - 2).toNat) ∧ (f - 2 < 0 → d = fun _ => 100000) := by
    by_cases h : 2 ≤ f
    · exact ⟨_, (dd_rw fs sl fr (f - 2).toNat).1, fun _ => rfl, fun q => by omega⟩
    · exact ⟨_, far_rw, fun q => by omega, fun _ => rfl⟩
  have hstep : dd fs sl fr f.toNat = stp fs sl d3 d2 := by
    have : f = 1 ∨ f = 2 ∨ 3 ≤ f := by omega
    rcases this with rfl | rfl | h3
    · rw [z3 (by omega), z2 (by omega)]; rfl
    · rw [z3 (by omega), e2 (by omega)]; rfl
    · rw [e3 (by omega), e2 (by omega)]
      obtain ⟨k, hk⟩ : ∃ k : Nat, f = ((k + 3 : Nat) : Int) := ⟨f.toNat - 3, by omega⟩
      subst hk
      rw [show (((k + 3 : Nat) : Int)).toNat = k + 3 by omega, show (((k + 3 : Nat) : Int) - 3).toNat = k by omega, show (((k + 3 : Nat) : Int) - 2).toNat = k + 1 by omega]; rfl
  have H : Ok (f_X9_findRow N τ0 92 m f) (fun w => w.2 = 0 ∧ FX [rwC f] τ0 w.1 ∧ ∀ c, 0 ≤ c → c ≤ 63 → w.1.2.1 (rwC f) c = dd fs sl fr f.toNat c) := by
    unfold f_X9_findRow
    refine st_Lt ?_
    refine ok_within (by omega) (by omega) (by omega) (fun _ => ok_z1 ?_) (fun h => by exfalso; omega)
    unfold L_X9_findRow_17
    refine ok_fix (fun w => FX [rwC f] τ0 w.1 ∧ 0 ≤ w.2 ∧ w.2 ≤ 64 ∧ ∀ c, 0 ≤ c → c < w.2 → w.1.2.1 (rwC f) c = dd fs sl fr f.toNat c) (fun w => (64 - w.2).toNat) (fun back w hI hback => ?_) _ ⟨FX.refl, Int.le_refl _, by dsimp only; omega, fun c a b => by dsimp only at b; omega⟩ (by dsimp only; omega)
    obtain ⟨τ, c⟩ := w
    obtain ⟨g1, g2, g3, g4⟩ := hI
    dsimp only at g1 g2 g3 g4 hback ⊢
    have hX' := g1.X hX
    have eg : τ.2.1 (m + 14) = σ.2.1 (m + 14) := (g1.2.2 _ (by rw [List.mem_singleton]; omega)).trans em
    refine ok_wlt (by omega) (by omega) (fun h1 => ?_) (fun h1 => ok_some ⟨rfl, g1, fun c a b => g4 c a (by omega)⟩)
    obtain ⟨k1, k2, k3⟩ := rg c g2 h1
    obtain ⟨w1, w2⟩ := hfs c g2 (by omega)
    have e93 : τ.2.1 93 = τ0.2.1 93 := g1.2.2 93 (by rw [List.mem_singleton]; omega)
    have e94 : τ.2.1 94 = τ0.2.1 94 := g1.2.2 94 (by rw [List.mem_singleton]; omega)
    have b3 : f_X9_beside N τ 92 (f - 3) c = some (τ, bsd d3 c) := beside_eq hX' (by omega) (by omega) hd3 (fun h c a b => by rw [e3 h, g1.2.2 (rwC (f - 3)) (by rw [List.mem_singleton]; unfold rwC; omega)]; exact r3 (by omega) c a b) z3
    have b2 : f_X9_beside N τ 92 (f - 2) c = some (τ, bsd d2 c) := beside_eq hX' (by omega) (by omega) hd2 (fun h c a b => by rw [e2 h, g1.2.2 (rwC (f - 2)) (by rw [List.mem_singleton]; unfold rwC; omega)]; exact r2 (by omega) c a b) z2
    have rb3 := bsd_rg hd3 c
    have rb2 := bsd_rg hd2 c
    refine mx_gR hX' hm rfl ?_
    refine mx_aI hX' hm rfl (by decide) (by omega) (by omega) ?_
    rw [eg]
    refine ok_within (by omega) (by omega) (by omega) (fun _ => ?_) (fun h => by exfalso; omega)
    refine st_Jn (ok_z1 ?_)
    have fin : ∀ x, x = dd fs sl fr f.toNat c → Ok (Option.bind (gR shx τ 9 92 2) fun minutes_11 => Option.bind (aR shx τ 6 minutes_11 (Int.tmod (wr f) 4)) fun r12 => Option.bind (sI shx τ 1 r12 c x) fun σ13 => Lt (c + 1) fun x14 => back (σ13, x14)) (fun w => w.2 = 0 ∧ FX [rwC f] τ0 w.1 ∧ ∀ c, 0 ≤ c → c ≤ 63 → w.1.2.1 (rwC f) c = dd fs sl fr f.toNat c) := fun x hx => by
      refine sx_gR hX' rfl rfl rfl ?_
      refine sx_aR (v := rwC f) hX' rfl rfl (by decide) q2 q3 (by rw [g1.2.1]; exact q1) ?_
      refine sx_sI hX' (rw_shp f).1 (rw_shp f).2 (by decide) g2 (by omega) (st_Lt ?_)
      refine hback _ ⟨g1.uI (List.mem_singleton.mpr rfl), by dsimp only; omega, by dsimp only; omega, fun c' a b => ?_⟩ (by dsimp only; omega)
      dsimp only at b ⊢
      rw [uW_at]
      by_cases hc : c' = c
      · rw [if_pos hc, hx, hc]
      · rw [if_neg hc]; exact g4 c' a (by omega)
    have part : ∀ x, (0 ≤ x ∧ x ≤ 100001) → x = (if fs c = 0 then 100000 else bsd d3 c + 1) → Ok (Option.bind (f_X11_within N τ (σ.2.1 (m + 14) c) 0 7) fun q9 => Jn (fun t10 : Int => Option.bind (gR shx τ 9 92 2) fun minutes_11 => Option.bind (aR shx τ 6 minutes_11 (Int.tmod (wr f) 4)) fun r12 => Option.bind (sI shx τ 1 r12 c (mnZ t10 100000)) fun σ13 => Lt (c + 1) fun x14 => back (σ13, x14)) fun J110_14 => (if wr q9.2 = 0 then J110_14 x else Option.bind (gR shx τ 9 92 1) fun slow_16 => Option.bind (aI shx τ 3 slow_16 (σ.2.1 (m + 14) c)) fun a17 => (if wr (wz a17) = 0 then J110_14 x else Option.bind (rcv shx τ 9 92 (f_X9_beside N τ 92 (f - 2) c)) fun q18 => Lt (mnZ x (q18.2 + 3)) fun x19 => J110_14 x19))) (fun w => w.2 = 0 ∧ FX [rwC f] τ0 w.1 ∧ ∀ c, 0 ≤ c → c ≤ 63 → w.1.2.1 (rwC f) c = dd fs sl fr f.toNat c) := fun x hx0 hx => by
      refine ok_within (by omega) (by omega) (by omega) (fun _ => ?_) (fun h => by exfalso; omega)
      refine st_Jn (ok_z1 ?_)
      refine sx_gR hX' rfl rfl rfl ?_
      refine sx_aI hX' rfl rfl (by decide) (by omega) (by omega) ?_
      rw [e94, w2]
      have hwz : sl c = 0 ∨ sl c = 1 := by rw [← w2]; unfold wz; omega
      refine ok_weqc (by omega) (fun h3 => ?_) (fun h3 => ?_)
      · refine fin _ ?_
        rw [mnZ_eq (by omega) (by omega), hstep]
        unfold stp
        rw [if_pos h3, ← hx]; rfl
      · refine sx_rcv hX' rfl rfl (ok_rw b2 (st_Lt ?_))
        dsimp only
        refine fin _ ?_
        rw [mnZ_eq (a := x) (by omega) (by omega), hstep]
        have := imn_le x (bsd d2 c + 3)
        show mnZ (imn x (bsd d2 c + 3)) 100000 = _
        rw [mnZ_eq (by omega) (by omega)]
        unfold stp
        rw [if_neg h3, ← hx]; rfl
    refine sx_gR hX' rfl rfl rfl ?_
    refine sx_aI hX' rfl rfl (by decide) (by omega) (by omega) ?_
    rw [e93, w1]
    have hwz : fs c = 0 ∨ fs c = 1 := by rw [← w1]; unfold wz; omega
    refine ok_weqc (by omega) (fun h3 => part _ (by omega) (by rw [if_pos h3])) (fun h3 => ?_)
    refine sx_rcv hX' rfl rfl (ok_rw b3 (st_Lt ?_))
    dsimp only
    exact part _ (by omega) (by rw [if_neg h3])
  obtain ⟨⟨τ, v⟩, e, h1, h2⟩ := H
  dsimp only at h1 h2
  subst h1
  exact ⟨τ, e, h2⟩
end W
