/-! the pure part: a FLIGHT, the class's PLAN and its MOVES -/
section F
variable {N : Nat} {σ σm : St}
def cellsF : List Nat := [73, 77, 78, 79, 80, 81, 82, 83, 84, 85, 86, 87, 88, 89, 90, 91]
theorem cF_in {k : Nat} (h : 77 ≤ k ∧ k ≤ 91) : k ∈ cellsF := by
  unfold cellsF
  have : k = 77 ∨ k = 78 ∨ k = 79 ∨ k = 80 ∨ k = 81 ∨ k = 82 ∨ k = 83 ∨ k = 84 ∨ k = 85 ∨ k = 86 ∨ k = 87 ∨ k = 88 ∨ k = 89 ∨ k = 90 ∨ k = 91 := by omega
  rcases this with rfl | rfl | rfl | rfl | rfl | rfl | rfl | rfl | rfl | rfl | rfl | rfl | rfl | rfl | rfl <;> decide
theorem FlX.self {m : Nat} (hX : WXr σ.1 σ.2.2) {pl : Int} : FlX σ (uF σ 73 2 pl) m pl ∨ True := .inr trivial
theorem pr32 {m : Nat} (hm : isM m) (hk : Tk m σ) (hf : FyOk σ) {pl dn : Int} (hp : 0 ≤ pl ∧ pl ≤ 100) (hd : 0 ≤ dn ∧ dn ≤ fI σ 73 0) (hn1 : 1 ≤ fI σ 73 0) {τ0 : St} (hτ : FlX σ τ0 m pl) (hB : BtOk σ m pl dn τ0) (hT : ∀ j, dn < j → j ≤ fI σ 73 0 → TLx2 σ m pl j τ0) {t4 : St × Int} (e4 : t4.2 = dn) {J : St → Option (St × Int)} {Q : St × Int → Prop} (hN : 1000 < N) (h : ∀ τ, FX cellsF τ0 τ → FlX σ τ m pl → (∀ j, dn ≤ j → j ≤ fI σ 73 0 → TLx2 σ m pl j τ) → Ok (J τ) Q) : Ok (L_X2_prepare_32 N 73 m t4 J (τ0, 0)) Q := by
  have hn := hf.1
  subst e4
  unfold L_X2_prepare_32
  refine ok_fix (fun w => (FX cellsF τ0 w.1 ∧ FlX σ w.1 m pl ∧ BtOk σ m pl t4.2 w.1 ∧ (∀ j, t4.2 < j → j ≤ fI σ 73 0 → TLx2 σ m pl j w.1)) ∧ (0 ≤ w.2 ∧ w.2 ≤ 256) ∧ ∀ s : Int, 0 ≤ s → s < w.2 → (vld (σ.2.1 (m + 13)) (fv pl t4.2 s) → w.1.2.1 (77 + t4.2.toNat) s = if t4.2 = 0 then vX σ m (fI σ 73 0).toNat (fv pl t4.2 s) else wX σ m (fI σ 73 0 - t4.2).toNat (fv pl t4.2 s)) ∧ (¬ vld (σ.2.1 (m + 13)) (fv pl t4.2 s) → w.1.2.1 (77 + t4.2.toNat) s = 1000)) (fun w => (256 - w.2).toNat) (fun back w hI hback => ?_) _ ⟨⟨FX.refl, hτ, hB, hT⟩, by dsimp only; omega, fun s a b => by dsimp only at b; omega⟩ (by dsimp only; omega)
  obtain ⟨τ, s⟩ := w
  obtain ⟨⟨g1, g2, g3, g4⟩, g5, g6⟩ := hI
  dsimp only at g1 g2 g3 g4 g5 g6 hback ⊢
  have hX := g2.1
  refine ok_wlt (by omega) (by omega) (fun h1 => ?_) (fun h1 => ?_)
  · obtain ⟨r1, r2, r3⟩ := row76 hX (i := t4.2) (by omega)
    obtain ⟨υ, r, e, p1, p2, p3⟩ := leastFrom_eq (N := N) hm hk hf hp hd hn1 g2 g3 (s := s) (by omega) hN
    have hXu := p1.X hX
    refine sx_gR hX rfl rfl rfl ?_
    refine sx_aR hX rfl rfl (by decide) (by omega) (by omega) r1 ?_
    refine sx_rcv hX rfl rfl (ok_rw e ?_)
    dsimp only
    refine sx_sI hXu r2 r3 (by decide) g5.1 (by omega) (st_Lt ?_)
    have f1 : FX [77 + t4.2.toNat, 91] τ (uI υ (77 + t4.2.toNat) s r) := (p1.mono (by simp)).uI (by simp)
    have c90 : (uI υ (77 + t4.2.toNat) s r).2.1 90 = τ.2.1 90 := f1.2.2 90 (by simp; omega)
    refine hback _ ⟨⟨(g1.trans (p1.mono (fun k hk => by rw [List.mem_singleton] at hk; rw [hk]; decide))).uI (cF_in (by omega)), g2.step hm f1 (fun k hk => by simp at hk; omega), fun s' a b => by rw [c90]; exact g3 s' a b, fun j a b s' c d => ?_⟩, by dsimp only; omega, fun s' a b => ?_⟩ (by dsimp only; omega)
    · have : (uI υ (77 + t4.2.toNat) s r).2.1 (77 + j.toNat) = τ.2.1 (77 + j.toNat) := f1.2.2 _ (by simp; omega)
      rw [this]
      exact g4 j a b s' c d
    · dsimp only at b ⊢
      rw [uW_at]
      by_cases hs : s' = s
      · rw [if_pos hs, hs]; exact ⟨p2, p3⟩
      · rw [if_neg hs, p1.2.2 _ (by rw [List.mem_singleton]; omega)]
        exact g6 s' a (by omega)
  · refine h τ g1 g2 (fun j a b => ?_)
    by_cases hj : j = t4.2
    · rw [hj]; exact fun s a b => g6 s a (by omega)
    · exact g4 j (by omega) b
def IPl (σ : St) (m : Nat) : Prop := fI σ 73 2 = -1 ∨ ((0 ≤ fI σ 73 2 ∧ fI σ 73 2 ≤ 100) ∧ ∀ j, 0 ≤ j → j ≤ fI σ 73 0 → TLx2 σ m (fI σ 73 2) j σ)
theorem prepare_eq {m : Nat} (hX : WXr σ.1 σ.2.2) (hm : isM m) (hk : Tk m σ) (hf : FyOk σ) (hc : IPl σ m) {pl : Int} (hp : 0 ≤ pl ∧ pl ≤ 100) (hn1 : 1 ≤ fI σ 73 0) (hN : 1000 < N) : ∃ τ, f_X2_prepare N σ 73 m pl = some (τ, 0) ∧ FX cellsF σ τ ∧ FlX σ τ m pl ∧ ∀ j, 0 ≤ j → j ≤ fI σ 73 0 → TLx2 σ m pl j τ := by
  have hn := hf.1
  have hml := isM_le hm
  have H : Ok (f_X2_prepare N σ 73 m pl) (fun w => w.2 = 0 ∧ FX cellsF σ w.1 ∧ FlX σ w.1 m pl ∧ ∀ j, 0 ≤ j → j ≤ fI σ 73 0 → TLx2 σ m pl j w.1) := by
    unfold f_X2_prepare
    refine sx_gI hX rfl rfl ?_
    have crg : -1 ≤ fI σ 73 2 ∧ fI σ 73 2 ≤ 100 := by rcases hc with h | h <;> omega
    refine ok_weq (by omega) (by omega) (fun h1 => ok_some ?_) (fun h1 => ?_)
    · rcases hc with h | ⟨h2, h3⟩
      · omega
      · rw [h1] at h3
        exact ⟨rfl, FX.refl, ⟨hX, ⟨rfl, rfl, rfl, rfl⟩, rfl, rfl, h1⟩, h3⟩
    · refine sx_pI hX rfl rfl ?_
      refine sx_gI (σ := uF σ 73 2 pl) hX rfl rfl ?_
      rw [fI_j (by decide)]
      have fl0 : FlX σ (uF σ 73 2 pl) m pl := ⟨hX, ⟨uF_cell (by omega), uF_cell (by omega), uF_cell (by decide), uF_cell (by decide)⟩, fI_j (by decide), fI_j (by decide), fI_eq⟩
      unfold L_X2_prepare_19
      refine ok_fix (fun w => (-1 ≤ w.2 ∧ w.2 ≤ fI σ 73 0) ∧ FX cellsF σ w.1 ∧ FlX σ w.1 m pl ∧ ∀ j, w.2 < j → 0 ≤ j → j ≤ fI σ 73 0 → TLx2 σ m pl j w.1) (fun w => (w.2 + 1).toNat) (fun back w hI hback => ?_) _ ⟨by dsimp only; omega, FX.refl.uF (by decide), fl0, fun j a b c => by dsimp only at a; omega⟩ (by dsimp only; omega)
      obtain ⟨τ, dn⟩ := w
      obtain ⟨g1, g2, g3, g4⟩ := hI
      dsimp only at g1 g2 g3 g4 hback ⊢
      refine ok_wlt0 (by omega) (fun h2 => ok_some ⟨rfl, g2, g3, fun j a b => g4 j (by omega) a b⟩) (fun h2 => ?_)
      obtain ⟨υ, e, p1, p2⟩ := findBurnt_eq (N := N) hm hk hf hp (dn := dn) ⟨h2, g1.2⟩ g3 (fun h3 => g4 (dn + 1) (by omega) (by omega) (by omega)) hN
      have fl2 := g3.step hm p1 (by simp)
      refine sx_rcv g3.1 rfl rfl (ok_rw e (st_Jn ?_))
      dsimp only
      refine pr32 hm hk hf hp ⟨h2, g1.2⟩ hn1 fl2 p2 (fun j a b s c d => by rw [p1.2.2 _ (by simp; omega)]; exact g4 j a (by omega) b s c d) rfl hN (fun φ q1 q2 q3 => st_Lt ?_)
      refine hback _ ⟨by dsimp only; omega, (g2.trans (p1.mono (fun k hk => by simp at hk; rcases hk with e | e <;> rw [e] <;> decide))).trans q1, q2, fun j a b c => ?_⟩ (by dsimp only; omega)
      exact q3 j (by dsimp only at a; omega) c
  obtain ⟨⟨τ, v⟩, e, h1, h2⟩ := H
  dsimp only at h1 h2
  subst h1
  exact ⟨τ, e, h2⟩
def f3 (a b c : Int) : Int → Int := fun t => if t = 0 then a else if t = 1 then b else c
/-- the least pumped of a PLAN -/
def plV (σ : St) (m : Nat) (a b c : Int) : Int := vX σ m (fI σ 73 0).toNat (f3 a b c)
theorem ipl_of {m : Nat} {τ : St} {pl : Int} (hp : 0 ≤ pl ∧ pl ≤ 100) (hL : FlX σ τ m pl) (hT : ∀ j, 0 ≤ j → j ≤ fI σ 73 0 → TLx2 σ m pl j τ) : IPl τ m := by
  obtain ⟨_, ⟨e13, e12, e74, e75⟩, e0, e1, e2⟩ := hL
  refine .inr ⟨by omega, fun j a b => ?_⟩
  have := hT j a (by omega)
  unfold TLx2 vX wX at this ⊢
  rw [e13, e12, e74, e75, e0, e1, e2]
  exact this
theorem leastPumped_eq {m : Nat} (hX : WXr σ.1 σ.2.2) (hm : isM m) (hk : Tk m σ) (hf : FyOk σ) (hc : IPl σ m) {a b c : Int} (ha : -2147483648 ≤ a ∧ a < 2147483648) (hb : -2147483648 ≤ b ∧ b < 2147483648) (hcc : -2147483648 ≤ c ∧ c < 2147483648) (hN : 1000 < N) : ∃ τ r, f_X2_leastPumped N σ 73 m a b c = some (τ, r) ∧ FX cellsF σ τ ∧ ((r = -1 ∧ (fI σ 73 0 = 0 ∨ ¬ vld (σ.2.1 (m + 13)) (f3 a b c)) ∧ τ = σ) ∨ ((1 ≤ fI σ 73 0 ∧ vld (σ.2.1 (m + 13)) (f3 a b c)) ∧ FlX σ τ m (a + b + c) ∧ (∀ j, 0 ≤ j → j ≤ fI σ 73 0 → TLx2 σ m (a + b + c) j τ) ∧ r = if plV σ m a b c < 1000 then plV σ m a b c else -1)) := by
  have hn := hf.1
  have H : Ok (f_X2_leastPumped N σ 73 m a b c) (fun w => FX cellsF σ w.1 ∧ ((w.2 = -1 ∧ (fI σ 73 0 = 0 ∨ ¬ vld (σ.2.1 (m + 13)) (f3 a b c)) ∧ w.1 = σ) ∨ ((1 ≤ fI σ 73 0 ∧ vld (σ.2.1 (m + 13)) (f3 a b c)) ∧ FlX σ w.1 m (a + b + c) ∧ (∀ j, 0 ≤ j → j ≤ fI σ 73 0 → TLx2 σ m (a + b + c) j w.1) ∧ w.2 = if plV σ m a b c < 1000 then plV σ m a b c else -1))) := by
    unfold f_X2_leastPumped
    refine sx_gI hX rfl rfl ?_
    refine ok_weqc (by omega) (fun h1 => ok_some ⟨FX.refl, .inl ⟨rfl, .inl h1, rfl⟩⟩) (fun h1 => ?_)
    refine ok_rw (canHold_eq hm hk hX rfl ha hb hcc) ?_
    dsimp only
    by_cases hv : (0 ≤ a ∧ a ≤ σ.2.1 (m + 13) 0) ∧ (0 ≤ b ∧ b ≤ σ.2.1 (m + 13) 1) ∧ (0 ≤ c ∧ c ≤ σ.2.1 (m + 13) 2)
    · rw [if_pos hv]
      refine ok_z1 ?_
      have k0 := hk 0 (by decide) (by decide)
      have k1 := hk 1 (by decide) (by decide)
      have k2 := hk 2 (by decide) (by decide)
      obtain ⟨τ, e, p1, p2, p3⟩ := prepare_eq (N := N) hX hm hk hf hc (pl := a + b + c) (by omega) (by omega) hN
      have hX' := p2.1
      have hvl : vld (σ.2.1 (m + 13)) (f3 a b c) := vld_iff.mpr hv
      obtain ⟨r1, r2, r3⟩ := row76 hX' (i := 0) (by omega)
      refine sx_rcv hX rfl rfl (ok_rw e ?_)
      dsimp only
      refine sx_gR hX' rfl rfl rfl ?_
      refine sx_aR hX' rfl rfl (by decide) (by decide) (by decide) r1 ?_
      refine sx_aI hX' r2 r3 (by decide) (by omega) (by omega) ?_
      have ag : ag3 (fv (a + b + c) 0 (16 * a + b)) (f3 a b c) := fv_of (f := f3 a b c) (by unfold f3; simp) (by unfold f3; simp; omega) (by unfold sumF f3; simp)
      have row := (p3 0 (by omega) (by omega) (16 * a + b) (by omega) (by omega)).1 (vld_congr (ag_sym ag) hvl)
      rw [if_pos rfl] at row
      have ev : vX σ m (fI σ 73 0).toNat (fv (a + b + c) 0 (16 * a + b)) = plV σ m a b c := VV_congr hf.2.1.1 _ _ _ ag
      rw [row, ev]
      have vr := VV_rg (H := σ.2.1 (m + 13)) (A := σ.2.1 (m + 12)) (lo := σ.2.1 74) (hi := σ.2.1 75) (n := fI σ 73 0) hf.2.1 (fI σ 73 0).toNat (f3 a b c)
      have vr' : 0 ≤ plV σ m a b c ∧ plV σ m a b c ≤ 1000 := ⟨vr.1, vr.2.1⟩
      refine ok_wlt (by omega) (by omega) (fun h2 => ok_some ⟨p1, .inr ⟨⟨by omega, hvl⟩, p2, p3, by rw [if_pos h2]⟩⟩) (fun h2 => ok_some ⟨p1, .inr ⟨⟨by omega, hvl⟩, p2, p3, by rw [if_neg (by omega)]⟩⟩)
    · rw [if_neg hv]
      exact ok_z0 (ok_some ⟨FX.refl, .inl ⟨rfl, .inr (fun q => hv (vld_iff.mp q)), rfl⟩⟩)
  obtain ⟨⟨τ, r⟩, e, h1, h2⟩ := H
  exact ⟨τ, r, e, h1, h2⟩
/-- the row read for a state that is known -/
theorem row_at {m : Nat} (hk : Tk m σ) (hf : FyOk σ) {pl dn : Int} (hd : 0 ≤ dn ∧ dn ≤ fI σ 73 0) {τ : St} (hX : WXr τ.1 τ.2.2) (hT : TLx2 σ m pl dn τ) {f : Int → Int} (hv : vld (σ.2.1 (m + 13)) f) (hsum : sumF f = pl - dn) : f_X2_leastAt N τ 73 dn (16 * f 0 + f 1) = some (τ, if dn = 0 then vX σ m (fI σ 73 0).toNat f else wX σ m (fI σ 73 0 - dn).toNat f) := by
  have hn := hf.1
  have sr := st_rg hk hv
  have ag := fv_of (pl := pl) (dn := dn) (f := f) rfl sr.1 hsum
  rw [leastAt2_eq hX (by omega) ⟨sr.2.1, sr.2.2⟩, (hT _ sr.2.1 sr.2.2).1 (vld_congr (ag_sym ag) hv)]
  have e1 : vX σ m (fI σ 73 0).toNat (fv pl dn (16 * f 0 + f 1)) = vX σ m (fI σ 73 0).toNat f := VV_congr hf.2.1.1 _ _ _ ag
  have e2 : wX σ m (fI σ 73 0 - dn).toNat (fv pl dn (16 * f 0 + f 1)) = wX σ m (fI σ 73 0 - dn).toNat f := WW_congr hf.2.1.1 _ ag
  rw [e1, e2]
def FstX (σ : St) (m : Nat) (d : Nat) (f : Int → Int) (u c : Int) : Prop := Fst (σ.2.1 (m + 13)) (σ.2.1 (m + 12)) (σ.2.1 74) (σ.2.1 75) (fI σ 73 1) (fI σ 73 0) d f u c
theorem firstMove_eq {m : Nat} (hm : isM m) (hk : Tk m σ) (hf : FyOk σ) {pl dn : Int} (hp : 0 ≤ pl ∧ pl ≤ 100) (hd : 0 ≤ dn ∧ dn < fI σ 73 0) {τ0 : St} (hτ : FlX σ τ0 m pl) (hT : ∀ j, 0 ≤ j → j ≤ fI σ 73 0 → TLx2 σ m pl j τ0) {f : Int → Int} (hv : vld (σ.2.1 (m + 13)) f) (hsum : sumF f = pl - dn) (hV : vX σ m (fI σ 73 0 - dn).toNat f < 1000) (hcur : dn = 0 ∨ wX σ m (fI σ 73 0 - dn).toNat f = vX σ m (fI σ 73 0 - dn).toNat f) (hN : 1000 < N) : ∃ τ u c, f_X2_firstMove N τ0 73 m dn (16 * f 0 + f 1) = some (τ, 100 * u + c) ∧ FX [91] τ0 τ ∧ FstX σ m (fI σ 73 0 - (dn + 1)).toNat f u c := by
  have hn := hf.1
  have sr := st_rg hk hv
  have ag := fv_of (pl := pl) (dn := dn) (f := f) rfl sr.1 hsum
  have kd : (fI σ 73 0 - dn).toNat = (fI σ 73 0 - (dn + 1)).toNat + 1 := by omega
  obtain ⟨υ, r, e, p1, p2, p3⟩ := fill2_eq (N := N) hm hk hτ.1 hτ.2.1.1 (dn := dn) (s := 16 * f 0 + f 1) hτ.2.2.2.2 hp (by omega) ⟨sr.2.1, sr.2.2⟩
  have hτu := hτ.step hm p1 (by simp)
  have hX := hτu.1
  have hTu : ∀ j, 0 ≤ j → j ≤ fI σ 73 0 → TLx2 σ m pl j υ := fun j a b s c d => by rw [p1.2.2 (77 + j.toNat) (by rw [List.mem_singleton]; omega)]; exact hT j a b s c d
  have h91 : ∀ t : Int, 0 ≤ t → t < 3 → υ.2.1 91 t = f t := fun t a b => (p2 t a b).trans (ag t a b)
  have hV' : VV (σ.2.1 (m + 13)) (σ.2.1 (m + 12)) (σ.2.1 74) (σ.2.1 75) (fI σ 73 1) (fI σ 73 0) ((fI σ 73 0 - (dn + 1)).toNat + 1) f < 1000 := by rw [← kd]; exact hV
  have hmn := VV_mn (H := σ.2.1 (m + 13)) (A := σ.2.1 (m + 12)) (lo := σ.2.1 74) (hi := σ.2.1 75) (n := fI σ 73 0) hf.2.1.1 (fI σ 73 0 - (dn + 1)).toNat f
  -- does a MOVE keep the least
  have ecur : (if dn = 0 then vX σ m (fI σ 73 0).toNat f else wX σ m (fI σ 73 0 - dn).toNat f) = VV (σ.2.1 (m + 13)) (σ.2.1 (m + 12)) (σ.2.1 74) (σ.2.1 75) (fI σ 73 1) (fI σ 73 0) ((fI σ 73 0 - (dn + 1)).toNat + 1) f := by
    rw [← kd]
    by_cases h0 : dn = 0
    · rw [if_pos h0, h0, Int.sub_zero]; rfl
    · rw [if_neg h0]; exact hcur.resolve_left h0
  have keeps : ∀ u c, (0 ≤ u ∧ u < 3) → (0 ≤ c ∧ c ≤ 100) → okP (σ.2.1 (m + 13)) f c → 0 < gP f c u → ∃ r, f_X2_keepsLeast N υ 73 dn (16 * f 0 + f 1) u c = some (υ, r) ∧ ((r = 1 ∧ c / 9 + WW (σ.2.1 (m + 13)) (σ.2.1 (m + 12)) (σ.2.1 74) (σ.2.1 75) (fI σ 73 1) (fI σ 73 0) (fI σ 73 0 - (dn + 1)).toNat (gB (gP f c) u) = VV (σ.2.1 (m + 13)) (σ.2.1 (m + 12)) (σ.2.1 74) (σ.2.1 75) (fI σ 73 1) (fI σ 73 0) ((fI σ 73 0 - (dn + 1)).toNat + 1) f) ∨ (r = 0 ∧ ¬ c / 9 + WW (σ.2.1 (m + 13)) (σ.2.1 (m + 12)) (σ.2.1 74) (σ.2.1 75) (fI σ 73 1) (fI σ 73 0) (fI σ 73 0 - (dn + 1)).toNat (gB (gP f c) u) = VV (σ.2.1 (m + 13)) (σ.2.1 (m + 12)) (σ.2.1 74) (σ.2.1 75) (fI σ 73 1) (fI σ 73 0) ((fI σ 73 0 - (dn + 1)).toNat + 1) f)) := fun u c hu hc k1 k2 => by
    have hvp := vld_gP hc.1 hv k1
    have hvb := vld_gB hvp k2
    have hs2 : sumF (gB (gP f c) u) = pl - (dn + 1) := by rw [sum_gB _ hu, sum_gP _ hc.1, hsum]; omega
    have wr0 := wX_rg hf m (fI σ 73 0 - (dn + 1)).toNat (gB (gP f c) u)
    have vr := VV_rg (H := σ.2.1 (m + 13)) (A := σ.2.1 (m + 12)) (lo := σ.2.1 74) (hi := σ.2.1 75) (n := fI σ 73 0) hf.2.1 ((fI σ 73 0 - (dn + 1)).toNat + 1) f
    have H : Ok (f_X2_keepsLeast N υ 73 dn (16 * f 0 + f 1) u c) (fun q => q.1 = υ ∧ ((q.2 = 1 ∧ c / 9 + WW (σ.2.1 (m + 13)) (σ.2.1 (m + 12)) (σ.2.1 74) (σ.2.1 75) (fI σ 73 1) (fI σ 73 0) (fI σ 73 0 - (dn + 1)).toNat (gB (gP f c) u) = VV (σ.2.1 (m + 13)) (σ.2.1 (m + 12)) (σ.2.1 74) (σ.2.1 75) (fI σ 73 1) (fI σ 73 0) ((fI σ 73 0 - (dn + 1)).toNat + 1) f) ∨ (q.2 = 0 ∧ ¬ c / 9 + WW (σ.2.1 (m + 13)) (σ.2.1 (m + 12)) (σ.2.1 74) (σ.2.1 75) (fI σ 73 1) (fI σ 73 0) (fI σ 73 0 - (dn + 1)).toNat (gB (gP f c) u) = VV (σ.2.1 (m + 13)) (σ.2.1 (m + 12)) (σ.2.1 74) (σ.2.1 75) (fI σ 73 1) (fI σ 73 0) ((fI σ 73 0 - (dn + 1)).toNat + 1) f))) := by
      unfold f_X2_keepsLeast
      refine ok_rw (pumped_eq N υ hc) ?_
      refine ok_rw (wtZ_eq hu) ?_
      dsimp only
      rw [pst (f := f) rfl, gst (f := gP f c) rfl hu]
      refine sx_rcv hX rfl rfl (ok_rw (row_at hk hf (by omega) hX (hTu (dn + 1) (by omega) (by omega)) hvb hs2) ?_)
      refine sx_rcv hX rfl rfl (ok_rw (row_at hk hf (by omega) hX (hTu dn hd.1 (by omega)) hv hsum) ?_)
      dsimp only
      rw [ecur, if_neg (show ¬ dn + 1 = 0 by omega), (code_eqs hc).1]
      show Ok (if wr (c / 9 + wX σ m (fI σ 73 0 - (dn + 1)).toNat (gB (gP f c) u)) = _ then _ else _) _
      refine ok_weq (by omega) (by omega) (fun h => ok_some ⟨rfl, .inl ⟨rfl, h⟩⟩) (fun h => ok_some ⟨rfl, .inr ⟨rfl, h⟩⟩)
    obtain ⟨⟨τ', r⟩, e, h1, h2⟩ := H
    dsimp only at h1 h2
    subst h1
    exact ⟨r, e, h2⟩
  have fb : ∀ u c, (0 ≤ u ∧ u < 3) → (0 ≤ c ∧ c ≤ 100) → f_X2_fuelBehind N υ 73 u c = some (υ, gP f c u) := fun u c hu hc => by
    obtain ⟨c1, c2, c3⟩ := code_eqs hc
    have H : Ok (f_X2_fuelBehind N υ 73 u c) (fun q => q = (υ, gP f c u)) := by
      unfold f_X2_fuelBehind
      rw [c1, c2, c3]
      refine st_Lt (st_Jn ?_)
      have fin : ∀ x y, x = (if c / 3 % 3 = u then c / 9 else 0) → y = (if c % 3 = u then c / 9 else 0) → Ok (Option.bind (gR shx υ 2 73 7) fun fuel_4 => Option.bind (aI shx υ 1 fuel_4 u) fun a5 => some (υ, ((a5 - x) + y))) (fun q => q = (υ, gP f c u)) := fun x y hx hy => by
        refine sx_gR hX rfl rfl rfl ?_
        refine sx_aI hX rfl rfl (by decide) hu.1 (by omega) (ok_some ?_)
        rw [h91 u hu.1 hu.2, hx, hy]; rfl
      refine ok_weq (by omega) (by omega) (fun h1 => st_Jn ?_) (fun h1 => st_Jn ?_)
      · exact ok_weq (by omega) (by omega) (fun h2 => fin _ _ (by rw [if_pos h1]) (by rw [if_pos h2])) (fun h2 => fin _ _ (by rw [if_pos h1]) (by rw [if_neg h2]))
      · exact ok_weq (by omega) (by omega) (fun h2 => fin _ _ (by rw [if_neg h1]) (by rw [if_pos h2])) (fun h2 => fin _ _ (by rw [if_neg h1]) (by rw [if_neg h2]))
    obtain ⟨q, e, rfl⟩ := H
    exact e
  have H : Ok (f_X2_firstMove N τ0 73 m dn (16 * f 0 + f 1)) (fun w => FX [91] τ0 w.1 ∧ ∃ u c, w.2 = 100 * u + c ∧ FstX σ m (fI σ 73 0 - (dn + 1)).toNat f u c) := by
    unfold f_X2_firstMove
    refine sx_rcv hτ.1 rfl rfl (ok_rw e ?_)
    dsimp only
    rcases p3 with ⟨rfl, _⟩ | ⟨rfl, hv'⟩
    · refine ok_z1 (st_Jn ?_)
      have hP := hf.2.1
      unfold L_X2_firstMove_15
      refine ok_fix (fun u => (0 ≤ u ∧ u ≤ 3) ∧ ∀ u' c', ((0 ≤ u' ∧ u' < u) ∧ (0 ≤ c' ∧ c' < 9 * (fI σ 73 1 + 1))) → ¬ (okP (σ.2.1 (m + 13)) f c' ∧ 0 < gP f c' u' ∧ c' / 9 + WW (σ.2.1 (m + 13)) (σ.2.1 (m + 12)) (σ.2.1 74) (σ.2.1 75) (fI σ 73 1) (fI σ 73 0) (fI σ 73 0 - (dn + 1)).toNat (gB (gP f c') u') = VV (σ.2.1 (m + 13)) (σ.2.1 (m + 12)) (σ.2.1 74) (σ.2.1 75) (fI σ 73 1) (fI σ 73 0) ((fI σ 73 0 - (dn + 1)).toNat + 1) f)) (fun u => (3 - u).toNat) (fun back u hI hback => ?_) 0 ⟨by omega, fun u' c' h => by omega⟩ (by omega)
      obtain ⟨g1, g2⟩ := hI
      refine ok_wlt (by omega) (by omega) (fun h1 => ?_) (fun h1 => ?_)
      · refine st_Jn ?_
        unfold L_X2_firstMove_24
        refine ok_fix (fun c => (0 ≤ c ∧ c ≤ 9 * (fI σ 73 1 + 1)) ∧ ∀ c', (0 ≤ c' ∧ c' < c) → ¬ (okP (σ.2.1 (m + 13)) f c' ∧ 0 < gP f c' u ∧ c' / 9 + WW (σ.2.1 (m + 13)) (σ.2.1 (m + 12)) (σ.2.1 74) (σ.2.1 75) (fI σ 73 1) (fI σ 73 0) (fI σ 73 0 - (dn + 1)).toNat (gB (gP f c') u) = VV (σ.2.1 (m + 13)) (σ.2.1 (m + 12)) (σ.2.1 74) (σ.2.1 75) (fI σ 73 1) (fI σ 73 0) ((fI σ 73 0 - (dn + 1)).toNat + 1) f)) (fun c => (9 * (fI σ 73 1 + 1) - c).toNat) (fun back2 c hI2 hback2 => ?_) 0 ⟨by omega, fun c' h => by omega⟩ (by omega)
        obtain ⟨k1, k2⟩ := hI2
        refine sx_gI hX rfl rfl ?_
        rw [hτu.2.2.2.1]
        refine ok_wlt (by omega) (by omega) (fun h2 => ?_) (fun h2 => st_Lt ?_)
        · refine st_Jn ?_
          have no : ¬ (okP (σ.2.1 (m + 13)) f c ∧ 0 < gP f c u ∧ c / 9 + WW (σ.2.1 (m + 13)) (σ.2.1 (m + 12)) (σ.2.1 74) (σ.2.1 75) (fI σ 73 1) (fI σ 73 0) (fI σ 73 0 - (dn + 1)).toNat (gB (gP f c) u) = VV (σ.2.1 (m + 13)) (σ.2.1 (m + 12)) (σ.2.1 74) (σ.2.1 75) (fI σ 73 1) (fI σ 73 0) ((fI σ 73 0 - (dn + 1)).toNat + 1) f) → Ok (back2 (c + 1)) (fun w => FX [91] τ0 w.1 ∧ ∃ u c, w.2 = 100 * u + c ∧ FstX σ m (fI σ 73 0 - (dn + 1)).toNat f u c) := fun hno => by
            refine hback2 _ ⟨by omega, fun c' hc' => ?_⟩ (by omega)
            by_cases hcc : c' = c
            · rw [hcc]; exact hno
            · exact k2 c' (by omega)
          have go : okP (σ.2.1 (m + 13)) f c → Ok (Jn (fun t13 : Unit => Lt (c + 1) fun x14 => back2 x14) fun J98_14 => (if wr 1 = 0 then J98_14 () else Option.bind (rcv shx υ 2 73 (f_X2_fuelBehind N υ 73 u c)) fun q16 => (if 0 < wr q16.2 then Option.bind (rcv shx υ 2 73 (f_X2_keepsLeast N υ 73 dn (16 * f 0 + f 1) u c)) fun q17 => (if wr q17.2 = 0 then J98_14 () else some (υ, ((100 * u) + c))) else J98_14 ()))) (fun w => FX [91] τ0 w.1 ∧ ∃ u c, w.2 = 100 * u + c ∧ FstX σ m (fI σ 73 0 - (dn + 1)).toNat f u c) := fun hok => by
            refine st_Jn (ok_z1 ?_)
            refine sx_rcv hX rfl rfl (ok_rw (fb u c ⟨g1.1, h1⟩ (by omega)) ?_)
            dsimp only
            have hgr := vld_gP k1.1 hv hok u g1.1 h1
            have kur := hk u g1.1 h1
            refine ok_w0lt (by omega) (fun h3 => ?_) (fun h3 => st_Lt (no (fun q => by omega)))
            obtain ⟨r, ke, kr⟩ := keeps u c ⟨g1.1, h1⟩ (by omega) hok h3
            refine sx_rcv hX rfl rfl (ok_rw ke ?_)
            dsimp only
            rcases kr with ⟨rfl, kr⟩ | ⟨rfl, kr⟩
            · refine ok_z1 (ok_some ⟨p1, u, c, rfl, ⟨⟨⟨g1.1, h1⟩, ⟨k1.1, h2⟩⟩, ⟨hok, h3, kr⟩, fun u' c' hr hlt => ?_⟩⟩)
              rcases hlt with hlt | ⟨hlt, hlt2⟩
              · exact g2 u' c' ⟨⟨hr.1.1, hlt⟩, hr.2⟩
              · rw [hlt]; exact k2 c' ⟨hr.2.1, hlt2⟩
            · exact ok_z0 (st_Lt (no (fun q => kr q.2.2)))
          refine st_Jn ?_
          refine ok_weqc (by omega) (fun h3 => go (.inl h3)) (fun h3 => ?_)
          obtain ⟨r, ce, cr⟩ := canPump_eq (N := N) hm hk hτu h91 hv (c := c) (by omega)
          refine sx_rcv hX rfl rfl (ok_rw ce ?_)
          dsimp only
          rcases cr with ⟨rfl, hok⟩ | ⟨rfl, hok⟩
          · exact ok_z1 (go hok)
          · exact ok_z0 (st_Jn (ok_z0 (st_Lt (no (fun q => hok q.1)))))
        · refine hback _ ⟨by omega, fun u' c' h => ?_⟩ (by omega)
          by_cases hu : u' = u
          · rw [hu]; exact k2 c' (by omega)
          · exact g2 u' c' (by omega)
      · exfalso
        rcases hmn.2.2 with h | ⟨u, c, hr, q1, q2, q3⟩
        · omega
        · exact g2 u c ⟨by omega, hr.2⟩ ⟨q1, q2, q3.symm⟩
    · exact absurd (vld_congr (ag_sym ag) hv) hv'
  obtain ⟨⟨τ, v⟩, e, h1, u, c, h2, h3⟩ := H
  dsimp only at h1 h2
  subst h2
  exact ⟨τ, u, c, e, h1, h3⟩
end F
