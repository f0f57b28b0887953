/-! the pure part: a FLIGHT, the ops PLAN and MOVE -/
section F
variable {N : Nat} {σ σm : St}
theorem isFuel_eq {m : Nat} {bk : Int} (hI : IMach m bk σ σm) (hM : WMr σm.1 σm.2.2) {t p : Int} (ht : 0 ≤ t ∧ t < 3) (hp : -2147483648 ≤ p ∧ p < 2147483648) : f_X12_isFuel N σm 1 t p = some (σm, if 0 ≤ p ∧ p ≤ σ.2.1 (m + 13) t then 1 else 0) := by
  have i4 := hI.2.2.2.1
  have i3 := hI.2.2.1
  have htk := hI.2.2.2.2.1.2.2.2.2
  have rt := hI.2.2.2.2.2.2.2.2.1 t ht.1 ht.2
  have kt := hI.tk t ht.1 ht.2
  have H : Ok (f_X12_isFuel N σm 1 t p) (fun q => q = (σm, if 0 ≤ p ∧ p ≤ σ.2.1 (m + 13) t then 1 else 0)) := by
    unfold f_X12_isFuel
    refine sm_rcv hM (ok_rw (tanks_eq hM i3 i4) ?_)
    dsimp only
    rw [htk.1]
    refine ok_wlt (by omega) (by omega) (fun h1 => ?_) (fun h1 => ?_)
    · refine sm_gR hM rfl ?_
      refine sm_gI hM ?_
      rw [i3]
      refine sm_aI hM rfl rfl (by decide) (by omega) (by omega) ?_
      rw [(rt.1 h1).2.2.2.1]
      refine ok_isIn hp (by decide) (by omega) (fun h2 => ok_rZ (.inr rfl) ?_) (fun h2 => ok_rZ (.inl rfl) ?_)
      · rw [if_pos h2]
      · rw [if_neg (by omega)]
    · have := rt.2 h1
      refine ok_weqc hp (fun h2 => ok_some ?_) (fun h2 => ok_some ?_)
      · rw [if_pos (by omega)]
      · rw [if_neg (by omega)]
  obtain ⟨q, e, rfl⟩ := H
  exact e
theorem f3_sM {H : Int → Int} {a b c : Int} (hH : ∀ t : Int, 0 ≤ t → t < 3 → 0 ≤ H t ∧ H t ≤ 15) (hv : vld H (f3 a b c)) : orZ (orZ a (shlZ b 4)) (shlZ c 8) = sM (f3 a b c) := by
  have v := vld_iff.mp hv
  have e0 : f3 a b c 0 = a := if_pos rfl
  have e1 : f3 a b c 1 = b := rfl
  have e2 : f3 a b c 2 = c := rfl
  have h0 := hH 0 (by decide) (by decide)
  have h1 := hH 1 (by decide) (by decide)
  have h2 := hH 2 (by decide) (by decide)
  rw [e0, e1, e2] at v
  have bb := state_bits c.toNat (by omega) b.toNat (by omega) a.toNat (by omega)
  rw [show ((a.toNat : Nat) : Int) = a by omega, show ((b.toNat : Nat) : Int) = b by omega, show ((c.toNat : Nat) : Int) = c by omega] at bb
  rw [bb]
  unfold sM
  rw [e0, e1, e2]
  omega
theorem planOf_eq {m : Nat} {bk : Int} (hI : IMach m bk σ σm) (hf : FyOk σ) (hL : IFly σ σm) (hM : WMr σm.1 σm.2.2) {a b c : Int} (ha : -2147483648 ≤ a ∧ a < 2147483648) (hb : -2147483648 ≤ b ∧ b < 2147483648) (hc : -2147483648 ≤ c ∧ c < 2147483648) (hN : 5000 < N) : ∃ φ r, f_X12_planOf N σm 1 a b c = some (φ, r) ∧ FM [41, 42] [75, 76] σm φ ∧ ((r = -1 ∧ ¬ ((1 ≤ fI σ 73 0 ∧ vld (σ.2.1 (m + 13)) (f3 a b c)) ∧ plV σ m a b c < 1000)) ∨ (((1 ≤ fI σ 73 0 ∧ vld (σ.2.1 (m + 13)) (f3 a b c)) ∧ plV σ m a b c < 1000) ∧ r = plV σ m a b c ∧ ∀ j : Int, 0 ≤ j → j ≤ fI σ 73 0 → TM σ m j φ)) := by
  have hn := hf.1
  have hk := hI.tk
  have v3 : vld (σ.2.1 (m + 13)) (f3 a b c) ↔ ((0 ≤ a ∧ a ≤ σ.2.1 (m + 13) 0) ∧ (0 ≤ b ∧ b ≤ σ.2.1 (m + 13) 1) ∧ (0 ≤ c ∧ c ≤ σ.2.1 (m + 13) 2)) := vld_iff
  have H : Ok (f_X12_planOf N σm 1 a b c) (fun w => FM [41, 42] [75, 76] σm w.1 ∧ ((w.2 = -1 ∧ ¬ ((1 ≤ fI σ 73 0 ∧ vld (σ.2.1 (m + 13)) (f3 a b c)) ∧ plV σ m a b c < 1000)) ∨ (((1 ≤ fI σ 73 0 ∧ vld (σ.2.1 (m + 13)) (f3 a b c)) ∧ plV σ m a b c < 1000) ∧ w.2 = plV σ m a b c ∧ ∀ j : Int, 0 ≤ j → j ≤ fI σ 73 0 → TM σ m j w.1))) := by
    unfold f_X12_planOf
    refine sm_rcv hM (ok_rw (isFuel_eq hI hM (by decide) ha) ?_)
    dsimp only
    by_cases h0 : 0 ≤ a ∧ a ≤ σ.2.1 (m + 13) 0
    rotate_left
    · rw [if_neg h0]
      exact ok_weqc (by omega) (fun _ => ok_some ⟨FM.refl, .inl ⟨rfl, fun q => h0 (v3.mp q.1.2).1⟩⟩) (fun q => absurd rfl q)
    rw [if_pos h0]
    refine ok_weqc (by omega) (fun q => absurd q (by decide)) (fun _ => ?_)
    refine sm_rcv hM (ok_rw (isFuel_eq hI hM (by decide) hb) ?_)
    dsimp only
    by_cases h1 : 0 ≤ b ∧ b ≤ σ.2.1 (m + 13) 1
    rotate_left
    · rw [if_neg h1]
      exact ok_weqc (by omega) (fun _ => ok_some ⟨FM.refl, .inl ⟨rfl, fun q => h1 (v3.mp q.1.2).2.1⟩⟩) (fun q => absurd rfl q)
    rw [if_pos h1]
    refine ok_weqc (by omega) (fun q => absurd q (by decide)) (fun _ => ?_)
    refine sm_rcv hM (ok_rw (isFuel_eq hI hM (by decide) hc) ?_)
    dsimp only
    by_cases h2 : 0 ≤ c ∧ c ≤ σ.2.1 (m + 13) 2
    rotate_left
    · rw [if_neg h2]
      exact ok_weqc (by omega) (fun _ => ok_some ⟨FM.refl, .inl ⟨rfl, fun q => h2 (v3.mp q.1.2).2.2⟩⟩) (fun q => absurd rfl q)
    rw [if_pos h2]
    refine ok_weqc (by omega) (fun q => absurd q (by decide)) (fun _ => ?_)
    have hv : vld (σ.2.1 (m + 13)) (f3 a b c) := v3.mpr ⟨h0, h1, h2⟩
    refine sm_gI hM ?_
    rw [hL.1.1]
    refine ok_weqc (by omega) (fun h3 => ok_some ⟨FM.refl, .inl ⟨rfl, fun q => by omega⟩⟩) (fun h3 => ?_)
    obtain ⟨φ, e, p1, p2⟩ := fillPlan_eq (N := N) hI hf hL hM hN
    have hMφ := p1.M hM
    refine sm_rcv hM (ok_rw e ?_)
    refine sm_gR hMφ rfl ?_
    dsimp only
    have k0 := hk 0 (by decide) (by decide)
    have k1 := hk 1 (by decide) (by decide)
    have k2 := hk 2 (by decide) (by decide)
    rw [f3_sM (fun t x y => (hk t x y).1) hv]
    have vv := vld_iff.mp hv
    have srg : 0 ≤ sM (f3 a b c) ∧ sM (f3 a b c) < 4096 := by unfold sM; omega
    refine sm_aI hMφ rfl rfl (by decide) srg.1 (by omega) ?_
    have ags := fm_sM (f := f3 a b c) (by omega) (by omega) (by omega)
    have row : φ.2.1 41 (sM (f3 a b c)) = cvF (plV σ m a b c) := by
      have := (((p2 0 (by decide) (by omega)) (sM (f3 a b c)) srg.1 srg.2).2 (by omega)).1 (vld_congr (ag_sym ags) hv)
      rw [show 4096 * 0 + sM (f3 a b c) = sM (f3 a b c) by omega, Int.sub_zero] at this
      rw [this]
      have : vX σ m (fI σ 73 0).toNat (fm (sM (f3 a b c))) = plV σ m a b c := VV_congr hf.2.1.1 _ _ _ ags
      rw [this]
    rw [row]
    have vr := VV_rg (H := σ.2.1 (m + 13)) (A := σ.2.1 (m + 12)) (lo := σ.2.1 74) (hi := σ.2.1 75) (n := fI σ 73 0) hf.2.1 (fI σ 73 0).toNat (f3 a b c)
    have vr' : 0 ≤ plV σ m a b c ∧ plV σ m a b c ≤ 1000 := ⟨vr.1, vr.2.1⟩
    unfold cvF
    by_cases h4 : plV σ m a b c < 1000
    · rw [if_pos h4]
      exact ok_wlt (by omega) (by decide) (fun _ => ok_some ⟨p1, .inr ⟨⟨⟨by omega, hv⟩, h4⟩, rfl, p2⟩⟩) (fun q => by omega)
    · rw [if_neg h4]
      exact ok_wlt (by decide) (by decide) (fun q => by omega) (fun _ => ok_some ⟨p1, .inl ⟨rfl, fun q => h4 q.2⟩⟩)
  obtain ⟨⟨φ, r⟩, e, h1, h2⟩ := H
  exact ⟨φ, r, e, h1, h2⟩
theorem fly_of {m : Nat} {τ τm : St} (hL : IFly σ σm) {pl : Int} (h : FlX σ τ m pl ∨ τ = σ) (f : FM [41, 42] [75, 76] σm τm) : IFly τ τm := by
  have e39 := f.2.2.1 39 (by decide) (by decide)
  have e40 := f.2.2.1 40 (by decide) (by decide)
  have e73 : fI τm 1 73 = fI σm 1 73 := f.f (by decide)
  have e74 : fI τm 1 74 = fI σm 1 74 := f.f (by decide)
  have k : fI τ 73 0 = fI σ 73 0 ∧ fI τ 73 1 = fI σ 73 1 ∧ τ.2.1 74 = σ.2.1 74 ∧ τ.2.1 75 = σ.2.1 75 := by
    rcases h with ⟨_, h2, h3, h4, _⟩ | rfl
    · exact ⟨h3, h4, h2.2.2.1, h2.2.2.2⟩
    · exact ⟨rfl, rfl, rfl, rfl⟩
  obtain ⟨k1, k2, k3, k4⟩ := k
  unfold IFly at hL ⊢
  rw [k1, k2, k3, k4, e39, e40, e73, e74]
  exact hL
theorem op_plan {m : Nat} {bk : Int} (hX : WXr σ.1 σ.2.2) (hM : WMr σm.1 σm.2.2) (hI : IMach m bk σ σm) (hL : IFly σ σm) (hc : IPl σ m) {a b c : Int} (ha : wr a = a) (hb : wr b = b) (hcc : wr c = c) (hN : 5000 < N) : Ok (f_X11_plan N σ 1 a b c) (fun v => Ok (f_X12_plan N σm 1 a b c) (fun w => wr v.2 = wr w.2 ∧ FX cellsF σ v.1 ∧ FM [41, 42] [75, 76] σm w.1 ∧ IPl v.1 m ∧ IFly v.1 w.1)) := by
  have hf := hL.fy
  obtain ⟨τ, r, e, p1, p2⟩ := leastPumped_eq (N := N) hX hI.1 hI.tk hf hc (wr_rg ha) (wr_rg hb) (wr_rg hcc) (by omega)
  obtain ⟨φ, r2, e2, q1, q2⟩ := planOf_eq (N := N) hI hf hL hM (wr_rg ha) (wr_rg hb) (wr_rg hcc) hN
  have hk := hI.tk
  unfold f_X11_plan f_X12_plan
  refine sx_gR hX rfl rfl rfl ?_
  refine sx_gR1 hX hI.2.1 ?_
  refine sx_rcv hX rfl rfl (ok_rw e (ok_some ?_))
  refine sm_rcv hM (ok_rw e2 (ok_some ?_))
  dsimp only
  rcases p2 with ⟨k1, k2, k3⟩ | ⟨k1, k2, k3, k4⟩
  · refine ⟨?_, p1, q1, by rw [k3]; exact hc, fly_of (pl := 0) (m := m) hL (.inr k3) q1⟩
    rcases q2 with ⟨j1, j2⟩ | ⟨j1, j2, _⟩
    · rw [k1, j1]
    · exfalso
      rcases k2 with k2 | k2
      · omega
      · exact k2 j1.1.2
  · have v := vld_iff.mp k1.2
    have e0 : f3 a b c 0 = a := if_pos rfl
    have e1 : f3 a b c 1 = b := rfl
    have e2 : f3 a b c 2 = c := rfl
    rw [e0, e1, e2] at v
    have h0 := hk 0 (by decide) (by decide)
    have h1 := hk 1 (by decide) (by decide)
    have h2 := hk 2 (by decide) (by decide)
    refine ⟨?_, p1, q1, ipl_of (by omega) k2 k3, fly_of hL (.inl k2) q1⟩
    rw [k4]
    rcases q2 with ⟨j1, j2⟩ | ⟨j1, j2, _⟩
    · rw [j1, if_neg (fun q => j2 ⟨k1, q⟩)]
    · rw [j2, if_pos j1.2]
theorem op_move {m : Nat} {bk : Int} (hX : WXr σ.1 σ.2.2) (hM : WMr σm.1 σm.2.2) (hI : IMach m bk σ σm) (hL : IFly σ σm) (hc : IPl σ m) {a b c st : Int} (ha : wr a = a) (hb : wr b = b) (hcc : wr c = c) (hst : wr st = st) (hN : 5000 < N) : Ok (f_X11_move N σ 1 a b c st) (fun v => Ok (f_X12_move N σm 1 a b c st) (fun w => wr v.2 = wr w.2 ∧ FX cellsF σ v.1 ∧ FM [41, 42] [75, 76] σm w.1 ∧ IPl v.1 m ∧ IFly v.1 w.1)) := by
  have hf := hL.fy
  have hn := hf.1
  have hs := wr_rg hst
  obtain ⟨τ, r, e, p1, p2, p3⟩ := moveOf_eq (N := N) hX hI.1 hI.tk hf hc (wr_rg ha) (wr_rg hb) (wr_rg hcc) hs (by omega)
  obtain ⟨φ, r2, e2, q1, q2⟩ := planOf_eq (N := N) hI hf hL hM (wr_rg ha) (wr_rg hb) (wr_rg hcc) hN
  have hk := hI.tk
  have h0 := hk 0 (by decide) (by decide)
  have h1 := hk 1 (by decide) (by decide)
  have h2 := hk 2 (by decide) (by decide)
  have e0 : f3 a b c 0 = a := if_pos rfl
  have e1 : f3 a b c 1 = b := rfl
  have e3 : f3 a b c 2 = c := rfl
  have own : IPl τ m ∧ ∀ {τm : St}, FM [41, 42] [75, 76] σm τm → IFly τ τm := by
    rcases p2 with ⟨k1, k2, k3⟩ | k3
    · have v := vld_iff.mp k3
      rw [e0, e1, e3] at v
      exact ⟨ipl_of (by omega) k1 k2, fun g => fly_of hL (.inl k1) g⟩
    · exact ⟨by rw [k3]; exact hc, fun g => fly_of (pl := 0) (m := m) hL (.inr k3) g⟩
  have hMφ := q1.M hM
  unfold f_X11_move f_X12_move
  refine sx_gR hX rfl rfl rfl ?_
  refine sx_gR1 hX hI.2.1 ?_
  refine sx_rcv hX rfl rfl (ok_rw e (ok_some ?_))
  refine sm_rcv hM (ok_rw e2 ?_)
  dsimp only
  rcases q2 with ⟨j1, j2⟩ | ⟨j1, j2, j3⟩
  · subst j1
    refine ok_wlt0 (by decide) (fun _ => ok_some ⟨?_, p1, q1, own.1, own.2 q1⟩) (fun q => by omega)
    rcases p3 with ⟨k1, _⟩ | ⟨k1, _⟩
    · rw [k1]
    · exact absurd k1.1 j2
  · have vr := VV_rg (H := σ.2.1 (m + 13)) (A := σ.2.1 (m + 12)) (lo := σ.2.1 74) (hi := σ.2.1 75) (n := fI σ 73 0) hf.2.1 (fI σ 73 0).toNat (f3 a b c)
    have vr' : 0 ≤ plV σ m a b c ∧ plV σ m a b c ≤ 1000 := ⟨vr.1, vr.2.1⟩
    have v := vld_iff.mp j1.1.2
    rw [e0, e1, e3] at v
    subst j2
    refine ok_wlt0 (by omega) (fun q => by omega) (fun _ => ?_)
    refine sm_gI hMφ ?_
    rw [show fI φ 1 73 = fI σ 73 0 from (q1.f (by decide)).trans hL.1.1]
    refine ok_isIn hs (by decide) (by omega) (fun h4 => ok_z1 (st_Lt ?_)) (fun h4 => ok_z0 (ok_some ⟨?_, p1, q1, own.1, own.2 q1⟩))
    rotate_left
    · rcases p3 with ⟨k1, _⟩ | ⟨k1, _⟩
      · rw [k1]
      · omega
    rcases p3 with ⟨_, k1⟩ | ⟨k1, k2⟩
    · exact absurd ⟨j1, by omega⟩ k1
    rw [f3_sM (fun t x y => (hk t x y).1) j1.1.2]
    refine ok_JnC (fun x => FM [41, 42] [75, 76] σm x ∧ MvF σ m (f3 a b c) st.toNat (fI x 1 75)) (fun x hx => ?_) (fun J hJ => ?_)
    · have hMx := hx.1.M hM
      refine sm_gI hMx (ok_some ⟨?_, p1, hx.1, own.1, own.2 hx.1⟩)
      dsimp only
      rw [MvF.uniq hf k2 hx.2]
    · unfold L_X12_move_42
      refine ok_fix (fun w => (0 ≤ w.2.2 ∧ w.2.2 ≤ st + 1) ∧ FM [41, 42] [75, 76] σm w.1 ∧ (∀ j : Int, 0 ≤ j → j ≤ fI σ 73 0 → TM σ m j w.1) ∧ (∃ f, Pth σ m (f3 a b c) w.2.2.toNat f ∧ w.2.1 = sM f ∧ Way σ m (a + b + c) w.2.2 f) ∧ (0 < w.2.2 → MvF σ m (f3 a b c) (w.2.2 - 1).toNat (fI w.1 1 75))) (fun w => (st + 1 - w.2.2).toNat) (fun back w hw hback => ?_) _ ⟨by dsimp only; omega, q1, j3, ⟨f3 a b c, (show Pth σ m (f3 a b c) 0 (f3 a b c) from fun _ _ _ => rfl), rfl, j1.1.2, by unfold sumF; rw [e0, e1, e3]; dsimp only; omega, by dsimp only; rw [Int.sub_zero]; exact j1.2, .inl rfl⟩, fun q => by dsimp only at q; omega⟩ (by dsimp only; omega)
      obtain ⟨χ, s, i⟩ := w
      obtain ⟨g1, g2, g3, ⟨f, g4, g5, g6⟩, g7⟩ := hw
      dsimp only at g1 g2 g3 g4 g5 g6 g7 hback ⊢
      have hMχ := g2.M hM
      refine ok_wlt (by omega) (by omega) (fun h5 => hJ _ ⟨g2, ?_⟩) (fun h5 => ?_)
      · have := g7 (by omega)
        rw [show i - 1 = st by omega] at this
        exact this
      · obtain ⟨ψ, v', e4, r1, r2⟩ := bestMove_eq (N := N) hI hf hL hMχ g2 (st := i) (by omega) (g3 (i + 1) (by omega) (by omega)) g6.1 g5 (by omega)
        have hMψ := r1.M hMχ
        refine sm_rcv hMχ (ok_rw e4 ?_)
        dsimp only
        have vlt := g6.2.2.1
        rcases r2 with ⟨_, _, k4⟩ | ⟨k4, k5, u, cc, k6, k7, k8⟩
        · omega
        have vrg := VV_rg (H := σ.2.1 (m + 13)) (A := σ.2.1 (m + 12)) (lo := σ.2.1 74) (hi := σ.2.1 75) (n := fI σ 73 0) hf.2.1 (fI σ 73 0 - i).toNat f
        have vrg' : 0 ≤ vX σ m (fI σ 73 0 - i).toNat f := vrg.1
        refine st_Jn (ok_wlt (by omega) (by decide) (fun _ => ?_) (fun q => by omega))
        refine sm_gI hMψ (st_Lt ?_)
        have ei : (((i.toNat : Nat) : Int) + 1) = i + 1 := by omega
        have hF' : FstX σ m (fI σ 73 0 - ((i.toNat : Int) + 1)).toNat f u cc := by rw [ei]; exact k6
        refine hback _ ⟨by dsimp only; omega, g2.trans (r1.mono (by simp) (by simp)), fun j x y => ?_, ⟨gB (gP f cc) u, ?_, k8, g6.next (by omega) k6⟩, fun _ => ?_⟩ (by dsimp only; omega)
        · have := g3 j x y
          intro s' x' y'
          dsimp only
          rw [r1.2.2.1 41 (by decide) (by decide)]
          exact this s' x' y'
        · dsimp only
          rw [show (i + 1).toNat = i.toNat + 1 by omega]
          exact ⟨f, u, cc, g4, hF', fun _ _ _ => rfl⟩
        · dsimp only
          rw [show (i + 1 - 1).toNat = i.toNat by omega]
          exact ⟨f, u, cc, g4, hF', k7⟩
end F
