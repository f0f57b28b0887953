/-! the pure part: a FLIGHT, PLAN and MOVE -/
section F
variable {N : Nat} {σ σm : St}
theorem bestMove_eq {m : Nat} {bk : Int} (hI : IMach m bk σ σm) (hf : FyOk σ) (hL : IFly σ σm) {υ0 : St} (hM : WMr υ0.1 υ0.2.2) (f0 : FM [41, 42] [75, 76] σm υ0) {st : Int} (hst : 0 ≤ st ∧ st < fI σ 73 0) (hT : TM σ m (st + 1) υ0) {f : Int → Int} (hv : vld (σ.2.1 (m + 13)) f) {s : Int} (hs : s = sM f) (hN : 1000 < N) : ∃ φ b, f_X12_bestMove N υ0 1 st s = some (φ, b) ∧ FM [42] [75, 76] υ0 φ ∧ ((b = 1000000 ∧ fI φ 1 75 = -1 ∧ vX σ m (fI σ 73 0 - st).toNat f = 1000) ∨ (b = vX σ m (fI σ 73 0 - st).toNat f ∧ b < 1000 ∧ ∃ u c, FstX σ m (fI σ 73 0 - (st + 1)).toNat f u c ∧ fI φ 1 75 = 100 * u + c ∧ fI φ 1 76 = sM (gB (gP f c) u))) := by
  have hn := hf.1
  have hP := hf.2.1
  have i4 := hI.2.2.2.1
  have i3 := hI.2.2.1
  have htk := hI.2.2.2.2.1.2.2.2.2
  have rt := hI.2.2.2.2.2.2.2.2.1
  have zer : ∀ t, fI σ m 15 ≤ t → t < 3 → 0 ≤ t → f t = 0 ∧ σ.2.1 (m + 13) t = 0 := fun t x y z => by have h1 := (rt t z y).2 x; have h2 := hv t z y; omega
  have ebk : ∀ {φ : St}, FM [42] [75, 76] υ0 φ → fI φ 1 31 = bk ∧ φ.2.1 8 bk = fI σ m 15 ∧ fI φ 1 74 = fI σ 73 1 ∧ WMr φ.1 φ.2.2 := fun {φ} gF => by
    have gφ : FM [41, 42] [75, 76] σm φ := f0.trans (gF.mono (by simp) (by simp))
    exact ⟨(gφ.f (by decide)).trans i3, by rw [gφ.2.2.1 8 (by decide) (by decide)]; exact htk.1, (gφ.f (by decide)).trans hL.2.1.1, gF.M hM⟩
  have H : Ok (f_X12_bestMove N υ0 1 st s) (fun w => FM [42] [75, 76] υ0 w.1 ∧ Bst σ m (fI σ 73 0 - (st + 1)).toNat f 108 w.1 w.2) := by
    unfold f_X12_bestMove
    refine sm_pI hM ?_
    unfold L_X12_bestMove_12
    refine ok_fix (fun w => (0 ≤ w.2.2 ∧ w.2.2 ≤ fI σ m 15) ∧ FM [42] [75, 76] υ0 w.1 ∧ Bst σ m (fI σ 73 0 - (st + 1)).toNat f (36 * w.2.2) w.1 w.2.1) (fun w => (fI σ m 15 - w.2.2).toNat) (fun back w hw hback => ?_) _ ⟨by dsimp only; omega, FM.refl.uF (by simp), .inl ⟨rfl, fI_eq, fun u c hr k => by have := hr.1; have := hr.2; dsimp only at k; omega⟩⟩ (by dsimp only; omega)
    obtain ⟨φ, b, u⟩ := w
    obtain ⟨g1, gF, gB'⟩ := hw
    dsimp only at g1 gF gB' hback ⊢
    obtain ⟨x1, x2, x3, hMφ⟩ := ebk gF
    refine sm_rcv hMφ (ok_rw (tanks_eq hMφ x1 i4) ?_)
    dsimp only
    rw [x2]
    refine ok_wlt (by omega) (by omega) (fun h4 => ?_) (fun h4 => ok_some ⟨gF, gB'.skip (by omega) (fun u' c' hr k1 k2 => nfu hv zer hr.2.1 ⟨by have := hr.2; omega, hr.1.1, hr.1.2⟩)⟩)
    refine ok_JnC (fun x => FM [42] [75, 76] υ0 x.1 ∧ Bst σ m (fI σ 73 0 - (st + 1)).toNat f (36 * (u + 1)) x.1 x.2) (fun x hx => st_Lt (hback _ ⟨by dsimp only; omega, hx.1, hx.2⟩ (by dsimp only; omega))) (fun J hJ => ?_)
    unfold L_X12_bestMove_24
    refine ok_fix (fun w => (0 ≤ w.2.2 ∧ w.2.2 ≤ fI σ 73 1 + 1) ∧ FM [42] [75, 76] υ0 w.1 ∧ Bst σ m (fI σ 73 0 - (st + 1)).toNat f (36 * u + 9 * w.2.2) w.1 w.2.1) (fun w => (fI σ 73 1 + 1 - w.2.2).toNat) (fun back2 w hw hback2 => ?_) _ ⟨by dsimp only; omega, gF, by dsimp only; rw [show 36 * u + 9 * 0 = 36 * u by omega]; exact gB'⟩ (by dsimp only; omega)
    obtain ⟨φ2, b2, p⟩ := w
    obtain ⟨g2, gF2, gB2⟩ := hw
    dsimp only at g2 gF2 gB2 hback2 ⊢
    obtain ⟨y1, y2, y3, hMφ2⟩ := ebk gF2
    refine sm_gI hMφ2 ?_
    rw [y3]
    refine ok_wlt (by omega) (by omega) (fun h5 => hJ _ ⟨gF2, gB2.skip (by omega) (fun u' c' hr k1 k2 _ => by have := hr.1; have := hr.2; omega)⟩) (fun h5 => ?_)
    refine ok_JnC (fun x => FM [42] [75, 76] υ0 x.1 ∧ Bst σ m (fI σ 73 0 - (st + 1)).toNat f (36 * u + 9 * (p + 1)) x.1 x.2) (fun x hx => st_Lt (hback2 _ ⟨by dsimp only; omega, hx.1, hx.2⟩ (by dsimp only; omega))) (fun J2 hJ2 => ?_)
    unfold L_X12_bestMove_36
    refine ok_fix (fun w => (0 ≤ w.2.2 ∧ w.2.2 ≤ fI σ m 15 ∧ (p = 0 → w.2.2 ≤ 1)) ∧ FM [42] [75, 76] υ0 w.1 ∧ Bst σ m (fI σ 73 0 - (st + 1)).toNat f (36 * u + 9 * p + 3 * w.2.2) w.1 w.2.1) (fun w => (fI σ m 15 - w.2.2).toNat) (fun back3 w hw hback3 => ?_) _ ⟨by dsimp only; omega, gF2, by dsimp only; rw [show 36 * u + 9 * p + 3 * 0 = 36 * u + 9 * p by omega]; exact gB2⟩ (by dsimp only; omega)
    obtain ⟨φ3, b3, a⟩ := w
    obtain ⟨g3, gF3, gB3⟩ := hw
    dsimp only at g3 gF3 gB3 hback3 ⊢
    obtain ⟨z1, z2, z3, hMφ3⟩ := ebk gF3
    refine sm_rcv hMφ3 (ok_rw (tanks_eq hMφ3 z1 i4) ?_)
    dsimp only
    rw [z2]
    have ex : (fI σ m 15 ≤ a ∨ (p = 0 ∧ a ≠ 0)) → Ok (J2 (φ3, b3)) (fun w => FM [42] [75, 76] υ0 w.1 ∧ Bst σ m (fI σ 73 0 - (st + 1)).toNat f 108 w.1 w.2) := fun q => hJ2 _ ⟨gF3, gB3.skip (by omega) (fun u' c' hr k1 k2 => by
      have h1 := hr.1
      have h2 := hr.2
      have e : u' = u := by omega
      refine nfe (n := fI σ m 15) (by omega) hv zer h2.1 ?_
      rcases q with q | q
      · exact .inr (.inl (by omega))
      · exact .inl (by omega))⟩
    refine ok_wlt (by omega) (by omega) (fun h6 => ?_) (fun h6 => ex (.inl (by omega)))
    refine ok_JnC (fun _ => p = 0 → a = 0) (fun _ hpa => ?_) (fun j hj => ?_)
    · refine ok_JnC (fun x => FM [42] [75, 76] υ0 x.1 ∧ Bst σ m (fI σ 73 0 - (st + 1)).toNat f (36 * u + 9 * p + 3 * (a + 1)) x.1 x.2) (fun x hx => st_Lt (hback3 _ ⟨by dsimp only; omega, hx.1, hx.2⟩ (by dsimp only; omega))) (fun J3 hJ3 => ?_)
      exact bm58 hI hf hL hM f0 hst hT hv hs (u := u) (p := p) (a := a) (by omega) (by omega) (by omega) hpa rfl rfl rfl (fun φ b q1 q2 => hJ3 _ ⟨q1, by dsimp only; rw [show 36 * u + 9 * p + 3 * (a + 1) = 36 * u + 9 * p + 3 * a + 3 by omega]; exact q2⟩) hN gF3 gB3
    · refine ok_weqc (by omega) (fun h5 => hj () (fun _ => h5)) (fun h5 => ?_)
      exact ok_w0lt (by omega) (fun h6 => hj () (fun q => by omega)) (fun h6 => ex (.inr (by omega)))
  obtain ⟨⟨φ, b⟩, e, h1, h2⟩ := H
  have := h2.fin hf (by omega)
  rw [show (fI σ 73 0 - (st + 1)).toNat + 1 = (fI σ 73 0 - st).toNat by omega] at this
  exact ⟨φ, b, e, h1, this⟩
/-- a row of the table -/
def RwM (σ : St) (m : Nat) (st s : Int) (υ : St) : Prop := (vld (σ.2.1 (m + 13)) (fm s) → υ.2.1 41 (4096 * st + s) = cvF (vX σ m (fI σ 73 0 - st).toNat (fm s))) ∧ (¬ vld (σ.2.1 (m + 13)) (fm s) → υ.2.1 41 (4096 * st + s) = 1000000)
theorem fm_rg {s : Int} (hs : 0 ≤ s ∧ s < 4096) (t : Int) : 0 ≤ fm s t ∧ fm s t < 16 := by
  unfold fm
  split
  · omega
  · split <;> omega
theorem sM_fm {s : Int} (hs : 0 ≤ s ∧ s < 4096) : s = sM (fm s) := by
  unfold sM fm
  rw [if_pos rfl, if_neg (by decide), if_pos rfl, if_neg (by decide), if_neg (by decide)]
  omega
theorem fillPlan_eq {m : Nat} {bk : Int} (hI : IMach m bk σ σm) (hf : FyOk σ) (hL : IFly σ σm) (hM : WMr σm.1 σm.2.2) (hN : 5000 < N) : ∃ φ, f_X12_fillPlan N σm 1 = some (φ, 0) ∧ FM [41, 42] [75, 76] σm φ ∧ ∀ j : Int, 0 ≤ j → j ≤ fI σ 73 0 → TM σ m j φ := by
  have hn := hf.1
  have hP := hf.2.1
  have i4 := hI.2.2.2.1
  have i3 := hI.2.2.1
  have htk := hI.2.2.2.2.1.2.2.2.2
  have rt := hI.2.2.2.2.2.2.2.2.1
  have hk := hI.tk
  have ebk : ∀ {φ : St}, FM [41, 42] [75, 76] σm φ → fI φ 1 31 = bk ∧ φ.2.1 8 bk = fI σ m 15 ∧ fI φ 1 73 = fI σ 73 0 ∧ WMr φ.1 φ.2.2 := fun {φ} gφ => by
    exact ⟨(gφ.f (by decide)).trans i3, by rw [gφ.2.2.1 8 (by decide) (by decide)]; exact htk.1, (gφ.f (by decide)).trans hL.1.1, gφ.M hM⟩
  have H : Ok (f_X12_fillPlan N σm 1) (fun w => w.2 = 0 ∧ FM [41, 42] [75, 76] σm w.1 ∧ ∀ j : Int, 0 ≤ j → j ≤ fI σ 73 0 → TM σ m j w.1) := by
    unfold f_X12_fillPlan
    refine ok_JnC (fun x => FM [41, 42] [75, 76] σm x ∧ TM σ m (fI σ 73 0) x) (fun x hx => ?_) (fun J hJ => ?_)
    · obtain ⟨gF, gT⟩ := hx
      obtain ⟨x1, x2, x3, hMx⟩ := ebk gF
      refine sm_gI hMx (st_Lt ?_)
      rw [x3]
      unfold L_X12_fillPlan_38
      refine ok_fix (fun w => (-1 ≤ w.2 ∧ w.2 < fI σ 73 0) ∧ FM [41, 42] [75, 76] σm w.1 ∧ ∀ j : Int, w.2 < j → j ≤ fI σ 73 0 → TM σ m j w.1) (fun w => (w.2 + 1).toNat) (fun back w hw hback => ?_) _ ⟨by dsimp only; omega, gF, fun j a b => by dsimp only at a; rw [show j = fI σ 73 0 by omega]; exact gT⟩ (by dsimp only; omega)
      obtain ⟨φ, st⟩ := w
      obtain ⟨g1, gF1, gT1⟩ := hw
      dsimp only at g1 gF1 gT1 hback ⊢
      refine ok_wlt0 (by omega) (fun h1 => ok_some ⟨rfl, gF1, fun j a b => gT1 j (by omega) b⟩) (fun h1 => ?_)
      refine ok_JnC (fun x => FM [41, 42] [75, 76] σm x ∧ ∀ j : Int, st - 1 < j → j ≤ fI σ 73 0 → TM σ m j x) (fun x hx => st_Lt (hback _ ⟨by dsimp only; omega, hx.1, fun j a b => hx.2 j (by dsimp only at a; omega) b⟩ (by dsimp only; omega))) (fun J2 hJ2 => ?_)
      unfold L_X12_fillPlan_44
      refine ok_fix (fun w => (0 ≤ w.2 ∧ w.2 ≤ 4096) ∧ FM [41, 42] [75, 76] σm w.1 ∧ (∀ j : Int, st < j → j ≤ fI σ 73 0 → TM σ m j w.1) ∧ ∀ s : Int, 0 ≤ s → s < w.2 → RwM σ m st s w.1) (fun w => (4096 - w.2).toNat) (fun back2 w hw hback2 => ?_) _ ⟨by dsimp only; omega, gF1, gT1, fun s a b => by dsimp only at b; omega⟩ (by dsimp only; omega)
      obtain ⟨φ2, s⟩ := w
      obtain ⟨g2, gF2, gT2, gR2⟩ := hw
      dsimp only at g2 gF2 gT2 gR2 hback2 ⊢
      obtain ⟨y1, y2, y3, hMy⟩ := ebk gF2
      refine ok_wlt (by omega) (by decide) (fun h2 => ?_) (fun h2 => ?_)
      · obtain ⟨χ, e, p1, p2⟩ := fillUp_eq (N := N) hMy (s := s) (by omega)
        refine sm_rcv hMy (ok_rw e ?_)
        have gχ : FM [41, 42] [75, 76] σm χ := gF2.trans (p1.mono (by simp) (by simp))
        obtain ⟨z1, z2, z3, hMz⟩ := ebk gχ
        have ec : ∀ q, 4 ≤ q → q ≤ 40 → χ.2.1 q = σm.2.1 q := fun q x y => gχ.2.2.1 q (by omega) (by simp; omega)
        have e41 : χ.2.1 41 = φ2.2.1 41 := p1.2.2.1 41 (by decide) (by decide)
        have pos : ∀ t, 0 ≤ t → t < fI σ m 15 → σm.2.1 20 (3 * bk + t) = σ.2.1 (m + 13) t := fun t x y => ((rt t x (by omega)).1 y).2.2.2.1
        have frg := fm_rg (s := s) (by omega)
        refine ok_JnC (fun x => (x = 0 ∧ ¬ vld (σ.2.1 (m + 13)) (fm s)) ∨ (x = 1 ∧ vld (σ.2.1 (m + 13)) (fm s))) (fun x hx => ?_) (fun J3 hJ3 => ?_)
        · refine sm_gR hMz rfl ?_
          refine ok_JnC (fun y => FM [42] [75, 76] χ y.1 ∧ ((vld (σ.2.1 (m + 13)) (fm s) → y.2 = cvF (vX σ m (fI σ 73 0 - st).toNat (fm s))) ∧ (¬ vld (σ.2.1 (m + 13)) (fm s) → y.2 = 1000000))) (fun y hy => ?_) (fun J4 hJ4 => ?_)
          · obtain ⟨φ4, v4⟩ := y
            obtain ⟨hy1, hy2⟩ := hy
            dsimp only at hy1 hy2 ⊢
            refine sm_sI (hy1.M hMz) rfl rfl (by decide) (by omega) (by omega) (st_Lt ?_)
            have e41' : φ4.2.1 41 = φ2.2.1 41 := (hy1.2.2.1 41 (by decide) (by decide)).trans e41
            refine hback2 _ ⟨by dsimp only; omega, (gχ.trans (hy1.mono (by simp) (by simp))).uI (by decide) (by simp), fun j a b => ?_, fun s' a b => ?_⟩ (by dsimp only; omega)
            · have := gT2 j a b
              intro s' a' b'
              dsimp only
              rw [uI_j (by omega), e41']
              exact this s' a' b'
            · dsimp only at b ⊢
              by_cases hs' : s' = s
              · subst hs'
                unfold RwM
                rw [uI_eq]
                exact hy2
              · have := gR2 s' a (by omega)
                unfold RwM at this ⊢
                rw [uI_j (by omega), e41']
                exact this
          · refine ok_weqc (by omega) (fun h3 => ?_) (fun h3 => ?_)
            · exact hJ4 _ ⟨FM.refl, fun q => by rcases hx with k | k; exact absurd q k.2; omega, fun _ => rfl⟩
            · have hv : vld (σ.2.1 (m + 13)) (fm s) := by rcases hx with k | k; omega; exact k.2
              have hT3 : TM σ m (st + 1) χ := fun s' x y => by rw [e41]; exact gT2 (st + 1) (by omega) (by omega) s' x y
              obtain ⟨ψ, b, e2, r1, r2⟩ := bestMove_eq (N := N) hI hf hL hMz gχ (st := st) (by omega) hT3 hv (sM_fm (by omega)) (by omega)
              refine sm_rcv hMz (ok_rw e2 ?_)
              dsimp only
              refine hJ4 _ ⟨r1, fun _ => ?_, fun q => absurd hv q⟩
              dsimp only
              unfold cvF
              rcases r2 with ⟨k1, _, k3⟩ | ⟨k1, k2, _⟩
              · rw [k3, if_neg (by decide)]; exact k1
              · rw [if_pos (by omega)]; exact k1
        · unfold L_X12_fillPlan_61
          dsimp only
          refine ok_fix (fun w => (0 ≤ w.2 ∧ w.2 ≤ 3) ∧ ((w.1 = 0 ∧ ¬ vld (σ.2.1 (m + 13)) (fm s)) ∨ (w.1 = 1 ∧ ∀ t : Int, 0 ≤ t → t < w.2 → fm s t ≤ σ.2.1 (m + 13) t))) (fun w => (3 - w.2).toNat) (fun back3 w hw hback3 => ?_) _ ⟨by dsimp only; omega, .inr ⟨rfl, fun t a b => by dsimp only at b; omega⟩⟩ (by dsimp only; omega)
          obtain ⟨ok, t⟩ := w
          obtain ⟨g3, g4⟩ := hw
          dsimp only at g3 g4 hback3 ⊢
          refine ok_wlt (by omega) (by decide) (fun h3 => ?_) (fun h3 => hJ3 _ ?_)
          · refine ok_JnC (fun x => (x = 0 ∧ ¬ vld (σ.2.1 (m + 13)) (fm s)) ∨ (x = 1 ∧ ∀ t' : Int, 0 ≤ t' → t' < t + 1 → fm s t' ≤ σ.2.1 (m + 13) t')) (fun x hx => st_Lt (hback3 _ ⟨by dsimp only; omega, hx⟩ (by dsimp only; omega))) (fun J4 hJ4 => ?_)
            refine ok_JnC (fun _ => ¬ vld (σ.2.1 (m + 13)) (fm s)) (fun _ q => hJ4 _ (.inl ⟨rfl, q⟩)) (fun J5 hJ5 => ?_)
            refine ok_weqc (by omega) (fun h4 => hJ5 () (by rcases g4 with k | k; exact k.2; omega)) (fun h4 => ?_)
            have g5 : ∀ t' : Int, 0 ≤ t' → t' < t → fm s t' ≤ σ.2.1 (m + 13) t' := by rcases g4 with k | k; omega; exact k.2
            refine sm_rcv hMz (ok_rw (tanks_eq hMz z1 i4) ?_)
            dsimp only
            rw [z2]
            have ft := frg t
            have kt := hk t (by omega) (by omega)
            refine ok_JnC (fun _ => fm s t ≤ σ.2.1 (m + 13) t) (fun _ q => hJ4 _ (.inr ⟨rfl, fun t' a b => ?_⟩)) (fun J6 hJ6 => ?_)
            · by_cases k : t' = t
              · rw [k]; exact q
              · exact g5 t' a (by omega)
            have no : ¬ fm s t ≤ σ.2.1 (m + 13) t → ¬ vld (σ.2.1 (m + 13)) (fm s) := fun q k => q (k t (by omega) (by omega)).2
            refine ok_wlt (by omega) (by omega) (fun h5 => ?_) (fun h5 => ?_)
            · refine sm_gR hMz rfl ?_
              refine sm_aI hMz rfl rfl (by decide) (by omega) (by omega) ?_
              rw [p2 t (by omega) (by omega)]
              refine sm_gR hMz rfl ?_
              refine sm_gI hMz ?_
              rw [z1]
              refine sm_aI hMz rfl rfl (by decide) (by omega) (by omega) ?_
              rw [ec 20 (by decide) (by decide), pos t (by omega) h5]
              exact ok_wlt (by omega) (by omega) (fun h6 => hJ5 () (no (by omega))) (fun h6 => hJ6 () h6)
            · refine sm_gR hMz rfl ?_
              refine sm_aI hMz rfl rfl (by decide) (by omega) (by omega) ?_
              rw [p2 t (by omega) (by omega)]
              have := (rt t (by omega) (by omega)).2 h5
              exact ok_weqc (by omega) (fun h6 => hJ6 () (by omega)) (fun h6 => hJ5 () (no (by omega)))
          · rcases g4 with k | ⟨k1, k2⟩
            · exact .inl k
            · exact .inr ⟨k1, fun t' a b => ⟨(frg t').1, k2 t' a (by omega)⟩⟩
      · refine hJ2 _ ⟨gF2, fun j a b => ?_⟩
        by_cases hj : j = st
        · subst hj
          exact fun s' x y => ⟨fun q => by omega, fun _ => gR2 s' x (by omega)⟩
        · exact gT2 j (by omega) b
    · unfold L_X12_fillPlan_2
      refine ok_fix (fun w => (0 ≤ w.2 ∧ w.2 ≤ 4096) ∧ FM [41, 42] [75, 76] σm w.1 ∧ ∀ s : Int, 0 ≤ s → s < w.2 → w.1.2.1 41 (4096 * fI σ 73 0 + s) = 0) (fun w => (4096 - w.2).toNat) (fun back w hw hback => ?_) _ ⟨by dsimp only; omega, FM.refl, fun s a b => by dsimp only at b; omega⟩ (by dsimp only; omega)
      obtain ⟨φ, s⟩ := w
      obtain ⟨g1, gF, gR⟩ := hw
      dsimp only at g1 gF gR hback ⊢
      obtain ⟨x1, x2, x3, hMx⟩ := ebk gF
      refine ok_wlt (by omega) (by decide) (fun h1 => ?_) (fun h1 => hJ _ ⟨gF, fun s' a b => ⟨fun _ => gR s' a (by omega), fun q => by omega⟩⟩)
      refine sm_gR hMx rfl ?_
      refine sm_gI hMx ?_
      rw [x3]
      refine sm_sI hMx rfl rfl (by decide) (by omega) (by omega) (st_Lt ?_)
      refine hback _ ⟨by dsimp only; omega, gF.uI (by decide) (by simp), fun s' a b => ?_⟩ (by dsimp only; omega)
      dsimp only at b ⊢
      by_cases hs' : s' = s
      · rw [hs', uI_eq]
      · rw [uI_j (by omega)]; exact gR s' a (by omega)
  obtain ⟨⟨φ, v⟩, e, h1, h2, h3⟩ := H
  dsimp only at h1 h2 h3
  subst h1
  exact ⟨φ, e, h2, h3⟩
end F
