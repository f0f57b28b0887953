/-! the pure part: a FLIGHT, the reference's moves -/
set_option maxRecDepth 100000 in
theorem fuel_bits : ∀ s : Nat, s < 4096 → andZ (s : Int) 15 = ((s % 16 : Nat) : Int) ∧ andZ (shrZ (s : Int) 4) 15 = ((s / 16 % 16 : Nat) : Int) ∧ andZ (shrZ (s : Int) 8) 15 = ((s / 256 % 16 : Nat) : Int) := by decide +kernel
set_option maxRecDepth 100000 in
theorem state_bits : ∀ z : Nat, z < 16 → ∀ y : Nat, y < 16 → ∀ x : Nat, x < 16 → orZ (orZ (x : Int) (shlZ (y : Int) 4)) (shlZ (z : Int) 8) = ((x + 16 * y + 256 * z : Nat) : Int) := by decide +kernel
def fm (s : Int) : Int → Int := fun t => if t = 0 then s % 16 else if t = 1 then s / 16 % 16 else s / 256 % 16
def sM (f : Int → Int) : Int := f 0 + 16 * f 1 + 256 * f 2
theorem fm_sM {f : Int → Int} (h0 : 0 ≤ f 0 ∧ f 0 < 16) (h1 : 0 ≤ f 1 ∧ f 1 < 16) (h2 : 0 ≤ f 2 ∧ f 2 < 16) : ag3 (fm (sM f)) f := by
  intro t t0 t1
  have : t = 0 ∨ t = 1 ∨ t = 2 := by omega
  unfold fm sM
  rcases this with rfl | rfl | rfl
  · rw [if_pos rfl]; omega
  · rw [if_neg (by decide), if_pos rfl]; omega
  · rw [if_neg (by decide), if_neg (by decide)]; omega
def cvF (x : Int) : Int := if x < 1000 then x else 1000000
section F
variable {N : Nat} {σ σm : St}
theorem fillUp_eq {τ : St} (hM : WMr τ.1 τ.2.2) {s : Int} (hs : 0 ≤ s ∧ s < 4096) : ∃ υ, f_X12_fillUp N τ 1 s = some (υ, 0) ∧ FM [42] [] τ υ ∧ ∀ t : Int, 0 ≤ t → t < 3 → υ.2.1 42 t = fm s t := by
  have b := fuel_bits s.toNat (by omega)
  have hc : ((s.toNat : Nat) : Int) = s := by omega
  rw [hc] at b
  have H : Ok (f_X12_fillUp N τ 1 s) (fun w => w.2 = 0 ∧ FM [42] [] τ w.1 ∧ ∀ t : Int, 0 ≤ t → t < 3 → w.1.2.1 42 t = fm s t) := by
    unfold f_X12_fillUp
    refine sm_gR hM rfl ?_
    refine sm_sI hM rfl rfl (by decide) (by decide) (by decide) ?_
    refine sm_gR (σ := uI τ 42 0 (andZ s 15)) hM rfl ?_
    refine sm_sI (σ := uI τ 42 0 (andZ s 15)) hM rfl rfl (by decide) (by decide) (by decide) ?_
    refine sm_gR (σ := uI (uI τ 42 0 (andZ s 15)) 42 1 (andZ (shrZ s 4) 15)) hM rfl ?_
    refine sm_sI (σ := uI (uI τ 42 0 (andZ s 15)) 42 1 (andZ (shrZ s 4) 15)) hM rfl rfl (by decide) (by decide) (by decide) (ok_some ?_)
    refine ⟨rfl, ((FM.refl.uI (by decide) (by simp)).uI (by decide) (by simp)).uI (by decide) (by simp), fun t a c => ?_⟩
    have : t = 0 ∨ t = 1 ∨ t = 2 := by omega
    dsimp only
    unfold fm
    rcases this with rfl | rfl | rfl
    · rw [uI_j (by decide), uI_j (by decide), uI_eq, if_pos rfl, b.1]; omega
    · rw [uI_j (by decide), uI_eq, if_neg (by decide), if_pos rfl, b.2.1]; omega
    · rw [uI_eq, if_neg (by decide), if_neg (by decide), b.2.2]; omega
  obtain ⟨⟨υ, v⟩, e, h1, h2⟩ := H
  dsimp only at h1 h2
  subst h1
  exact ⟨υ, e, h2⟩
theorem stateNow_eq {τ : St} (hM : WMr τ.1 τ.2.2) {f : Int → Int} (h : ∀ t : Int, 0 ≤ t → t < 3 → τ.2.1 42 t = f t) (h0 : 0 ≤ f 0 ∧ f 0 < 16) (h1 : 0 ≤ f 1 ∧ f 1 < 16) (h2 : 0 ≤ f 2 ∧ f 2 < 16) : f_X12_stateNow N τ 1 = some (τ, sM f) := by
  have b := state_bits (f 2).toNat (by omega) (f 1).toNat (by omega) (f 0).toNat (by omega)
  have H : Ok (f_X12_stateNow N τ 1) (fun q => q = (τ, sM f)) := by
    unfold f_X12_stateNow
    refine sm_gR hM rfl ?_
    refine sm_aI hM rfl rfl (by decide) (by decide) (by decide) ?_
    refine sm_gR hM rfl ?_
    refine sm_aI hM rfl rfl (by decide) (by decide) (by decide) ?_
    refine sm_gR hM rfl ?_
    refine sm_aI hM rfl rfl (by decide) (by decide) (by decide) (ok_some ?_)
    rw [h 0 (by decide) (by decide), h 1 (by decide) (by decide), h 2 (by decide) (by decide)]
    rw [show (((f 0).toNat : Nat) : Int) = f 0 by omega, show (((f 1).toNat : Nat) : Int) = f 1 by omega, show (((f 2).toNat : Nat) : Int) = f 2 by omega] at b
    rw [b]
    unfold sM
    congr 1
    omega
  obtain ⟨q, e, rfl⟩ := H
  exact e
def Vx (σ : St) (m : Nat) (d : Nat) (f : Int → Int) : Int := vX σ m d f
/-- a step's part of the reference's table -/
def TM (σ : St) (m : Nat) (st : Int) (υ : St) : Prop := ∀ s : Int, 0 ≤ s → s < 4096 → (st = fI σ 73 0 → υ.2.1 41 (4096 * st + s) = 0) ∧ (st < fI σ 73 0 → (vld (σ.2.1 (m + 13)) (fm s) → υ.2.1 41 (4096 * st + s) = cvF (vX σ m (fI σ 73 0 - st).toNat (fm s))) ∧ (¬ vld (σ.2.1 (m + 13)) (fm s) → υ.2.1 41 (4096 * st + s) = 1000000))
/-- what a MOVE is worth -/
def tvM (σ : St) (m : Nat) (d : Nat) (f : Int → Int) (u c : Int) (v : Int) : Prop := (v = 1000000 ∧ ¬ (okP (σ.2.1 (m + 13)) f c ∧ 0 < gP f c u ∧ wX σ m d (gB (gP f c) u) < 1000)) ∨ ((okP (σ.2.1 (m + 13)) f c ∧ 0 < gP f c u ∧ wX σ m d (gB (gP f c) u) < 1000) ∧ v = c / 9 + wX σ m d (gB (gP f c) u))
theorem tryMove_eq {m : Nat} {bk : Int} (hI : IMach m bk σ σm) (hf : FyOk σ) (hL : IFly σ σm) {υ0 : St} (hM : WMr υ0.1 υ0.2.2) (f0 : FM [41, 42] [75, 76] σm υ0) {st : Int} (hst : 0 ≤ st ∧ st < fI σ 73 0) (hT : TM σ m (st + 1) υ0) {f : Int → Int} (hv : vld (σ.2.1 (m + 13)) f) {s : Int} (hs : s = sM f) {p a b u c : Int} (hu : 0 ≤ u ∧ u < fI σ m 15) (hp : 0 ≤ p ∧ p ≤ 3) (ha : 0 ≤ a ∧ a < fI σ m 15) (hb : 0 ≤ b ∧ b < fI σ m 15) (hc : (p = 0 ∧ c = 0) ∨ (0 < p ∧ c = 9 * p + 3 * a + b)) (hN : 1000 < N) : ∃ φ v, f_X12_tryMove N υ0 1 st s p a b u = some (φ, v) ∧ FM [42] [] υ0 φ ∧ tvM σ m (fI σ 73 0 - (st + 1)).toNat f u c v ∧ (v < 1000000 → ∀ t : Int, 0 ≤ t → t < 3 → φ.2.1 42 t = gB (gP f c) u t) := by
  have hk := hI.tk
  have i3 := hI.2.2.1
  have i4 := hI.2.2.2.1
  have rt := hI.2.2.2.2.2.2.2.2.1
  have htk := hI.2.2.2.2.1.2.2.2.2
  have hn := hf.1
  have v3 := vld_iff.mp hv
  have k0 := hk 0 (by decide) (by decide)
  have k1 := hk 1 (by decide) (by decide)
  have k2 := hk 2 (by decide) (by decide)
  have ags := fm_sM (f := f) (by omega) (by omega) (by omega)
  have hrg : 0 ≤ s ∧ s < 4096 := by rw [hs]; unfold sM; omega
  obtain ⟨υ, e, p1, p2⟩ := fillUp_eq (N := N) hM hrg
  have hMu := p1.M hM
  have q42 : ∀ t : Int, 0 ≤ t → t < 3 → υ.2.1 42 t = f t := fun t x y => by rw [p2 t x y, hs]; exact ags t x y
  have g1 : FM [41, 42] [75, 76] σm υ := f0.trans (p1.mono (by simp) (by simp))
  have ec : ∀ q, 4 ≤ q → q ≤ 40 → υ.2.1 q = σm.2.1 q := fun q x y => g1.2.2.1 q (by omega) (by simp; omega)
  have eb : fI υ 1 31 = bk := (g1.f (by decide)).trans i3
  have hTu : TM σ m (st + 1) υ := fun s' x y => by rw [p1.2.2.1 41 (by decide) (by decide)]; exact hT s' x y
  have pos : ∀ t, 0 ≤ t → t < fI σ m 15 → σm.2.1 20 (3 * bk + t) = σ.2.1 (m + 13) t ∧ σm.2.1 19 (3 * bk + t) = σ.2.1 (m + 12) t := fun t x y => by have := (rt t x (by omega)).1 y; exact ⟨this.2.2.2.1, this.1⟩
  have zer : ∀ t, fI σ m 15 ≤ t → t < 3 → 0 ≤ t → f t = 0 ∧ σ.2.1 (m + 12) t = 0 ∧ σ.2.1 (m + 13) t = 0 := fun t x y z => by have h1 := (rt t z y).2 x; have h2 := hv t z y; omega
  have cp : c / 9 = p := by omega
  have H : Ok (f_X12_tryMove N υ0 1 st s p a b u) (fun w => FM [42] [] υ0 w.1 ∧ tvM σ m (fI σ 73 0 - (st + 1)).toNat f u c w.2 ∧ (w.2 < 1000000 → ∀ t : Int, 0 ≤ t → t < 3 → w.1.2.1 42 t = gB (gP f c) u t)) := by
    unfold f_X12_tryMove
    refine sm_rcv hM (ok_rw e (st_Jn ?_))
    have far : ∀ {φ : St}, FM [42] [] υ0 φ → ¬ (okP (σ.2.1 (m + 13)) f c ∧ 0 < gP f c u ∧ wX σ m (fI σ 73 0 - (st + 1)).toNat (gB (gP f c) u) < 1000) → Ok (some (φ, (1000000 : Int))) (fun w : St × Int => FM [42] [] υ0 w.1 ∧ tvM σ m (fI σ 73 0 - (st + 1)).toNat f u c w.2 ∧ (w.2 < 1000000 → ∀ t : Int, 0 ≤ t → t < 3 → w.1.2.1 42 t = gB (gP f c) u t)) := fun h1 h2 => ok_some ⟨h1, .inl ⟨rfl, h2⟩, fun q => by dsimp only at q; omega⟩
    -- behind the pumping
    have tail : ∀ φ, FM [42] [] υ0 φ → (∀ t : Int, 0 ≤ t → t < 3 → φ.2.1 42 t = gP f c t) → okP (σ.2.1 (m + 13)) f c → Ok (Option.bind (gR shm φ 12 1 72) fun fuel_4 => Option.bind (aI shm φ 1 fuel_4 u) fun a5 => (if wr a5 = 0 then some (φ, (1000000 : Int)) else Option.bind (gR shm φ 12 1 72) fun fuel_6 => Option.bind (aI shm φ 1 fuel_6 u) fun a7 => Option.bind (sI shm φ 1 fuel_6 u (a7 - 1)) fun σ8 => Jn (fun t9 : Int × Int => Option.bind (gR shm σ8 12 1 69) fun from_10 => Option.bind (aI shm σ8 1 from_10 st) fun a11 => (if wr t9.2 < wr (a11 * t9.1) then some (σ8, (1000000 : Int)) else Option.bind (gR shm σ8 12 1 70) fun to_12 => Option.bind (aI shm σ8 1 to_12 st) fun a13 => (if wr (a13 * t9.1) < wr t9.2 then some (σ8, (1000000 : Int)) else Option.bind (gR shm σ8 12 1 71) fun least_14 => Option.bind (rcv shm σ8 12 1 (f_X12_stateNow N σ8 1)) fun q15 => Option.bind (aI shm σ8 1 least_14 ((4096 * (st + 1)) + q15.2)) fun a16 => (if wr a16 < wr 1000000 then some (σ8, (a16 + p)) else some (σ8, (1000000 : Int)))))) fun J171_19 => L_X12_tryMove_117 N 1 σ8 J171_19 (0, 0, 0))) (fun w => FM [42] [] υ0 w.1 ∧ tvM σ m (fI σ 73 0 - (st + 1)).toNat f u c w.2 ∧ (w.2 < 1000000 → ∀ t : Int, 0 ≤ t → t < 3 → w.1.2.1 42 t = gB (gP f c) u t)) := fun φ h1 h2 hok => by
      have hMφ := h1.M hM
      have hvp := vld_gP (by omega) hv hok
      have hpu := hvp u hu.1 (by omega)
      have hku := hk u hu.1 (by omega)
      refine sm_gR hMφ rfl ?_
      refine sm_aI hMφ rfl rfl (by decide) (by omega) (by omega) ?_
      rw [h2 u hu.1 (by omega)]
      refine ok_weqc (by omega) (fun h3 => far h1 (fun q => by omega)) (fun h3 => ?_)
      refine sm_gR hMφ rfl ?_
      refine sm_aI hMφ rfl rfl (by decide) (by omega) (by omega) ?_
      rw [h2 u hu.1 (by omega)]
      refine sm_sI hMφ rfl rfl (by decide) (by omega) (by omega) (st_Jn ?_)
      have hvb := vld_gB hvp (show 0 < gP f c u by omega)
      generalize hψ : uI φ 42 u (gP f c u - 1) = ψ
      have fψ : FM [42] [] υ0 ψ := by rw [← hψ]; exact h1.uI (by decide) (by simp)
      have hMψ := fψ.M hM
      have r42 : ∀ t : Int, 0 ≤ t → t < 3 → ψ.2.1 42 t = gB (gP f c) u t := fun t x y => by
        rw [← hψ, uW_at]
        unfold gB
        by_cases ht : t = u
        · rw [if_pos ht, if_pos ht, ht]
        · rw [if_neg ht, if_neg ht, h2 t x y]; omega
      have gψ : FM [41, 42] [75, 76] σm ψ := f0.trans (fψ.mono (by simp) (by simp))
      have ecψ : ∀ q, 4 ≤ q → q ≤ 40 → ψ.2.1 q = σm.2.1 q := fun q x y => gψ.2.2.1 q (by omega) (by simp; omega)
      have ebψ : fI ψ 1 31 = bk := (gψ.f (by decide)).trans i3
      obtain ⟨g, hg⟩ : ∃ g, gB (gP f c) u = g := ⟨_, rfl⟩
      rw [hg] at hvb r42
      have w3 := vld_iff.mp hvb
      have zg : ∀ t, fI σ m 15 ≤ t → t < 3 → 0 ≤ t → g t = 0 ∧ σ.2.1 (m + 12) t = 0 := fun t x y z => by have h1 := (rt t z y).2 x; have h2 := hvb t z y; omega
      have m0 := mul_rg (a := g 0) (b := σ.2.1 (m + 12) 0) (x := 15) (y := 99) (by omega) (by omega)
      have m1 := mul_rg (a := g 1) (b := σ.2.1 (m + 12) 1) (x := 15) (y := 99) (by omega) (by omega)
      have m2 := mul_rg (a := g 2) (b := σ.2.1 (m + 12) 2) (x := 15) (y := 99) (by omega) (by omega)
      have hlh := hf.2.2 st hst.1 hst.2
      have n0 := mul_rg (a := σ.2.1 74 st) (b := g 0 + g 1 + g 2) (x := 99) (y := 45) hlh.1 (by omega)
      have n1 := mul_rg (a := σ.2.1 75 st) (b := g 0 + g 1 + g 2) (x := 99) (y := 45) hlh.2 (by omega)
      have hLs := hL.2.2 st hst.1 hst.2
      have ed : fI σ 73 0 - (((fI σ 73 0 - (st + 1)).toNat + 1 : Nat) : Int) = st := by omega
      unfold L_X12_tryMove_117
      refine ok_fix (fun w => (0 ≤ w.2.2 ∧ w.2.2 ≤ fI σ m 15) ∧ w.1 = (if 0 < w.2.2 then g 0 else 0) + (if 1 < w.2.2 then g 1 else 0) + (if 2 < w.2.2 then g 2 else 0) ∧ w.2.1 = (if 0 < w.2.2 then g 0 * σ.2.1 (m + 12) 0 else 0) + (if 1 < w.2.2 then g 1 * σ.2.1 (m + 12) 1 else 0) + (if 2 < w.2.2 then g 2 * σ.2.1 (m + 12) 2 else 0)) (fun w => (fI σ m 15 - w.2.2).toNat) (fun back w hI' hback => ?_) _ ⟨by dsimp only; omega, rfl, rfl⟩ (by dsimp only; omega)
      obtain ⟨al, ba, t⟩ := w
      obtain ⟨g1', g2', g3'⟩ := hI'
      dsimp only at g1' g2' g3' hback ⊢
      refine sm_rcv hMψ (ok_rw (tanks_eq hMψ ebψ i4) ?_)
      dsimp only
      rw [ecψ 8 (by decide) (by decide), htk.1]
      refine ok_wlt (by omega) (by omega) (fun h4 => ?_) (fun h4 => ?_)
      · refine sm_gR hMψ rfl ?_
        refine sm_aI hMψ rfl rfl (by decide) (by omega) (by omega) ?_
        rw [r42 t g1'.1 (by omega)]
        refine st_Lt ?_
        refine sm_gR hMψ rfl ?_
        refine sm_aI hMψ rfl rfl (by decide) (by omega) (by omega) ?_
        rw [r42 t g1'.1 (by omega)]
        refine sm_gR hMψ rfl ?_
        refine sm_gI hMψ ?_
        rw [ebψ]
        refine sm_aI hMψ rfl rfl (by decide) (by omega) (by omega) ?_
        rw [ecψ 19 (by decide) (by decide), (pos t g1'.1 h4).2]
        refine st_Lt (st_Lt ?_)
        have : t = 0 ∨ t = 1 ∨ t = 2 := by omega
        refine hback _ ⟨by dsimp only; omega, ?_, ?_⟩ (by dsimp only; omega)
        · dsimp only
          rw [g2']
          rcases this with rfl | rfl | rfl <;> simp
        · dsimp only
          rw [g3']
          rcases this with rfl | rfl | rfl <;> simp
      · have : t = fI σ m 15 := by omega
        subst this
        have ea : al = g 0 + g 1 + g 2 := by
          have z0 := zg 0
          have z1 := zg 1
          have z2 := zg 2
          rw [g2']
          split <;> split <;> split <;> omega
        have eb2 : ba = g 0 * σ.2.1 (m + 12) 0 + g 1 * σ.2.1 (m + 12) 1 + g 2 * σ.2.1 (m + 12) 2 := by
          have zz : ∀ t, fI σ m 15 ≤ t → t < 3 → 0 ≤ t → g t * σ.2.1 (m + 12) t = 0 := fun t x y z => by rw [(zg t x y z).1, Int.zero_mul]
          have z0 := zz 0
          have z1 := zz 1
          have z2 := zz 2
          rw [g3']
          split <;> split <;> split <;> omega
        refine sm_gR hMψ rfl ?_
        refine sm_aI hMψ rfl rfl (by decide) hst.1 (by omega) ?_
        rw [ecψ 39 (by decide) (by decide), hLs.1, ea, eb2]
        have wdef : wX σ m (fI σ 73 0 - (st + 1)).toNat g = if balF (σ.2.1 (m + 12)) (σ.2.1 74 st) (σ.2.1 75 st) g then vX σ m (fI σ 73 0 - (st + 1)).toNat g else 1000 := by
          unfold wX WW
          rw [ed]; rfl
        refine ok_wlt (by omega) (by omega) (fun h5 => far fψ (fun q => ?_)) (fun h5 => ?_)
        · have := q.2.2
          rw [hg, wdef, if_neg (fun k => by unfold balF at k; omega)] at this
          omega
        refine sm_gR hMψ rfl ?_
        refine sm_aI hMψ rfl rfl (by decide) hst.1 (by omega) ?_
        rw [ecψ 40 (by decide) (by decide), hLs.2.2.2.1]
        refine ok_wlt (by omega) (by omega) (fun h6 => far fψ (fun q => ?_)) (fun h6 => ?_)
        · have := q.2.2
          rw [hg, wdef, if_neg (fun k => by unfold balF at k; omega)] at this
          omega
        have hbal : balF (σ.2.1 (m + 12)) (σ.2.1 74 st) (σ.2.1 75 st) g := ⟨h5, h6⟩
        rw [if_pos hbal] at wdef
        have sg : 0 ≤ sM g ∧ sM g < 4096 := by unfold sM; omega
        have agg := fm_sM (f := g) (by omega) (by omega) (by omega)
        have vr := VV_rg (H := σ.2.1 (m + 13)) (A := σ.2.1 (m + 12)) (lo := σ.2.1 74) (hi := σ.2.1 75) (n := fI σ 73 0) hf.2.1 (fI σ 73 0 - (st + 1)).toNat g
        have vr' : 0 ≤ vX σ m (fI σ 73 0 - (st + 1)).toNat g ∧ vX σ m (fI σ 73 0 - (st + 1)).toNat g ≤ 1000 := ⟨vr.1, vr.2.1⟩
        have row : ψ.2.1 41 (4096 * (st + 1) + sM g) = cvF (vX σ m (fI σ 73 0 - (st + 1)).toNat g) := by
          rw [fψ.2.2.1 41 (by decide) (by decide)]
          obtain ⟨t1, t2⟩ := hT (sM g) sg.1 sg.2
          by_cases hl : st + 1 = fI σ 73 0
          · rw [t1 hl]
            have : (fI σ 73 0 - (st + 1)).toNat = 0 := by omega
            rw [this]; rfl
          · rw [(t2 (by omega)).1 (vld_congr (ag_sym agg) hvb)]
            have : vX σ m (fI σ 73 0 - (st + 1)).toNat (fm (sM g)) = vX σ m (fI σ 73 0 - (st + 1)).toNat g := VV_congr hf.2.1.1 _ _ _ agg
            rw [this]
        refine sm_gR hMψ rfl ?_
        refine sm_rcv hMψ (ok_rw (stateNow_eq hMψ r42 (by omega) (by omega) (by omega)) ?_)
        dsimp only
        refine sm_aI hMψ rfl rfl (by decide) (by omega) (by omega) ?_
        rw [row]
        unfold cvF
        by_cases hV : vX σ m (fI σ 73 0 - (st + 1)).toNat g < 1000
        · rw [if_pos hV]
          refine ok_wlt (by omega) (by omega) (fun h7 => ok_some ⟨fψ, .inr ⟨⟨hok, by omega, by rw [hg, wdef]; exact hV⟩, ?_⟩, fun _ => ?_⟩) (fun h7 => by exfalso; omega)
          · dsimp only; rw [hg, wdef, cp]; omega
          · exact fun t x y => by rw [hg]; exact r42 t x y
        · rw [if_neg hV]
          exact ok_wlt (by omega) (by omega) (fun h7 => by exfalso; omega) (fun h7 => far fψ (fun q => by have := q.2.2; rw [hg, wdef] at this; omega))
    dsimp only
    rcases hc with ⟨rfl, rfl⟩ | ⟨hp0, hc⟩
    · refine ok_w0lt (by omega) (fun h => by exfalso; omega) (fun _ => ?_)
      refine st_Jn ?_
      refine ok_w0lt (by omega) (fun h => by exfalso; omega) (fun _ => ?_)
      exact tail υ p1 (fun t x y => by rw [gP_0]; exact q42 t x y) (.inl rfl)
    · have ca : c / 3 % 3 = a := by omega
      have cb : c % 3 = b := by omega
      have va := hv a ha.1 (by omega)
      have vb := hv b hb.1 (by omega)
      have hkb := hk b hb.1 (by omega)
      have hka := hk a ha.1 (by omega)
      have no : ¬ (0 < c / 9 ∧ c / 3 % 3 ≠ c % 3 ∧ c / 9 ≤ f (c / 3 % 3) ∧ f (c % 3) + c / 9 ≤ σ.2.1 (m + 13) (c % 3)) → ¬ (okP (σ.2.1 (m + 13)) f c ∧ 0 < gP f c u ∧ wX σ m (fI σ 73 0 - (st + 1)).toNat (gB (gP f c) u) < 1000) := fun q k => by
        rcases k.1 with k | k
        · omega
        · exact q k
      rw [ca, cb, cp] at no
      refine ok_w0lt (by omega) (fun _ => ?_) (fun h => by exfalso; omega)
      refine ok_weq (by omega) (by omega) (fun h1 => far p1 (no (fun q => q.2.1 h1))) (fun h1 => ?_)
      refine sm_gR hMu rfl ?_
      refine sm_aI hMu rfl rfl (by decide) (by omega) (by omega) ?_
      rw [q42 a ha.1 (by omega)]
      refine ok_wlt (by omega) (by omega) (fun h2 => far p1 (no (fun q => by omega))) (fun h2 => ?_)
      refine sm_gR hMu rfl ?_
      refine sm_aI hMu rfl rfl (by decide) (by omega) (by omega) ?_
      rw [q42 b hb.1 (by omega)]
      refine sm_gR hMu rfl ?_
      refine sm_gI hMu ?_
      rw [eb]
      refine sm_aI hMu rfl rfl (by decide) (by omega) (by omega) ?_
      rw [ec 20 (by decide) (by decide), (pos b hb.1 hb.2).1]
      refine ok_wlt (by omega) (by omega) (fun h3 => far p1 (no (fun q => by omega))) (fun h3 => ?_)
      refine st_Jn ?_
      refine ok_w0lt (by omega) (fun _ => ?_) (fun h => by exfalso; omega)
      refine sm_gR hMu rfl ?_
      refine sm_aI hMu rfl rfl (by decide) (by omega) (by omega) ?_
      rw [q42 a ha.1 (by omega)]
      refine sm_sI hMu rfl rfl (by decide) (by omega) (by omega) ?_
      refine sm_gR (σ := uI υ 42 a (f a - p)) hMu rfl ?_
      refine sm_aI (σ := uI υ 42 a (f a - p)) hMu rfl rfl (by decide) (by omega) (by omega) ?_
      rw [uI_j (Ne.symm h1), q42 b hb.1 (by omega)]
      refine sm_sI (σ := uI υ 42 a (f a - p)) hMu rfl rfl (by decide) (by omega) (by omega) ?_
      refine tail _ ((p1.uI (by decide) (by simp)).uI (by decide) (by simp)) (fun t x y => ?_) (.inr ?_)
      · rw [uW_at, uW_at]
        unfold gP
        rw [ca, cb, cp]
        by_cases hb' : t = b
        · rw [if_pos hb', if_neg (show ¬ a = t by omega), if_pos (show b = t from hb'.symm), hb']; omega
        · rw [if_neg hb', if_neg (show ¬ b = t from fun q => hb' q.symm)]
          by_cases ha' : t = a
          · rw [if_pos ha', if_pos (show a = t from ha'.symm), ha']; omega
          · rw [if_neg ha', if_neg (show ¬ a = t from fun q => ha' q.symm), q42 t x y]; omega
      · rw [ca, cb, cp]; exact ⟨hp0, h1, h2, h3⟩
  obtain ⟨⟨φ, v⟩, e, h1, h2, h3⟩ := H
  exact ⟨φ, v, e, h1, h2, h3⟩
end F
