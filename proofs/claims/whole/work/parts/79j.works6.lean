/-! the pure part: WORKS, the class divides -/
def ExW (w : Nat → Int) (k : Nat) (r0 r1 c goal : Int) : Prop := ∃ v, Mx2 w k r0 r1 v ∧ c + v ≠ goal
theorem ExW.mk {w : Nat → Int} {k : Nat} {r0 r1 c goal : Int} (v : Int) (h : Mx2 w k r0 r1 v) (q : c + v ≠ goal) : ExW w k r0 r1 c goal := ⟨v, h, q⟩
section F
variable {N : Nat} {σ σm : St}
theorem Cw_rg {m : Nat} {bk : Int} (hI : IMach m bk σ σm) : ∀ n : Nat, (n : Int) ≤ fI σ m 1 → 0 ≤ Cw (cW σ m) n ∧ Cw (cW σ m) n ≤ 999 * (n : Int)
  | 0, _ => ⟨Int.le_refl _, Int.le_refl _⟩
  | n + 1, h => by
    have ih := Cw_rg hI n (by omega)
    have := (hI.2.2.2.2.2.1 (n : Int) (by omega) (by omega)).2.2.2.2
    have e : Cw (cW σ m) (n + 1) = Cw (cW σ m) n + cW σ m (n : Int) := rfl
    have e2 : cW σ m (n : Int) = σ.2.1 (m + 5) (n : Int) := rfl
    omega
theorem choose_eq {m : Nat} {bk : Int} (hX : WXr σ.1 σ.2.2) (hI : IMach m bk σ σm) {τ : St} (fτ : FX [104, 105, 106, 107] σ τ) {n : Nat} (hn : (n : Int) = fI σ m 1) {R A : Int} (hR : 0 ≤ R ∧ R ≤ 20000) (hA : 0 ≤ A ∧ A ≤ 24000) (hM : Mx2 (wC σ m 0) n R R A) (hN : 5000 < N) : ∃ υ, f_X10_choose N τ 104 m R A = some (υ, 0) ∧ FX [105, 106, 107] τ υ ∧ ∃ g, BestW (cW σ m) n R g ∧ Twk (cW σ m) g 2 n = Cw (cW σ m) n - A ∧ ∀ j : Int, 0 ≤ j → j < (n : Int) → υ.2.1 105 j = g j := by
  have hm := hI.1
  have hml := isM_le hm
  have hP := hI.2.2.2.2.1.2.1
  have rp := hI.2.2.2.2.2.1
  have hc : ∀ i j, 0 ≤ wC σ m (i : Nat) j := fun i j => (wC_rg hI (by omega) j).1
  obtain ⟨st, hmax⟩ := ChI.start (σ := σ) hn hR.1 hM
  have mem : ∀ {υ : St}, FX [105, 106, 107] τ υ → WXr υ.1 υ.2.2 ∧ FX [104, 105, 106, 107] σ υ ∧ υ.2.1 (m + 5) = σ.2.1 (m + 5) ∧ fI υ m 1 = fI σ m 1 := fun {υ} g => by
    have g' : FX [104, 105, 106, 107] σ υ := fτ.trans (g.mono (by simp))
    exact ⟨g'.X hX, g', g'.2.2 (m + 5) (by simp; omega), g'.f (by simp; omega)⟩
  have H : Ok (f_X10_choose N τ 104 m R A) (fun q => q.2 = 0 ∧ FX [105, 106, 107] τ q.1 ∧ ∃ g, BestW (cW σ m) n R g ∧ Twk (cW σ m) g 2 n = Cw (cW σ m) n - A ∧ ∀ j : Int, 0 ≤ j → j < (n : Int) → q.1.2.1 105 j = g j) := by
    unfold f_X10_choose L_X10_choose_12
    refine ok_fix (fun q => (0 ≤ q.2.2.2.2 ∧ q.2.2.2.2 ≤ (n : Int)) ∧ FX [105, 106, 107] τ q.1 ∧ (q.2.1 ≤ 20000 ∧ q.2.2.1 ≤ 20000 ∧ 0 ≤ q.2.2.2.1 ∧ q.2.2.2.1 ≤ 24000) ∧ ∃ g, ChI σ m n R A q.2.2.2.2.toNat g q.2.1 q.2.2.1 q.2.2.2.1 ∧ ∀ j : Int, 0 ≤ j → j < q.2.2.2.2 → q.1.2.1 105 j = g j) (fun q => ((n : Int) - q.2.2.2.2).toNat) (fun back q hq hback => ?_) _ ⟨by dsimp only; omega, FX.refl, by dsimp only; omega, fun _ => 0, st, fun j a b => by dsimp only at b; omega⟩ (by dsimp only; omega)
    obtain ⟨υ, r0, r1, goal, i⟩ := q
    obtain ⟨g1, g2, g3, g, g4, g5⟩ := hq
    dsimp only at g1 g2 g3 g4 g5 hback ⊢
    obtain ⟨hυ, fυ, e5, e1⟩ := mem g2
    refine mx_gI hυ hm ?_
    rw [e1, ← hn]
    refine ok_wlt (by omega) (by omega) (fun h1 => ?_) (fun h1 => ?_)
    rotate_left
    · have ei : i.toNat = n := by omega
      rw [ei] at g4
      obtain ⟨b1, b2⟩ := g4.fin hmax
      exact ok_some ⟨rfl, g2, g, b1, b2, fun j a b => g5 j a (by omega)⟩
    obtain ⟨k, rfl⟩ : ∃ k : Nat, i = (k : Int) := ⟨i.toNat, by omega⟩
    rw [Int.toNat_natCast] at g4
    have rng := g4.2.2.1
    have hc0 := (rp k (by omega) (by omega)).2.2.2.2
    have ec : cW σ m (k : Int) = σ.2.1 (m + 5) (k : Int) := rfl
    rw [← ec] at hc0
    refine mx_gR hυ hm rfl ?_
    refine mx_aI hυ hm rfl (by decide) (by omega) (by omega) ?_
    rw [e5, ← ec]
    refine sx_gR hυ rfl rfl rfl ?_
    refine sx_sI hυ rfl rfl (by decide) (by omega) (by omega) ?_
    have f7 : FX [105, 106, 107] τ (uI υ 105 (k : Int) 2) := g2.uI (by simp)
    have c7 : ∀ j : Int, 0 ≤ j → j < (k : Int) + 1 → (uI υ 105 (k : Int) 2).2.1 105 j = updW g k 2 j := fun j a b => by
      unfold updW
      by_cases q : j = (k : Int)
      · rw [if_pos q, q, uI_eq]
      · rw [if_neg q, uI_j (by omega)]; exact g5 j a (by omega)
    generalize uI υ 105 (k : Int) 2 = σ7 at f7 c7 ⊢
    obtain ⟨h7, fσ7, _, _⟩ := mem f7
    have kk : (fI σ m 1 - ((k : Int) + 1)).toNat = n - (k + 1) := by omega
    have wi : ((k + 1 : Nat) : Int) = (k : Int) + 1 := by omega
    -- the next one
    refine ok_JnC (fun x => FX [105, 106, 107] τ x.1 ∧ (x.2.1 ≤ 20000 ∧ x.2.2.1 ≤ 20000 ∧ 0 ≤ x.2.2.2 ∧ x.2.2.2 ≤ 24000) ∧ ∃ d, ChI σ m n R A (k + 1) (updW g k d) x.2.1 x.2.2.1 x.2.2.2 ∧ ∀ j : Int, 0 ≤ j → j < (k : Int) + 1 → x.1.2.1 105 j = updW g k d j) (fun x hx => ?_) (fun J hJ => ?_)
    · obtain ⟨x1, x2, d, x3, x4⟩ := hx
      refine st_Lt (hback _ ⟨by dsimp only; omega, x1, x2, updW g k d, ?_, x4⟩ (by dsimp only; omega))
      dsimp only
      rw [show ((k : Int) + 1).toNat = k + 1 by omega]
      exact x3
    -- not by one
    refine ok_JnC (fun x => FX [106, 107] σ7 x ∧ (cW σ m k ≤ r0 → ExW (wC σ m ((k + 1 : Nat) : Int)) (n - (k + 1)) (r0 - cW σ m k) r1 (cW σ m k) goal)) (fun x hx => ?_) (fun J2 hJ2 => ?_)
    · obtain ⟨x1, x2⟩ := hx
      have fx : FX [105, 106, 107] τ x := f7.trans (x1.mono (by simp))
      obtain ⟨hx', fσx, _, _⟩ := mem fx
      have no0 : ∀ h, feaW (cW σ m) n R h → Twk (cW σ m) h 0 n + Twk (cW σ m) h 1 n = A → (∀ j : Int, 0 ≤ j → j < (k : Int) → h j = g j) → h k ≠ 0 := fun h hf hA' ag q => by
        obtain ⟨a, b⟩ := (ChI.no hn hc g4 (by omega) hf hA' ag).1 q
        obtain ⟨v, v1, v2⟩ := x2 a
        exact v2 (b v v1)
      have both : ∀ y : St, FX [106, 107] σ7 y → (cW σ m k ≤ r1 → ExW (wC σ m ((k + 1 : Nat) : Int)) (n - (k + 1)) r0 (r1 - cW σ m k) (cW σ m k) goal) → Ok (J (y, r0, r1, goal)) (fun q => q.2 = 0 ∧ FX [105, 106, 107] τ q.1 ∧ ∃ g, BestW (cW σ m) n R g ∧ Twk (cW σ m) g 2 n = Cw (cW σ m) n - A ∧ ∀ j : Int, 0 ≤ j → j < (n : Int) → q.1.2.1 105 j = g j) := fun y y1 y2 => by
        refine hJ _ ⟨f7.trans (y1.mono (by simp)), by dsimp only; omega, 2, ?_, fun j a b => ?_⟩
        · dsimp only
          have nk : n - k = (n - (k + 1)) + 1 := by omega
          have m4 := g4.2.2.2.1
          rw [nk] at m4
          have w0 : wC σ m (k : Int) 0 = cW σ m k := by unfold wC cW; rw [if_pos (by omega)]; congr 1
          have sh : (fun j => wC σ m (k : Int) (j + 1)) = wC σ m ((k + 1 : Nat) : Int) := by rw [wC_next, wi]
          have mb := Mx2.both m4 (by
            rw [w0, sh]
            intro v a b q
            obtain ⟨v', v1, v2⟩ := x2 a
            rw [Mx2.uniq b v1] at q
            exact v2 q) (by
            rw [w0, sh]
            intro v a b q
            obtain ⟨v', v1, v2⟩ := y2 a
            rw [Mx2.uniq b v1] at q
            exact v2 q) (fun j => hc k j) (by
            rw [w0, sh]
            intro a
            obtain ⟨v', v1, v2⟩ := x2 a
            exact ⟨v', v1⟩) (by
            rw [w0, sh]
            intro a
            obtain ⟨v', v1, v2⟩ := y2 a
            exact ⟨v', v1⟩)
          rw [sh] at mb
          refine g4.step (by omega) (by rw [if_neg (by decide)]; omega) (by rw [if_neg (by decide)]; omega) (by rw [if_pos rfl]; omega) rng mb (fun h hf hA' ag => ?_) (by omega)
          have a := no0 h hf hA' ag
          have b : h k ≠ 1 := fun q => by
            obtain ⟨a, b⟩ := (ChI.no hn hc g4 (by omega) hf hA' ag).2 q
            obtain ⟨v, v1, v2⟩ := y2 a
            exact v2 (b v v1)
          have := hf.1 k (by omega) (by omega)
          omega
        · dsimp only
          rw [y1.2.2 105 (by simp)]
          exact c7 j a b
      refine ok_wlt (by omega) (by omega) (fun h2 => both x x1 (fun q => by omega)) (fun h2 => ?_)
      obtain ⟨y, v, e, y1, y2, y3, y4⟩ := mostAlone_eq (N := N) hX hI fσx (i := (k : Int) + 1) (r0 := r0) (r1 := r1 - cW σ m k) (by omega) (by omega) (by omega) hN
      rw [kk, ← wi] at y2
      refine sx_rcv hx' rfl rfl (ok_rw e ?_)
      dsimp only
      have y1' : FX [106, 107] σ7 y := x1.trans y1
      refine ok_weq (by omega) (by omega) (fun h3 => ?_) (fun h3 => both y y1' (fun _ => ExW.mk v y2 h3))
      have fy : FX [105, 106, 107] τ y := fx.trans (y1.mono (by simp))
      obtain ⟨hy, _, _, _⟩ := mem fy
      refine sx_gR hy rfl rfl rfl ?_
      refine sx_sI hy rfl rfl (by decide) (by omega) (by omega) (st_Lt (st_Lt ?_))
      refine hJ _ ⟨fy.uI (by simp), by dsimp only; omega, 1, ?_, fun j a b => ?_⟩
      · dsimp only
        rw [show goal - cW σ m k = v by omega]
        refine g4.step (by omega) (by rw [if_neg (by decide)]; omega) (by rw [if_pos rfl]) (by rw [if_neg (by decide)]; omega) (by omega) y2 (fun h hf hA' ag => ?_) (by omega)
        have a := no0 h hf hA' ag
        have := hf.1 k (by omega) (by omega)
        omega
      · dsimp only
        have c8 := c7 j a b
        unfold updW at c8 ⊢
        by_cases q : j = (k : Int)
        · rw [if_pos q, q, uI_eq]
        · rw [if_neg q, uI_j (by omega), y1'.2.2 105 (by simp)]
          rw [if_neg q] at c8
          exact c8
    · refine ok_wlt (by omega) (by omega) (fun h2 => hJ2 _ ⟨FX.refl, fun q => by omega⟩) (fun h2 => ?_)
      obtain ⟨y, v, e, y1, y2, y3, y4⟩ := mostAlone_eq (N := N) hX hI fσ7 (i := (k : Int) + 1) (r0 := r0 - cW σ m k) (r1 := r1) (by omega) (by omega) (by omega) hN
      rw [kk, ← wi] at y2
      refine sx_rcv h7 rfl rfl (ok_rw e ?_)
      dsimp only
      refine ok_weq (by omega) (by omega) (fun h3 => ?_) (fun h3 => hJ2 _ ⟨y1, fun _ => ExW.mk v y2 h3⟩)
      have fy : FX [105, 106, 107] τ y := f7.trans (y1.mono (by simp))
      obtain ⟨hy, _, _, _⟩ := mem fy
      refine sx_gR hy rfl rfl rfl ?_
      refine sx_sI hy rfl rfl (by decide) (by omega) (by omega) (st_Lt (st_Lt ?_))
      refine hJ _ ⟨fy.uI (by simp), by dsimp only; omega, 0, ?_, fun j a b => ?_⟩
      · dsimp only
        rw [show goal - cW σ m k = v by omega]
        refine g4.step (by omega) (by rw [if_pos rfl]) (by rw [if_neg (by decide)]; omega) (by rw [if_neg (by decide)]; omega) (by omega) y2 (fun h hf hA' ag => ?_) (by omega)
        exact (hf.1 k (by omega) (by omega)).1
      · dsimp only
        have c8 := c7 j a b
        unfold updW at c8 ⊢
        by_cases q : j = (k : Int)
        · rw [if_pos q, q, uI_eq]
        · rw [if_neg q, uI_j (by omega), y1.2.2 105 (by simp)]
          rw [if_neg q] at c8
          exact c8
  obtain ⟨⟨υ, z⟩, e, h1, h2⟩ := H
  dsimp only at h1 h2
  subst h1
  exact ⟨υ, e, h2⟩
def RmW (σ : St) (m : Nat) (p : Int) : Int := (100 - p) * Cw (cW σ m) (fI σ m 1).toNat / 100
def WkG (σ : St) (m : Nat) (p : Int) (τ : St) : Prop := ∃ g, BestW (cW σ m) (fI σ m 1).toNat (RmW σ m p) g ∧ fI τ 104 0 = Twk (cW σ m) g 2 (fI σ m 1).toNat ∧ ∀ j : Int, 0 ≤ j → j < fI σ m 1 → τ.2.1 105 j = g j
/-- what is kept -/
def IWk (σ : St) (m : Nat) : Prop := fI σ 104 1 = -1 ∨ ((0 ≤ fI σ 104 1 ∧ fI σ 104 1 ≤ 100) ∧ WkG σ m (fI σ 104 1) σ)
theorem RmW_rg {m : Nat} {bk : Int} (hI : IMach m bk σ σm) {p : Int} (hp : 0 ≤ p ∧ p ≤ 100) : (0 ≤ (100 - p) * Cw (cW σ m) (fI σ m 1).toNat ∧ (100 - p) * Cw (cW σ m) (fI σ m 1).toNat ≤ 1198800) ∧ 0 ≤ RmW σ m p ∧ RmW σ m p ≤ 20000 := by
  have hP := hI.2.2.2.2.1.2.1
  have c := Cw_rg hI (fI σ m 1).toNat (by omega)
  have q := mul_rg (a := 100 - p) (b := Cw (cW σ m) (fI σ m 1).toNat) (x := 100) (y := 11988) (by omega) (by omega)
  refine ⟨by omega, ?_⟩
  unfold RmW
  omega
theorem divide_eq {m : Nat} {bk : Int} (hX : WXr σ.1 σ.2.2) (hI : IMach m bk σ σm) (hW : IWk σ m) {p : Int} (hp : 0 ≤ p ∧ p ≤ 100) (hN : 5000 < N) : ∃ υ, f_X10_divide N σ 104 m p = some (υ, 0) ∧ FX [104, 105, 106, 107] σ υ ∧ fI υ 104 1 = p ∧ WkG σ m p υ := by
  have hm := hI.1
  have hml := isM_le hm
  have hP := hI.2.2.2.2.1.2.1
  have rp := hI.2.2.2.2.2.1
  have rr := RmW_rg hI hp
  have H : Ok (f_X10_divide N σ 104 m p) (fun q => q.2 = 0 ∧ FX [104, 105, 106, 107] σ q.1 ∧ fI q.1 104 1 = p ∧ WkG σ m p q.1) := by
    unfold f_X10_divide
    refine sx_gI hX rfl rfl ?_
    refine ok_weq (by rcases hW with k | k <;> omega) (by omega) (fun h1 => ok_some ⟨rfl, FX.refl, h1, ?_⟩) (fun h1 => ?_)
    · rcases hW with k | k
      · omega
      · rw [h1] at k; exact k.2
    refine sx_pI hX rfl rfl ?_
    have f2 : FX [104, 105, 106, 107] σ (uF σ 104 1 p) := FX.refl.uF (by simp)
    have e21 : fI (uF σ 104 1 p) 104 1 = p := fI_eq
    generalize uF σ 104 1 p = σ2 at f2 e21 ⊢
    have h2 := f2.X hX
    have e5 : σ2.2.1 (m + 5) = σ.2.1 (m + 5) := f2.2.2 (m + 5) (by simp; omega)
    have e1 : fI σ2 m 1 = fI σ m 1 := f2.f (by simp; omega)
    refine ok_JnC (fun x => x = Cw (cW σ m) (fI σ m 1).toNat) (fun x hx => ?_) (fun J hJ => ?_)
    · have crg := Cw_rg hI (fI σ m 1).toNat (by omega)
      subst hx
      refine st_Lt ?_
      have er : Int.tdiv (wr ((100 - p) * Cw (cW σ m) (fI σ m 1).toNat)) 100 = RmW σ m p := by
        rw [wr_id (by omega) (by omega), Int.tdiv_eq_ediv_of_nonneg rr.1.1]; rfl
      rw [er]
      obtain ⟨y, A, e, y1, y2, y3, y4⟩ := mostAlone_eq (N := N) hX hI f2 (i := 0) (r0 := RmW σ m p) (r1 := RmW σ m p) (by omega) rr.2 rr.2 hN
      rw [Int.sub_zero] at y2
      refine sx_rcv h2 rfl rfl (ok_rw e ?_)
      dsimp only
      have fy : FX [104, 105, 106, 107] σ y := f2.trans (y1.mono (by simp))
      have hy := fy.X hX
      refine sx_pI hy rfl rfl ?_
      have f6 : FX [104, 105, 106, 107] σ (uF y 104 0 (Cw (cW σ m) (fI σ m 1).toNat - A)) := fy.uF (by simp)
      have e60 : fI (uF y 104 0 (Cw (cW σ m) (fI σ m 1).toNat - A)) 104 0 = Cw (cW σ m) (fI σ m 1).toNat - A := fI_eq
      have e61 : fI (uF y 104 0 (Cw (cW σ m) (fI σ m 1).toNat - A)) 104 1 = p := (fI_j (by decide)).trans ((y1.f (by simp)).trans e21)
      generalize uF y 104 0 (Cw (cW σ m) (fI σ m 1).toNat - A) = σ6 at f6 e60 e61 ⊢
      obtain ⟨υ, eu, u1, g, u2, u3, u4⟩ := choose_eq (N := N) hX hI f6 (n := (fI σ m 1).toNat) (R := RmW σ m p) (A := A) (by omega) rr.2 ⟨y3, y4⟩ y2 hN
      refine sx_rcv (f6.X hX) rfl rfl (ok_rw eu (ok_some ⟨rfl, f6.trans (u1.mono (by simp)), (u1.f (by simp)).trans e61, g, u2, ?_, fun j a b => u4 j a (by omega)⟩))
      dsimp only
      rw [u3]
      exact (u1.f (by simp)).trans e60
    · unfold L_X10_divide_19
      refine ok_fix (fun q => (0 ≤ q.2 ∧ q.2 ≤ fI σ m 1) ∧ q.1 = Cw (cW σ m) q.2.toNat) (fun q => (fI σ m 1 - q.2).toNat) (fun back q hq hback => ?_) _ ⟨by dsimp only; omega, rfl⟩ (by dsimp only; omega)
      obtain ⟨s, i⟩ := q
      obtain ⟨g1, g2⟩ := hq
      dsimp only at g1 g2 hback ⊢
      refine mx_gI h2 hm ?_
      rw [e1]
      refine ok_wlt (by omega) (by omega) (fun h3 => ?_) (fun h3 => hJ _ (by rw [g2, show i = fI σ m 1 by omega]))
      refine mx_gR h2 hm rfl ?_
      refine mx_aI h2 hm rfl (by decide) (by omega) (by omega) (st_Lt (st_Lt ?_))
      rw [e5]
      refine hback _ ⟨by dsimp only; omega, ?_⟩ (by dsimp only; omega)
      dsimp only
      have e : Cw (cW σ m) (i.toNat + 1) = Cw (cW σ m) i.toNat + cW σ m ((i.toNat : Nat) : Int) := rfl
      rw [show (i + 1).toNat = i.toNat + 1 by omega, e, show ((i.toNat : Nat) : Int) = i by omega, g2]
      rfl
  obtain ⟨⟨υ, z⟩, e, h1, h2⟩ := H
  dsimp only at h1 h2
  subst h1
  exact ⟨υ, e, h2⟩
end F
