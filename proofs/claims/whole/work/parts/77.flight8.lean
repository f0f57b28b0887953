/-! the pure part: a FLIGHT, the reference's best move -/
theorem ok_JnC {T α : Type} {r : T → Option α} {f : (T → Option α) → Option α} {Q : α → Prop} (I : T → Prop) (h1 : ∀ x, I x → Ok (r x) Q) (h2 : ∀ j : T → Option α, (∀ x, I x → Ok (j x) Q) → Ok (f j) Q) : Ok (Jn r f) Q := st_Jn (h2 r h1)
abbrev rngP (σ : St) (u c : Int) : Prop := (0 ≤ u ∧ u < 3) ∧ (0 ≤ c ∧ c < 9 * (fI σ 73 1 + 1))
def feas (σ : St) (m d : Nat) (f : Int → Int) (u c : Int) : Prop := okP (σ.2.1 (m + 13)) f c ∧ 0 < gP f c u ∧ wX σ m d (gB (gP f c) u) < 1000
def mvalM (σ : St) (m d : Nat) (f : Int → Int) (u c : Int) : Int := c / 9 + wX σ m d (gB (gP f c) u)
/-- the best of the moves before a place -/
def Bst (σ : St) (m d : Nat) (f : Int → Int) (K : Int) (υ : St) (b : Int) : Prop := (b = 1000000 ∧ fI υ 1 75 = -1 ∧ ∀ u c, rngP σ u c → 36 * u + c < K → ¬ feas σ m d f u c) ∨ (∃ u c, rngP σ u c ∧ feas σ m d f u c ∧ b = mvalM σ m d f u c ∧ fI υ 1 75 = 100 * u + c ∧ fI υ 1 76 = sM (gB (gP f c) u) ∧ 36 * u + c < K ∧ ∀ u' c', rngP σ u' c' → 36 * u' + c' < K → feas σ m d f u' c' → b ≤ mvalM σ m d f u' c' ∧ (36 * u' + c' < 36 * u + c → b < mvalM σ m d f u' c'))
section F
variable {N : Nat} {σ σm : St}
theorem Bst.skip {m d : Nat} {f : Int → Int} {K K' b : Int} {υ : St} (h : Bst σ m d f K υ b) (hK : K ≤ K') (hn : ∀ u c, rngP σ u c → K ≤ 36 * u + c → 36 * u + c < K' → ¬ feas σ m d f u c) : Bst σ m d f K' υ b := by
  rcases h with ⟨h1, h2, h3⟩ | ⟨u, c, h1, h2, h3, h4, h5, h6, h7⟩
  · refine .inl ⟨h1, h2, fun u c hr hk => ?_⟩
    by_cases q : 36 * u + c < K
    · exact h3 u c hr q
    · exact hn u c hr (by omega) hk
  · refine .inr ⟨u, c, h1, h2, h3, h4, h5, by omega, fun u' c' hr hk hf => ?_⟩
    by_cases q : 36 * u' + c' < K
    · exact h7 u' c' hr q hf
    · exact absurd hf (hn u' c' hr (by omega) hk)
theorem Bst.keep {m d : Nat} {f : Int → Int} {K b : Int} {υ φ : St} (h : Bst σ m d f K υ b) (e1 : fI φ 1 75 = fI υ 1 75) (e2 : fI φ 1 76 = fI υ 1 76) : Bst σ m d f K φ b := by
  unfold Bst at h ⊢
  rw [e1, e2]
  exact h
theorem feas_rg (hf : FyOk σ) {m d : Nat} {f : Int → Int} {u c : Int} (hr : rngP σ u c) (h : feas σ m d f u c) : 0 ≤ mvalM σ m d f u c ∧ mvalM σ m d f u c < 1003 := by
  have := wX_rg hf m d (gB (gP f c) u)
  have hp := hf.2.1
  have := h.2.2
  unfold mvalM
  have := hr.2
  omega
theorem Bst.rg (hf : FyOk σ) {m d : Nat} {f : Int → Int} {K b : Int} {υ : St} (h : Bst σ m d f K υ b) : 0 ≤ b ∧ b ≤ 1000000 := by
  rcases h with ⟨h1, h2, h3⟩ | ⟨u, c, h1, h2, h3, h4, h5, h6, h7⟩
  · omega
  · have := feas_rg hf h1 h2
    omega
theorem tvM_rg (hf : FyOk σ) {m d : Nat} {f : Int → Int} {u c v : Int} (hr : rngP σ u c) (h : tvM σ m d f u c v) : (0 ≤ v ∧ v ≤ 1000000) ∧ (v < 1000000 ↔ feas σ m d f u c) ∧ (feas σ m d f u c → v = mvalM σ m d f u c) := by
  rcases h with ⟨h1, h2⟩ | ⟨h1, h2⟩
  · exact ⟨by omega, ⟨fun q => by omega, fun q => absurd q h2⟩, fun q => absurd q h2⟩
  · have := feas_rg hf hr h1
    have e : v = mvalM σ m d f u c := h2
    exact ⟨by omega, ⟨fun _ => h1, fun _ => by omega⟩, fun _ => e⟩
theorem Bst.pass (hf : FyOk σ) {m d : Nat} {f : Int → Int} {u c v b : Int} {υ : St} (hr : rngP σ u c) (h : Bst σ m d f (36 * u + c) υ b) (hv : tvM σ m d f u c v) (hb : b ≤ v) : Bst σ m d f (36 * u + c + 1) υ b := by
  have hP := hf.2.1
  have := hr.2
  have t := tvM_rg hf hr hv
  have same : ∀ u' c', rngP σ u' c' → ¬ 36 * u' + c' < 36 * u + c → 36 * u' + c' < 36 * u + c + 1 → u' = u ∧ c' = c := fun u' c' q1 q2 q3 => by
    have := q1.2
    omega
  rcases h with ⟨h1, h2, h3⟩ | ⟨u1, c1, h1, h2, h3, h4, h5, h6, h7⟩
  · refine .inl ⟨h1, h2, fun u' c' q1 q2 => ?_⟩
    by_cases q : 36 * u' + c' < 36 * u + c
    · exact h3 u' c' q1 q
    · obtain ⟨rfl, rfl⟩ := same u' c' q1 q q2
      exact fun k => by have := t.2.1.mpr k; omega
  · refine .inr ⟨u1, c1, h1, h2, h3, h4, h5, by omega, fun u' c' q1 q2 q3 => ?_⟩
    by_cases q : 36 * u' + c' < 36 * u + c
    · exact h7 u' c' q1 q q3
    · obtain ⟨rfl, rfl⟩ := same u' c' q1 q q2
      have := t.2.2 q3
      exact ⟨by omega, fun k => by omega⟩
theorem Bst.take (hf : FyOk σ) {m d : Nat} {f : Int → Int} {u c v b : Int} {υ φ : St} (hr : rngP σ u c) (h : Bst σ m d f (36 * u + c) υ b) (hv : tvM σ m d f u c v) (hb : v < b) (e1 : fI φ 1 75 = 100 * u + c) (e2 : fI φ 1 76 = sM (gB (gP f c) u)) : Bst σ m d f (36 * u + c + 1) φ v := by
  have hP := hf.2.1
  have := hr.2
  have t := tvM_rg hf hr hv
  have br := h.rg hf
  have hF := t.2.1.mp (by omega)
  have ev := t.2.2 hF
  have same : ∀ u' c', rngP σ u' c' → ¬ 36 * u' + c' < 36 * u + c → 36 * u' + c' < 36 * u + c + 1 → u' = u ∧ c' = c := fun u' c' q1 q2 q3 => by
    have := q1.2
    omega
  refine .inr ⟨u, c, hr, hF, ev, e1, e2, by omega, fun u' c' q1 q2 q3 => ?_⟩
  by_cases q : 36 * u' + c' < 36 * u + c
  · rcases h with ⟨h1, h2, h3⟩ | ⟨u1, c1, h1, h2, h3, h4, h5, h6, h7⟩
    · exact absurd q3 (h3 u' c' q1 q)
    · have := (h7 u' c' q1 q q3).1
      exact ⟨by omega, fun _ => by omega⟩
  · obtain ⟨rfl, rfl⟩ := same u' c' q1 q q2
    exact ⟨by omega, fun k => by omega⟩
theorem Bst.fin (hf : FyOk σ) {m d : Nat} (hd : d ≤ 12) {f : Int → Int} {b : Int} {υ : St} (h : Bst σ m d f 108 υ b) : (b = 1000000 ∧ fI υ 1 75 = -1 ∧ vX σ m (d + 1) f = 1000) ∨ (b = vX σ m (d + 1) f ∧ b < 1000 ∧ ∃ u c, FstX σ m d f u c ∧ fI υ 1 75 = 100 * u + c ∧ fI υ 1 76 = sM (gB (gP f c) u)) := by
  have hP := hf.2.1
  have mn := VV_mn (H := σ.2.1 (m + 13)) (A := σ.2.1 (m + 12)) (lo := σ.2.1 74) (hi := σ.2.1 75) (P := fI σ 73 1) (n := fI σ 73 0) hf.2.1.1 d f
  change Mn _ (vX σ m (d + 1) f) at mn
  obtain ⟨m1, m2, m3⟩ := mn
  have p108 : ∀ u c, rngP σ u c → 36 * u + c < 108 := fun u c q => by have := q.2; have := q.1; omega
  have att : vX σ m (d + 1) f < 1000 → ∃ u c, rngP σ u c ∧ feas σ m d f u c ∧ vX σ m (d + 1) f = mvalM σ m d f u c := fun q => by
    rcases m3 with k | ⟨u, c, k1, k2, k3, k4⟩
    · omega
    · have k4' : vX σ m (d + 1) f = c / 9 + wX σ m d (gB (gP f c) u) := k4
      exact ⟨u, c, k1, ⟨k2, k3, by have := k1.2; omega⟩, k4'⟩
  rcases h with ⟨h1, h2, h3⟩ | ⟨u, c, h1, h2, h3, h4, h5, h6, h7⟩
  · refine .inl ⟨h1, h2, ?_⟩
    by_cases q : vX σ m (d + 1) f < 1000
    · obtain ⟨u, c, k1, k2, _⟩ := att q
      exact absurd k2 (h3 u c k1 (p108 u c k1))
    · omega
  · have wr := WW_rg (H := σ.2.1 (m + 13)) (A := σ.2.1 (m + 12)) (lo := σ.2.1 74) (hi := σ.2.1 75) (n := fI σ 73 0) hf.2.1 d (gB (gP f c) u)
    change 0 ≤ wX σ m d (gB (gP f c) u) ∧ wX σ m d (gB (gP f c) u) ≤ 1000 ∧ (wX σ m d (gB (gP f c) u) < 1000 → wX σ m d (gB (gP f c) u) ≤ 3 * (d : Int)) at wr
    have w2 := wr.2.2 h2.2.2
    have hb : b < 1000 := by rw [h3]; unfold mvalM; have := h1.2; omega
    have le : vX σ m (d + 1) f ≤ b := by rw [h3]; exact m2 _ ⟨u, c, h1, h2.1, h2.2.1, rfl⟩
    obtain ⟨u1, c1, k1, k2, k3⟩ := att (by omega)
    have := (h7 u1 c1 k1 (p108 _ _ k1) k2).1
    have eb : b = vX σ m (d + 1) f := by omega
    refine .inr ⟨eb, hb, u, c, ⟨h1, ⟨h2.1, h2.2.1, ?_⟩, fun u' c' hr hl q => ?_⟩, h4, h5⟩
    · exact h3.symm.trans eb
    · have q3 : c' / 9 + wX σ m d (gB (gP f c') u') = vX σ m (d + 1) f := q.2.2
      have hF : feas σ m d f u' c' := ⟨q.1, q.2.1, by have := hr.2; omega⟩
      have := (h7 u' c' hr (p108 _ _ hr) hF).2 (by have := hr.2; have := h1.2; omega)
      unfold mvalM at this
      omega
theorem nfe {m d : Nat} {f : Int → Int} {u c n : Int} (hn : 0 < n) (hv : vld (σ.2.1 (m + 13)) f) (zer : ∀ t, n ≤ t → t < 3 → 0 ≤ t → f t = 0 ∧ σ.2.1 (m + 13) t = 0) (hc : 0 ≤ c) (h : (c / 9 = 0 ∧ c ≠ 0) ∨ n ≤ c / 3 % 3 ∨ n ≤ c % 3) : ¬ feas σ m d f u c := by
  rintro ⟨ok, _, _⟩
  rcases ok with rfl | ⟨k1, k2, k3, k4⟩
  · omega
  · rcases h with h | h | h
    · omega
    · have := zer (c / 3 % 3) h (by omega) (by omega)
      omega
    · have := zer (c % 3) h (by omega) (by omega)
      have := hv (c % 3) (by omega) (by omega)
      omega
theorem nfu {m d : Nat} {f : Int → Int} {u c n : Int} (hv : vld (σ.2.1 (m + 13)) f) (zer : ∀ t, n ≤ t → t < 3 → 0 ≤ t → f t = 0 ∧ σ.2.1 (m + 13) t = 0) (hc : 0 ≤ c) (h : n ≤ u ∧ 0 ≤ u ∧ u < 3) : ¬ feas σ m d f u c := by
  rintro ⟨ok, g, _⟩
  have := vld_gP hc hv ok u h.2.1 h.2.2
  have := zer u h.1 h.2.2 h.2.1
  omega
theorem bm58 {m : Nat} {bk : Int} (hI : IMach m bk σ σm) (hf : FyOk σ) (hL : IFly σ σm) {υ0 : St} (hM : WMr υ0.1 υ0.2.2) (f0 : FM [41, 42] [75, 76] σm υ0) {st : Int} (hst : 0 ≤ st ∧ st < fI σ 73 0) (hT : TM σ m (st + 1) υ0) {f : Int → Int} (hv : vld (σ.2.1 (m + 13)) f) {s : Int} (hs : s = sM f) {u p a : Int} (hu : 0 ≤ u ∧ u < fI σ m 15) (hp : 0 ≤ p ∧ p ≤ fI σ 73 1) (ha : 0 ≤ a ∧ a < fI σ m 15) (hpa : p = 0 → a = 0) {t2 t8 t14 : St × Int × Int} (e2 : t2.2.2 = u) (e8 : t8.2.2 = p) (e14 : t14.2.2 = a) {J : St × Int → Option (St × Int)} {Q : St × Int → Prop} (hJ : ∀ φ b, FM [42] [75, 76] υ0 φ → Bst σ m (fI σ 73 0 - (st + 1)).toNat f (36 * u + 9 * p + 3 * a + 3) φ b → Ok (J (φ, b)) Q) (hN : 1000 < N) {φ0 : St} {b0 : Int} (h1 : FM [42] [75, 76] υ0 φ0) (h2 : Bst σ m (fI σ 73 0 - (st + 1)).toNat f (36 * u + 9 * p + 3 * a) φ0 b0) : Ok (L_X12_bestMove_58 N 1 st s t2 t8 t14 J (φ0, b0, 0)) Q := by
  have hn := hf.1
  have hP := hf.2.1
  have i4 := hI.2.2.2.1
  have i3 := hI.2.2.1
  have htk := hI.2.2.2.2.1.2.2.2.2
  have rt := hI.2.2.2.2.2.2.2.2.1
  have hk := hI.tk
  have zer : ∀ t, fI σ m 15 ≤ t → t < 3 → 0 ≤ t → f t = 0 ∧ σ.2.1 (m + 13) t = 0 := fun t x y z => by have h1 := (rt t z y).2 x; have h2 := hv t z y; omega
  unfold L_X12_bestMove_58
  refine ok_fix (fun w => (0 ≤ w.2.2 ∧ w.2.2 ≤ fI σ m 15 ∧ (p = 0 → w.2.2 ≤ 1)) ∧ FM [42] [75, 76] υ0 w.1 ∧ Bst σ m (fI σ 73 0 - (st + 1)).toNat f (36 * u + (9 * p + 3 * a + w.2.2)) w.1 w.2.1) (fun w => (fI σ m 15 - w.2.2).toNat) (fun back w hw hback => ?_) _ ⟨by dsimp only; omega, h1, by dsimp only; rw [show 36 * u + (9 * p + 3 * a + 0) = 36 * u + 9 * p + 3 * a by omega]; exact h2⟩ (by dsimp only; omega)
  obtain ⟨φ, b, t⟩ := w
  obtain ⟨⟨g1, g2, g3⟩, gF, gB'⟩ := hw
  dsimp only at g1 g2 g3 gF gB' hback ⊢
  have hMφ := gF.M hM
  have gφ : FM [41, 42] [75, 76] σm φ := f0.trans (gF.mono (by simp) (by simp))
  have ec : ∀ q, 4 ≤ q → q ≤ 40 → φ.2.1 q = σm.2.1 q := fun q x y => gφ.2.2.1 q (by omega) (by simp; omega)
  have eb : fI φ 1 31 = bk := (gφ.f (by decide)).trans i3
  have hTφ : TM σ m (st + 1) φ := fun s' x y => by rw [gF.2.2.1 41 (by decide) (by decide)]; exact hT s' x y
  have brg := gB'.rg hf
  refine sm_rcv hMφ (ok_rw (tanks_eq hMφ eb i4) ?_)
  dsimp only
  rw [ec 8 (by decide) (by decide), htk.1, e8, e2, e14]
  have ex : (fI σ m 15 ≤ t ∨ (p = 0 ∧ t ≠ 0)) → Ok (J (φ, b)) Q := fun q => hJ φ b gF (gB'.skip (by omega) (fun u' c' hr k1 k2 => by
    have h1 := hr.1
    have h2 := hr.2
    have e : u' = u := by omega
    refine nfe (n := fI σ m 15) (by omega) hv zer h2.1 ?_
    rcases q with q | q
    · exact .inr (.inr (by omega))
    · exact .inl (by omega)))
  refine ok_wlt (by omega) (by omega) (fun h4 => ?_) (fun h4 => ex (.inl (by omega)))
  refine ok_JnC (fun _ => p = 0 → t = 0) (fun _ hpt => ?_) (fun j hj => ?_)
  · have hr : rngP σ u (9 * p + 3 * a + t) := ⟨by omega, by omega⟩
    obtain ⟨χ, v, e, p1, p2, p3⟩ := tryMove_eq (N := N) hI hf hL hMφ gφ hst hTφ hv hs (p := p) (a := a) (b := t) (u := u) (c := 9 * p + 3 * a + t) hu (by omega) ha (by omega) (by omega) hN
    have vr := tvM_rg hf hr p2
    refine sm_rcv hMφ (ok_rw e ?_)
    dsimp only
    have fχ : FM [42] [75, 76] υ0 χ := gF.trans (p1.mono (by simp) (by simp))
    have hMχ := fχ.M hM
    refine ok_JnC (fun x => FM [42] [75, 76] υ0 x.1 ∧ Bst σ m (fI σ 73 0 - (st + 1)).toNat f (36 * u + (9 * p + 3 * a + t) + 1) x.1 x.2) (fun x hx => ?_) (fun j hj => ?_)
    · refine st_Lt ?_
      exact hback _ ⟨by dsimp only; omega, hx.1, by dsimp only; rw [show 36 * u + (9 * p + 3 * a + (t + 1)) = 36 * u + (9 * p + 3 * a + t) + 1 by omega]; exact hx.2⟩ (by dsimp only; omega)
    · refine ok_wlt (by omega) (by omega) (fun h5 => ?_) (fun h5 => hj _ ⟨fχ, (gB'.pass hf hr p2 h5).keep (p1.f (by decide)) (p1.f (by decide))⟩)
      refine ok_JnC (fun x => x = 9 * p + 3 * a + t) (fun x hx => ?_) (fun k hk' => ?_)
      · subst hx
        have hF := vr.2.1.mp (by omega)
        have hvb := vld_iff.mp (vld_gB (vld_gP (by omega) hv hF.1) hF.2.1)
        have k0 := hk 0 (by decide) (by decide)
        have k1 := hk 1 (by decide) (by decide)
        have k2 := hk 2 (by decide) (by decide)
        refine sm_pI hMχ ?_
        refine sm_rcv (σ := uF χ 1 75 (100 * u + (9 * p + 3 * a + t))) hMχ (ok_rw (stateNow_eq (τ := uF χ 1 75 (100 * u + (9 * p + 3 * a + t))) hMχ (f := gB (gP f (9 * p + 3 * a + t)) u) (fun t' x y => (uF_k (by decide)).trans (p3 (by omega) t' x y)) (by omega) (by omega) (by omega)) ?_)
        dsimp only
        refine sm_pI (σ := uF χ 1 75 (100 * u + (9 * p + 3 * a + t))) hMχ ?_
        refine hj _ ⟨(fχ.uF (by simp)).uF (by simp), gB'.take hf hr p2 h5 ?_ ?_⟩
        · dsimp only
          rw [fI_j (by decide), fI_eq]
        · dsimp only
          rw [fI_eq]
      · exact ok_weqc (by omega) (fun h6 => hk' _ (by omega)) (fun h6 => hk' _ rfl)
  · refine ok_weqc (by omega) (fun h5 => hj () (fun _ => h5)) (fun h5 => ?_)
    exact ok_w0lt (by omega) (fun h6 => hj () (fun q => by omega)) (fun h6 => ex (.inr (by omega)))
end F
