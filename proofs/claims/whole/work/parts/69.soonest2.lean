/-! the pure part: soonest, the call -/
section W
variable {N : Nat} {σ σm : St}
theorem so66 (hM : WMr σm.1 σm.2.2) {J : St → Option (St × Int)} {Q : St × Int → Prop} (hN : 10000 < N) (h : ∀ υ, FM [43] [] σm υ → (∀ x : Int, 0 ≤ x → x < 6400 → υ.2.1 43 x = 1000000) → Ok (J υ) Q) : Ok (L_X12_soonest_66 N 1 J (σm, 0)) Q := by
  unfold L_X12_soonest_66
  refine ok_fix (fun w => FM [43] [] σm w.1 ∧ 0 ≤ w.2 ∧ w.2 ≤ 6400 ∧ ∀ p : Int, 0 ≤ p → p < w.2 → w.1.2.1 43 p = 1000000) (fun w => (6400 - w.2).toNat) (fun back w hI hback => ?_) _ ⟨FM.refl, Int.le_refl _, by dsimp only; omega, fun p a b => by dsimp only at b; omega⟩ (by dsimp only; omega)
  obtain ⟨υ, j⟩ := w
  obtain ⟨g1, g2, g3, g4⟩ := hI
  dsimp only at g1 g2 g3 g4 hback ⊢
  have hM' := g1.M hM
  refine ok_wlt (by omega) (by omega) (fun h1 => ?_) (fun h1 => h _ g1 (fun p a b => g4 p a (by omega)))
  refine sm_gR hM' rfl ?_
  refine sm_sI hM' rfl rfl (by decide) (by omega) (by omega) ?_
  refine st_Lt ?_
  refine hback _ ⟨g1.uI (by decide) (by decide), by dsimp only; omega, by dsimp only; omega, fun p a b => ?_⟩ (by dsimp only; omega)
  dsimp only at b ⊢
  rw [uW_at]
  split
  · rfl
  · exact g4 p a (by omega)
theorem so274 {υ : St} (hM : WMr υ.1 υ.2.2) {to fuel : Int} (hto : 0 ≤ to ∧ to ≤ 63) (hfu : 0 ≤ fuel ∧ fuel ≤ 99) {D : Int → Int} (hD : ∀ g, 0 ≤ g → g ≤ fuel → 0 ≤ D g ∧ ((υ.2.1 43 (100 * to + g) = 1000000 ∧ D g = 100000) ∨ (υ.2.1 43 (100 * to + g) = D g ∧ D g < 100000))) {best burnt : Int} (hS : Sel D (fuel + 1) best burnt) (hN : 1000 < N) {Q : St × Int → Prop} (hQ : ∀ r, r = (if best < 100000 then 100 * best + burnt else -1) → Q (υ, r)) : Ok (L_X12_soonest_274 N 1 to fuel υ (fun t11 : Int => (if wr t11 < 0 then some (υ, (-1)) else Option.bind (gR shm υ 12 1 77) fun minutes_12 => Option.bind (aI shm υ 1 minutes_12 ((100 * to) + t11)) fun a13 => some (υ, ((100 * a13) + t11)))) ((-1), 0)) Q := by
  unfold L_X12_soonest_274
  refine ok_fix (fun w => (0 ≤ w.2 ∧ w.2 ≤ fuel + 1) ∧ ((w.1 = -1 ∧ ∀ g, 0 ≤ g → g < w.2 → D g = 100000) ∨ ((0 ≤ w.1 ∧ w.1 < w.2) ∧ D w.1 < 100000 ∧ (∀ g, 0 ≤ g → g < w.1 → D w.1 < D g) ∧ ∀ g, 0 ≤ g → g < w.2 → D w.1 ≤ D g))) (fun w => (fuel + 1 - w.2).toNat) (fun back w hI hback => ?_) _ ⟨by dsimp only; omega, .inl ⟨rfl, fun g a b => by dsimp only at b; omega⟩⟩ (by dsimp only; omega)
  obtain ⟨bi, b⟩ := w
  obtain ⟨g1, g2⟩ := hI
  dsimp only at g1 g2 hback ⊢
  refine ok_wlt (by omega) (by omega) (fun h1 => ?_) (fun h1 => ?_)
  · have : b = fuel + 1 := by omega
    subst this
    rcases g2 with ⟨k1, k2⟩ | ⟨k1, k2, k3, k4⟩
    · refine ok_wlt0 (by omega) (fun _ => ok_some (hQ _ ?_)) (fun h2 => by exfalso; omega)
      rcases hS with ⟨s1, s2, s3⟩ | ⟨s1, s2, s3, s4, s5⟩
      · rw [if_neg (by omega)]
      · have := k2 burnt s1.1 s1.2; omega
    · have sel2 : Sel D (fuel + 1) (D bi) bi := .inr ⟨k1, rfl, k2, k3, k4⟩
      obtain ⟨e1, e2⟩ := hS.uniq sel2
      have d := hD bi k1.1 (by omega)
      refine ok_wlt0 (by omega) (fun h2 => by exfalso; omega) (fun _ => ?_)
      refine sm_gR hM rfl ?_
      refine sm_aI hM rfl rfl (by decide) (by omega) (by omega) (ok_some (hQ _ ?_))
      rw [if_pos (by omega)]
      omega
  · have d := hD b g1.1 (by omega)
    refine sm_gR hM rfl ?_
    refine sm_aI hM rfl rfl (by decide) (by omega) (by omega) ?_
    refine st_Jn ?_
    rcases d with ⟨d0, ⟨d1, d2⟩ | ⟨d1, d2⟩⟩
    · rw [d1]
      refine ok_wlt (by omega) (by omega) (fun h2 => by exfalso; omega) (fun _ => st_Lt ?_)
      refine hback _ ⟨by dsimp only; omega, ?_⟩ (by dsimp only; omega)
      dsimp only
      rcases g2 with ⟨k1, k2⟩ | ⟨k1, k2, k3, k4⟩
      · refine .inl ⟨k1, fun g a b' => ?_⟩
        by_cases hg : g = b
        · rw [hg]; exact d2
        · exact k2 g a (by omega)
      · refine .inr ⟨by omega, k2, k3, fun g a b' => ?_⟩
        by_cases hg : g = b
        · rw [hg]; omega
        · exact k4 g a (by omega)
    · rw [d1]
      refine ok_wlt (by omega) (by omega) (fun _ => ?_) (fun h2 => by exfalso; omega)
      refine st_Jn ?_
      have take : (∀ g, 0 ≤ g → g < b → D b < D g) → Ok (back (b, b + 1)) Q := fun hlt => by
        refine hback _ ⟨by dsimp only; omega, .inr ⟨by dsimp only; omega, d2, hlt, fun g a b' => ?_⟩⟩ (by dsimp only; omega)
        dsimp only at b' ⊢
        by_cases hg : g = b
        · rw [hg]; exact Int.le_refl _
        · have := hlt g a (by omega); omega
      rcases g2 with ⟨k1, k2⟩ | ⟨k1, k2, k3, k4⟩
      · exact ok_wlt0 (by omega) (fun _ => st_Lt (take (fun g a b' => by have := k2 g a b'; omega))) (fun h2 => by exfalso; omega)
      · refine ok_wlt0 (by omega) (fun h2 => by exfalso; omega) (fun _ => ?_)
        have d3 := hD bi k1.1 (by omega)
        refine sm_gR hM rfl ?_
        refine sm_aI hM rfl rfl (by decide) (by omega) (by omega) ?_
        refine sm_gR hM rfl ?_
        refine sm_aI hM rfl rfl (by decide) (by omega) (by omega) ?_
        rw [d1]
        refine ok_wlt (by omega) (by omega) (fun h3 => st_Lt (take (fun g a b' => by have := k4 g a b'; omega))) (fun h3 => st_Lt ?_)
        refine hback _ ⟨by dsimp only; omega, .inr ⟨by dsimp only; omega, k2, k3, fun g a b' => ?_⟩⟩ (by dsimp only; omega)
        dsimp only at b' ⊢
        by_cases hg : g = b
        · rw [hg]; omega
        · exact k4 g a (by omega)
theorem op_soonest (hX : WXr σ.1 σ.2.2) (hM : WMr σm.1 σm.2.2) {m : Nat} {bk : Int} (hI : IMach m bk σ σm) {t : Int → Nat} {sp : Nat} (hT : ITre t sp σ σm) {a b c d e f : Int} (ha : wr a = a) (hb : wr b = b) (hc : wr c = c) (hd : wr d = d) (he : wr e = e) (hf : wr f = f) (hN : 10000 < N) : Ok (f_X11_soonest N σ 1 a b c d e f) (fun v => Ok (f_X12_soonest N σm 1 a b c d e f) (fun w => wr v.2 = wr w.2 ∧ FX [93, 94, t c + 4, t c + 5, 96, 97, 98, 99] σ v.1 ∧ FM [43, 31] [54, 55, 56] σm w.1)) := by
  have ra := wr_rg ha
  have rb := wr_rg hb
  have rc := wr_rg hc
  have rd := wr_rg hd
  have re := wr_rg he
  have rf := wr_rg hf
  by_cases hv : (0 ≤ a ∧ a ≤ 63) ∧ (0 ≤ b ∧ b ≤ 63) ∧ (0 ≤ c ∧ c ≤ 2) ∧ (0 ≤ d ∧ d ≤ 23) ∧ (0 ≤ e ∧ e ≤ 255) ∧ (0 ≤ f ∧ f ≤ 99)
  · obtain ⟨va, vb, vc, vd, ve, vf⟩ := hv
    obtain ⟨tc, tr⟩ := hT.1.1 c vc.1 (by omega)
    have rt := hT.2.1 c vc.1 (by omega) 2 (by omega) (by omega)
    have htl := isT_le tc
    have hm := hI.1
    have hml := isM_le hm
    have i2 := hI.2.1
    obtain ⟨τ, t1, t2, t3⟩ := open_eq (N := N) hX tc rt.x d e (by omega)
    have rg := hI.2.2.2.2.2.2.2.2.2
    obtain ⟨υ, best, burnt, u1, u2, u3⟩ := fewest_eq (N := N) hI (τ0 := τ) (t2.X hX) (t2.2.2 _ (by simp; omega)) (fs := fsC σ (t c) m d e) (sl := slC σ (t c) m d) (fun x x0 x1 => t3 _ (rg x x0 (by omega)).2.1 (by have := (rg x x0 (by omega)).2.2; omega)) va vb vf (by omega)
    unfold f_X11_soonest
    refine ok_within (by omega) (by omega) (by omega) (fun _ => ok_z1 ?_) (fun h => by exfalso; omega)
    refine ok_within (by omega) (by omega) (by omega) (fun _ => ok_z1 ?_) (fun h => by exfalso; omega)
    refine ok_tongue rc (fun _ => ok_z1 ?_) (fun h => by exfalso; omega)
    refine ok_within (by omega) (by omega) (by omega) (fun _ => ok_z1 ?_) (fun h => by exfalso; omega)
    refine ok_within (by omega) (by omega) (by omega) (fun _ => ok_z1 ?_) (fun h => by exfalso; omega)
    refine ok_within (by omega) (by omega) (by omega) (fun _ => ok_z1 ?_) (fun h => by exfalso; omega)
    refine sx_gR hX rfl rfl rfl ?_
    refine sx_gR hX rfl rfl rfl ?_
    refine sx_aR hX rfl rfl (by decide) (by omega) (by omega) tr ?_
    refine sx_rcv hX rfl rfl (ok_rw t1 ?_)
    dsimp only
    refine sx_gR (t2.X hX) rfl rfl rfl ?_
    refine sx_gR1 (m := m) (t2.X hX) (by rw [t2.2.1]; exact i2) ?_
    refine sx_rcv (t2.X hX) rfl rfl (ok_rw u1 (ok_some ?_))
    dsimp only
    have fx : FX [93, 94, t c + 4, t c + 5, 96, 97, 98, 99] σ υ := (t2.mono (by simp)).trans (u2.mono (by simp))
    unfold f_X12_soonest
    refine ok_isIn (by omega) (by omega) (by omega) (fun _ => ok_z1 ?_) (fun h => by exfalso; omega)
    refine ok_isIn (by omega) (by omega) (by omega) (fun _ => ok_z1 ?_) (fun h => by exfalso; omega)
    refine om_tongue rc (fun _ => ok_z1 ?_) (fun h => by exfalso; omega)
    refine ok_isIn (by omega) (by omega) (by omega) (fun _ => ok_z1 ?_) (fun h => by exfalso; omega)
    refine ok_isIn (by omega) (by omega) (by omega) (fun _ => ok_z1 ?_) (fun h => by exfalso; omega)
    refine ok_isIn (by omega) (by omega) (by omega) (fun _ => ok_z1 ?_) (fun h => by exfalso; omega)
    refine st_Jn ?_
    refine so66 hM hN (fun φ f1 f2 => ?_)
    have hMφ := f1.M hM
    refine sm_gR hMφ rfl ?_
    refine sm_sI hMφ rfl rfl (by decide) (by omega) (by omega) ?_
    refine st_Jn ?_
    have iw0 : Iw σ σm (t c) m d e a f (SL 0) (uI φ 43 (100 * a) 0) := by
      refine ⟨(f1.mono (by simp) (by simp)).uI (by decide) (by simp), fun x x0 x1 => ?_, fun x g hx hg => ⟨fun h0 => ?_, fun h0 h1 => ?_⟩⟩
      · rw [uW_at]
        split
        · omega
        · rw [f2 x x0 x1]; omega
      · rw [uW_at]
        by_cases hxa : x = a
        · rw [if_pos (by omega), if_pos hxa]
        · rw [if_neg (by omega), if_neg hxa]; exact f2 _ (by omega) (by omega)
      · rw [uI_j (by omega), f2 _ (by omega) (by omega)]
        refine .inl ⟨rfl, fun val hval => ?_⟩
        obtain ⟨n, hn, ⟨q1, q2, q3, _⟩ | ⟨q1, q2, q3, _⟩⟩ := hval
        · unfold SL at q3; have := hn.1; omega
        · unfold SL at q3; have := hn.1; omega
    unfold L_X12_soonest_103
    refine ok_fix (fun w => Iw σ σm (t c) m d e a f (SL (64 * w.2)) w.1 ∧ 0 ≤ w.2 ∧ w.2 ≤ f + 1) (fun w => (f + 1 - w.2).toNat) (fun back w hI' hback => ?_) _ ⟨iw0, Int.le_refl _, by dsimp only; omega⟩ (by dsimp only; omega)
    obtain ⟨ψ, bb⟩ := w
    obtain ⟨g1, g2, g3⟩ := hI'
    dsimp only at g1 g2 g3 hback ⊢
    refine ok_wlt (by omega) (by omega) (fun h1 => ?_) (fun h1 => ?_)
    · have : bb = f + 1 := by omega
      subst this
      refine st_Jn ?_
      refine so274 (g1.1.M hM) vb vf (D := dTo (fsC σ (t c) m d e) (slC σ (t c) m d) a b) (fun g g0 g9 => ?_) u3 (by omega) (fun r hr => ⟨by rw [hr], fx, g1.1⟩)
      refine ⟨((dd_rw _ _ a g.toNat).1 b).1, ?_⟩
      exact g1.2.2.val vf ⟨g0, g9⟩ vb (by omega)
    · refine st_Jn ?_
      refine so113 hI vc rt hM vf (t34 := (ψ, bb)) rfl ⟨g2, h1⟩ g1 (by omega) (fun φ' hφ => st_Lt ?_)
      exact hback _ ⟨hφ, by dsimp only; omega, by dsimp only; omega⟩ (by dsimp only; omega)
  · unfold f_X11_soonest f_X12_soonest
    repeat' first
      | with_reducible apply st_Lt
      | with_reducible apply st_Jn
      | ((with_reducible apply ok_some); try dsimp only)
      | with_reducible apply ok_z0
      | with_reducible apply ok_z1
      | ((with_reducible apply ok_gF_hit); exact hX; exact rfl; exact rfl)
      | ((with_reducible apply om_gF_hit); exact hM)
      | ((with_reducible apply ok_gF_j); decide)
      | ((with_reducible apply ok_gF_k); (first | decide | omega))
      | ((with_reducible apply ok_gU_k); (first | decide | omega))
      | ((with_reducible apply ok_aF_k); (first | decide | omega))
      | ((with_reducible apply ok_aU_k); (first | decide | omega))
      | (with_reducible apply ok_rF)
      | (with_reducible apply ok_rU)
      | (with_reducible apply ok_qF)
      | (with_reducible apply ok_qU)
      | ((with_reducible apply sx_gI); exact hX; exact rfl; exact rfl)
      | ((with_reducible apply sx_gR); exact hX; exact rfl; exact rfl; exact rfl)
      | ((with_reducible apply sx_pI); exact hX; exact rfl; exact rfl)
      | ((with_reducible apply sx_rcv); exact hX; exact rfl; exact rfl)
      | ((with_reducible apply sx_aI); exact hX; exact rfl; exact rfl; exact (by decide); omega; omega)
      | ((with_reducible apply sx_sI); exact hX; exact rfl; exact rfl; exact (by decide); omega; omega)
      | ((with_reducible apply sm_gI); exact hM)
      | ((with_reducible apply sm_gR); exact hM; exact rfl)
      | ((with_reducible apply sm_pI); exact hM)
      | ((with_reducible apply sm_rcv); exact hM)
      | ((with_reducible apply sm_aI); exact hM; exact rfl; exact rfl; exact (by decide); omega; omega)
      | ((with_reducible apply sm_sI); exact hM; exact rfl; exact rfl; exact (by decide); omega; omega)
      | ((with_reducible apply ok_rZ); (first | exact .inl rfl | exact .inr rfl))
      | ((with_reducible refine ok_within ?_ ?_ ?_ (fun hc => ?_) (fun hc => ?_)); omega; omega; omega)
      | ((with_reducible refine ok_month ?_ (fun hc => ?_) (fun hc => ?_)); omega)
      | ((with_reducible refine ok_tongue ?_ (fun hc => ?_) (fun hc => ?_)); omega)
      | ((with_reducible refine ok_money ?_ (fun hc => ?_) (fun hc => ?_)); omega)
      | ((with_reducible refine om_month ?_ (fun hc => ?_) (fun hc => ?_)); omega)
      | ((with_reducible refine om_tongue ?_ (fun hc => ?_) (fun hc => ?_)); omega)
      | ((with_reducible refine ok_isIn ?_ ?_ ?_ (fun hc => ?_) (fun hc => ?_)); omega; omega; omega)
      | ((with_reducible refine ok_wltp ?_ ?_ ?_ ?_); omega; omega; omega)
      | ((with_reducible refine ok_wltn ?_ ?_ ?_ ?_); omega; omega; omega)
      | ((with_reducible refine ok_wlt ?_ ?_ (fun hc => ?_) (fun hc => ?_)); omega; omega)
      | ((with_reducible refine ok_wlt0 ?_ (fun hc => ?_) (fun hc => ?_)); omega)
      | ((with_reducible refine ok_w0lt ?_ (fun hc => ?_) (fun hc => ?_)); omega)
      | ((with_reducible refine ok_weq ?_ ?_ (fun hc => ?_) (fun hc => ?_)); omega; omega)
      | ((with_reducible refine ok_weqc ?_ (fun hc => ?_) (fun hc => ?_)); omega)
    all_goals first | (exfalso; omega) | exact ⟨rfl, FX.refl, FM.refl⟩
end W
