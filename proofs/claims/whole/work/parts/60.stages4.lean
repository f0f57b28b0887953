/-! the pure part: STAGES, the table laid; safe, bears, should -/
section St
variable {N : Nat} {σ σm : St}
def Pst (σ σm τ : St) (i lim : Int) : Prop := FM [51] [] σm τ ∧ (∀ j, i < j → j ≤ fI σ 108 0 → Tb σ τ j 33635) ∧ Tb σ τ i lim
theorem Pst.stg {τ : St} {i lim : Int} (h : Pst σ σm τ i lim) (hS : IStg σ σm) : IStg σ τ := hS.keep rfl rfl rfl (h.1.f (by simp)) (h.1.f (by simp)) (h.1.f (by simp)) (h.1.2.2.1 49 (by decide) (by decide)) (h.1.2.2.1 50 (by decide) (by decide))
theorem Pst.put {τ : St} {i w v a b x : Int} (hi : 0 ≤ i) (hs : SgOk σ) (hw : 0 ≤ w ∧ w ≤ fI σ 108 2) (hv : 0 ≤ v ∧ v ≤ 6) (ha : 0 ≤ a ∧ a ≤ 30) (hb : 0 ≤ b ∧ b ≤ 30) (h : Pst σ σm τ i (six 0 w v a b)) (hx : wz x = if nxOf σ (fI σ 108 0 - i).toNat w v a ≤ b then 1 else 0) : Pst σ σm (uI τ 51 (six i w v a b) x) i (six 0 w v a (b + 1)) := by
  have hsl := hs.2.2.1
  refine ⟨h.1.uI (by decide) (by simp), fun j j0 j1 w' v' a' b' hw' hv' ha' hb' hl => ?_, fun w' v' a' b' hw' hv' ha' hb' hl => ?_⟩
  · rw [uI_j (by unfold six; omega)]
    exact h.2.1 j j0 j1 w' v' a' b' hw' hv' ha' hb' hl
  · rw [uW_at]
    by_cases hq : six 0 w' v' a' b' = six 0 w v a b
    · unfold six at hq
      have e1 : b' = b := by omega
      have e2 : a' = a := by omega
      have e3 : v' = v := by omega
      have e4 : w' = w := by omega
      subst e1 e2 e3 e4
      rw [if_pos rfl]; exact hx
    · rw [if_neg (by unfold six at hq ⊢; omega)]
      exact h.2.2 w' v' a' b' hw' hv' ha' hb' (by unfold six at hl hq ⊢; omega)
theorem ly40 (hS : IStg σ σm) (hM : WMr σm.1 σm.2.2) {i w v a : Int} (hi : 0 ≤ i ∧ i ≤ fI σ 108 0) (hw : 0 ≤ w ∧ w ≤ fI σ 108 2) (hv : 0 ≤ v ∧ v ≤ 6) (ha : 0 ≤ a ∧ a ≤ 30) {t2 t7 t13 t18 : St × Int} (e2 : t2.2 = i) (e7 : t7.2 = w) (e13 : t13.2 = v) (e18 : t18.2 = a) {τ0 : St} (h0 : Pst σ σm τ0 i (six 0 w v a 0)) {J : St → Option (St × Int)} {Q : St × Int → Prop} (hN : 1000 < N) (h : ∀ τ, Pst σ σm τ i (six 0 w v (a + 1) 0) → Ok (J τ) Q) : Ok (L_X12_layStages_40 N 1 t2 t7 t13 t18 J (τ0, 0)) Q := by
  have hs := hS.sg
  have hn := hs.1
  have hsl := hs.2.2.1
  unfold L_X12_layStages_40
  refine ok_fix (fun q => Pst σ σm q.1 i (six 0 w v a q.2) ∧ 0 ≤ q.2 ∧ q.2 ≤ 31) (fun q => (31 - q.2).toNat) (fun back q hI hback => ?_) _ ⟨h0, Int.le_refl _, by dsimp only; omega⟩ (by dsimp only; omega)
  obtain ⟨τ, b⟩ := q
  obtain ⟨g1, g2, g3⟩ := hI
  dsimp only at g1 g2 g3 hback ⊢
  have hM' := g1.1.M hM
  have hS' := g1.stg hS
  refine ok_wlt (by omega) (by omega) (fun h1 => ?_) (fun h1 => ?_)
  · have : b = 31 := by omega
    subst this
    refine h τ ?_
    rw [show six 0 w v (a + 1) 0 = six 0 w v a 31 by unfold six; omega]
    exact g1
  · refine sm_gR hM' rfl ?_
    unfold f_X12_stateOf
    refine ok_bind (ok_some ?_)
    dsimp only
    rw [e2, e7, e13, e18]
    refine sm_gI hM' ?_
    rw [hS'.1.1]
    refine st_Jn (st_Jn ?_)
    have put : ∀ x : Int, (x = 0 ∨ x = 1) → wz x = (if nxOf σ (fI σ 108 0 - i).toNat w v a ≤ b then 1 else 0) → Ok (Option.bind (sI shm τ 3 51 (((((((i * 5) + w) * 7) + v) * 31) + a) * 31 + b) x) fun σ29 => Lt (b + 1) fun x30 => back (σ29, x30)) Q := fun x hx hz => by
      refine sm_sI hM' rfl rfl (by decide) (by omega) (by omega) (st_Lt ?_)
      exact hback _ ⟨g1.put hi.1 hs hw hv ha ⟨g2, h1⟩ hz, by dsimp only; omega, by dsimp only; omega⟩ (by dsimp only; omega)
    refine ok_weq (by omega) (by omega) (fun h2 => ?_) (fun h2 => ?_)
    · refine put 1 (.inr rfl) ?_
      have : nxOf σ (fI σ 108 0 - i).toNat w v a = 0 := by rw [h2, Int.sub_self]; rfl
      rw [this, if_pos g2]; rfl
    · have nw := nx_wt (σ := σ) (i := i) (by omega) hw.1 v a
      have key : ∀ x y : Int, imn x y ≤ b ↔ (x ≤ b ∨ y ≤ b) := fun x y => by unfold imn; split <;> omega
      refine sm_rcv hM' (ok_rw (waitsM_eq hM' hS' (by omega) g1.2.2 hw hv ha ⟨g2, h1⟩ (Int.le_refl _)) ?_)
      dsimp only
      by_cases h3 : wtV σ i w v a ≤ b
      · rw [if_pos h3]
        refine ok_z1 (put 1 (.inr rfl) ?_)
        rw [nw, if_pos ((key _ _).mpr (.inr h3))]; rfl
      · rw [if_neg h3]
        refine ok_z0 ?_
        refine sm_rcv hM' (ok_rw (goes_eq hM' hS' (by omega) (g1.2.1 (i + 1) (by omega) (by omega)) hw hv ha ⟨g2, h1⟩) ?_)
        dsimp only
        by_cases h4 : sLG (nxOf σ (fI σ 108 0 - (i + 1)).toNat) (σ.2.1 109 i) (shr (σ.2.1 109 i) (σ.2.1 110 i)) w v a ≤ b
        · rw [if_pos h4]
          refine ok_z1 (put 1 (.inr rfl) ?_)
          rw [nw, if_pos ((key _ _).mpr (.inl h4))]; rfl
        · rw [if_neg h4]
          refine ok_z0 (put 0 (.inl rfl) ?_)
          rw [nw, if_neg (fun q => by rcases (key _ _).mp q with h | h; exact h4 h; exact h3 h)]; rfl
theorem ly30 (hS : IStg σ σm) (hM : WMr σm.1 σm.2.2) {i w v : Int} (hi : 0 ≤ i ∧ i ≤ fI σ 108 0) (hw : 0 ≤ w ∧ w ≤ fI σ 108 2) (hv : 0 ≤ v ∧ v ≤ 6) {t2 t7 t13 : St × Int} (e2 : t2.2 = i) (e7 : t7.2 = w) (e13 : t13.2 = v) {τ0 : St} (h0 : Pst σ σm τ0 i (six 0 w v 0 0)) {J : St → Option (St × Int)} {Q : St × Int → Prop} (hN : 1000 < N) (h : ∀ τ, Pst σ σm τ i (six 0 w (v + 1) 0 0) → Ok (J τ) Q) : Ok (L_X12_layStages_30 N 1 t2 t7 t13 J (τ0, 0)) Q := by
  unfold L_X12_layStages_30
  refine ok_fix (fun q => Pst σ σm q.1 i (six 0 w v q.2 0) ∧ 0 ≤ q.2 ∧ q.2 ≤ 31) (fun q => (31 - q.2).toNat) (fun back q hI hback => ?_) _ ⟨h0, Int.le_refl _, by dsimp only; omega⟩ (by dsimp only; omega)
  obtain ⟨g1, g2, g3⟩ := hI
  refine ok_wlt (by omega) (by omega) (fun h1 => ?_) (fun h1 => ?_)
  · refine h q.1 ?_
    rw [show six 0 w (v + 1) 0 0 = six 0 w v q.2 0 by unfold six; omega]
    exact g1
  · refine st_Jn ?_
    refine ly40 hS hM hi hw hv ⟨g2, h1⟩ e2 e7 e13 rfl g1 hN (fun τ p => st_Lt ?_)
    exact hback _ ⟨p, by dsimp only; omega, by dsimp only; omega⟩ (by dsimp only; omega)
theorem ly21 (hS : IStg σ σm) (hM : WMr σm.1 σm.2.2) {i w : Int} (hi : 0 ≤ i ∧ i ≤ fI σ 108 0) (hw : 0 ≤ w ∧ w ≤ fI σ 108 2) {t2 t7 : St × Int} (e2 : t2.2 = i) (e7 : t7.2 = w) {τ0 : St} (h0 : Pst σ σm τ0 i (six 0 w 0 0 0)) {J : St → Option (St × Int)} {Q : St × Int → Prop} (hN : 1000 < N) (h : ∀ τ, Pst σ σm τ i (six 0 (w + 1) 0 0 0) → Ok (J τ) Q) : Ok (L_X12_layStages_21 N 1 t2 t7 J (τ0, 0)) Q := by
  unfold L_X12_layStages_21
  refine ok_fix (fun q => Pst σ σm q.1 i (six 0 w q.2 0 0) ∧ 0 ≤ q.2 ∧ q.2 ≤ 7) (fun q => (7 - q.2).toNat) (fun back q hI hback => ?_) _ ⟨h0, Int.le_refl _, by dsimp only; omega⟩ (by dsimp only; omega)
  obtain ⟨g1, g2, g3⟩ := hI
  refine ok_wlt (by omega) (by omega) (fun h1 => ?_) (fun h1 => ?_)
  · refine h q.1 ?_
    rw [show six 0 (w + 1) 0 0 0 = six 0 w q.2 0 0 by unfold six; omega]
    exact g1
  · refine st_Jn ?_
    refine ly30 hS hM hi hw ⟨g2, h1⟩ e2 e7 rfl g1 hN (fun τ p => st_Lt ?_)
    exact hback _ ⟨p, by dsimp only; omega, by dsimp only; omega⟩ (by dsimp only; omega)
theorem ly11 (hS : IStg σ σm) (hM : WMr σm.1 σm.2.2) {i : Int} (hi : 0 ≤ i ∧ i ≤ fI σ 108 0) {t2 : St × Int} (e2 : t2.2 = i) {τ0 : St} (h0 : Pst σ σm τ0 i 0) {J : St → Option (St × Int)} {Q : St × Int → Prop} (hN : 1000 < N) (h : ∀ τ, Pst σ σm τ i 33635 → Ok (J τ) Q) : Ok (L_X12_layStages_11 N 1 t2 J (τ0, 0)) Q := by
  have hsl := hS.sg.2.2.1
  unfold L_X12_layStages_11
  refine ok_fix (fun q => Pst σ σm q.1 i (six 0 q.2 0 0 0) ∧ 0 ≤ q.2 ∧ q.2 ≤ fI σ 108 2 + 1) (fun q => (fI σ 108 2 + 1 - q.2).toNat) (fun back q hI hback => ?_) _ ⟨h0, Int.le_refl _, by dsimp only; omega⟩ (by dsimp only; omega)
  obtain ⟨g1, g2, g3⟩ := hI
  refine sm_gI (g1.1.M hM) ?_
  rw [(g1.stg hS).2.2.1.1]
  refine ok_wlt (by omega) (by omega) (fun h1 => ?_) (fun h1 => ?_)
  · refine h q.1 ⟨g1.1, g1.2.1, fun w v a b hw hv ha hb hl => g1.2.2 w v a b hw hv ha hb (by unfold six; omega)⟩
  · refine st_Jn ?_
    refine ly21 hS hM hi ⟨g2, h1⟩ e2 rfl g1 hN (fun τ p => st_Lt ?_)
    exact hback _ ⟨p, by dsimp only; omega, by dsimp only; omega⟩ (by dsimp only; omega)
theorem lay_eq (hS : IStg σ σm) (hM : WMr σm.1 σm.2.2) (hN : 1000 < N) : ∃ τ, f_X12_layStages N σm 1 = some (τ, 0) ∧ FM [51] [] σm τ ∧ ∀ j, 0 ≤ j → j ≤ fI σ 108 0 → Tb σ τ j 33635 := by
  have hn := hS.sg.1
  have H : Ok (f_X12_layStages N σm 1) (fun q => q.2 = 0 ∧ FM [51] [] σm q.1 ∧ ∀ j, 0 ≤ j → j ≤ fI σ 108 0 → Tb σ q.1 j 33635) := by
    unfold f_X12_layStages
    refine sm_gI hM ?_
    rw [hS.1.1]
    unfold L_X12_layStages_5
    refine ok_fix (fun q => FM [51] [] σm q.1 ∧ (∀ j, q.2 < j → j ≤ fI σ 108 0 → Tb σ q.1 j 33635) ∧ -1 ≤ q.2 ∧ q.2 ≤ fI σ 108 0) (fun q => (q.2 + 1).toNat) (fun back q hI hback => ?_) _ ⟨FM.refl, fun j a b => by dsimp only at a; omega, by dsimp only; omega, by dsimp only; omega⟩ (by dsimp only; omega)
    obtain ⟨g1, g2, g3, g4⟩ := hI
    refine ok_wlt0 (by omega) (fun h1 => ok_some ⟨rfl, g1, fun j a b => g2 j (by omega) b⟩) (fun h1 => ?_)
    refine st_Jn ?_
    refine ly11 hS hM ⟨h1, g4⟩ rfl ⟨g1, g2, fun w v a b hw hv ha hb hl => by unfold six at hl; omega⟩ hN (fun τ p => st_Lt ?_)
    refine hback _ ⟨p.1, fun j a b => ?_, by dsimp only; omega, by dsimp only; omega⟩ (by dsimp only; omega)
    dsimp only at a
    by_cases hj : j = q.2
    · rw [hj]; exact p.2.2
    · exact p.2.1 j (by omega) b
  obtain ⟨⟨τ, v⟩, e, h1, h2⟩ := H
  dsimp only at h1 h2
  subst h1
  exact ⟨τ, e, h2⟩
/-- known rows -/
def IKn (σ : St) : Prop := fI σ 108 3 = 0 ∨ (fI σ 108 3 = 1 ∧ (0 < fI σ 108 0 → RowT σ σ 0 1085) ∧ (1 < fI σ 108 0 → RowT σ σ 1 1085))
theorem IKn.keep {τ : St} (h : IKn σ) (x : ∀ k, 108 ≤ k → k ≤ 113 → τ.2.1 k = σ.2.1 k) : IKn τ := by
  unfold IKn RowT nxOf fI at h ⊢
  have e : ∀ i : Int, τ.2.1 (if i % 2 = 0 then 112 else 113) = σ.2.1 (if i % 2 = 0 then 112 else 113) := fun i => by split <;> exact x _ (by decide) (by decide)
  rw [x 108 (by decide) (by decide), x 109 (by decide) (by decide), x 110 (by decide) (by decide)]
  simp only [e]
  exact h
theorem kn_of {τ : St} (hL : Lk σ τ) (h1 : fI τ 108 3 = 1) (h2 : 0 < fI σ 108 0 → RowT σ τ 0 1085) (h3 : 1 < fI σ 108 0 → RowT σ τ 1 1085) : IKn τ := by
  have e : ∀ i, RowT σ τ i 1085 → RowT τ τ i 1085 := fun i h w v a hw hv ha hl => by
    rw [hL.nx, hL.2.1.1]; exact h w v a hw hv ha hl
  refine .inr ⟨h1, fun h => e 0 (h2 ?_), fun h => e 1 (h3 ?_)⟩
  · rw [← hL.2.1.1]; exact h
  · rw [← hL.2.1.1]; exact h
def sfV (σ : St) (w v a b : Int) : Int := if nxOf σ (fI σ 108 0).toNat w v a ≤ b then 1 else 0
theorem isSafe_eq (hX : WXr σ.1 σ.2.2) (hs : SgOk σ) (hk : IKn σ) {a b v : Int} (ha : 0 ≤ a ∧ a ≤ 30) (hb : 0 ≤ b ∧ b ≤ 30) (hv : 0 ≤ v ∧ v ≤ 6) (hN : 2000 < N) : ∃ τ, f_X5_isSafe N σ 108 a b v = some (τ, sfV σ (fI σ 108 2) v a b) ∧ Lk σ τ ∧ FX [108, 112, 113] σ τ ∧ IKn τ := by
  obtain ⟨τ, t1, t2, t3, t4, t5, t6⟩ := findLeast_eq hX hs hk hN
  have hn := hs.1
  have hsl := hs.2.2.1
  have nr := nx_rg hs (d := (fI σ 108 0).toNat) (by omega) (fI σ 108 2) v a
  have H : Ok (f_X5_isSafe N σ 108 a b v) (fun q => q = (τ, sfV σ (fI σ 108 2) v a b)) := by
    unfold f_X5_isSafe
    refine sx_rcv hX rfl rfl (ok_rw t1 ?_)
    refine sx_gI t2.1 rfl rfl ?_
    dsimp only
    rw [t2.2.1.2.2]
    refine sx_rcv t2.1 rfl rfl (ok_rw (leastAt_eq t2.1 (by rw [t2.2.1.1]; exact hn) (by omega) (by omega) (by omega) (by omega)) ?_)
    have e : lA τ 0 (fI σ 108 2) v a = nxOf σ (fI σ 108 0).toNat (fI σ 108 2) v a := by
      unfold lA
      rw [t2.2.1.1, if_pos (by omega)]
      by_cases h0 : 0 = fI σ 108 0
      · rw [if_pos h0, ← h0]; rfl
      · rw [if_neg h0]
        have := t5 (by omega) (fI σ 108 2) v a hsl hv ha (by omega)
        rw [Int.sub_zero] at this
        exact this
    dsimp only
    rw [e]
    unfold sfV
    refine ok_wlt (by omega) (by omega) (fun h => ok_some (by rw [if_neg (by omega)])) (fun h => ok_some (by rw [if_pos h]))
  obtain ⟨q, e, rfl⟩ := H
  exact ⟨τ, e, t2, t3, kn_of t2 t4 t5 t6⟩
theorem tab_eq {τ : St} (hT : ∀ j, 0 ≤ j → j ≤ fI σ 108 0 → Tb σ τ j 33635) (hs : SgOk σ) {a b v : Int} (ha : 0 ≤ a ∧ a ≤ 30) (hb : 0 ≤ b ∧ b ≤ 30) (hv : 0 ≤ v ∧ v ≤ 6) : wz (τ.2.1 51 ((((((((0 * 5) + fI σ 108 2) * 7) + v) * 31) + a) * 31) + b)) = sfV σ (fI σ 108 2) v a b := by
  have hsl := hs.2.2.1
  have := hT 0 (by omega) hs.1.1 (fI σ 108 2) v a b ⟨hsl.1, Int.le_refl _⟩ hv ha hb (by unfold six; omega)
  rw [Int.sub_zero] at this
  exact this
theorem sfV_or (w v a b : Int) : sfV σ w v a b = 0 ∨ sfV σ w v a b = 1 := by unfold sfV; split <;> simp
theorem op_safe (hX : WXr σ.1 σ.2.2) (hM : WMr σm.1 σm.2.2) (hS : IStg σ σm) (hk : IKn σ) {a b c : Int} (ha : wr a = a) (hb : wr b = b) (hc : wr c = c) (hN : 2000 < N) : Ok (f_X11_safe N σ 1 a b c) (fun v => Ok (f_X12_safe N σm 1 a b c) (fun w => wr v.2 = wr w.2 ∧ FX [108, 112, 113] σ v.1 ∧ FM [51] [] σm w.1 ∧ Lk σ v.1 ∧ IKn v.1)) := by
  have hr := wr_rg ha
  have hs := wr_rg hb
  have ht := wr_rg hc
  have hsg := hS.sg
  have hsl := hsg.2.2.1
  have lk0 : Lk σ σ := ⟨hX, ⟨rfl, rfl, rfl⟩, rfl, rfl⟩
  unfold f_X11_safe f_X12_safe f_X12_isMoney
  by_cases hv : (0 ≤ a ∧ a ≤ 30) ∧ (0 ≤ b ∧ b ≤ 30) ∧ (0 ≤ c ∧ c ≤ 6)
  · obtain ⟨τ, t1, t2, t3, t4⟩ := isSafe_eq (N := N) hX hsg hk hv.1 hv.2.1 hv.2.2 hN
    obtain ⟨υ, u1, u2, u3⟩ := lay_eq (N := N) hS hM (by omega)
    have hM' := u2.M hM
    refine ok_money hr (fun h1 => ok_z1 ?_) (fun h1 => by exfalso; omega)
    refine ok_money hs (fun h1 => ok_z1 ?_) (fun h1 => by exfalso; omega)
    refine ok_within (by omega) (by omega) (by omega) (fun h1 => ok_z1 ?_) (fun h1 => by exfalso; omega)
    refine sx_gR hX rfl rfl rfl ?_
    refine sx_rcv hX rfl rfl (ok_rw t1 ?_)
    have key : ∀ x : Int, x = sfV σ (fI σ 108 2) c a b → Ok (Option.bind (Option.bind (f_X12_isIn N σm a 0 30) fun q1 => (if wr q1.2 = 0 then some (σm, 0) else Option.bind (f_X12_isIn N σm b 0 30) fun q2 => (if wr q2.2 = 0 then some (σm, 0) else some (σm, 1)))) fun q1 => (if wr q1.2 = 0 then some (σm, (-1)) else Option.bind (f_X12_isIn N σm c 0 6) fun q2 => (if wr q2.2 = 0 then some (σm, (-1)) else Option.bind (rcv shm σm 12 1 (f_X12_layStages N σm 1)) fun q3 => Option.bind (gR shm q3.1 12 1 90) fun isSafe_4 => Option.bind (gI shm q3.1 12 1 93) fun slack_5 => Option.bind (f_X12_stateOf N q3.1 0 slack_5 c a b) fun q6 => Option.bind (aI shm q3.1 3 isSafe_4 q6.2) fun a7 => (if wr (wz a7) = 0 then some (q3.1, 0) else some (q3.1, 1))))) (fun w => wr x = wr w.2 ∧ FX [108, 112, 113] σ τ ∧ FM [51] [] σm w.1 ∧ Lk σ τ ∧ IKn τ) := fun x hx => by
      refine ok_bind ?_
      refine ok_isIn (by omega) (by omega) (by omega) (fun h1 => ok_z1 ?_) (fun h1 => by exfalso; omega)
      refine ok_isIn (by omega) (by omega) (by omega) (fun h1 => ok_z1 (ok_some (ok_z1 ?_))) (fun h1 => by exfalso; omega)
      refine ok_isIn (by omega) (by omega) (by omega) (fun h1 => ok_z1 ?_) (fun h1 => by exfalso; omega)
      refine sm_rcv hM (ok_rw u1 ?_)
      dsimp only
      refine sm_gR hM' rfl ?_
      refine sm_gI hM' ?_
      rw [u2.f (by simp), hS.2.2.1.1]
      unfold f_X12_stateOf
      refine ok_bind (ok_some ?_)
      dsimp only
      refine sm_aI hM' rfl rfl (by decide) (by omega) (by omega) ?_
      rw [tab_eq u3 hsg hv.1 hv.2.1 hv.2.2, ← hx]
      rcases sfV_or (σ := σ) (fI σ 108 2) c a b with h | h
      · rw [hx, h]; exact ok_z0 (ok_some ⟨rfl, t3, u2, t2, t4⟩)
      · rw [hx, h]; exact ok_z1 (ok_some ⟨rfl, t3, u2, t2, t4⟩)
    dsimp only
    rcases sfV_or (σ := σ) (fI σ 108 2) c a b with h | h
    · rw [h]; exact ok_z0 (ok_some (key 0 h.symm))
    · rw [h]; exact ok_z1 (ok_some (key 1 h.symm))
  · skip
    repeat' first
      | with_reducible apply st_Lt
      | with_reducible apply st_Jn
      | ((with_reducible apply ok_some); try dsimp only)
      | with_reducible apply ok_z0
      | with_reducible apply ok_z1
      | ((with_reducible apply ok_gF_hit); exact hX; exact rfl; exact rfl)
      | ((with_reducible apply om_gF_hit); exact hM)
      | ((with_reducible apply ok_gF_j); decide)
      | ((with_reducible apply ok_gF_k); (first | decide | omega))
      | ((with_reducible apply ok_gU_k); (first | decide | omega))
      | ((with_reducible apply ok_aF_k); (first | decide | omega))
      | ((with_reducible apply ok_aU_k); (first | decide | omega))
      | (with_reducible apply ok_rF)
      | (with_reducible apply ok_rU)
      | (with_reducible apply ok_qF)
      | (with_reducible apply ok_qU)
      | ((with_reducible apply sx_gI); exact hX; exact rfl; exact rfl)
      | ((with_reducible apply sx_gR); exact hX; exact rfl; exact rfl; exact rfl)
      | ((with_reducible apply sx_pI); exact hX; exact rfl; exact rfl)
      | ((with_reducible apply sx_rcv); exact hX; exact rfl; exact rfl)
      | ((with_reducible apply sx_aI); exact hX; exact rfl; exact rfl; exact (by decide); omega; omega)
      | ((with_reducible apply sx_sI); exact hX; exact rfl; exact rfl; exact (by decide); omega; omega)
      | ((with_reducible apply sm_gI); exact hM)
      | ((with_reducible apply sm_gR); exact hM; exact rfl)
      | ((with_reducible apply sm_pI); exact hM)
      | ((with_reducible apply sm_rcv); exact hM)
      | ((with_reducible apply sm_aI); exact hM; exact rfl; exact rfl; exact (by decide); omega; omega)
      | ((with_reducible apply sm_sI); exact hM; exact rfl; exact rfl; exact (by decide); omega; omega)
      | ((with_reducible apply ok_rZ); (first | exact .inl rfl | exact .inr rfl))
      | ((with_reducible refine ok_within ?_ ?_ ?_ (fun hc => ?_) (fun hc => ?_)); omega; omega; omega)
      | ((with_reducible refine ok_month ?_ (fun hc => ?_) (fun hc => ?_)); omega)
      | ((with_reducible refine ok_tongue ?_ (fun hc => ?_) (fun hc => ?_)); omega)
      | ((with_reducible refine ok_money ?_ (fun hc => ?_) (fun hc => ?_)); omega)
      | ((with_reducible refine ok_isIn ?_ ?_ ?_ (fun hc => ?_) (fun hc => ?_)); omega; omega; omega)
      | ((with_reducible refine ok_wltp ?_ ?_ ?_ ?_); omega; omega; omega)
      | ((with_reducible refine ok_wltn ?_ ?_ ?_ ?_); omega; omega; omega)
      | ((with_reducible refine ok_wlt ?_ ?_ (fun hc => ?_) (fun hc => ?_)); omega; omega)
      | ((with_reducible refine ok_wlt0 ?_ (fun hc => ?_) (fun hc => ?_)); omega)
      | ((with_reducible refine ok_w0lt ?_ (fun hc => ?_) (fun hc => ?_)); omega)
      | ((with_reducible refine ok_weq ?_ ?_ (fun hc => ?_) (fun hc => ?_)); omega; omega)
      | ((with_reducible refine ok_weqc ?_ (fun hc => ?_) (fun hc => ?_)); omega)
      | (with_reducible apply ok_bind)
    all_goals first | (exfalso; omega) | exact ⟨rfl, FX.refl, FM.refl, lk0, hk⟩
theorem bears_eq {τ : St} (hX : WXr τ.1 τ.2.2) (hL0 : Lk σ τ) (hf0 : FX [108, 112, 113] σ τ) (hs : SgOk σ) (hk : IKn τ) {a b : Int} (ha : 0 ≤ a ∧ a ≤ 30) (hb : 0 ≤ b ∧ b ≤ 30) {R : St × Int → Option (St × Int)} {υ : St} (hM : WMr υ.1 υ.2.2) (hsl : fI υ 1 93 = fI σ 108 2) (hT : ∀ j, 0 ≤ j → j ≤ fI σ 108 0 → Tb σ υ j 33635) (hN : 2000 < N) {x : Int} : Ok (L_X11_bears_19 N 1 a b (τ, 6)) (fun v => Ok (L_X12_bears_17 N 1 a b (υ, x) 6) (fun w => wr v.2 = wr w.2 ∧ FX [108, 112, 113] σ v.1 ∧ w.1 = υ ∧ Lk σ v.1 ∧ IKn v.1)) := by
  have hsl2 := hs.2.2.1
  unfold L_X11_bears_19 L_X12_bears_17
  refine ok_fix2 (fun t u => u = t.2 ∧ -1 ≤ t.2 ∧ t.2 ≤ 6 ∧ Lk σ t.1 ∧ FX [108, 112, 113] σ t.1 ∧ IKn t.1) (fun t => (t.2 + 1).toNat) (fun b1 b2 t u hI hb' => ?_) _ _ ⟨rfl, by dsimp only; omega, by dsimp only; omega, hL0, hf0, hk⟩ (by dsimp only; omega)
  obtain ⟨rfl, g1, g2, g3, g4, g5⟩ := hI
  obtain ⟨φ, v⟩ := t
  dsimp only at g1 g2 g3 g4 g5 hb' ⊢
  refine ok_wlt0 (by omega) (fun h1 => ok_some ?_) (fun h1 => ?_)
  · refine ok_wlt0 (by omega) (fun h2 => ok_some ?_) (fun h2 => by exfalso; omega)
    exact ⟨by rw [show v = -1 by omega], g4, rfl, g3, g5⟩
  · obtain ⟨ψ, t1, t2, t3, t4⟩ := isSafe_eq (N := N) g3.1 (g3.sg hs) g5 ha hb ⟨h1, g2⟩ hN
    have es : sfV φ (fI φ 108 2) v a b = sfV σ (fI σ 108 2) v a b := by unfold sfV; rw [g3.nx, g3.2.1.1, g3.2.1.2.2]
    rw [es] at t1
    have lk : Lk σ ψ := by
      obtain ⟨hXψ, ⟨l1, l2, l3⟩, l4, l5⟩ := t2
      obtain ⟨_, ⟨m1, m2, m3⟩, m4, m5⟩ := g3
      exact ⟨hXψ, ⟨l1.trans m1, l2.trans m2, l3.trans m3⟩, l4.trans m4, l5.trans m5⟩
    have fx := g4.trans t3
    refine sx_gR g3.1 rfl rfl rfl ?_
    refine sx_rcv g3.1 rfl rfl (ok_rw t1 ?_)
    have key : ∀ {P : Option (St × Int)} {Q : St × Int → Prop}, (sfV σ (fI σ 108 2) v a b = 0 → Ok (b2 (v + -1)) Q) → (sfV σ (fI σ 108 2) v a b = 1 → Q (υ, v)) → Ok (if wr v < 0 then some (υ, v) else Option.bind (gR shm υ 12 1 90) fun isSafe_5 => Option.bind (gI shm υ 12 1 93) fun slack_6 => Jn (fun t7 : Int => Option.bind (f_X12_stateOf N υ 0 slack_6 t7 a b) fun q8 => Option.bind (aI shm υ 3 isSafe_5 q8.2) fun a9 => (if wr (wz a9) = 0 then Lt (v + (-1)) fun x10 => b2 x10 else some (υ, v))) fun J39_11 => (if wr v < 0 then J39_11 0 else J39_11 v)) Q := fun {P Q} k0 k1 => by
      refine ok_wlt0 (by omega) (fun h2 => by exfalso; omega) (fun h2 => ?_)
      refine sm_gR hM rfl ?_
      refine sm_gI hM ?_
      rw [hsl]
      refine st_Jn ?_
      refine ok_wlt0 (by omega) (fun h2 => by exfalso; omega) (fun h2 => ?_)
      unfold f_X12_stateOf
      refine ok_bind (ok_some ?_)
      dsimp only
      refine sm_aI hM rfl rfl (by decide) (by omega) (by omega) ?_
      rw [tab_eq hT hs ha hb ⟨h1, g2⟩]
      rcases sfV_or (σ := σ) (fI σ 108 2) v a b with h | h
      · rw [h]; exact ok_z0 (st_Lt (k0 h))
      · rw [h]; exact ok_z1 (ok_some (k1 h))
    dsimp only
    rcases sfV_or (σ := σ) (fI σ 108 2) v a b with h | h
    · rw [h]
      refine ok_z0 (st_Lt ?_)
      refine ok_mono (hb' (ψ, v + -1) (v + -1) ⟨rfl, by dsimp only; omega, by dsimp only; omega, lk, fx, t4⟩ (by dsimp only; omega)) (fun w hw => ?_)
      exact key (P := none) (fun _ => hw) (fun h' => by exfalso; omega)
    · rw [h]
      refine ok_z1 (ok_some ?_)
      exact key (P := none) (fun h' => by exfalso; omega) (fun _ => ⟨rfl, fx, rfl, lk, t4⟩)
theorem op_bears (hX : WXr σ.1 σ.2.2) (hM : WMr σm.1 σm.2.2) (hS : IStg σ σm) (hk : IKn σ) {a b : Int} (ha : wr a = a) (hb : wr b = b) (hN : 2000 < N) : Ok (f_X11_bears N σ 1 a b) (fun v => Ok (f_X12_bears N σm 1 a b) (fun w => wr v.2 = wr w.2 ∧ FX [108, 112, 113] σ v.1 ∧ FM [51] [] σm w.1 ∧ Lk σ v.1 ∧ IKn v.1)) := by
  have hr := wr_rg ha
  have hs := wr_rg hb
  have hsg := hS.sg
  have hsl := hsg.2.2.1
  have lk0 : Lk σ σ := ⟨hX, ⟨rfl, rfl, rfl⟩, rfl, rfl⟩
  unfold f_X11_bears f_X12_bears f_X12_isMoney
  by_cases hv : (0 ≤ a ∧ a ≤ 30) ∧ (0 ≤ b ∧ b ≤ 30)
  · obtain ⟨υ, u1, u2, u3⟩ := lay_eq (N := N) hS hM (by omega)
    refine ok_money hr (fun h1 => ok_z1 ?_) (fun h1 => by exfalso; omega)
    refine ok_money hs (fun h1 => ok_z1 ?_) (fun h1 => by exfalso; omega)
    refine ok_mono (bears_eq (R := fun _ => none) (x := 0) hX lk0 FX.refl hsg hk hv.1 hv.2 (u2.M hM) (by rw [u2.f (by simp), hS.2.2.1.1]) u3 hN) (fun v hv' => ?_)
    refine ok_bind ?_
    refine ok_isIn (by omega) (by omega) (by omega) (fun h1 => ok_z1 ?_) (fun h1 => by exfalso; omega)
    refine ok_isIn (by omega) (by omega) (by omega) (fun h1 => ok_z1 (ok_some (ok_z1 ?_))) (fun h1 => by exfalso; omega)
    refine sm_rcv hM (ok_rw u1 ?_)
    refine ok_mono hv' (fun w hw => ?_)
    obtain ⟨w1, w2, w3, w4, w5⟩ := hw
    exact ⟨w1, w2, by rw [w3]; exact u2, w4, w5⟩
  · skip
    repeat' first
      | with_reducible apply st_Lt
      | with_reducible apply st_Jn
      | ((with_reducible apply ok_some); try dsimp only)
      | with_reducible apply ok_z0
      | with_reducible apply ok_z1
      | ((with_reducible apply ok_gF_hit); exact hX; exact rfl; exact rfl)
      | ((with_reducible apply om_gF_hit); exact hM)
      | ((with_reducible apply ok_gF_j); decide)
      | ((with_reducible apply ok_gF_k); (first | decide | omega))
      | ((with_reducible apply ok_gU_k); (first | decide | omega))
      | ((with_reducible apply ok_aF_k); (first | decide | omega))
      | ((with_reducible apply ok_aU_k); (first | decide | omega))
      | (with_reducible apply ok_rF)
      | (with_reducible apply ok_rU)
      | (with_reducible apply ok_qF)
      | (with_reducible apply ok_qU)
      | ((with_reducible apply sx_gI); exact hX; exact rfl; exact rfl)
      | ((with_reducible apply sx_gR); exact hX; exact rfl; exact rfl; exact rfl)
      | ((with_reducible apply sx_pI); exact hX; exact rfl; exact rfl)
      | ((with_reducible apply sx_rcv); exact hX; exact rfl; exact rfl)
      | ((with_reducible apply sx_aI); exact hX; exact rfl; exact rfl; exact (by decide); omega; omega)
      | ((with_reducible apply sx_sI); exact hX; exact rfl; exact rfl; exact (by decide); omega; omega)
      | ((with_reducible apply sm_gI); exact hM)
      | ((with_reducible apply sm_gR); exact hM; exact rfl)
      | ((with_reducible apply sm_pI); exact hM)
      | ((with_reducible apply sm_rcv); exact hM)
      | ((with_reducible apply sm_aI); exact hM; exact rfl; exact rfl; exact (by decide); omega; omega)
      | ((with_reducible apply sm_sI); exact hM; exact rfl; exact rfl; exact (by decide); omega; omega)
      | ((with_reducible apply ok_rZ); (first | exact .inl rfl | exact .inr rfl))
      | ((with_reducible refine ok_within ?_ ?_ ?_ (fun hc => ?_) (fun hc => ?_)); omega; omega; omega)
      | ((with_reducible refine ok_month ?_ (fun hc => ?_) (fun hc => ?_)); omega)
      | ((with_reducible refine ok_tongue ?_ (fun hc => ?_) (fun hc => ?_)); omega)
      | ((with_reducible refine ok_money ?_ (fun hc => ?_) (fun hc => ?_)); omega)
      | ((with_reducible refine ok_isIn ?_ ?_ ?_ (fun hc => ?_) (fun hc => ?_)); omega; omega; omega)
      | ((with_reducible refine ok_wltp ?_ ?_ ?_ ?_); omega; omega; omega)
      | ((with_reducible refine ok_wltn ?_ ?_ ?_ ?_); omega; omega; omega)
      | ((with_reducible refine ok_wlt ?_ ?_ (fun hc => ?_) (fun hc => ?_)); omega; omega)
      | ((with_reducible refine ok_wlt0 ?_ (fun hc => ?_) (fun hc => ?_)); omega)
      | ((with_reducible refine ok_w0lt ?_ (fun hc => ?_) (fun hc => ?_)); omega)
      | ((with_reducible refine ok_weq ?_ ?_ (fun hc => ?_) (fun hc => ?_)); omega; omega)
      | ((with_reducible refine ok_weqc ?_ (fun hc => ?_) (fun hc => ?_)); omega)
      | (with_reducible apply ok_bind)
    all_goals first | (exfalso; omega) | exact ⟨rfl, FX.refl, FM.refl, lk0, hk⟩
end St
