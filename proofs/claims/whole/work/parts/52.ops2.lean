/-! the pure part: mm, clash, breaks; over, leave -/
def lnV (L g v : Int) : Int := L + Int.tdiv (wl (((L * g) * v) * v)) 100000
def lnA (σ : St) (m : Nat) (p v : Int) : Int := lnV (σ.2.1 (m + 3) p) (σ.2.1 (m + 4) p) v
def ftB (σ : St) (m : Nat) (j v : Int) : Int := if lnA σ m (σ.2.1 (m + 6) j) v - lnA σ m (σ.2.1 (m + 7) j) v ≤ σ.2.1 (m + 8) j ∧ lnA σ m (σ.2.1 (m + 7) j) v - lnA σ m (σ.2.1 (m + 6) j) v ≤ σ.2.1 (m + 8) j then 1 else 0
theorem lnV_rg {L g v : Int} (hL : 10 ≤ L ∧ L ≤ 25374) (hg : 0 ≤ g ∧ g ≤ 99) (hv : 0 ≤ v ∧ v ≤ 30) : 10 ≤ lnV L g v ∧ lnV L g v ≤ 50000 := by
  have a0 : 0 ≤ L * g := Int.mul_nonneg (by omega) hg.1
  have a1 : L * g ≤ 25374 * 99 := Int.mul_le_mul hL.2 hg.2 hg.1 (by omega)
  have b0 : 0 ≤ (L * g) * v := Int.mul_nonneg a0 hv.1
  have b1 : (L * g) * v ≤ (25374 * 99) * 30 := Int.mul_le_mul a1 hv.2 hv.1 (by omega)
  have c0 : 0 ≤ ((L * g) * v) * v := Int.mul_nonneg b0 hv.1
  have c1 : ((L * g) * v) * v ≤ ((25374 * 99) * 30) * 30 := Int.mul_le_mul b1 hv.2 hv.1 (by omega)
  unfold lnV
  rw [wl_id (by omega) (by omega), Int.tdiv_eq_ediv_of_nonneg c0]
  omega
theorem ftB_or (σ : St) (m : Nat) (j v : Int) : ftB σ m j v = 0 ∨ ftB σ m j v = 1 := by unfold ftB; split <;> simp
theorem orZ_0 (s : Int) : orZ s 0 = wr s := by
  unfold orZ
  rw [show Int32.ofInt 0 = 0 from rfl, Int32.or_zero, wr_i]
theorem orZ_rg (s t : Int) : -2147483648 ≤ orZ s t ∧ orZ s t < 2147483648 := by
  unfold orZ
  have h1 := Int32.le_toInt (Int32.ofInt s ||| Int32.ofInt t)
  have h2 := Int32.toInt_lt (Int32.ofInt s ||| Int32.ofInt t)
  exact ⟨h1, h2⟩
section F
variable {N : Nat} {σ σm : St}
theorem length_eq {m : Nat} {bk : Int} (hX : WXr σ.1 σ.2.2) (hI : IMach m bk σ σm) {p v : Int} (hp : 0 ≤ p ∧ p < fI σ m 1) (hv : 0 ≤ v ∧ v ≤ 30) : f_X3_lengthAt N σ m p v = some (σ, lnA σ m p v) := by
  have hm := hI.1
  obtain ⟨i1, i2, i3, i4, ⟨r1, r2, r3, r4, r5⟩, rp, _⟩ := hI
  have q := rp p hp.1 hp.2
  have H : Ok (f_X3_lengthAt N σ m p v) (fun w => w = (σ, lnA σ m p v)) := by
    unfold f_X3_lengthAt
    refine mx_gI hX hm ?_
    refine ok_within (by omega) (by omega) (by omega) (fun h1 => ?_) (fun h1 => by exfalso; omega)
    refine ok_z1 ?_
    refine mx_gR hX hm rfl ?_
    refine mx_aI hX hm rfl (by decide) (by omega) (by omega) ?_
    refine mx_gR hX hm rfl ?_
    refine mx_aI hX hm rfl (by decide) (by omega) (by omega) ?_
    refine st_Lt ?_
    refine mx_gR hX hm rfl ?_
    refine mx_aI hX hm rfl (by decide) (by omega) (by omega) (ok_some ?_)
    rw [wr_id (z := σ.2.1 (m + 3) p) (by omega) (by omega), wr_id (z := σ.2.1 (m + 4) p) (by omega) (by omega), wr_id (z := v) (by omega) (by omega)]
    rfl
  obtain ⟨w, e, rfl⟩ := H
  exact e
theorem lnA_rg {m : Nat} {bk : Int} (hI : IMach m bk σ σm) {p v : Int} (hp : 0 ≤ p ∧ p < fI σ m 1) (hv : 0 ≤ v ∧ v ≤ 30) : 10 ≤ lnA σ m p v ∧ lnA σ m p v ≤ 50000 := by
  have q := hI.2.2.2.2.2.1 p hp.1 hp.2
  exact lnV_rg q.2.1.2 q.2.2.1.2 hv
theorem mmOf_eq {m : Nat} {bk : Int} (hM : WMr σm.1 σm.2.2) (hI : IMach m bk σ σm) {p v : Int} (hp : 0 ≤ p ∧ p < fI σ m 1) (hv : 0 ≤ v ∧ v ≤ 30) : f_X12_mmOf N σm 1 p v = some (σm, lnA σ m p v) := by
  obtain ⟨i1, i2, i3, i4, ⟨r1, r2, r3, r4, r5⟩, rp, _⟩ := hI
  have q := rp p hp.1 hp.2
  have H : Ok (f_X12_mmOf N σm 1 p v) (fun w => w = (σm, lnA σ m p v)) := by
    unfold f_X12_mmOf
    refine sm_gR hM rfl ?_
    refine sm_gI hM ?_
    rw [i3]
    refine sm_aI hM rfl rfl (by decide) (by omega) (by omega) ?_
    rw [q.2.1.1]
    refine st_Lt ?_
    refine sm_gR hM rfl ?_
    refine sm_gI hM ?_
    rw [i3]
    refine sm_aI hM rfl rfl (by decide) (by omega) (by omega) (ok_some ?_)
    rw [q.2.2.1.1, wr_id (z := σ.2.1 (m + 3) p) (by omega) (by omega), wr_id (z := σ.2.1 (m + 4) p) (by omega) (by omega), wr_id (z := v) (by omega) (by omega)]
    rfl
  obtain ⟨w, e, rfl⟩ := H
  exact e
theorem fits_eq {m : Nat} {bk : Int} (hX : WXr σ.1 σ.2.2) (hI : IMach m bk σ σm) {j v : Int} (hj : 0 ≤ j ∧ j < fI σ m 7) (hv : 0 ≤ v ∧ v ≤ 30) : f_X3_fits N σ m j v = some (σ, ftB σ m j v) := by
  have hm := hI.1
  have hI' := hI
  obtain ⟨i1, i2, i3, i4, ⟨r1, r2, r3, r4, r5⟩, rp, rj, _⟩ := hI
  obtain ⟨q1, q2, q3, q4⟩ := rj j hj.1 hj.2
  have l1 := lnA_rg hI' q1.2 hv
  have l2 := lnA_rg hI' q2.2 hv
  have H : Ok (f_X3_fits N σ m j v) (fun w => w = (σ, ftB σ m j v)) := by
    unfold f_X3_fits
    refine mx_gI hX hm ?_
    refine ok_within (by omega) (by omega) (by omega) (fun h1 => ?_) (fun h1 => by exfalso; omega)
    refine ok_z1 ?_
    refine mx_gR hX hm rfl ?_
    refine mx_aI hX hm rfl (by decide) (by omega) (by omega) ?_
    refine mx_rcv hX hm (ok_rw (length_eq hX hI' q1.2 hv) ?_)
    refine mx_gR hX hm rfl ?_
    refine mx_aI hX hm rfl (by decide) (by omega) (by omega) ?_
    refine mx_rcv hX hm (ok_rw (length_eq hX hI' q2.2 hv) ?_)
    refine mx_gR hX hm rfl ?_
    refine mx_aI hX hm rfl (by decide) (by omega) (by omega) ?_
    dsimp only
    unfold ftB
    rw [abZ_eq (by omega)]
    by_cases h2 : 0 ≤ lnA σ m (σ.2.1 (m + 6) j) v - lnA σ m (σ.2.1 (m + 7) j) v
    · rw [if_pos h2]
      refine ok_wlt (by omega) (by omega) (fun h3 => ok_some ?_) (fun h3 => ok_some ?_)
      · rw [if_neg (by omega)]
      · rw [if_pos (by omega)]
    · rw [if_neg h2]
      refine ok_wlt (by omega) (by omega) (fun h3 => ok_some ?_) (fun h3 => ok_some ?_)
      · rw [if_neg (by omega)]
      · rw [if_pos (by omega)]
  obtain ⟨w, e, rfl⟩ := H
  exact e
theorem fitsM_eq {m : Nat} {bk : Int} (hM : WMr σm.1 σm.2.2) (hI : IMach m bk σ σm) {j v : Int} (hj : 0 ≤ j ∧ j < fI σ m 7) (hv : 0 ≤ v ∧ v ≤ 30) : f_X12_fits N σm 1 j v = some (σm, ftB σ m j v) := by
  have hI' := hI
  obtain ⟨i1, i2, i3, i4, ⟨r1, r2, r3, r4, r5⟩, rp, rj, _⟩ := hI
  obtain ⟨q1, q2, q3, q4⟩ := rj j hj.1 hj.2
  have l1 := lnA_rg hI' q1.2 hv
  have l2 := lnA_rg hI' q2.2 hv
  have H : Ok (f_X12_fits N σm 1 j v) (fun w => w = (σm, ftB σ m j v)) := by
    unfold f_X12_fits
    refine sm_gR hM rfl ?_
    refine sm_gI hM ?_
    rw [i3]
    refine sm_aI hM rfl rfl (by decide) (by omega) (by omega) ?_
    rw [q1.1]
    refine sm_rcv hM (ok_rw (mmOf_eq hM hI' q1.2 hv) ?_)
    refine sm_gR hM rfl ?_
    refine sm_gI hM ?_
    rw [i3]
    refine sm_aI hM rfl rfl (by decide) (by omega) (by omega) ?_
    rw [q2.1]
    refine sm_rcv hM (ok_rw (mmOf_eq hM hI' q2.2 hv) ?_)
    refine sm_rcv hM (ok_bind ?_)
    dsimp only
    unfold f_X12_fitsBy ftB
    refine sm_gR hM rfl ?_
    refine sm_gI hM ?_
    rw [i3]
    refine sm_aI hM rfl rfl (by decide) (by omega) (by omega) ?_
    rw [q4.1]
    refine ok_wlt (by omega) (by omega) (fun h3 => ok_some (ok_rZ (.inl rfl) ?_)) (fun h3 => ?_)
    · rw [if_neg (by omega)]
    refine sm_gR hM rfl ?_
    refine sm_gI hM ?_
    rw [i3]
    refine sm_aI hM rfl rfl (by decide) (by omega) (by omega) ?_
    rw [q4.1]
    refine ok_wlt (by omega) (by omega) (fun h3 => ok_some (ok_rZ (.inl rfl) ?_)) (fun h4 => ok_some (ok_rZ (.inr rfl) ?_))
    · rw [if_neg (by omega)]
    · rw [if_pos (by omega)]
  obtain ⟨w, e, rfl⟩ := H
  exact e
theorem op_mm (hX : WXr σ.1 σ.2.2) (hM : WMr σm.1 σm.2.2) {m : Nat} {bk : Int} (hI : IMach m bk σ σm) {a b : Int} (ha : wr a = a) (hb : wr b = b) : Ok (f_X11_mm N σ 1 a b) (fun v => Ok (f_X12_mm N σm 1 a b) (fun w => wr v.2 = wr w.2 ∧ v.1 = σ ∧ w.1 = σm)) := by
  have hr := wr_rg ha
  have hs := wr_rg hb
  have hI' := hI
  obtain ⟨i1, i2, i3, i4, ⟨r1, r2, r3, r4, r5⟩, rp, rj, _⟩ := hI
  unfold f_X11_mm f_X12_mm
  refine sx_rcv hX rfl rfl (ok_part hX i1 i2 r2.2 hr (fun h1 => ?_) (fun h1 => ?_))
  · refine ok_z1 ?_
    refine ok_within (by omega) (by omega) (by omega) (fun h2 => ?_) (fun h2 => ?_)
    · refine ok_z1 ?_
      refine sx_gR1 hX i2 ?_
      refine mx_rcv hX i1 (ok_rw (length_eq hX hI' h1 h2) (ok_some ?_))
      refine sm_rcv hM (om_part hM i3 i4 r2.1 r2.2 hr (fun h3 => ?_) (fun h3 => by exfalso; omega))
      refine ok_z1 ?_
      refine ok_isIn (by omega) (by omega) (by omega) (fun h4 => ?_) (fun h4 => by exfalso; omega)
      refine ok_z1 ?_
      exact sm_rcv hM (ok_rw (mmOf_eq hM hI' h1 h2) (ok_some ⟨rfl, rfl, rfl⟩))
    · refine ok_z0 (ok_some ?_)
      refine sm_rcv hM (om_part hM i3 i4 r2.1 r2.2 hr (fun h3 => ?_) (fun h3 => by exfalso; omega))
      refine ok_z1 ?_
      exact ok_isIn (by omega) (by omega) (by omega) (fun h4 => by exfalso; omega) (fun h4 => ok_z0 (ok_some ⟨rfl, rfl, rfl⟩))
  · refine ok_z0 (ok_some ?_)
    exact sm_rcv hM (om_part hM i3 i4 r2.1 r2.2 hr (fun h3 => by exfalso; omega) (fun h3 => ok_z0 (ok_some ⟨rfl, rfl, rfl⟩)))
theorem op_clash (hX : WXr σ.1 σ.2.2) (hM : WMr σm.1 σm.2.2) {m : Nat} {bk : Int} (hI : IMach m bk σ σm) {a : Int} (ha : wr a = a) (hN : 1000 < N) : Ok (f_X11_clash N σ 1 a) (fun v => Ok (f_X12_clash N σm 1 a) (fun w => wr v.2 = wr w.2 ∧ v.1 = σ ∧ w.1 = σm)) := by
  have hr := wr_rg ha
  have hI' := hI
  obtain ⟨i1, i2, i3, i4, ⟨r1, r2, r3, r4, r5⟩, rp, rj, _⟩ := hI
  unfold f_X11_clash f_X12_clash
  refine ok_within (by omega) (by omega) (by omega) (fun h2 => ?_) (fun h2 => ?_)
  · refine ok_z1 ?_
    refine ok_mono (P := fun v => Ok (L_X12_clash_16 N σm 1 a (0, 0)) (fun w => wr v.2 = wr w.2 ∧ v.1 = σ ∧ w.1 = σm)) ?_ (fun v hv => ok_isIn (by omega) (by omega) (by omega) (fun h4 => ok_z1 hv) (fun h4 => by exfalso; omega))
    unfold L_X11_clash_16 L_X12_clash_16
    refine ok_fix2 (fun t u => u = t ∧ 0 ≤ t.2 ∧ t.2 ≤ fI σ m 7 ∧ (-2147483648 ≤ t.1 ∧ t.1 < 2147483648)) (fun t => (fI σ m 7 - t.2).toNat) (fun b1 b2 t u hI hb => ?_) _ _ ⟨rfl, Int.le_refl _, r3.2.1, by dsimp only; omega⟩ (by dsimp only; omega)
    obtain ⟨rfl, g1, g2, g3⟩ := hI
    obtain ⟨s, j⟩ := u
    dsimp only at g1 g2 g3 hb ⊢
    refine sx_gR1 hX i2 ?_
    refine mx_gI hX i1 ?_
    refine ok_wlt (by omega) (by omega) (fun h3 => ?_) (fun h3 => ?_)
    · refine sx_gR1 hX i2 ?_
      refine mx_rcv hX i1 (ok_rw (fits_eq hX hI' ⟨g1, h3⟩ h2) ?_)
      refine st_Jn ?_
      have mm : ∀ s' : Int, (-2147483648 ≤ s' ∧ s' < 2147483648) → (ftB σ m j a = 0 → s' = orZ s (shlZ 1 j)) → (ftB σ m j a ≠ 0 → s' = s) → Ok (b1 (s', j + 1)) (fun v => Ok (Option.bind (rcv shm σm 12 1 (f_X12_joins N σm 1)) fun q4 => (if wr j < wr q4.2 then Option.bind (rcv shm σm 12 1 (f_X12_fits N σm 1 j a)) fun q5 => Jn (fun t6 : Int => Lt (orZ s t6) fun x7 => Lt (j + 1) fun x8 => b2 (x7, x8)) fun J41_8 => (if wr q5.2 = 0 then J41_8 (shlZ 1 j) else J41_8 0) else some (σm, s))) (fun w => wr v.2 = wr w.2 ∧ v.1 = σ ∧ w.1 = σm)) := fun s' hs' e1 e2 => by
        refine ok_mono (hb (s', j + 1) (s', j + 1) ⟨rfl, by dsimp only; omega, by dsimp only; omega, hs'⟩ (by dsimp only; omega)) (fun v hv => ?_)
        refine sm_rcv hM (ok_rw (joins_eq hM i3 i4) ?_)
        dsimp only
        rw [r3.1]
        refine ok_wlt (by omega) (by omega) (fun h5 => ?_) (fun h5 => by exfalso; omega)
        refine sm_rcv hM (ok_rw (fitsM_eq hM hI' ⟨g1, h3⟩ h2) ?_)
        refine st_Jn ?_
        dsimp only
        have hft := ftB_or σ m j a
        refine ok_weqc (by omega) (fun h6 => ?_) (fun h6 => ?_)
        · refine st_Lt (st_Lt ?_)
          rw [← e1 h6]; exact hv
        · refine st_Lt (st_Lt ?_)
          rw [orZ_0, wr_id g3.1 g3.2, ← e2 h6]; exact hv
      have hft := ftB_or σ m j a
      dsimp only
      refine ok_weqc (by omega) (fun h6 => ?_) (fun h6 => ?_)
      · exact st_Lt (st_Lt (mm _ (orZ_rg _ _) (fun _ => rfl) (fun h => absurd h6 h)))
      · exact st_Lt (mm _ g3 (fun h => absurd h h6) (fun _ => rfl))
    · refine ok_some ?_
      refine sm_rcv hM (ok_rw (joins_eq hM i3 i4) ?_)
      dsimp only
      rw [r3.1]
      exact ok_wlt (by omega) (by omega) (fun h5 => by exfalso; omega) (fun h5 => ok_some ⟨rfl, rfl, rfl⟩)
  · refine ok_z0 (ok_some ?_)
    exact ok_isIn (by omega) (by omega) (by omega) (fun h4 => by exfalso; omega) (fun h4 => ok_z0 (ok_some ⟨rfl, rfl, rfl⟩))
theorem op_breaks (hX : WXr σ.1 σ.2.2) (hM : WMr σm.1 σm.2.2) {m : Nat} {bk : Int} (hI : IMach m bk σ σm) {a : Int} (ha : wr a = a) (hN : 1000 < N) : Ok (f_X11_breaks N σ 1 a) (fun v => Ok (f_X12_breaks N σm 1 a) (fun w => wr v.2 = wr w.2 ∧ v.1 = σ ∧ w.1 = σm)) := by
  have hr := wr_rg ha
  have hI' := hI
  obtain ⟨i1, i2, i3, i4, ⟨r1, r2, r3, r4, r5⟩, rp, rj, _⟩ := hI
  unfold f_X11_breaks f_X12_breaks
  refine sx_gR1 hX i2 ?_
  refine mx_gI hX i1 ?_
  refine ok_within (by omega) (by omega) (by omega) (fun h2 => ?_) (fun h2 => ?_)
  · refine ok_z1 ?_
    refine ok_mono (P := fun v => Ok (L_X12_breaks_18 N σm 1 a 0) (fun w => wr v.2 = wr w.2 ∧ v.1 = σ ∧ w.1 = σm)) ?_ (fun v hv => sm_rcv hM (ok_rw (joins_eq hM i3 i4) ?_))
    · unfold L_X11_breaks_21 L_X12_breaks_18
      refine ok_fix2 (fun t u => u = t ∧ 0 ≤ t ∧ t ≤ 31) (fun t => (31 - t).toNat) (fun b1 b2 t u hI hb => ?_) _ _ ⟨rfl, Int.le_refl _, by decide⟩ (by omega)
      obtain ⟨rfl, g1, g2⟩ := hI
      refine ok_wlt (by omega) (by omega) (fun h3 => ok_some ?_) (fun h3 => ?_)
      · exact ok_wlt (by omega) (by omega) (fun h5 => by exfalso; omega) (fun h5 => ok_some ⟨rfl, rfl, rfl⟩)
      · refine sx_gR1 hX i2 ?_
        refine mx_rcv hX i1 (ok_rw (fits_eq hX hI' ⟨h2.1, by omega⟩ (by omega)) ?_)
        have hft := ftB_or σ m a u
        dsimp only
        refine ok_weqc (by omega) (fun h6 => ok_some ?_) (fun h6 => st_Lt ?_)
        · refine ok_wlt (by omega) (by omega) (fun h5 => ?_) (fun h5 => by exfalso; omega)
          refine sm_rcv hM (ok_rw (fitsM_eq hM hI' ⟨h2.1, by omega⟩ (by omega)) ?_)
          dsimp only
          rw [h6]
          exact ok_z0 (ok_some ⟨rfl, rfl, rfl⟩)
        · refine ok_mono (hb (u + 1) (u + 1) ⟨rfl, by omega, by omega⟩ (by omega)) (fun v hv => ?_)
          refine ok_wlt (by omega) (by omega) (fun h5 => ?_) (fun h5 => by exfalso; omega)
          refine sm_rcv hM (ok_rw (fitsM_eq hM hI' ⟨h2.1, by omega⟩ (by omega)) ?_)
          dsimp only
          rw [show ftB σ m a u = 1 by omega]
          exact ok_z1 (st_Lt hv)
    · dsimp only
      rw [r3.1]
      exact ok_isIn (by omega) (by omega) (by omega) (fun h4 => ok_z1 hv) (fun h4 => by exfalso; omega)
  · refine ok_z0 (ok_some ?_)
    refine sm_rcv hM (ok_rw (joins_eq hM i3 i4) ?_)
    dsimp only
    rw [r3.1]
    exact ok_isIn (by omega) (by omega) (by omega) (fun h4 => by exfalso; omega) (fun h4 => ok_z0 (ok_some ⟨rfl, rfl, rfl⟩))
/-- the treaties -/
def ITre (t : Int → Nat) (sp : Nat) (σx σm : St) : Prop := ITrs t σx σm ∧ (∀ i : Int, 0 ≤ i → i < 3 → RTr (t i) i σx σm) ∧ (isT sp ∧ σx.2.2 1 ((5 : Nat) : Int) = sp) ∧ (∀ i : Int, 0 ≤ i → i < 3 → t i ≠ sp) ∧ t 0 ≠ t 1 ∧ t 0 ≠ t 2 ∧ t 1 ≠ t 2
theorem op_over (hX : WXr σ.1 σ.2.2) (hM : WMr σm.1 σm.2.2) {m : Nat} {bk : Int} (hI : IMach m bk σ σm) (hF : IFacts σ σm) {a b : Int} (ha : wr a = a) (hb : wr b = b) (hN : 1000 < N) : Ok (f_X11_over N σ 1 a b) (fun v => Ok (f_X12_over N σm 1 a b) (fun w => wr v.2 = wr w.2 ∧ FX [72] σ v.1 ∧ FM [38] [] σm w.1)) := by
  have hr := wr_rg ha
  have hs := wr_rg hb
  unfold f_X11_over f_X12_over
  refine ok_month hr (fun h1 => ?_) (fun h1 => ?_)
  · refine ok_z1 ?_
    obtain ⟨τ, t1, t2⟩ := overrun_eq hX hI hF h1 hs hN
    obtain ⟨υ, u1, u2⟩ := overOf_eq hM hI hF h1 hs hN
    refine sx_gR hX rfl rfl rfl ?_
    refine sx_gR1 hX hI.2.1 ?_
    refine sx_rcv hX rfl rfl (ok_rw t1 (ok_some ?_))
    refine om_month hr (fun h2 => ?_) (fun h2 => by exfalso; omega)
    refine ok_z1 ?_
    exact sm_rcv hM (ok_rw u1 (ok_some ⟨rfl, t2, u2⟩))
  · refine ok_z0 (ok_some ?_)
    exact om_month hr (fun h2 => by exfalso; omega) (fun h2 => ok_z0 (ok_some ⟨rfl, FX.refl, FM.refl⟩))
theorem t_no {t d : Nat} (ht : isT t) (hd : d ≤ 5) {A : List Nat} (hA : ∀ k, k ∈ A → k < 40 ∨ 63 < k) : t + d ∉ A := fun h => by
  have := hA _ h
  unfold isT at ht
  omega
theorem op_leave (hX : WXr σ.1 σ.2.2) (hM : WMr σm.1 σm.2.2) {m : Nat} {bk : Int} (hI : IMach m bk σ σm) (hF : IFacts σ σm) {t : Int → Nat} {sp : Nat} (hT : ITre t sp σ σm) {a b c : Int} (ha : wr a = a) (hb : wr b = b) (hc : wr c = c) (hN : 1000 < N) : Ok (f_X11_leave N σ 1 a b c) (fun v => Ok (f_X12_leave N σm 1 a b c) (fun w => wr v.2 = wr w.2 ∧ FX [72, t b + 4, t b + 5] σ v.1 ∧ FM [38, 31] [52, 53] σm w.1)) := by
  have hr := wr_rg ha
  have hs := wr_rg hb
  have ht := wr_rg hc
  unfold f_X11_leave f_X12_leave
  refine ok_month hr (fun h1 => ?_) (fun h1 => ?_)
  · refine ok_z1 ?_
    refine ok_tongue hs (fun h2 => ?_) (fun h2 => ?_)
    · refine ok_z1 ?_
      obtain ⟨τ, t1, t2⟩ := overrun_eq hX hI hF h1 ht hN
      obtain ⟨υ, u1, u2⟩ := overOf_eq hM hI hF h1 ht hN
      obtain ⟨tb, tr⟩ := hT.1.1 b h2.1 (by omega)
      have rt := hT.2.1 b h2.1 (by omega) 1 (by omega) (by omega)
      have kx : ∀ d, 1 ≤ d → d ≤ 3 → τ.2.1 (t b + d) = σ.2.1 (t b + d) := fun d _ _ => t2.2.2 _ (t_no tb (by omega) (by simp))
      have rt2 : RTl (t b) b 1 τ υ := rt.keep kx (u2.2.2.1 25 (by decide) (by decide)) (u2.2.2.1 26 (by decide) (by decide)) (u2.2.2.1 27 (by decide) (by decide)) (u2.2.2.1 28 (by decide) (by decide)) (u2.2.2.1 32 (by decide) (by decide))
      obtain ⟨φ, p1, p2⟩ := leave_eq (N := N) (t2.X hX) tb rt2.x a (ov σ m a c) hN
      obtain ⟨ψ, s1, s2⟩ := leaves_eq (N := N) (u2.M hM) (by omega) rt2 a (ov σ m a c) hN
      refine sx_gR hX rfl rfl rfl ?_
      refine sx_aR hX rfl rfl (by decide) (by omega) (by omega) tr ?_
      refine sx_gR hX rfl rfl rfl ?_
      refine sx_gR1 hX hI.2.1 ?_
      refine sx_rcv hX rfl rfl (ok_rw t1 ?_)
      dsimp only
      refine tx_rcv (t2.X hX) tb (ok_rw p1 ?_)
      dsimp only
      have fx : FX [72, t b + 4, t b + 5] σ φ := (t2.mono (by simp)).trans (p2.mono (by simp))
      have fm : FM [38, 31] [52, 53] σm ψ := (u2.mono (by simp) (by simp)).trans (s2.mono (by simp) (by simp))
      have key : ∀ v : Int, (v = 0 ∧ leaveB τ (t b) a (ov σ m a c) = 0) ∨ (v = 1 ∧ leaveB τ (t b) a (ov σ m a c) = 1) → Ok (Option.bind (f_X12_isMonth N σm a) fun q1 => (if wr q1.2 = 0 then some (σm, (-1)) else Option.bind (f_X12_isTongue N σm b) fun q2 => (if wr q2.2 = 0 then some (σm, (-1)) else Option.bind (rcv shm σm 12 1 (f_X12_overOf N σm 1 a c)) fun q3 => Option.bind (rcv shm q3.1 12 1 (f_X12_leavesBy N q3.1 1 b a q3.2)) fun q4 => (if wr q4.2 = 0 then some (q4.1, 0) else some (q4.1, 1))))) (fun w => wr v = wr w.2 ∧ FX [72, t b + 4, t b + 5] σ φ ∧ FM [38, 31] [52, 53] σm w.1) := fun v hv => by
        refine om_month hr (fun h2 => ?_) (fun h2 => by exfalso; omega)
        refine ok_z1 ?_
        refine om_tongue hs (fun h2 => ?_) (fun h2 => by exfalso; omega)
        refine ok_z1 ?_
        refine sm_rcv hM (ok_rw u1 ?_)
        dsimp only
        refine sm_rcv (u2.M hM) (ok_rw s1 ?_)
        dsimp only
        rcases hv with ⟨rfl, hv⟩ | ⟨rfl, hv⟩
        · rw [hv]; exact ok_z0 (ok_some ⟨rfl, fx, fm⟩)
        · rw [hv]; exact ok_z1 (ok_some ⟨rfl, fx, fm⟩)
      rcases b01_or (lv τ (t b) 1 (qL a (ov σ m a c))) with h3 | h3
      · have h3' : leaveB τ (t b) a (ov σ m a c) = 0 := h3
        rw [h3']
        exact ok_z0 (ok_some (key 0 (.inl ⟨rfl, h3'⟩)))
      · have h3' : leaveB τ (t b) a (ov σ m a c) = 1 := h3
        rw [h3']
        exact ok_z1 (ok_some (key 1 (.inr ⟨rfl, h3'⟩)))
    · refine ok_z0 (ok_some ?_)
      refine om_month hr (fun h3 => ?_) (fun h3 => by exfalso; omega)
      refine ok_z1 ?_
      exact om_tongue hs (fun h3 => by exfalso; omega) (fun h3 => ok_z0 (ok_some ⟨rfl, FX.refl, FM.refl⟩))
  · refine ok_z0 (ok_some ?_)
    exact om_month hr (fun h2 => by exfalso; omega) (fun h2 => ok_z0 (ok_some ⟨rfl, FX.refl, FM.refl⟩))
end F
