/-! the pure part: the op MEND -/
section F
variable {N : Nat} {σ σm : St}
theorem FW_keep {τ : St} {m : Nat} (hm : isM m) (fτ : FX [38] σ τ) (p v : Int) : FW τ m p v = FW σ m p v ∧ ∀ k w, lnA τ m k w = lnA σ m k w := by
  have hml := isM_le hm
  have c : ∀ d, d ≤ 14 → τ.2.1 (m + d) = σ.2.1 (m + d) := fun d hd => fτ.2.2 (m + d) (by simp; omega)
  have l : ∀ k w, lnA τ m k w = lnA σ m k w := fun k w => by unfold lnA; rw [c 3 (by omega), c 4 (by omega)]
  have lp : ∀ k, lnP τ m p v k = lnP σ m p v k := fun k => by unfold lnP; rw [l]
  have f : ∀ j, ftP τ m p v j = ftP σ m p v j := fun j => by unfold ftP; rw [c 6 (by omega), c 7 (by omega), c 8 (by omega), lp, lp]
  have n : ∀ n : Nat, FWn τ m p v n = FWn σ m p v n := fun n => by
    induction n with
    | zero => rfl
    | succ n ih => unfold FWn; rw [ih, f]
  refine ⟨?_, l⟩
  unfold FW
  rw [n, show fI τ m 7 = fI σ m 7 from fτ.f (by simp; omega)]
def StC (σ : St) (m : Nat) (τ : St) (D : Int → Int → Prop) : Prop := Md σ m D (fI τ 38 0) (fI τ 38 1) (fI τ 38 2) ∧ (fI τ 38 0 ≠ -1 → fI τ 38 3 = mchg σ m (fI τ 38 0) (fI τ 38 1))
theorem Md.frg {m : Nat} {bk : Int} (hI : IMach m bk σ σm) {D : Int → Int → Prop} {p l f : Int} (h : Md σ m D p l f) : 0 ≤ f ∧ f ≤ 16 := by
  have a := FW_rg hI (-1) 0
  have b := FW_rg hI p l
  rcases h with ⟨_, h, _⟩ | ⟨_, _, h, _⟩ <;> omega
theorem tryL_eq {m : Nat} {bk : Int} (hX : WXr σ.1 σ.2.2) (hI : IMach m bk σ σm) {τ : St} (fτ : FX [38] σ τ) {D : Int → Int → Prop} (hs : StC σ m τ D) {i v : Int} (hi : 0 ≤ i ∧ i < fI σ m 1) (hv : -1000 ≤ v ∧ v ≤ 60000) (hN : 1000 < N) : Ok (f_X4_tryLength N τ 38 m i v) (fun w => FX [38] σ w.1 ∧ StC σ m w.1 (fun a b => D a b ∨ (a = i ∧ b = v))) := by
  have hm := hI.1
  have hml := isM_le hm
  have hτ := fτ.X hX
  have hIτ : IMach m bk τ σm := hI.keep fτ.2.1 (fun k a b => fτ.2.2 k (by simp; omega)) rfl (fun _ _ _ => rfl)
  have i1 := hI.2.2.2.2.1.2.1
  have e1 : fI τ m 1 = fI σ m 1 := fτ.f (by simp; omega)
  have ln := lnA_rg hI hi (v := 0) (by decide)
  have eF := FW_keep hm fτ i v
  obtain ⟨hs1, hs2⟩ := hs
  have frg := hs1.frg hI
  unfold f_X4_tryLength
  refine mx_rcv hτ hm (ok_rw (length_eq hτ hIτ (by rw [e1]; exact hi) (by decide)) (st_Lt ?_))
  dsimp only
  rw [eF.2, abZ_eq (by omega)]
  have same : (inM σ m i v → FW σ m i v < fI τ 38 2 ∨ (FW σ m i v = fI τ 38 2 ∧ (fI τ 38 0 = -1 ∨ ¬ mkey σ m i v < mkey σ m (fI τ 38 0) (fI τ 38 1)))) → Ok (some (τ, (0 : Int))) (fun w : St × Int => FX [38] σ w.1 ∧ StC σ m w.1 (fun a b => D a b ∨ (a = i ∧ b = v))) := fun q => by
    refine ok_some ⟨fτ, ?_, hs2⟩
    by_cases k : inM σ m i v
    · exact hs1.pass hI k (q k)
    · refine hs1.ext fun a b hab => ⟨fun z => .inl z, fun z => ?_⟩
      rcases z with z | ⟨rfl, rfl⟩
      · exact z
      · exact absurd hab k
  have hx : (if 0 ≤ v - lnA σ m i 0 then v - lnA σ m i 0 else 0 - (v - lnA σ m i 0)) = mchg σ m i v := by
    unfold mchg
    split <;> split <;> omega
  have crg : 0 ≤ mchg σ m i v ∧ mchg σ m i v ≤ 120000 := by unfold mchg; split <;> omega
  rw [hx]
  refine ok_weqc (by omega) (fun h1 => same fun hin => ?_) (fun h1 => ?_)
  · have ev : v = lnA σ m i 0 := by unfold mchg at h1; split at h1 <;> omega
    have now := FW_now hI i
    rw [← ev] at now
    rcases hs1 with ⟨k1, k2, k3⟩ | ⟨k1, k3, k4, k5⟩
    · exact .inr ⟨by omega, .inl k1⟩
    · exact .inl (by omega)
  refine ok_within (by omega) (by omega) (by omega) (fun h2 => ok_z1 ?_) (fun h2 => ok_z0 (same fun hin => by have := hin.2; omega))
  have hin : inM σ m i v := ⟨hi, h2⟩
  refine ok_rw (fitC_eq hτ hIτ (by omega) (by omega) hN) ?_
  dsimp only
  rw [eF.1]
  have fw := FW_rg hI i v
  refine sx_gI hτ rfl rfl ?_
  refine ok_JnC (fun _ => fI τ 38 2 < FW σ m i v ∨ (FW σ m i v = fI τ 38 2 ∧ fI τ 38 0 ≠ -1 ∧ mkey σ m i v < mkey σ m (fI τ 38 0) (fI τ 38 1))) (fun _ hq => ?_) (fun J hJ => ?_)
  · refine sx_pI hτ rfl rfl ?_
    refine sx_pI (σ := uF τ 38 0 i) hτ rfl rfl ?_
    refine sx_pI (σ := uF (uF τ 38 0 i) 38 1 v) hτ rfl rfl ?_
    refine sx_pI (σ := uF (uF (uF τ 38 0 i) 38 1 v) 38 2 (FW σ m i v)) hτ rfl rfl (ok_some ?_)
    refine ⟨(((fτ.uF (by simp)).uF (by simp)).uF (by simp)).uF (by simp), ?_⟩
    unfold StC
    dsimp only
    rw [fI_j (by decide), fI_j (by decide), fI_j (by decide), fI_eq, fI_j (j := 1) (by decide), fI_j (j := 1) (by decide), fI_eq, fI_j (j := 2) (by decide), fI_eq, fI_eq]
    exact ⟨hs1.take hI hin hq, fun _ => rfl⟩
  · refine ok_wlt (by omega) (by omega) (fun h3 => hJ () (.inl h3)) (fun h3 => ?_)
    refine sx_gI hτ rfl rfl ?_
    refine ok_weq (by omega) (by omega) (fun h4 => ?_) (fun h4 => same fun _ => .inl (by omega))
    refine sx_gI hτ rfl rfl ?_
    have prg : (fI τ 38 0 = -1) ∨ (inM σ m (fI τ 38 0) (fI τ 38 1) ∧ FW σ m (fI τ 38 0) (fI τ 38 1) = fI τ 38 2) := by
      rcases hs1 with ⟨k1, k2, k3⟩ | ⟨k1, k3, k4, k5⟩
      · exact .inl k1
      · exact .inr ⟨k1.1, k4.symm⟩
    refine ok_weq (by rcases prg with k | k; omega; have := k.1.1; omega) (by decide) (fun h5 => same fun _ => .inr ⟨h4, .inl h5⟩) (fun h5 => ?_)
    have pin : inM σ m (fI τ 38 0) (fI τ 38 1) ∧ FW σ m (fI τ 38 0) (fI τ 38 1) = fI τ 38 2 := by
      rcases prg with k | k
      · exact absurd k h5
      · exact k
    have ec := hs2 h5
    have cr2 := mchg_rg hI pin.1
    have lt := mkey_lt hI hin pin.1
    have p0 := pin.1.1
    have p1 := pin.1.2
    have near : ∃ r, f_X4_isNearer N τ 38 i v (mchg σ m i v) = some (τ, r) ∧ ((r = 1 ∧ mkey σ m i v < mkey σ m (fI τ 38 0) (fI τ 38 1)) ∨ (r = 0 ∧ ¬ mkey σ m i v < mkey σ m (fI τ 38 0) (fI τ 38 1))) := by
      have H : Ok (f_X4_isNearer N τ 38 i v (mchg σ m i v)) (fun w => w.1 = τ ∧ ((w.2 = 1 ∧ mkey σ m i v < mkey σ m (fI τ 38 0) (fI τ 38 1)) ∨ (w.2 = 0 ∧ ¬ mkey σ m i v < mkey σ m (fI τ 38 0) (fI τ 38 1)))) := by
        unfold f_X4_isNearer
        rw [lt]
        refine sx_gI hτ rfl rfl ?_
        refine ok_weq (by omega) (by omega) (fun h6 => ?_) (fun h6 => ?_)
        · refine sx_gI hτ rfl rfl ?_
          refine ok_weq (by omega) (by omega) (fun h7 => ?_) (fun h7 => ?_)
          · refine sx_gI hτ rfl rfl ?_
            exact ok_wlt (by omega) (by omega) (fun h8 => ok_some ⟨rfl, .inl ⟨rfl, by omega⟩⟩) (fun h8 => ok_some ⟨rfl, .inr ⟨rfl, by omega⟩⟩)
          · refine sx_gI hτ rfl rfl ?_
            exact ok_wlt (by omega) (by omega) (fun h8 => ok_some ⟨rfl, .inl ⟨rfl, by omega⟩⟩) (fun h8 => ok_some ⟨rfl, .inr ⟨rfl, by omega⟩⟩)
        · refine sx_gI hτ rfl rfl ?_
          exact ok_wlt (by omega) (by omega) (fun h8 => ok_some ⟨rfl, .inl ⟨rfl, by omega⟩⟩) (fun h8 => ok_some ⟨rfl, .inr ⟨rfl, by omega⟩⟩)
      obtain ⟨⟨w, r⟩, e, h1, h2⟩ := H
      dsimp only at h1 h2
      subst h1
      exact ⟨r, e, h2⟩
    obtain ⟨r, e, hr⟩ := near
    refine sx_rcv hτ rfl rfl (ok_rw e ?_)
    dsimp only
    refine ok_weqc (by omega) (fun h6 => same fun _ => .inr ⟨h4, .inr ?_⟩) (fun h6 => hJ () (.inr ⟨h4, h5, ?_⟩))
    · rcases hr with k | k
      · omega
      · exact k.2
    · rcases hr with k | k
      · exact k.2
      · omega
theorem tryE_eq {m : Nat} {bk : Int} (hX : WXr σ.1 σ.2.2) (hI : IMach m bk σ σm) {τ : St} (fτ : FX [38] σ τ) {D : Int → Int → Prop} (hs : StC σ m τ D) {i o g : Int} (hi : 0 ≤ i ∧ i < fI σ m 1) (ho : 0 ≤ o ∧ o < fI σ m 1) (hg : 0 ≤ g ∧ g ≤ 99) (hN : 1000 < N) : Ok (f_X4_tryEnds N τ 38 m i o g) (fun w => FX [38] σ w.1 ∧ StC σ m w.1 (fun a b => D a b ∨ (a = i ∧ (b = lnA σ m o 0 - g ∨ b = lnA σ m o 0 + g)))) := by
  have hm := hI.1
  have hml := isM_le hm
  have hτ := fτ.X hX
  have hIτ : IMach m bk τ σm := hI.keep fτ.2.1 (fun k a b => fτ.2.2 k (by simp; omega)) rfl (fun _ _ _ => rfl)
  have e1 : fI τ m 1 = fI σ m 1 := fτ.f (by simp; omega)
  have ln := lnA_rg hI ho (v := 0) (by decide)
  have eF := FW_keep hm fτ 0 0
  unfold f_X4_tryEnds
  refine mx_rcv hτ hm (ok_rw (length_eq hτ hIτ (by rw [e1]; exact ho) (by decide)) ?_)
  dsimp only
  rw [eF.2]
  obtain ⟨⟨τ1, v1⟩, q1, q2, q3⟩ := tryL_eq hX hI fτ hs (i := i) (v := lnA σ m o 0 - g) hi (by omega) hN
  dsimp only at q2 q3
  refine sx_rcv hτ rfl rfl (ok_rw q1 ?_)
  dsimp only
  obtain ⟨⟨τ2, v2⟩, r1, r2, r3⟩ := tryL_eq hX hI q2 q3 (i := i) (v := lnA σ m o 0 + g) hi (by omega) hN
  dsimp only at r2 r3
  refine sx_rcv (q2.X hX) rfl rfl (ok_rw r1 (ok_some ⟨r2, ?_, r3.2⟩))
  dsimp only
  refine r3.1.ext fun a b _ => ?_
  constructor
  · rintro ((h | h) | h)
    · exact .inl h
    · exact .inr ⟨h.1, .inl h.2⟩
    · exact .inr ⟨h.1, .inr h.2⟩
  · rintro (h | ⟨h1, h2 | h2⟩)
    · exact .inl (.inl h)
    · exact .inl (.inr ⟨h1, h2⟩)
    · exact .inr ⟨h1, h2⟩
theorem search_eq {m : Nat} {bk : Int} (hX : WXr σ.1 σ.2.2) (hI : IMach m bk σ σm) (hN : 1000 < N) : Ok (f_X4_search N σ 38 m) (fun w => FX [38] σ w.1 ∧ StC σ m w.1 (endsD σ m (fI σ m 7))) := by
  have hm := hI.1
  have hml := isM_le hm
  have r7 := hI.2.2.2.2.1.2.2.1
  have rj := hI.2.2.2.2.2.2.1
  unfold f_X4_search
  refine sx_pI hX rfl rfl ?_
  refine sx_pI (σ := uF σ 38 0 (-1)) hX rfl rfl ?_
  refine sx_pI (σ := uF (uF σ 38 0 (-1)) 38 1 (-1)) hX rfl rfl ?_
  have f0 : FX [38] σ (uF (uF (uF σ 38 0 (-1)) 38 1 (-1)) 38 3 0) := ((FX.refl.uF (by simp)).uF (by simp)).uF (by simp)
  generalize hτ0 : uF (uF (uF σ 38 0 (-1)) 38 1 (-1)) 38 3 0 = τ0 at f0 ⊢
  have hI0 : IMach m bk τ0 σm := hI.keep f0.2.1 (fun k a b => f0.2.2 k (by simp; omega)) rfl (fun _ _ _ => rfl)
  have eF := FW_keep hm f0 (-1) 0
  refine ok_rw (fitC_eq (f0.X hX) hI0 (by omega) (by omega) hN) ?_
  dsimp only
  rw [eF.1]
  refine sx_pI (f0.X hX) rfl rfl ?_
  unfold L_X4_search_27
  refine ok_fix (fun w => (0 ≤ w.2 ∧ w.2 ≤ fI σ m 7) ∧ FX [38] σ w.1 ∧ StC σ m w.1 (endsD σ m w.2)) (fun w => (fI σ m 7 - w.2).toNat) (fun back w hw hback => ?_) _ ⟨by dsimp only; omega, f0.uF (by simp), ?_⟩ (by dsimp only; omega)
  rotate_left
  · unfold StC
    dsimp only
    rw [fI_j (by decide), fI_j (j := 1) (by decide), fI_eq, ← hτ0]
    rw [fI_j (by decide), fI_j (j := 0) (by decide), fI_eq]
    refine ⟨.inl ⟨rfl, rfl, fun i v _ k => ?_⟩, fun q => absurd rfl q⟩
    obtain ⟨k, k1, _⟩ := k
    omega
  obtain ⟨τ, j⟩ := w
  obtain ⟨g1, gF, gS⟩ := hw
  dsimp only at g1 gF gS hback ⊢
  have hτ := gF.X hX
  have c : ∀ d, d ≤ 14 → τ.2.1 (m + d) = σ.2.1 (m + d) := fun d hd => gF.2.2 (m + d) (by simp; omega)
  refine mx_gI hτ hm ?_
  rw [show fI τ m 7 = fI σ m 7 from gF.f (by simp; omega)]
  refine ok_wlt (by omega) (by omega) (fun h1 => ?_) (fun h1 => ok_some ⟨gF, by rw [show fI σ m 7 = j by omega]; exact gS⟩)
  obtain ⟨q1, q2, q3, q4⟩ := rj j g1.1 h1
  refine mx_gR hτ hm rfl ?_
  refine mx_aI hτ hm rfl (by decide) (by omega) (by omega) ?_
  refine mx_gR hτ hm rfl ?_
  refine mx_aI hτ hm rfl (by decide) (by omega) (by omega) ?_
  refine mx_gR hτ hm rfl ?_
  refine mx_aI hτ hm rfl (by decide) (by omega) (by omega) ?_
  rw [c 6 (by omega), c 7 (by omega), c 8 (by omega)]
  obtain ⟨⟨τ1, v1⟩, x1, x2, x3⟩ := tryE_eq (N := N) hX hI gF gS q1.2 q2.2 q4.2 hN
  dsimp only at x2 x3
  refine sx_rcv hτ rfl rfl (ok_rw x1 ?_)
  dsimp only
  have hτ1 := x2.X hX
  have c1 : ∀ d, d ≤ 14 → τ1.2.1 (m + d) = σ.2.1 (m + d) := fun d hd => x2.2.2 (m + d) (by simp; omega)
  refine mx_gR hτ1 hm rfl ?_
  refine mx_aI hτ1 hm rfl (by decide) (by omega) (by omega) ?_
  refine mx_gR hτ1 hm rfl ?_
  refine mx_aI hτ1 hm rfl (by decide) (by omega) (by omega) ?_
  refine mx_gR hτ1 hm rfl ?_
  refine mx_aI hτ1 hm rfl (by decide) (by omega) (by omega) ?_
  rw [c1 6 (by omega), c1 7 (by omega), c1 8 (by omega)]
  obtain ⟨⟨τ2, v2⟩, y1, y2, y3⟩ := tryE_eq (N := N) hX hI x2 x3 q2.2 q1.2 q4.2 hN
  dsimp only at y2 y3
  refine sx_rcv hτ1 rfl rfl (ok_rw y1 (st_Lt ?_))
  dsimp only
  refine hback _ ⟨by dsimp only; omega, y2, y3.1.ext fun a b _ => ?_, y3.2⟩ (by dsimp only; omega)
  constructor
  · rintro ((⟨k, k1, k2⟩ | h) | h)
    · exact ⟨k, by omega, k2⟩
    · exact ⟨j, by omega, .inl h⟩
    · exact ⟨j, by omega, .inr h⟩
  · rintro ⟨k, k1, k2⟩
    by_cases hk : k = j
    · subst hk
      rcases k2 with k2 | k2
      · exact .inl (.inr k2)
      · exact .inr k2
    · exact .inl (.inl ⟨k, by omega, k2⟩)
def DlM (i v a b : Int) : Prop := a < i ∨ (a = i ∧ b < v)
def StM (σ : St) (m : Nat) (φ : St) (c i v : Int) : Prop := Md σ m (DlM i v) (fI φ 1 33) (fI φ 1 34) (fI φ 1 35) ∧ (0 ≤ fI φ 1 33 → c = mchg σ m (fI φ 1 33) (fI φ 1 34)) ∧ 0 ≤ c ∧ c ≤ 50000
theorem seek_eq {m : Nat} {bk : Int} (hM : WMr σm.1 σm.2.2) (hI : IMach m bk σ σm) (hN : 40000 < N) : Ok (f_X12_seekMend N σm 1) (fun w => FM [] [33, 34, 35] σm w.1 ∧ Md σ m (fun _ _ => True) (fI w.1 1 33) (fI w.1 1 34) (fI w.1 1 35)) := by
  have i4 := hI.2.2.2.1
  have i3 := hI.2.2.1
  have r1 := hI.2.2.2.2.1.2.1
  have keep : ∀ {φ : St}, FM [] [33, 34, 35] σm φ → IMach m bk σ φ ∧ fI φ 1 31 = bk ∧ φ.2.1 5 bk = fI σ m 1 := fun {φ} g => ⟨hI.keep rfl (fun _ _ _ => rfl) (g.f (by decide)) (fun k a b => g.2.2.1 k (by omega) (by simp)), (g.f (by decide)).trans i3, by rw [g.2.2.1 5 (by decide) (by simp)]; exact r1.1⟩
  unfold f_X12_seekMend
  refine sm_pI hM ?_
  refine sm_pI (σ := uF σm 1 33 (-1)) hM ?_
  have f0 : FM [] [33, 34, 35] σm (uF (uF σm 1 33 (-1)) 1 34 (-1)) := (FM.refl.uF (by simp)).uF (by simp)
  generalize hτ0 : uF (uF σm 1 33 (-1)) 1 34 (-1) = τ0 at f0 ⊢
  obtain ⟨hI0, _, _⟩ := keep f0
  refine sm_rcv (f0.M hM) (ok_rw (fitM_eq (f0.M hM) hI0 (by omega) (by omega) (by omega)) ?_)
  dsimp only
  refine sm_pI (f0.M hM) ?_
  unfold L_X12_seekMend_24
  refine ok_fix (fun w => (0 ≤ w.2.2 ∧ w.2.2 ≤ fI σ m 1) ∧ FM [] [33, 34, 35] σm w.1 ∧ StM σ m w.1 w.2.1 w.2.2 1) (fun w => (fI σ m 1 - w.2.2).toNat) (fun back w hw hback => ?_) _ ⟨by dsimp only; omega, f0.uF (by simp), ?_⟩ (by dsimp only; omega)
  rotate_left
  · unfold StM
    dsimp only
    rw [fI_j (by decide), fI_j (j := 34) (by decide), fI_eq, ← hτ0]
    rw [fI_j (by decide), fI_eq]
    refine ⟨.inl ⟨rfl, rfl, fun i v hin k => ?_⟩, fun q => by omega, by decide, by decide⟩
    have := hin.1
    have := hin.2
    unfold DlM at k
    omega
  obtain ⟨φ, c, i⟩ := w
  obtain ⟨g1, gF, gS⟩ := hw
  dsimp only at g1 gF gS hback ⊢
  have hMφ := gF.M hM
  obtain ⟨hIφ, x1, x2⟩ := keep gF
  refine sm_rcv hMφ (ok_rw (parts_eq hMφ x1 i4) ?_)
  dsimp only
  rw [x2]
  refine ok_wlt (by omega) (by omega) (fun h1 => ?_) (fun h1 => ok_some ⟨gF, gS.1.ext fun a b hab => ⟨fun _ => trivial, fun _ => .inl (by have := hab.1; omega)⟩⟩)
  have ln := lnA_rg hI ⟨g1.1, h1⟩ (v := 0) (by decide)
  refine sm_rcv hMφ (ok_rw (mmOf_eq hMφ hIφ ⟨g1.1, h1⟩ (by decide)) ?_)
  refine ok_JnC (fun x => FM [] [33, 34, 35] σm x.1 ∧ StM σ m x.1 x.2 (i + 1) 1) (fun x hx => st_Lt (hback _ ⟨by dsimp only; omega, hx.1, hx.2⟩ (by dsimp only; omega))) (fun J hJ => ?_)
  unfold L_X12_seekMend_42
  dsimp only
  refine ok_fix (fun w => (1 ≤ w.2.2 ∧ w.2.2 ≤ 30001) ∧ FM [] [33, 34, 35] σm w.1 ∧ StM σ m w.1 w.2.1 i w.2.2) (fun w => (30001 - w.2.2).toNat) (fun back2 w hw hback2 => ?_) _ ⟨by dsimp only; omega, gF, gS⟩ (by dsimp only; omega)
  obtain ⟨ψ, d, v⟩ := w
  obtain ⟨g2, hF, hS⟩ := hw
  dsimp only at g2 hF hS hback2 ⊢
  have hMψ := hF.M hM
  obtain ⟨hIψ, z1, z2⟩ := keep hF
  obtain ⟨s1, s2, s3⟩ := hS
  have frg := s1.frg hI
  refine ok_wlt (by decide) (by omega) (fun h2 => hJ _ ⟨hF, s1.ext fun a b hab => ?_, s2, s3⟩) (fun h2 => ?_)
  · have := hab.2
    unfold DlM
    omega
  have hin : inM σ m i v := ⟨⟨g1.1, h1⟩, by omega⟩
  refine sm_rcv hMψ (ok_rw (fitM_eq hMψ hIψ (by omega) (by omega) (by omega)) ?_)
  dsimp only
  have fw := FW_rg hI i v
  have crg := mchg_rg hI hin
  refine ok_JnC (fun x => x = mchg σ m i v) (fun x hx => ?_) (fun K hK => ?_)
  · subst hx
    refine sm_gI hMψ ?_
    refine ok_JnC (fun x => FM [] [33, 34, 35] σm x.1 ∧ StM σ m x.1 x.2 i (v + 1)) (fun x hx => st_Lt (hback2 _ ⟨by dsimp only; omega, hx.1, hx.2⟩ (by dsimp only; omega))) (fun J2 hJ2 => ?_)
    have stepD : ∀ {p l f : Int}, Md σ m (fun a b => DlM i v a b ∨ (a = i ∧ b = v)) p l f → Md σ m (DlM i (v + 1)) p l f := fun {p l f} h => h.ext fun a b _ => by unfold DlM; omega
    have same : (FW σ m i v < fI ψ 1 35 ∨ (FW σ m i v = fI ψ 1 35 ∧ (fI ψ 1 33 = -1 ∨ ¬ mkey σ m i v < mkey σ m (fI ψ 1 33) (fI ψ 1 34)))) → Ok (J2 (ψ, d)) (fun w => FM [] [33, 34, 35] σm w.1 ∧ Md σ m (fun _ _ => True) (fI w.1 1 33) (fI w.1 1 34) (fI w.1 1 35)) := fun q => hJ2 _ ⟨hF, stepD (s1.pass hI hin q), s2, s3⟩
    refine ok_wlt (by omega) (by omega) (fun h3 => same (.inl h3)) (fun h3 => ?_)
    refine sm_gI hMψ ?_
    refine ok_JnC (fun _ => fI ψ 1 35 < FW σ m i v ∨ (FW σ m i v = fI ψ 1 35 ∧ fI ψ 1 33 ≠ -1 ∧ mkey σ m i v < mkey σ m (fI ψ 1 33) (fI ψ 1 34))) (fun _ hq => ?_) (fun K hK => ?_)
    · refine sm_pI hMψ ?_
      refine sm_pI (σ := uF ψ 1 33 i) hMψ ?_
      refine sm_pI (σ := uF (uF ψ 1 33 i) 1 34 v) hMψ ?_
      refine hJ2 _ ⟨((hF.uF (by simp)).uF (by simp)).uF (by simp), ?_⟩
      unfold StM
      dsimp only
      rw [fI_j (by decide), fI_j (by decide), fI_eq, fI_j (j := 34) (by decide), fI_eq, fI_eq]
      exact ⟨stepD (s1.take hI hin hq), fun _ => rfl, by omega, by omega⟩
    · refine ok_weq (by omega) (by omega) (fun h4 => ?_) (fun h4 => hK () (.inl (by omega)))
      refine sm_gI hMψ ?_
      have prg : (fI ψ 1 33 = -1) ∨ ((inM σ m (fI ψ 1 33) (fI ψ 1 34) ∧ DlM i v (fI ψ 1 33) (fI ψ 1 34)) ∧ FW σ m (fI ψ 1 33) (fI ψ 1 34) = fI ψ 1 35) := by
        rcases s1 with ⟨k1, k2, k3⟩ | ⟨k1, k3, k4, k5⟩
        · exact .inl k1
        · exact .inr ⟨k1, k4.symm⟩
      refine ok_wlt0 (by rcases prg with k | k; omega; have := k.1.1.1; omega) (fun h5 => same (.inr ⟨h4, .inl ?_⟩)) (fun h5 => ?_)
      · rcases prg with k | k
        · exact k
        · have := k.1.1.1; omega
      · have pin : (inM σ m (fI ψ 1 33) (fI ψ 1 34) ∧ DlM i v (fI ψ 1 33) (fI ψ 1 34)) ∧ FW σ m (fI ψ 1 33) (fI ψ 1 34) = fI ψ 1 35 := by
          rcases prg with k | k
          · omega
          · exact k
        have ec := s2 h5
        have lt := mkey_lt hI hin pin.1.1
        have dl := pin.1.2
        unfold DlM at dl
        refine ok_wlt (by omega) (by omega) (fun h6 => hK () (.inr ⟨h4, by omega, lt.mpr (.inr ⟨by omega, .inl (by omega)⟩)⟩)) (fun h6 => same (.inr ⟨h4, .inr fun q => ?_⟩))
        have := lt.mp q
        omega
  · refine ok_wlt (by omega) (by omega) (fun h3 => hK _ ?_) (fun h3 => hK _ ?_)
    · unfold mchg; rw [if_neg (by omega)]
    · unfold mchg; rw [if_pos (by omega)]
theorem op_mend (hX : WXr σ.1 σ.2.2) (hM : WMr σm.1 σm.2.2) {m : Nat} {bk : Int} (hI : IMach m bk σ σm) {a : Int} (ha : wr a = a) (hN : 40000 < N) : Ok (f_X11_mend N σ 1 a) (fun v => Ok (f_X12_mend N σm 1 a) (fun w => wr v.2 = wr w.2 ∧ FX [38] σ v.1 ∧ FM [] [33, 34, 35] σm w.1)) := by
  have hr := wr_rg ha
  obtain ⟨⟨τ, r⟩, e, p1, p2, p3⟩ := search_eq (N := N) hX hI (by omega)
  obtain ⟨⟨φ, s⟩, e2, q1, q2⟩ := seek_eq (N := N) hM hI hN
  dsimp only at p1 p2 p3 q1 q2
  have sm := Md.same hI p2 q2
  have hτ := p1.X hX
  have hφ := q1.M hM
  have prg : fI τ 38 0 = -1 ∨ inM σ m (fI τ 38 0) (fI τ 38 1) := by
    rcases p2 with ⟨k, _⟩ | ⟨k, _⟩
    · exact .inl k
    · exact .inr k.1
  have r1 := hI.2.2.2.2.1.2.1
  unfold f_X11_mend f_X12_mend
  refine ok_within (by omega) (by omega) (by omega) (fun h1 => ok_z1 ?_) (fun h1 => ok_z0 (ok_some ?_))
  rotate_left
  · refine ok_isIn (by omega) (by omega) (by omega) (fun h2 => by omega) (fun h2 => ok_z0 (ok_some ⟨rfl, FX.refl, FM.refl⟩))
  refine sx_gR hX rfl rfl rfl ?_
  refine sx_gR1 hX hI.2.1 ?_
  refine sx_rcv hX rfl rfl (ok_rw e ?_)
  dsimp only
  refine sx_gR hτ rfl rfl rfl ?_
  refine sx_gI hτ rfl rfl ?_
  rcases sm with ⟨k1, k2⟩ | ⟨k1, k2, k3, k4⟩
  · refine ok_weq (by omega) (by decide) (fun _ => ok_some ?_) (fun q => absurd k1 q)
    refine ok_isIn (by omega) (by omega) (by omega) (fun h2 => ok_z1 ?_) (fun h2 => by omega)
    refine sm_rcv hM (ok_rw e2 ?_)
    dsimp only
    refine sm_gI hφ ?_
    exact ok_wlt0 (by omega) (fun _ => ok_some ⟨rfl, p1, q1⟩) (fun q => by omega)
  · have pin : inM σ m (fI τ 38 0) (fI τ 38 1) := by
      rcases prg with k | k
      · omega
      · exact k
    have p0 := pin.1
    refine ok_weq (by omega) (by decide) (fun q => by omega) (fun _ => ?_)
    have ref : Ok (f_X12_mend N σm 1 a) (fun w => w.2 = (if a = 0 then fI φ 1 33 else if a = 1 then fI φ 1 34 else fI φ 1 35) ∧ FM [] [33, 34, 35] σm w.1) := by
      unfold f_X12_mend
      refine ok_isIn (by omega) (by omega) (by omega) (fun h2 => ok_z1 ?_) (fun h2 => by omega)
      refine sm_rcv hM (ok_rw e2 ?_)
      dsimp only
      refine sm_gI hφ ?_
      refine ok_wlt0 (by omega) (fun q => by omega) (fun _ => ?_)
      refine ok_weqc hr (fun h3 => ?_) (fun h3 => ?_)
      · exact sm_gI hφ (ok_some ⟨by rw [if_pos h3], q1⟩)
      · refine ok_weq hr (by decide) (fun h4 => ?_) (fun h4 => ?_)
        · exact sm_gI hφ (ok_some ⟨by rw [if_neg h3, if_pos h4], q1⟩)
        · exact sm_gI hφ (ok_some ⟨by rw [if_neg h3, if_neg h4], q1⟩)
    unfold f_X12_mend at ref
    refine ok_weqc hr (fun h3 => ?_) (fun h3 => ?_)
    · refine sx_gR hτ rfl rfl rfl (sx_gI hτ rfl rfl (ok_some (ok_mono ref fun w hw => ⟨?_, p1, hw.2⟩)))
      rw [hw.1, if_pos h3]
      exact congrArg wr k2
    · refine ok_weq hr (by decide) (fun h4 => ?_) (fun h4 => ?_)
      · refine sx_gR hτ rfl rfl rfl (sx_gI hτ rfl rfl (ok_some (ok_mono ref fun w hw => ⟨?_, p1, hw.2⟩)))
        rw [hw.1, if_neg h3, if_pos h4]
        exact congrArg wr k3
      · refine sx_gR hτ rfl rfl rfl (sx_gI hτ rfl rfl (ok_some (ok_mono ref fun w hw => ⟨?_, p1, hw.2⟩)))
        rw [hw.1, if_neg h3, if_neg h4]
        exact congrArg wr k4
end F
