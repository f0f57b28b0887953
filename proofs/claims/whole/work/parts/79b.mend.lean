/-! the pure part: MEND, how many FIT -/
def lnP (σ : St) (m : Nat) (p v k : Int) : Int := if k = p then v else lnA σ m k 0
def ftP (σ : St) (m : Nat) (p v j : Int) : Int := if lnP σ m p v (σ.2.1 (m + 6) j) - lnP σ m p v (σ.2.1 (m + 7) j) ≤ σ.2.1 (m + 8) j ∧ lnP σ m p v (σ.2.1 (m + 7) j) - lnP σ m p v (σ.2.1 (m + 6) j) ≤ σ.2.1 (m + 8) j then 1 else 0
def FWn (σ : St) (m : Nat) (p v : Int) : Nat → Int
  | 0 => 0
  | n + 1 => FWn σ m p v n + ftP σ m p v n
def FW (σ : St) (m : Nat) (p v : Int) : Int := FWn σ m p v (fI σ m 7).toNat
theorem ftP_rg (σ : St) (m : Nat) (p v j : Int) : 0 ≤ ftP σ m p v j ∧ ftP σ m p v j ≤ 1 := by unfold ftP; split <;> omega
theorem FWn_rg (σ : St) (m : Nat) (p v : Int) : ∀ n : Nat, 0 ≤ FWn σ m p v n ∧ FWn σ m p v n ≤ n
  | 0 => ⟨Int.le_refl _, Int.le_refl _⟩
  | n + 1 => by
    have := FWn_rg σ m p v n
    have := ftP_rg σ m p v n
    unfold FWn
    omega
theorem FWn_congr {σ : St} {m : Nat} {p v q w : Int} : ∀ n : Nat, (∀ j : Nat, j < n → ftP σ m p v j = ftP σ m q w j) → FWn σ m p v n = FWn σ m q w n
  | 0, _ => rfl
  | n + 1, h => by
    unfold FWn
    rw [FWn_congr n fun j hj => h j (by omega), h n (by omega)]
theorem FWn_lt {σ : St} {m : Nat} {p v q w : Int} : ∀ n : Nat, FWn σ m p v n < FWn σ m q w n → ∃ j : Nat, j < n ∧ ftP σ m p v j = 0 ∧ ftP σ m q w j = 1
  | 0, h => by unfold FWn at h; omega
  | n + 1, h => by
    have r1 := ftP_rg σ m p v n
    have r2 := ftP_rg σ m q w n
    unfold FWn at h
    by_cases k : FWn σ m p v n < FWn σ m q w n
    · obtain ⟨j, h1, h2⟩ := FWn_lt n k
      exact ⟨j, by omega, h2⟩
    · exact ⟨n, by omega, by omega, by omega⟩
section F
variable {N : Nat} {σ σm : St}
theorem FW_rg {m : Nat} {bk : Int} (hI : IMach m bk σ σm) (p v : Int) : 0 ≤ FW σ m p v ∧ FW σ m p v ≤ 16 := by
  have := FWn_rg σ m p v (fI σ m 7).toNat
  have := hI.2.2.2.2.1.2.2.1
  unfold FW
  omega
/-- nothing changed -/
theorem FW_same {m : Nat} {p : Int} {q w : Int} (h : ∀ k : Int, 0 ≤ k → lnP σ m p (lnA σ m p 0) k = lnP σ m q w k) {bk : Int} (hI : IMach m bk σ σm) : FW σ m p (lnA σ m p 0) = FW σ m q w := by
  unfold FW
  have i7 := hI.2.2.2.2.1.2.2.1
  refine FWn_congr _ fun j hj => ?_
  have q := hI.2.2.2.2.2.2.1 j (by omega) (by omega)
  unfold ftP
  rw [h _ q.1.2.1, h _ q.2.1.2.1]
theorem lnP_rg {m : Nat} {bk : Int} (hI : IMach m bk σ σm) {p v k : Int} (hv : -60000 ≤ v ∧ v ≤ 60000) (hk : 0 ≤ k ∧ k < fI σ m 1) : -60000 ≤ lnP σ m p v k ∧ lnP σ m p v k ≤ 60000 := by
  have := lnA_rg hI hk (v := 0) (by decide)
  unfold lnP
  split <;> omega
theorem fitC_eq {m : Nat} {bk : Int} (hX : WXr σ.1 σ.2.2) (hI : IMach m bk σ σm) {p v : Int} (hp : -1 ≤ p ∧ p < 100) (hv : -60000 ≤ v ∧ v ≤ 60000) (hN : 1000 < N) : f_X4_fittingWith N σ m p v = some (σ, FW σ m p v) := by
  have hm := hI.1
  obtain ⟨r1, r2, r3, r4, r5⟩ := hI.2.2.2.2.1
  have rj := hI.2.2.2.2.2.2.1
  have H : Ok (f_X4_fittingWith N σ m p v) (fun q => q = (σ, FW σ m p v)) := by
    unfold f_X4_fittingWith L_X4_fittingWith_5
    refine ok_fix (fun w => (0 ≤ w.2 ∧ w.2 ≤ fI σ m 7) ∧ w.1 = FWn σ m p v w.2.toNat) (fun w => (fI σ m 7 - w.2).toNat) (fun back w hw hback => ?_) _ ⟨by dsimp only; omega, rfl⟩ (by dsimp only; omega)
    obtain ⟨s, j⟩ := w
    obtain ⟨g1, g2⟩ := hw
    dsimp only at g1 g2 hback ⊢
    have srg := FWn_rg σ m p v j.toNat
    refine mx_gI hX hm ?_
    refine ok_wlt (by omega) (by omega) (fun h1 => ?_) (fun h1 => ?_)
    · obtain ⟨q1, q2, q3, q4⟩ := rj j g1.1 h1
      have l1 := lnP_rg hI (p := p) hv q1.2
      have l2 := lnP_rg hI (p := p) hv q2.2
      refine mx_gR hX hm rfl ?_
      refine mx_aI hX hm rfl (by decide) (by omega) (by omega) ?_
      refine mx_gR hX hm rfl ?_
      refine mx_aI hX hm rfl (by decide) (by omega) (by omega) ?_
      refine ok_JnC (fun x => x = lnP σ m p v (σ.2.1 (m + 6) j)) (fun x hx => ?_) (fun J hJ => ?_)
      · refine ok_JnC (fun y => y = lnP σ m p v (σ.2.1 (m + 7) j)) (fun y hy => ?_) (fun J hJ => ?_)
        · refine mx_gR hX hm rfl ?_
          refine mx_aI hX hm rfl (by decide) (by omega) (by omega) ?_
          have nx : FWn σ m p v (j + 1).toNat = FWn σ m p v j.toNat + ftP σ m p v j := by
            have e : FWn σ m p v (j.toNat + 1) = FWn σ m p v j.toNat + ftP σ m p v ((j.toNat : Nat) : Int) := rfl
            rw [show (j + 1).toNat = j.toNat + 1 by omega, e, show ((j.toNat : Nat) : Int) = j by omega]
          refine ok_JnC (fun z => z = FWn σ m p v (j + 1).toNat) (fun z hz => st_Lt (hback _ ⟨by dsimp only; omega, hz⟩ (by dsimp only; omega))) (fun J hJ => ?_)
          rw [hx, hy, abZ_eq (by omega)]
          unfold ftP at nx
          by_cases h2 : 0 ≤ lnP σ m p v (σ.2.1 (m + 6) j) - lnP σ m p v (σ.2.1 (m + 7) j)
          · rw [if_pos h2]
            refine ok_wlt (by omega) (by omega) (fun h3 => hJ _ ?_) (fun h3 => st_Lt (hJ _ ?_))
            · rw [if_neg (by omega)] at nx; omega
            · rw [if_pos (by omega)] at nx; omega
          · rw [if_neg h2]
            refine ok_wlt (by omega) (by omega) (fun h3 => hJ _ ?_) (fun h3 => st_Lt (hJ _ ?_))
            · rw [if_neg (by omega)] at nx; omega
            · rw [if_pos (by omega)] at nx; omega
        · refine ok_weq (by omega) (by omega) (fun h2 => hJ _ ?_) (fun h2 => ?_)
          · unfold lnP; rw [if_pos h2]
          · refine mx_rcv hX hm (ok_rw (length_eq hX hI q2.2 (by decide)) (hJ _ ?_))
            unfold lnP; rw [if_neg h2]
      · refine ok_weq (by omega) (by omega) (fun h2 => hJ _ ?_) (fun h2 => ?_)
        · unfold lnP; rw [if_pos h2]
        · refine mx_rcv hX hm (ok_rw (length_eq hX hI q1.2 (by decide)) (hJ _ ?_))
          unfold lnP; rw [if_neg h2]
    · refine ok_some ?_
      unfold FW
      rw [g2, show j = fI σ m 7 by omega]
  obtain ⟨q, e, rfl⟩ := H
  exact e
theorem fitM_eq {m : Nat} {bk : Int} (hM : WMr σm.1 σm.2.2) (hI : IMach m bk σ σm) {p v : Int} (hp : -1 ≤ p ∧ p < 100) (hv : -60000 ≤ v ∧ v ≤ 60000) (hN : 1000 < N) : f_X12_fitsWith N σm 1 p v = some (σm, FW σ m p v) := by
  have i4 := hI.2.2.2.1
  have i3 := hI.2.2.1
  obtain ⟨r1, r2, r3, r4, r5⟩ := hI.2.2.2.2.1
  have rj := hI.2.2.2.2.2.2.1
  have H : Ok (f_X12_fitsWith N σm 1 p v) (fun q => q = (σm, FW σ m p v)) := by
    unfold f_X12_fitsWith L_X12_fitsWith_5
    refine ok_fix (fun w => (0 ≤ w.2 ∧ w.2 ≤ fI σ m 7) ∧ w.1 = FWn σ m p v w.2.toNat) (fun w => (fI σ m 7 - w.2).toNat) (fun back w hw hback => ?_) _ ⟨by dsimp only; omega, rfl⟩ (by dsimp only; omega)
    obtain ⟨s, j⟩ := w
    obtain ⟨g1, g2⟩ := hw
    dsimp only at g1 g2 hback ⊢
    have srg := FWn_rg σ m p v j.toNat
    refine sm_rcv hM (ok_rw (joins_eq hM i3 i4) ?_)
    dsimp only
    rw [r3.1]
    refine ok_wlt (by omega) (by omega) (fun h1 => ?_) (fun h1 => ?_)
    · obtain ⟨q1, q2, q3, q4⟩ := rj j g1.1 h1
      have l1 := lnP_rg hI (p := p) hv q1.2
      have l2 := lnP_rg hI (p := p) hv q2.2
      refine sm_gR hM rfl ?_
      refine sm_gI hM ?_
      rw [i3]
      refine sm_aI hM rfl rfl (by decide) (by omega) (by omega) ?_
      rw [q1.1]
      refine sm_gR hM rfl ?_
      refine sm_gI hM ?_
      rw [i3]
      refine sm_aI hM rfl rfl (by decide) (by omega) (by omega) ?_
      rw [q2.1]
      refine ok_JnC (fun x => x = lnP σ m p v (σ.2.1 (m + 6) j)) (fun x hx => ?_) (fun J hJ => ?_)
      · refine ok_JnC (fun y => y = lnP σ m p v (σ.2.1 (m + 7) j)) (fun y hy => ?_) (fun J hJ => ?_)
        · have nx : FWn σ m p v (j + 1).toNat = FWn σ m p v j.toNat + ftP σ m p v j := by
            have e : FWn σ m p v (j.toNat + 1) = FWn σ m p v j.toNat + ftP σ m p v ((j.toNat : Nat) : Int) := rfl
            rw [show (j + 1).toNat = j.toNat + 1 by omega, e, show ((j.toNat : Nat) : Int) = j by omega]
          have hb : f_X12_fitsBy N σm 1 j x y = some (σm, ftP σ m p v j) := by
            have H : Ok (f_X12_fitsBy N σm 1 j x y) (fun q => q = (σm, ftP σ m p v j)) := by
              unfold f_X12_fitsBy ftP
              refine sm_gR hM rfl ?_
              refine sm_gI hM ?_
              rw [i3]
              refine sm_aI hM rfl rfl (by decide) (by omega) (by omega) ?_
              rw [q4.1, hx, hy]
              refine ok_wlt (by omega) (by omega) (fun h3 => ok_some ?_) (fun h3 => ?_)
              · rw [if_neg (by omega)]
              refine sm_gR hM rfl ?_
              refine sm_gI hM ?_
              rw [i3]
              refine sm_aI hM rfl rfl (by decide) (by omega) (by omega) ?_
              rw [q4.1]
              refine ok_wlt (by omega) (by omega) (fun h4 => ok_some ?_) (fun h4 => ok_some ?_)
              · rw [if_neg (by omega)]
              · rw [if_pos (by omega)]
            obtain ⟨q, e, rfl⟩ := H
            exact e
          have fr := ftP_rg σ m p v j
          refine sm_rcv hM (ok_rw hb ?_)
          dsimp only
          refine ok_JnC (fun z => z = ftP σ m p v j) (fun z hz => st_Lt (st_Lt (hback _ ⟨by dsimp only; omega, by dsimp only; omega⟩ (by dsimp only; omega)))) (fun J hJ => ?_)
          exact ok_weqc (by omega) (fun h3 => hJ _ (by omega)) (fun h3 => hJ _ (by omega))
        · refine ok_weq (by omega) (by omega) (fun h2 => hJ _ ?_) (fun h2 => ?_)
          · unfold lnP; rw [if_pos h2]
          · refine sm_rcv hM (ok_rw (mmOf_eq hM hI q2.2 (by decide)) (hJ _ ?_))
            unfold lnP; rw [if_neg h2]
      · refine ok_weq (by omega) (by omega) (fun h2 => hJ _ ?_) (fun h2 => ?_)
        · unfold lnP; rw [if_pos h2]
        · refine sm_rcv hM (ok_rw (mmOf_eq hM hI q1.2 (by decide)) (hJ _ ?_))
          unfold lnP; rw [if_neg h2]
    · refine ok_some ?_
      unfold FW
      rw [g2, show j = fI σ m 7 by omega]
  obtain ⟨q, e, rfl⟩ := H
  exact e
end F
