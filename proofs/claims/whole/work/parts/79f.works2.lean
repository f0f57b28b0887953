/-! the pure part: WORKS, the most within a set -/
section F
variable {N : Nat} {σ σm : St}
def wC (σ : St) (m : Nat) (i : Int) : Nat → Int := fun j => if i + (j : Int) < fI σ m 1 then σ.2.1 (m + 5) (i + (j : Int)) else 0
/-- the row of sums of k PARTS -/
def SumOk (w : Nat → Int) (k : Nat) (τ : St) : Prop := ∀ s : Nat, s < 2 ^ k → τ.2.1 106 (s : Int) = Sg w k s.testBit
def MostOk (w : Nat → Int) (k : Nat) (r : Int) (lim : Nat) (τ : St) : Prop := ∀ s : Nat, s < lim → PM w k r s.testBit (τ.2.1 107 (s : Int))
theorem mostIn_eq {τ : St} (hX : WXr τ.1 τ.2.2) {w : Nat → Int} (hw : ∀ i, 0 ≤ w i ∧ w i ≤ 999) {k : Nat} (hk : k ≤ 12) (hS : SumOk w k τ) {r : Int} (hr : 0 ≤ r ∧ r ≤ 20000) {s : Nat} (hs : s < 2 ^ k) (hMo : MostOk w k r s τ) (hN : 1000 < N) : ∃ M, f_X10_mostWithin N τ 104 (s : Int) r = some (τ, M) ∧ PM w k r s.testBit M ∧ 0 ≤ M ∧ M ≤ 12000 := by
  have hw0 : ∀ i, 0 ≤ w i := fun i => (hw i).1
  have p2 : 2 ^ k ≤ 4096 := Nat.pow_le_pow_right (by decide) hk
  have Sle : ∀ b : Nat → Bool, ∀ n : Nat, Sg w n b ≤ 1000 * (n : Int) := fun b n => by
    induction n with
    | zero => exact Int.le_refl _
    | succ n ih =>
      have := (hw n).2
      unfold Sg
      split <;> omega
  have hs0 := Sg_nonneg hw0 s.testBit k
  have hs1 := Sle s.testBit k
  have H : Ok (f_X10_mostWithin N τ 104 (s : Int) r) (fun q => q.1 = τ ∧ PM w k r s.testBit q.2 ∧ 0 ≤ q.2 ∧ q.2 ≤ 12000) := by
    unfold f_X10_mostWithin
    refine sx_gR hX rfl rfl rfl ?_
    refine sx_aI hX rfl rfl (by decide) (by omega) (by omega) ?_
    rw [hS s hs]
    refine ok_wlt (by omega) (by omega) (fun h1 => ?_) (fun h1 => ?_)
    rotate_left
    · refine sx_gR hX rfl rfl rfl ?_
      refine sx_aI hX rfl rfl (by decide) (by omega) (by omega) (ok_some ?_)
      rw [hS s hs]
      exact ⟨rfl, PM.full hw0 h1, hs0, by dsimp only; omega⟩
    unfold L_X10_mostWithin_22
    refine ok_fix (fun q => (0 ≤ q.2 ∧ q.2 ≤ 12) ∧ (∃ t, SubB k t s.testBit ∧ Sg w k t ≤ r ∧ Sg w k t = q.1) ∧ ∀ i : Nat, (i : Int) < q.2 → i < k → s.testBit i = true → ∀ t, SubB k t (offb s.testBit i) → Sg w k t ≤ r → Sg w k t ≤ q.1) (fun q => (12 - q.2).toNat) (fun back q hq hback => ?_) _ ⟨by dsimp only; omega, ⟨fun _ => false, fun _ _ h => by simp at h, by rw [Sg_zero]; exact hr.1, by rw [Sg_zero]⟩, fun i hi => by dsimp only at hi; omega⟩ (by dsimp only; omega)
    obtain ⟨bst, j⟩ := q
    obtain ⟨g1, ⟨t, t1, t2, t3⟩, g3⟩ := hq
    dsimp only at g1 t3 g3 hback ⊢
    have b0 := Sg_nonneg hw0 t k
    have b1 := Sle t k
    refine ok_wlt (by omega) (by decide) (fun h2 => ?_) (fun h2 => ok_some ⟨rfl, ⟨⟨t, t1, t2, t3⟩, fun u u1 u2 => ?_⟩, by dsimp only; omega, by dsimp only; omega⟩)
    · have ej : ((j.toNat : Nat) : Int) = j := by omega
      refine st_Lt ?_
      have bs := bit_shl j.toNat (by omega)
      have ba := bit_and s (by omega) j.toNat (by omega)
      rw [ej] at bs ba
      refine ok_JnC (fun x => (∃ t, SubB k t s.testBit ∧ Sg w k t ≤ r ∧ Sg w k t = x) ∧ ∀ i : Nat, (i : Int) < j + 1 → i < k → s.testBit i = true → ∀ t, SubB k t (offb s.testBit i) → Sg w k t ≤ r → Sg w k t ≤ x) (fun x hx => st_Lt (hback _ ⟨by dsimp only; omega, hx.1, hx.2⟩ (by dsimp only; omega))) (fun J hJ => ?_)
      have arg : -2147483648 ≤ andZ (s : Int) (shlZ 1 j) ∧ andZ (s : Int) (shlZ 1 j) < 2147483648 := by
        unfold andZ
        exact ⟨Int32.le_toInt _, Int32.toInt_lt _⟩
      refine ok_weqc arg (fun h3 => hJ _ ⟨⟨t, t1, t2, t3⟩, fun i hi hik hb u u1 u2 => ?_⟩) (fun h3 => ?_)
      · by_cases q : (i : Int) < j
        · exact g3 i q hik hb u u1 u2
        · have : i = j.toNat := by omega
          subst this
          rw [ba.mp h3] at hb
          exact absurd hb (by decide)
      · have hb : s.testBit j.toNat = true := by
          cases hq : s.testBit j.toNat with
          | true => rfl
          | false => exact absurd (ba.mpr hq) h3
        have hjk : j.toNat < k := by
          refine Decidable.byContradiction fun q => ?_
          have : s < 2 ^ j.toNat := Nat.lt_of_lt_of_le hs (Nat.pow_le_pow_right (by decide) (by omega))
          rw [Nat.testBit_lt_two_pow this] at hb
          exact absurd hb (by decide)
        have em := Ms_off hb k hjk
        rw [Ms_of k s hs] at em
        have pl : 0 < 2 ^ j.toNat := Nat.pow_pos (by decide)
        have olt := Ms_lt (offb s.testBit j.toNat) k
        refine sx_gR hX rfl rfl rfl ?_
        rw [bs]
        rw [show (s : Int) - ((2 ^ j.toNat : Nat) : Int) = ((Ms k (offb s.testBit j.toNat) : Nat) : Int) by omega]
        refine sx_aI hX rfl rfl (by decide) (by omega) (by omega) (st_Lt ?_)
        have pm := hMo (Ms k (offb s.testBit j.toNat)) (by omega)
        generalize τ.2.1 107 ((Ms k (offb s.testBit j.toNat) : Nat) : Int) = v at pm ⊢
        obtain ⟨⟨y, y1, y2, y3⟩, pm2⟩ := pm
        have yb := Ms_bit (offb s.testBit j.toNat) k
        have v0 := Sg_nonneg hw0 y k
        have v1 := Sle y k
        have mx : mxZ bst v = if bst ≤ v then v else bst := by
          unfold mxZ
          rw [wr_id (by omega) (by omega), wr_id (by omega) (by omega)]
          split <;> split <;> omega
        have ysub : SubB k y s.testBit := fun i hi q => by
          have := y1 i hi q
          rw [yb i hi] at this
          unfold offb at this
          split at this
          · exact absurd this (by decide)
          · exact this
        rw [mx]
        by_cases q : bst ≤ v
        · rw [if_pos q]
          refine hJ _ ⟨⟨y, ysub, y2, y3⟩, fun i hi hik hb u u1 u2 => ?_⟩
          by_cases q2 : (i : Int) < j
          · have := g3 i q2 hik hb u u1 u2; omega
          · have : i = j.toNat := by omega
            subst this
            exact pm2 u (fun i hi z => by rw [yb i hi]; exact u1 i hi z) u2
        · rw [if_neg q]
          refine hJ _ ⟨⟨t, t1, t2, t3⟩, fun i hi hik hb u u1 u2 => ?_⟩
          by_cases q2 : (i : Int) < j
          · exact g3 i q2 hik hb u u1 u2
          · have : i = j.toNat := by omega
            subst this
            have := pm2 u (fun i hi z => by rw [yb i hi]; exact u1 i hi z) u2
            omega
    · by_cases q : ∃ i, i < k ∧ s.testBit i = true ∧ ¬ u i = true
      · obtain ⟨i, i1, i2, i3⟩ := q
        refine g3 i (by omega) i1 i2 u (fun a ha z => ?_) u2
        unfold offb
        rw [if_neg (fun e => i3 (by rw [← e]; exact z))]
        exact u1 a ha z
      · have : SubB k s.testBit u := fun i hi z => Decidable.byContradiction fun e => q ⟨i, hi, z, e⟩
        have := Sg_mono hw0 k this
        omega
  obtain ⟨⟨υ, M⟩, e, h1, h2⟩ := H
  dsimp only at h1 h2
  subst h1
  exact ⟨M, e, h2⟩
end F
