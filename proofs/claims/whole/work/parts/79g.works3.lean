/-! the pure part: WORKS, the most alone -/
section F
variable {N : Nat} {σ σm : St}
theorem wC_rg {m : Nat} {bk : Int} (hI : IMach m bk σ σm) {i : Int} (hi : 0 ≤ i) (j : Nat) : 0 ≤ wC σ m i j ∧ wC σ m i j ≤ 999 := by
  unfold wC
  split
  · have := (hI.2.2.2.2.2.1 (i + (j : Int)) (by omega) (by omega)).2.2.2.2
    exact this
  · omega
theorem Sg_le {w : Nat → Int} (hw : ∀ i, 0 ≤ w i ∧ w i ≤ 999) (b : Nat → Bool) : ∀ n : Nat, Sg w n b ≤ 1000 * (n : Int)
  | 0 => Int.le_refl _
  | n + 1 => by
    have := Sg_le hw b n
    have := (hw n).2
    unfold Sg
    split <;> omega
theorem mostAlone_eq {m : Nat} {bk : Int} (hX : WXr σ.1 σ.2.2) (hI : IMach m bk σ σm) {τ : St} (fτ : FX [104, 105, 106, 107] σ τ) {i r0 r1 : Int} (hi : 0 ≤ i ∧ i ≤ fI σ m 1) (h0 : 0 ≤ r0 ∧ r0 ≤ 20000) (h1 : 0 ≤ r1 ∧ r1 ≤ 20000) (hN : 5000 < N) : ∃ υ M, f_X10_mostAlone N τ 104 m i r0 r1 = some (υ, M) ∧ FX [106, 107] τ υ ∧ Mx2 (wC σ m i) (fI σ m 1 - i).toNat r0 r1 M ∧ 0 ≤ M ∧ M ≤ 24000 := by
  have hm := hI.1
  have hml := isM_le hm
  have hτ := fτ.X hX
  have hP := hI.2.2.2.2.1.2.1
  have rp := hI.2.2.2.2.2.1
  have hw := fun j => wC_rg hI hi.1 j
  have hw0 : ∀ j, 0 ≤ wC σ m i j := fun j => (hw j).1
  generalize hwe : wC σ m i = w at hw hw0 ⊢
  obtain ⟨k, hk⟩ : ∃ k : Nat, k = (fI σ m 1 - i).toNat := ⟨_, rfl⟩
  rw [← hk]
  have hk12 : k ≤ 12 := by omega
  have p2 : 2 ^ k ≤ 4096 := Nat.pow_le_pow_right (by decide) hk12
  have pp : 0 < 2 ^ k := Nat.pow_pos (by decide)
  have mem : ∀ {υ : St}, FX [106, 107] τ υ → WXr υ.1 υ.2.2 ∧ (∀ d, d ≤ 14 → υ.2.1 (m + d) = σ.2.1 (m + d)) ∧ fI υ m 1 = fI σ m 1 := fun {υ} g => ⟨g.X hτ, fun d hd => (g.2.2 (m + d) (by simp; omega)).trans (fτ.2.2 (m + d) (by simp; omega)), (g.f (by simp; omega)).trans (fτ.f (by simp; omega))⟩
  have H : Ok (f_X10_mostAlone N τ 104 m i r0 r1) (fun q => FX [106, 107] τ q.1 ∧ Mx2 w k r0 r1 q.2 ∧ 0 ≤ q.2 ∧ q.2 ≤ 24000) := by
    unfold f_X10_mostAlone
    refine sx_gR hτ rfl rfl rfl ?_
    refine sx_sI hτ rfl rfl (by decide) (by decide) (by decide) ?_
    refine sx_gR (σ := uI τ 106 0 0) hτ rfl rfl rfl ?_
    refine sx_sI (σ := uI τ 106 0 0) hτ rfl rfl (by decide) (by decide) (by decide) ?_
    refine ok_JnC (fun x => FX [106, 107] τ x.1 ∧ SumOk w k x.1 ∧ x.2 = ((2 ^ k : Nat) : Int)) (fun x hx => ?_) (fun J hJ => ?_)
    · obtain ⟨υ, sz⟩ := x
      obtain ⟨g1, g2, g3⟩ := hx
      dsimp only at g1 g2 g3 ⊢
      subst g3
      refine ok_JnC (fun y => FX [106, 107] τ y ∧ SumOk w k y ∧ MostOk w k r1 (2 ^ k) y) (fun y hy => ?_) (fun J2 hJ2 => ?_)
      · obtain ⟨y1, y2, y3⟩ := hy
        obtain ⟨hy, _, _⟩ := mem y1
        unfold L_X10_mostAlone_128
        dsimp only
        refine ok_fix (fun q => (0 ≤ q.2 ∧ q.2 ≤ ((2 ^ k : Nat) : Int)) ∧ (∃ s t, SubB k t (fun i => !s i) ∧ Sg w k s ≤ r0 ∧ Sg w k t ≤ r1 ∧ Sg w k s + Sg w k t = q.1) ∧ ∀ s t, ((Ms k s : Nat) : Int) < q.2 → SubB k t (fun i => !s i) → Sg w k s ≤ r0 → Sg w k t ≤ r1 → Sg w k s + Sg w k t ≤ q.1) (fun q => (((2 ^ k : Nat) : Int) - q.2).toNat) (fun back q hq hback => ?_) _ ⟨by dsimp only; omega, ⟨fun _ => false, fun _ => false, fun _ _ h => by simp at h, by rw [Sg_zero]; exact h0.1, by rw [Sg_zero]; exact h1.1, by rw [Sg_zero]; rfl⟩, fun s t h => by dsimp only at h; omega⟩ (by dsimp only; omega)
        obtain ⟨bst, s⟩ := q
        obtain ⟨q1, ⟨a, b, a1, a2, a3, a4⟩, q3⟩ := hq
        dsimp only at q1 a4 q3 hback ⊢
        have ra0 := Sg_nonneg hw0 a k
        have rb0 := Sg_nonneg hw0 b k
        have ra1 := Sg_le hw a k
        have rb1 := Sg_le hw b k
        refine ok_wlt (by omega) (by omega) (fun h2 => ?_) (fun h2 => ok_some ⟨y1, ⟨⟨a, b, a1, a2, a3, a4⟩, fun s' t' => q3 s' t' (by have := Ms_lt s' k; omega)⟩, by dsimp only; omega, by dsimp only; omega⟩)
        obtain ⟨n, rfl⟩ : ∃ n : Nat, s = (n : Int) := ⟨s.toNat, by omega⟩
        have hn : n < 2 ^ k := by omega
        have rn0 := Sg_nonneg hw0 n.testBit k
        have rn1 := Sg_le hw n.testBit k
        have same : ∀ s' : Nat → Bool, Ms k s' = n → ∀ i, i < k → s' i = n.testBit i := fun s' e i hi => by rw [← e, Ms_bit s' k i hi]
        refine sx_gR hy rfl rfl rfl ?_
        refine sx_aI hy rfl rfl (by decide) (by omega) (by omega) ?_
        rw [y2 n hn]
        refine ok_JnC (fun x => (∃ s t, SubB k t (fun i => !s i) ∧ Sg w k s ≤ r0 ∧ Sg w k t ≤ r1 ∧ Sg w k s + Sg w k t = x) ∧ ∀ s t, ((Ms k s : Nat) : Int) < (n : Int) + 1 → SubB k t (fun i => !s i) → Sg w k s ≤ r0 → Sg w k t ≤ r1 → Sg w k s + Sg w k t ≤ x) (fun x hx => st_Lt (hback _ ⟨by dsimp only; omega, hx.1, hx.2⟩ (by dsimp only; omega))) (fun J3 hJ3 => ?_)
        refine ok_wlt (by omega) (by omega) (fun h3 => hJ3 _ ⟨⟨a, b, a1, a2, a3, a4⟩, fun s' t' e1 e2 e3 e4 => ?_⟩) (fun h3 => ?_)
        · by_cases q : ((Ms k s' : Nat) : Int) < (n : Int)
          · exact q3 s' t' q e2 e3 e4
          · have := Sg_congr (w := w) k (same s' (by omega))
            omega
        · refine sx_gR hy rfl rfl rfl ?_
          refine sx_aI hy rfl rfl (by decide) (by omega) (by omega) ?_
          rw [y2 n hn]
          refine sx_gR hy rfl rfl rfl ?_
          rw [show ((2 ^ k : Nat) : Int) - 1 - (n : Int) = ((2 ^ k - (n + 1) : Nat) : Int) by omega]
          refine sx_aI hy rfl rfl (by decide) (by omega) (by omega) (st_Lt ?_)
          have pm := y3 (2 ^ k - (n + 1)) (by omega)
          generalize y.2.1 107 ((2 ^ k - (n + 1) : Nat) : Int) = v at pm ⊢
          have cb : ∀ i, i < k → (2 ^ k - (n + 1)).testBit i = !n.testBit i := fun i hi => by
            rw [Nat.testBit_two_pow_sub_succ hn]
            simp [hi]
          obtain ⟨⟨z, z1, z2, z3⟩, pm2⟩ := pm
          have rz0 := Sg_nonneg hw0 z k
          have rz1 := Sg_le hw z k
          have zs : SubB k z (fun i => !n.testBit i) := fun i hi e => by have := z1 i hi e; rw [cb i hi] at this; exact this
          have bnd : ∀ s' t', Ms k s' = n → SubB k t' (fun i => !s' i) → Sg w k t' ≤ r1 → Sg w k s' + Sg w k t' ≤ Sg w k n.testBit + v := fun s' t' e1 e2 e4 => by
            have c := Sg_congr (w := w) k (same s' e1)
            have := pm2 t' (fun i hi e => by rw [cb i hi, ← same s' e1 i hi]; exact e2 i hi e) e4
            omega
          rw [mxZ_eq (by omega) (by omega)]
          by_cases q : bst < Sg w k n.testBit + v
          · rw [if_pos q]
            refine hJ3 _ ⟨⟨n.testBit, z, zs, h3, z2, by rw [z3]⟩, fun s' t' e1 e2 e3 e4 => ?_⟩
            by_cases qq : ((Ms k s' : Nat) : Int) < (n : Int)
            · have := q3 s' t' qq e2 e3 e4; omega
            · exact bnd s' t' (by omega) e2 e4
          · rw [if_neg q]
            refine hJ3 _ ⟨⟨a, b, a1, a2, a3, a4⟩, fun s' t' e1 e2 e3 e4 => ?_⟩
            by_cases qq : ((Ms k s' : Nat) : Int) < (n : Int)
            · exact q3 s' t' qq e2 e3 e4
            · have := bnd s' t' (by omega) e2 e4; omega
      · unfold L_X10_mostAlone_97
        dsimp only
        refine ok_fix (fun q => (0 ≤ q.2 ∧ q.2 ≤ ((2 ^ k : Nat) : Int)) ∧ FX [106, 107] τ q.1 ∧ SumOk w k q.1 ∧ MostOk w k r1 q.2.toNat q.1) (fun q => (((2 ^ k : Nat) : Int) - q.2).toNat) (fun back q hq hback => ?_) _ ⟨by dsimp only; omega, g1, g2, fun s hs => by dsimp only at hs; omega⟩ (by dsimp only; omega)
        obtain ⟨ψ, s⟩ := q
        obtain ⟨q1, q2, q3, q4⟩ := hq
        dsimp only at q1 q2 q3 q4 hback ⊢
        obtain ⟨hψ, _, _⟩ := mem q2
        refine ok_wlt (by omega) (by omega) (fun h2 => ?_) (fun h2 => hJ2 _ ⟨q2, q3, by rw [show s.toNat = 2 ^ k by omega] at q4; exact q4⟩)
        obtain ⟨n, rfl⟩ : ∃ n : Nat, s = (n : Int) := ⟨s.toNat, by omega⟩
        rw [Int.toNat_natCast] at q4
        obtain ⟨M, e, pm, m0, m1⟩ := mostIn_eq (N := N) hψ hw hk12 q3 h1 (s := n) (by omega) q4 (by omega)
        refine sx_gR hψ rfl rfl rfl ?_
        refine sx_rcv hψ rfl rfl (ok_rw e ?_)
        dsimp only
        refine sx_sI hψ rfl rfl (by decide) (by omega) (by omega) (st_Lt ?_)
        refine hback _ ⟨by dsimp only; omega, q2.uI (by simp), fun t ht => ?_, fun t ht => ?_⟩ (by dsimp only; omega)
        · dsimp only
          rw [uI_k (by decide)]
          exact q3 t ht
        · dsimp only at ht ⊢
          by_cases qq : t = n
          · subst qq
            rw [uI_eq]
            exact pm
          · rw [uI_j (by omega)]
            exact q4 t (by omega)
    · unfold L_X10_mostAlone_20
      refine ok_fix (fun q => (i ≤ q.2.2 ∧ q.2.2 ≤ fI σ m 1) ∧ FX [106, 107] τ q.1 ∧ SumOk w (q.2.2 - i).toNat q.1 ∧ q.2.1 = ((2 ^ (q.2.2 - i).toNat : Nat) : Int)) (fun q => (fI σ m 1 - q.2.2).toNat) (fun back q hq hback => ?_) _ ⟨by dsimp only; omega, (FX.refl.uI (by simp)).uI (by simp), ?_, by dsimp only; rw [Int.sub_self]; rfl⟩ (by dsimp only; omega)
      rotate_left
      · intro s hs
        dsimp only at hs ⊢
        rw [Int.sub_self] at hs ⊢
        have : s = 0 := by simpa using hs
        subst this
        rw [uI_k (by decide)]
        exact uI_eq
      obtain ⟨ψ, sz, p⟩ := q
      obtain ⟨q1, q2, q3, q4⟩ := hq
      dsimp only at q1 q2 q3 q4 hback ⊢
      obtain ⟨hψ, c, c1⟩ := mem q2
      refine mx_gI hψ hm ?_
      rw [c1]
      obtain ⟨j, hj⟩ : ∃ j : Nat, j = (p - i).toNat := ⟨_, rfl⟩
      rw [← hj] at q3 q4
      refine ok_wlt (by omega) (by omega) (fun h2 => ?_) (fun h2 => hJ _ ⟨q2, by rw [show k = j by omega]; exact q3, by dsimp only; rw [show k = j by omega]; exact q4⟩)
      have j11 : 2 ^ j ≤ 2 ^ 11 := Nat.pow_le_pow_right (by decide) (by omega)
      have jp : 0 < 2 ^ j := Nat.pow_pos (by decide)
      refine ok_wlt (by omega) (by decide) (fun h3 => ?_) (fun h3 => by omega)
      refine ok_JnC (fun y => FX [106, 107] τ y ∧ SumOk w (j + 1) y) (fun y hy => st_Lt (st_Lt (hback _ ⟨by dsimp only; omega, hy.1, by dsimp only; rw [show (p + 1 - i).toNat = j + 1 by omega]; exact hy.2, by dsimp only; rw [show (p + 1 - i).toNat = j + 1 by omega, Nat.pow_succ]; omega⟩ (by dsimp only; omega)))) (fun J2 hJ2 => ?_)
      have wj : w j = σ.2.1 (m + 5) p := by
        rw [← hwe]
        unfold wC
        rw [if_pos (by omega), show i + (j : Int) = p by omega]
      unfold L_X10_mostAlone_40
      dsimp only
      refine ok_fix (fun q => (0 ≤ q.2 ∧ q.2 ≤ ((2 ^ j : Nat) : Int)) ∧ FX [106, 107] τ q.1 ∧ SumOk w j q.1 ∧ ∀ s : Nat, (s : Int) < q.2 → q.1.2.1 106 (((2 ^ j + s : Nat)) : Int) = Sg w j s.testBit + w j) (fun q => (((2 ^ j : Nat) : Int) - q.2).toNat) (fun back2 q hq hback2 => ?_) _ ⟨by dsimp only; omega, q2, q3, fun s hs => by dsimp only at hs; omega⟩ (by dsimp only; omega)
      obtain ⟨χ, u⟩ := q
      obtain ⟨r1', r2', r3', r4'⟩ := hq
      dsimp only at r1' r2' r3' r4' hback2 ⊢
      obtain ⟨hχ, d, d1⟩ := mem r2'
      refine ok_wlt (by omega) (by omega) (fun h4 => ?_) (fun h4 => hJ2 _ ⟨r2', fun s hs => ?_⟩)
      · obtain ⟨n, rfl⟩ : ∃ n : Nat, u = (n : Int) := ⟨u.toNat, by omega⟩
        have hn : n < 2 ^ j := by omega
        have rpp := (rp p (by omega) h2).2.2.2.2
        refine sx_gR hχ rfl rfl rfl ?_
        refine sx_gR hχ rfl rfl rfl ?_
        refine sx_aI hχ rfl rfl (by decide) (by omega) (by omega) ?_
        rw [r3' n hn]
        refine mx_gR hχ hm rfl ?_
        refine mx_aI hχ hm rfl (by decide) (by omega) (by omega) ?_
        rw [d 5 (by omega), ← wj, q4]
        rw [show ((2 ^ j : Nat) : Int) + (n : Int) = ((2 ^ j + n : Nat) : Int) by omega]
        refine sx_sI hχ rfl rfl (by decide) (by omega) (by omega) (st_Lt ?_)
        refine hback2 _ ⟨by dsimp only; omega, r2'.uI (by simp), fun t ht => ?_, fun t ht => ?_⟩ (by dsimp only; omega)
        · dsimp only
          rw [uI_j (by omega)]
          exact r3' t ht
        · dsimp only at ht ⊢
          by_cases qq : t = n
          · subst qq
            rw [uI_eq]
          · rw [uI_j (by omega)]
            exact r4' t (by omega)
      · unfold Sg
        by_cases qq : s < 2 ^ j
        · rw [r3' s qq, Nat.testBit_lt_two_pow qq, if_neg Bool.false_ne_true]; omega
        · rw [Nat.pow_succ] at hs
          obtain ⟨v, rfl⟩ : ∃ v, s = 2 ^ j + v := ⟨s - 2 ^ j, by omega⟩
          rw [r4' v (by omega), Nat.testBit_two_pow_add_eq, Nat.testBit_lt_two_pow (show v < 2 ^ j by omega)]
          rw [Sg_congr (b := (2 ^ j + v).testBit) (c := v.testBit) j fun i hi => Nat.testBit_two_pow_add_gt hi v]
          rfl
  obtain ⟨⟨υ, M⟩, e, h⟩ := H
  exact ⟨υ, M, e, h⟩
end F
