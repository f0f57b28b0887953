/-! the pure part: a FLIGHT, the MOVES one behind the other -/
section F
variable {N : Nat} {σ σm : St}
def Pth (σ : St) (m : Nat) (f0 : Int → Int) : Nat → (Int → Int) → Prop
  | 0, f => ag3 f f0
  | k + 1, f => ∃ g u c, Pth σ m f0 k g ∧ FstX σ m (fI σ 73 0 - ((k : Int) + 1)).toNat g u c ∧ ag3 f (gB (gP g c) u)
def MvF (σ : St) (m : Nat) (f0 : Int → Int) (k : Nat) (r : Int) : Prop := ∃ f u c, Pth σ m f0 k f ∧ FstX σ m (fI σ 73 0 - ((k : Int) + 1)).toNat f u c ∧ r = 100 * u + c
theorem Fst_congr (hf : FyOk σ) {m d : Nat} {f g : Int → Int} (h : ag3 f g) {u c : Int} (a : FstX σ m d f u c) : FstX σ m d g u c := by
  obtain ⟨a1, ⟨a2, a3, a4⟩, a5⟩ := a
  have tr : ∀ f g : Int → Int, ag3 f g → ∀ u c, ((0 ≤ u ∧ u < 3) ∧ (0 ≤ c ∧ c < 9 * (fI σ 73 1 + 1))) → (okP (σ.2.1 (m + 13)) f c ∧ 0 < gP f c u ∧ c / 9 + WW (σ.2.1 (m + 13)) (σ.2.1 (m + 12)) (σ.2.1 74) (σ.2.1 75) (fI σ 73 1) (fI σ 73 0) d (gB (gP f c) u) = VV (σ.2.1 (m + 13)) (σ.2.1 (m + 12)) (σ.2.1 74) (σ.2.1 75) (fI σ 73 1) (fI σ 73 0) (d + 1) f) → (okP (σ.2.1 (m + 13)) g c ∧ 0 < gP g c u ∧ c / 9 + WW (σ.2.1 (m + 13)) (σ.2.1 (m + 12)) (σ.2.1 74) (σ.2.1 75) (fI σ 73 1) (fI σ 73 0) d (gB (gP g c) u) = VV (σ.2.1 (m + 13)) (σ.2.1 (m + 12)) (σ.2.1 74) (σ.2.1 75) (fI σ 73 1) (fI σ 73 0) (d + 1) g) := fun f g h u c hr k => by
    obtain ⟨k1, k2, k3⟩ := k
    refine ⟨ag_ok h hr.2.1 k1, by rw [← ag_gP h c u hr.1.1 hr.1.2]; exact k2, ?_⟩
    rw [← VV_congr hf.2.1.1 (d + 1) f g h, ← k3, WW_congr hf.2.1.1 d (ag_gB (ag_gP h c) u)]
  exact ⟨a1, tr f g h u c a1 ⟨a2, a3, a4⟩, fun u' c' hr hl q => a5 u' c' hr hl (tr g f (ag_sym h) u' c' hr q)⟩
theorem Pth.uniq (hf : FyOk σ) {m : Nat} {f0 : Int → Int} : ∀ (k : Nat) {f g : Int → Int}, Pth σ m f0 k f → Pth σ m f0 k g → ag3 f g
  | 0, f, g, a, b => fun t t0 t1 => (a t t0 t1).trans (b t t0 t1).symm
  | k + 1, f, g, ⟨f1, u, c, a1, a2, a3⟩, ⟨g1, u', c', b1, b2, b3⟩ => by
    have e := Pth.uniq hf k a1 b1
    obtain ⟨rfl, rfl⟩ := Fst.uniq (Fst_congr hf e a2) b2
    intro t t0 t1
    rw [a3 t t0 t1, b3 t t0 t1]
    exact ag_gB (ag_gP e c) u t t0 t1
theorem MvF.uniq (hf : FyOk σ) {m : Nat} {f0 : Int → Int} {k : Nat} {r s : Int} (a : MvF σ m f0 k r) (b : MvF σ m f0 k s) : r = s := by
  obtain ⟨f, u, c, a1, a2, a3⟩ := a
  obtain ⟨g, u', c', b1, b2, b3⟩ := b
  have e := Pth.uniq hf k a1 b1
  obtain ⟨rfl, rfl⟩ := Fst.uniq (Fst_congr hf e a2) b2
  rw [a3, b3]
/-- what holds on the way -/
def Way (σ : St) (m : Nat) (pl : Int) (k : Int) (f : Int → Int) : Prop := vld (σ.2.1 (m + 13)) f ∧ sumF f = pl - k ∧ vX σ m (fI σ 73 0 - k).toNat f < 1000 ∧ (k = 0 ∨ wX σ m (fI σ 73 0 - k).toNat f = vX σ m (fI σ 73 0 - k).toNat f)
theorem Way.next {m : Nat} {pl k : Int} {f : Int → Int} (h : Way σ m pl k f) (hk : 0 ≤ k ∧ k < fI σ 73 0) {u c : Int} (hF : FstX σ m (fI σ 73 0 - (k + 1)).toNat f u c) : Way σ m pl (k + 1) (gB (gP f c) u) := by
  obtain ⟨h1, h2, h3, h4⟩ := h
  obtain ⟨⟨hu, hc⟩, ⟨k1, k2, k3⟩, _⟩ := hF
  have kd : (fI σ 73 0 - k).toNat = (fI σ 73 0 - (k + 1)).toNat + 1 := by omega
  have hW : wX σ m (fI σ 73 0 - (k + 1)).toNat (gB (gP f c) u) < 1000 := by
    unfold vX at h3
    rw [kd] at h3
    unfold wX
    have : 0 ≤ c / 9 := by omega
    omega
  have hWV : wX σ m (fI σ 73 0 - (k + 1)).toNat (gB (gP f c) u) = vX σ m (fI σ 73 0 - (k + 1)).toNat (gB (gP f c) u) := by
    unfold wX WW at hW ⊢
    split at hW
    · rename_i hb; rw [if_pos hb]; rfl
    · omega
  refine ⟨vld_gB (vld_gP hc.1 h1 k1) k2, by rw [sum_gB _ hu, sum_gP _ hc.1, h2]; omega, by rw [← hWV]; exact hW, .inr hWV⟩
theorem moveOf_eq {m : Nat} (hX : WXr σ.1 σ.2.2) (hm : isM m) (hk : Tk m σ) (hf : FyOk σ) (hc : IPl σ m) {a b c st : Int} (ha : -2147483648 ≤ a ∧ a < 2147483648) (hb : -2147483648 ≤ b ∧ b < 2147483648) (hcc : -2147483648 ≤ c ∧ c < 2147483648) (hs : -2147483648 ≤ st ∧ st < 2147483648) (hN : 1000 < N) : ∃ τ r, f_X2_moveOf N σ 73 m a b c st = some (τ, r) ∧ FX cellsF σ τ ∧ (FlX σ τ m (a + b + c) ∧ (∀ j, 0 ≤ j → j ≤ fI σ 73 0 → TLx2 σ m (a + b + c) j τ) ∧ vld (σ.2.1 (m + 13)) (f3 a b c) ∨ τ = σ) ∧ ((r = -1 ∧ ¬ (((1 ≤ fI σ 73 0 ∧ vld (σ.2.1 (m + 13)) (f3 a b c)) ∧ plV σ m a b c < 1000) ∧ (0 ≤ st ∧ st < fI σ 73 0))) ∨ ((((1 ≤ fI σ 73 0 ∧ vld (σ.2.1 (m + 13)) (f3 a b c)) ∧ plV σ m a b c < 1000) ∧ (0 ≤ st ∧ st < fI σ 73 0)) ∧ MvF σ m (f3 a b c) st.toNat r)) := by
  have hn := hf.1
  obtain ⟨τ, r, e, p1, p2⟩ := leastPumped_eq (N := N) hX hm hk hf hc ha hb hcc hN
  have vr := VV_rg (H := σ.2.1 (m + 13)) (A := σ.2.1 (m + 12)) (lo := σ.2.1 74) (hi := σ.2.1 75) (n := fI σ 73 0) hf.2.1 (fI σ 73 0).toNat (f3 a b c)
  have vr' : 0 ≤ plV σ m a b c ∧ plV σ m a b c ≤ 1000 := ⟨vr.1, vr.2.1⟩
  have H : Ok (f_X2_moveOf N σ 73 m a b c st) (fun w => FX cellsF σ w.1 ∧ (FlX σ w.1 m (a + b + c) ∧ (∀ j, 0 ≤ j → j ≤ fI σ 73 0 → TLx2 σ m (a + b + c) j w.1) ∧ vld (σ.2.1 (m + 13)) (f3 a b c) ∨ w.1 = σ) ∧ ((w.2 = -1 ∧ ¬ (((1 ≤ fI σ 73 0 ∧ vld (σ.2.1 (m + 13)) (f3 a b c)) ∧ plV σ m a b c < 1000) ∧ (0 ≤ st ∧ st < fI σ 73 0))) ∨ ((((1 ≤ fI σ 73 0 ∧ vld (σ.2.1 (m + 13)) (f3 a b c)) ∧ plV σ m a b c < 1000) ∧ (0 ≤ st ∧ st < fI σ 73 0)) ∧ MvF σ m (f3 a b c) st.toNat w.2))) := by
    unfold f_X2_moveOf
    refine sx_rcv hX rfl rfl (ok_rw e ?_)
    dsimp only
    rcases p2 with ⟨rfl, q1, q2⟩ | ⟨⟨q0, qv⟩, q1, q2, q3⟩
    · refine ok_weq (by omega) (by omega) (fun _ => ok_some ⟨p1, .inr q2, .inl ⟨rfl, fun q => ?_⟩⟩) (fun h => absurd rfl h)
      rcases q1 with q1 | q1
      · omega
      · exact q1 q.1.1.2
    · have vh := vld_iff.mp qv
      have k0 := hk 0 (by decide) (by decide)
      have k1 := hk 1 (by decide) (by decide)
      have k2 := hk 2 (by decide) (by decide)
      unfold f3 at vh
      simp at vh
      by_cases hpl : plV σ m a b c < 1000
      · rw [if_pos hpl] at q3
        refine ok_weq (by omega) (by omega) (fun h => by exfalso; omega) (fun _ => ?_)
        refine sx_gI q1.1 rfl rfl ?_
        rw [q1.2.2.1]
        refine ok_within (by omega) (by omega) (by omega) (fun h1 => ok_z1 (st_Lt ?_)) (fun h1 => ok_z0 (ok_some ⟨p1, .inl ⟨q1, q2, qv⟩, .inl ⟨rfl, fun q => by omega⟩⟩))
        have es : 16 * a + b = 16 * (f3 a b c 0) + f3 a b c 1 := by unfold f3; simp
        have w0 : Way σ m (a + b + c) 0 (f3 a b c) := ⟨qv, by unfold sumF f3; simp, by rw [Int.sub_zero]; exact hpl, .inl rfl⟩
        rw [es]
        obtain ⟨υ, u, cc, e2, s1, s2⟩ := firstMove_eq (N := N) hm hk hf (pl := a + b + c) (by omega) (dn := 0) (by omega) q1 q2 w0.1 w0.2.1 w0.2.2.1 (.inl rfl) hN
        refine sx_rcv q1.1 rfl rfl (ok_rw e2 ?_)
        dsimp only
        have rows : ∀ {τ υ : St}, FX [91] τ υ → (∀ j, 0 ≤ j → j ≤ fI σ 73 0 → TLx2 σ m (a + b + c) j τ) → (∀ j, 0 ≤ j → j ≤ fI σ 73 0 → TLx2 σ m (a + b + c) j υ) := fun {τ υ} h q j x y s s0 s1 => by
          rw [h.2.2 (77 + j.toNat) (by rw [List.mem_singleton]; omega)]; exact q j x y s s0 s1
        have sub91 : ∀ k, k ∈ [91] → k ∈ cellsF := fun k hk => by rw [List.mem_singleton] at hk; rw [hk]; decide
        unfold L_X2_moveOf_51
        refine ok_fix (fun w => ∃ (k : Nat) (f : Int → Int) (u cc : Int), (w.2.2.2 = (k : Int) + 1 ∧ (k : Int) ≤ st) ∧ FX cellsF σ w.1 ∧ FlX σ w.1 m (a + b + c) ∧ (∀ j, 0 ≤ j → j ≤ fI σ 73 0 → TLx2 σ m (a + b + c) j w.1) ∧ Way σ m (a + b + c) k f ∧ Pth σ m (f3 a b c) k f ∧ FstX σ m (fI σ 73 0 - ((k : Int) + 1)).toNat f u cc ∧ w.2.1 = 16 * f 0 + f 1 ∧ w.2.2.1 = 100 * u + cc) (fun w => (st + 1 - w.2.2.2).toNat) (fun back w hI hback => ?_) _ ⟨0, f3 a b c, u, cc, ⟨rfl, h1.1⟩, p1.trans (s1.mono sub91), q1.step hm s1 (by simp), rows s1 q2, w0, (fun _ _ _ => rfl), s2, rfl, rfl⟩ (by dsimp only; omega)
        obtain ⟨φ, sv, mvv, dn⟩ := w
        obtain ⟨k, f, u, cc, ⟨g1, g2⟩, g3, g4, g5, g6, g7, g8, g9, g10⟩ := hI
        dsimp only at g1 g3 g4 g5 g9 g10 hback ⊢
        subst g1 g9 g10
        obtain ⟨⟨hu, hc2⟩, _, _⟩ := id g8
        have hP := hf.2.1
        refine ok_wlt (by omega) (by omega) (fun h2 => ok_some ⟨g3, .inl ⟨g4, g5, qv⟩, .inr ⟨⟨⟨⟨q0, qv⟩, hpl⟩, ⟨h1.1, by omega⟩⟩, ?_⟩⟩) (fun h2 => ?_)
        · have : st.toNat = k := by omega
          rw [this]
          exact ⟨f, u, cc, g7, g8, rfl⟩
        · refine ok_weq (by omega) (by omega) (fun h => by exfalso; omega) (fun _ => ?_)
          have nx := g6.next (k := (k : Int)) (by omega) g8
          have sr := st_rg hk nx.1
          have e100 : Int.tmod (wr (100 * u + cc)) 100 = cc := by rw [wr_id (by omega) (by omega), Int.tmod_eq_emod_of_nonneg (by omega)]; omega
          have e3 : Int.tmod (wr (Int.tdiv (wr (100 * u + cc)) 100)) 3 = u := by
            rw [wr_id (z := 100 * u + cc) (by omega) (by omega), Int.tdiv_eq_ediv_of_nonneg (by omega), wr_id (by omega) (by omega), Int.tmod_eq_emod_of_nonneg (by omega)]; omega
          have sb : f_X2_stateBehind N φ (16 * f 0 + f 1) (100 * u + cc) = some (φ, 16 * gB (gP f cc) u 0 + gB (gP f cc) u 1) := by
            unfold f_X2_stateBehind
            rw [e100, e3, pumped_eq N φ (by omega), wtZ_eq hu, pst (f := f) rfl]
            show some (φ, _ - wt u) = _
            rw [gst (f := gP f cc) rfl hu]
          refine ok_rw sb ?_
          dsimp only
          obtain ⟨ψ, u2, c2, e4, s3, s4⟩ := firstMove_eq (N := N) hm hk hf (pl := a + b + c) (by omega) (dn := (k : Int) + 1) (by omega) g4 g5 nx.1 nx.2.1 nx.2.2.1 nx.2.2.2 hN
          refine sx_rcv g4.1 rfl rfl (ok_rw e4 (st_Lt ?_))
          dsimp only
          refine hback _ ⟨k + 1, gB (gP f cc) u, u2, c2, ⟨by dsimp only; omega, by omega⟩, g3.trans (s3.mono sub91), g4.step hm s3 (by simp), rows s3 g5, by rw [show ((k + 1 : Nat) : Int) = (k : Int) + 1 by omega]; exact nx, ⟨f, u, cc, g7, g8, fun _ _ _ => rfl⟩, by rw [show ((k + 1 : Nat) : Int) = (k : Int) + 1 by omega]; exact s4, rfl, rfl⟩ (by dsimp only; omega)
      · rw [if_neg hpl] at q3
        refine ok_weq (by omega) (by omega) (fun _ => ok_some ⟨p1, .inl ⟨q1, q2, qv⟩, .inl ⟨rfl, fun q => hpl q.1.2⟩⟩) (fun h => absurd q3 h)
  obtain ⟨⟨τ, r⟩, e, h1, h2, h3⟩ := H
  exact ⟨τ, r, e, h1, h2, h3⟩
end F
