/-! the pure part: the op FEED -/
section F
variable {N : Nat} {σ σm : St}
def byF (w : Int) (i : Int) : Int := i2bZ (shrZ w (24 - 8 * i))
theorem append_eq {τ : St} (hX : WXr τ.1 τ.2.2) {w : Int} {len : Int} (hl : fI τ 2 2 = len) (hr : 0 ≤ len ∧ len + 4 ≤ 1300) (hN : 1000 < N) : ∃ υ, f_X6_append N τ 2 w = some (υ, 0) ∧ FX [2, 4] τ υ ∧ fI υ 2 2 = len + 4 ∧ (fI υ 2 12 = fI τ 2 12 ∧ fI υ 2 13 = fI τ 2 13) ∧ (∀ j : Int, j < len → υ.2.1 4 j = τ.2.1 4 j) ∧ ∀ i : Int, 0 ≤ i → i < 4 → υ.2.1 4 (len + i) = byF w i % 256 := by
  have H : Ok (f_X6_append N τ 2 w) (fun q => q.2 = 0 ∧ FX [2, 4] τ q.1 ∧ fI q.1 2 2 = len + 4 ∧ (fI q.1 2 12 = fI τ 2 12 ∧ fI q.1 2 13 = fI τ 2 13) ∧ (∀ j : Int, j < len → q.1.2.1 4 j = τ.2.1 4 j) ∧ ∀ i : Int, 0 ≤ i → i < 4 → q.1.2.1 4 (len + i) = byF w i % 256) := by
    unfold f_X6_append L_X6_append_3
    refine ok_fix (fun q => ∃ k : Int, (0 ≤ k ∧ k ≤ 4 ∧ q.2 = 24 - 8 * k) ∧ FX [2, 4] τ q.1 ∧ fI q.1 2 2 = len + k ∧ (fI q.1 2 12 = fI τ 2 12 ∧ fI q.1 2 13 = fI τ 2 13) ∧ (∀ j : Int, j < len → q.1.2.1 4 j = τ.2.1 4 j) ∧ ∀ i : Int, 0 ≤ i → i < k → q.1.2.1 4 (len + i) = byF w i % 256) (fun q => (q.2 + 8).toNat) (fun back q hq hback => ?_) _ ⟨0, by dsimp only; omega, FX.refl, by dsimp only; omega, ⟨rfl, rfl⟩, fun _ _ => rfl, fun i a b => by omega⟩ (by dsimp only; omega)
    obtain ⟨υ, s⟩ := q
    obtain ⟨k, g1, g2, g3, g4, g5, g6⟩ := hq
    dsimp only at g1 g2 g3 g4 g5 g6 hback ⊢
    have hυ := g2.X hX
    refine ok_wlt0 (by omega) (fun h1 => ok_some ⟨rfl, g2, by dsimp only; omega, g4, g5, fun i a b => g6 i a (by omega)⟩) (fun h1 => ?_)
    refine sx_gI hυ rfl rfl ?_
    refine ok_wlt (by omega) (by decide) (fun h2 => ?_) (fun h2 => by omega)
    refine sx_gR hυ rfl rfl rfl ?_
    refine sx_gI hυ rfl rfl ?_
    refine sx_sI hυ rfl rfl (by decide) (by omega) (by omega) ?_
    refine sx_gI (σ := uI υ 4 (fI υ 2 2) (andZ (ushrZ w s) 255)) hυ rfl rfl ?_
    refine sx_pI (σ := uI υ 4 (fI υ 2 2) (andZ (ushrZ w s) 255)) hυ rfl rfl (st_Lt ?_)
    have by0 : andZ (ushrZ w s) 255 = byF w k % 256 := by
      rw [byte_eq w s (by omega)]
      unfold byF
      rw [g1.2.2]
    rw [by0, show fI (uI υ 4 (fI υ 2 2) (byF w k % 256)) 2 2 = len + k from (fI_uk (by decide)).trans g3, g3]
    refine hback _ ⟨k + 1, by dsimp only; omega, (g2.uI (by simp)).uF (by simp), ?_, ⟨?_, ?_⟩, fun j a => ?_, fun i a b => ?_⟩ (by dsimp only; omega)
    · dsimp only
      rw [fI_eq]; omega
    · dsimp only
      rw [fI_j (by decide), fI_uk (by decide)]; exact g4.1
    · dsimp only
      rw [fI_j (by decide), fI_uk (by decide)]; exact g4.2
    · dsimp only
      rw [uF_k (by decide), uI_j (by omega)]; exact g5 j a
    · dsimp only
      rw [uF_k (by decide)]
      by_cases q : i = k
      · rw [q, uI_eq]
      · rw [uI_j (by omega)]; exact g6 i a (by omega)
  obtain ⟨⟨υ, v⟩, e, h1, h2⟩ := H
  dsimp only at h1 h2
  subst h1
  exact ⟨υ, e, h2⟩
theorem and3 : ∀ n : Nat, n < 20 → andZ (n : Int) 3 = ((n % 4 : Nat) : Int) := by decide
def wdF (a b c d e : Int) (i : Int) : Int := if i < 4 then a else if i < 8 then b else if i < 12 then c else if i < 16 then d else e
theorem feedM_eq (hM : WMr σm.1 σm.2.2) {a b c d e len : Int} (hl : fI σm 1 2 = len) (hr : 0 ≤ len ∧ len + 20 ≤ 1300) (hN : 1000 < N) : ∃ φ, f_X12_feed N σm 1 a b c d e = some (φ, len + 20) ∧ FM [2] [2] σm φ ∧ fI φ 1 2 = len + 20 ∧ (∀ j : Int, j < len → φ.2.1 2 j = σm.2.1 2 j) ∧ ∀ i : Int, 0 ≤ i → i < 20 → φ.2.1 2 (len + i) = byF (wdF a b c d e i) (i % 4) := by
  have H : Ok (f_X12_feed N σm 1 a b c d e) (fun q => q.2 = len + 20 ∧ FM [2] [2] σm q.1 ∧ fI q.1 1 2 = len + 20 ∧ (∀ j : Int, j < len → q.1.2.1 2 j = σm.2.1 2 j) ∧ ∀ i : Int, 0 ≤ i → i < 20 → q.1.2.1 2 (len + i) = byF (wdF a b c d e i) (i % 4)) := by
    unfold f_X12_feed
    refine sm_gI hM ?_
    refine ok_wlt (by decide) (by omega) (fun h => by omega) (fun _ => ?_)
    refine ok_JnC (fun x => FM [2] [] σm x ∧ (∀ j : Int, j < len → x.2.1 2 j = σm.2.1 2 j) ∧ ∀ i : Int, 0 ≤ i → i < 20 → x.2.1 2 (len + i) = byF (wdF a b c d e i) (i % 4)) (fun x hx => ?_) (fun J hJ => ?_)
    · obtain ⟨h1, h2, h3⟩ := hx
      have hMx := h1.M hM
      refine sm_gI hMx ?_
      refine sm_pI hMx ?_
      rw [show fI x 1 2 = len from (h1.f (by simp)).trans hl]
      refine sm_gI (σ := uF x 1 2 (len + 20)) hMx (ok_some ⟨(show fI (uF x 1 2 (len + 20)) 1 2 = len + 20 from fI_eq), (h1.mono (by simp) (by simp)).uF (by simp), (show fI (uF x 1 2 (len + 20)) 1 2 = len + 20 from fI_eq), fun j q => (uF_k (by decide)).trans (h2 j q), fun i p q => (uF_k (by decide)).trans (h3 i p q)⟩)
    · unfold L_X12_feed_18
      refine ok_fix (fun q => (0 ≤ q.2 ∧ q.2 ≤ 20) ∧ FM [2] [] σm q.1 ∧ (∀ j : Int, j < len → q.1.2.1 2 j = σm.2.1 2 j) ∧ ∀ i : Int, 0 ≤ i → i < q.2 → q.1.2.1 2 (len + i) = byF (wdF a b c d e i) (i % 4)) (fun q => (20 - q.2).toNat) (fun back q hq hback => ?_) _ ⟨by dsimp only; omega, FM.refl, fun _ _ => rfl, fun i x y => by dsimp only at y; omega⟩ (by dsimp only; omega)
      obtain ⟨φ, i⟩ := q
      obtain ⟨g1, g2, g3, g4⟩ := hq
      dsimp only at g1 g2 g3 g4 hback ⊢
      have hMφ := g2.M hM
      refine ok_wlt (by omega) (by decide) (fun h1 => ?_) (fun h1 => hJ _ ⟨g2, g3, fun j x y => g4 j x (by omega)⟩)
      refine ok_JnC (fun x => x = wdF a b c d e i) (fun x hx => ?_) (fun J2 hJ2 => ?_)
      · refine sm_gR hMφ rfl ?_
        refine sm_gI hMφ ?_
        rw [show fI φ 1 2 = len from (g2.f (by simp)).trans hl]
        refine sm_sI hMφ rfl rfl (by decide) (by omega) (by omega) (st_Lt ?_)
        have a3 := and3 i.toNat (by omega)
        rw [show ((i.toNat : Nat) : Int) = i by omega] at a3
        have vb : i2bZ (shrZ x (24 - 8 * andZ i 3)) = byF (wdF a b c d e i) (i % 4) := by
          unfold byF
          rw [hx, a3, show ((i.toNat % 4 : Nat) : Int) = i % 4 by omega]
        rw [vb]
        refine hback _ ⟨by dsimp only; omega, g2.uI (by decide) (by simp), fun j q => ?_, fun j x y => ?_⟩ (by dsimp only; omega)
        · dsimp only
          rw [uI_j (by omega)]; exact g3 j q
        · dsimp only at y ⊢
          by_cases q : j = i
          · rw [q, uI_eq]
          · rw [uI_j (by omega)]; exact g4 j x (by omega)
      · unfold wdF at hJ2
        refine ok_wlt (by omega) (by decide) (fun k => hJ2 _ (by rw [if_pos k])) (fun k1 => ?_)
        refine ok_wlt (by omega) (by decide) (fun k => hJ2 _ (by rw [if_neg (by omega), if_pos k])) (fun k2 => ?_)
        refine ok_wlt (by omega) (by decide) (fun k => hJ2 _ (by rw [if_neg (by omega), if_neg (by omega), if_pos k])) (fun k3 => ?_)
        exact ok_wlt (by omega) (by decide) (fun k => hJ2 _ (by rw [if_neg (by omega), if_neg (by omega), if_neg (by omega), if_pos k])) (fun k4 => hJ2 _ (by rw [if_neg (by omega), if_neg (by omega), if_neg (by omega), if_neg (by omega)]))
  obtain ⟨⟨φ, v⟩, e', h1, h2⟩ := H
  dsimp only at h1 h2
  subst h1
  exact ⟨φ, e', h2⟩
theorem op_feed (hX : WXr σ.1 σ.2.2) (hM : WMr σm.1 σm.2.2) (hT : ITape σ σm) {a b c d e : Int} (hN : 1000 < N) : Ok (f_X11_feed N σ 1 a b c d e) (fun v => Ok (f_X12_feed N σm 1 a b c d e) (fun w => wr v.2 = wr w.2 ∧ FX [2, 4] σ v.1 ∧ FM [2] [2] σm w.1 ∧ ITape v.1 w.1)) := by
  obtain ⟨t1, t2, t3, t4, t5⟩ := id hT
  by_cases hroom : fI σ 2 2 + 20 ≤ 1300
  · obtain ⟨φ, em, m1, m2, m3, m4⟩ := feedM_eq (N := N) hM (a := a) (b := b) (c := c) (d := d) (e := e) t1 (by omega) hN
    obtain ⟨τ1, e1, p1, q1, r1, s1, u1⟩ := append_eq (N := N) hX (w := a) (len := fI σ 2 2) rfl (by omega) hN
    obtain ⟨τ2, e2, p2, q2, r2, s2, u2⟩ := append_eq (N := N) (p1.X hX) (w := b) q1 (by omega) hN
    have f2 := p1.trans p2
    obtain ⟨τ3, e3, p3, q3, r3, s3, u3⟩ := append_eq (N := N) (f2.X hX) (w := c) q2 (by omega) hN
    have f3 := f2.trans p3
    obtain ⟨τ4, e4, p4, q4, r4, s4, u4⟩ := append_eq (N := N) (f3.X hX) (w := d) q3 (by omega) hN
    have f4 := f3.trans p4
    obtain ⟨τ5, e5, p5, q5, r5, s5, u5⟩ := append_eq (N := N) (f4.X hX) (w := e) q4 (by omega) hN
    have f5 := f4.trans p5
    unfold f_X11_feed f_X6_hasRoom
    refine sx_gR hX rfl rfl rfl ?_
    refine sx_rcv hX rfl rfl (ok_bind (sx_gI hX rfl rfl ?_))
    refine ok_wlt (by decide) (by omega) (fun h => by omega) (fun _ => ok_some (ok_z1 ?_))
    refine sx_gR hX rfl rfl rfl (sx_rcv hX rfl rfl (ok_rw e1 ?_))
    refine sx_gR (p1.X hX) rfl rfl rfl (sx_rcv (p1.X hX) rfl rfl (ok_rw e2 ?_))
    refine sx_gR (f2.X hX) rfl rfl rfl (sx_rcv (f2.X hX) rfl rfl (ok_rw e3 ?_))
    refine sx_gR (f3.X hX) rfl rfl rfl (sx_rcv (f3.X hX) rfl rfl (ok_rw e4 ?_))
    refine sx_gR (f4.X hX) rfl rfl rfl (sx_rcv (f4.X hX) rfl rfl (ok_rw e5 ?_))
    refine sx_gR (f5.X hX) rfl rfl rfl ?_
    refine sx_gI (f5.X hX) rfl rfl (ok_some ?_)
    rw [em]
    refine ok_some ⟨?_, f5, m1, ?_, ?_, ?_, fun j x y => ?_, ?_⟩
    · dsimp only
      rw [q5]
      congr 1
      omega
    · dsimp only
      rw [m2, q5]; omega
    · dsimp only
      rw [q5]; omega
    · dsimp only
      rw [q5]; omega
    · dsimp only at y ⊢
      rw [q5] at y
      by_cases k0 : j < fI σ 2 2
      · rw [m3 j (by omega), ← t4 j x k0, s5 j (by omega), s4 j (by omega), s3 j (by omega), s2 j (by omega), s1 j k0]
      · have mm := m4 (j - fI σ 2 2) (by omega) (by omega)
        rw [show fI σ 2 2 + (j - fI σ 2 2) = j by omega] at mm
        rw [mm]
        unfold wdF
        by_cases k1 : j < fI σ 2 2 + 4
        · have z := u1 (j - fI σ 2 2) (by omega) (by omega)
          rw [show fI σ 2 2 + (j - fI σ 2 2) = j by omega] at z
          rw [s5 j (by omega), s4 j (by omega), s3 j (by omega), s2 j (by omega), z, if_pos (by omega), show (j - fI σ 2 2) % 4 = j - fI σ 2 2 by omega]
        · by_cases k2 : j < fI σ 2 2 + 8
          · have z := u2 (j - fI σ 2 2 - 4) (by omega) (by omega)
            rw [show fI σ 2 2 + 4 + (j - fI σ 2 2 - 4) = j by omega] at z
            rw [s5 j (by omega), s4 j (by omega), s3 j (by omega), z, if_neg (by omega), if_pos (by omega), show (j - fI σ 2 2) % 4 = j - fI σ 2 2 - 4 by omega]
          · by_cases k3 : j < fI σ 2 2 + 12
            · have z := u3 (j - fI σ 2 2 - 8) (by omega) (by omega)
              rw [show fI σ 2 2 + 4 + 4 + (j - fI σ 2 2 - 8) = j by omega] at z
              rw [s5 j (by omega), s4 j (by omega), z, if_neg (by omega), if_neg (by omega), if_pos (by omega), show (j - fI σ 2 2) % 4 = j - fI σ 2 2 - 8 by omega]
            · by_cases k4 : j < fI σ 2 2 + 16
              · have z := u4 (j - fI σ 2 2 - 12) (by omega) (by omega)
                rw [show fI σ 2 2 + 4 + 4 + 4 + (j - fI σ 2 2 - 12) = j by omega] at z
                rw [s5 j (by omega), z, if_neg (by omega), if_neg (by omega), if_neg (by omega), if_pos (by omega), show (j - fI σ 2 2) % 4 = j - fI σ 2 2 - 12 by omega]
              · have z := u5 (j - fI σ 2 2 - 16) (by omega) (by omega)
                rw [show fI σ 2 2 + 4 + 4 + 4 + 4 + (j - fI σ 2 2 - 16) = j by omega] at z
                rw [z, if_neg (by omega), if_neg (by omega), if_neg (by omega), if_neg (by omega), show (j - fI σ 2 2) % 4 = j - fI σ 2 2 - 16 by omega]
    · dsimp only
      have m4' : fI φ 1 4 = fI σm 1 4 := m1.f (by decide)
      have m5' : fI φ 1 5 = fI σm 1 5 := m1.f (by decide)
      have x12 : fI τ5 2 12 = fI σ 2 12 := by rw [r5.1, r4.1, r3.1, r2.1, r1.1]
      have x13 : fI τ5 2 13 = fI σ 2 13 := by rw [r5.2, r4.2, r3.2, r2.2, r1.2]
      rw [m4', m5', x12, x13]
      exact t5
  · unfold f_X11_feed f_X6_hasRoom f_X12_feed
    refine sx_gR hX rfl rfl rfl ?_
    refine sx_rcv hX rfl rfl (ok_bind (sx_gI hX rfl rfl ?_))
    refine ok_wlt (by decide) (by omega) (fun _ => ok_some (ok_z0 (ok_some ?_))) (fun h => by omega)
    refine sm_gI hM ?_
    rw [t1]
    exact ok_wlt (by decide) (by omega) (fun _ => ok_some ⟨rfl, FX.refl, FM.refl, hT⟩) (fun h => by omega)
end F
