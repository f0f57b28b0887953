/-! the pure part: the class cuts the whole text -/
theorem ch_eq : ∀ c : Nat, c < 256 → i2cZ (c : Int) = (c : Int) ∧ i2bZ (c : Int) = if c < 128 then (c : Int) else (c : Int) - 256 := by decide +kernel
def sgL : List Int := [59, 40, 41, 60, 62, 61, 43, 45, 42]
theorem sg_b : ∀ j : Nat, j < 9 → stB 12 (j : Int) = some (sgL.getD j 0) := by decide +kernel
section F
variable {N : Nat} {σ τ υ : St}
theorem isSg_L {c : Int} : isSg c ↔ ∃ j : Nat, j < 9 ∧ sgL.getD j 0 = c := by
  unfold isSg
  constructor
  · rintro (rfl | rfl | rfl | rfl | rfl | rfl | rfl | rfl | rfl)
    · exact ⟨0, by decide, rfl⟩
    · exact ⟨1, by decide, rfl⟩
    · exact ⟨2, by decide, rfl⟩
    · exact ⟨3, by decide, rfl⟩
    · exact ⟨4, by decide, rfl⟩
    · exact ⟨5, by decide, rfl⟩
    · exact ⟨6, by decide, rfl⟩
    · exact ⟨7, by decide, rfl⟩
    · exact ⟨8, by decide, rfl⟩
  · rintro ⟨j, hj, rfl⟩
    have : j = 0 ∨ j = 1 ∨ j = 2 ∨ j = 3 ∨ j = 4 ∨ j = 5 ∨ j = 6 ∨ j = 7 ∨ j = 8 := by omega
    rcases this with rfl | rfl | rfl | rfl | rfl | rfl | rfl | rfl | rfl <;> simp [sgL]
theorem sg_rg : ∀ j : Nat, j < 9 → 40 ≤ sgL.getD j 0 ∧ sgL.getD j 0 ≤ 62 := by decide
/-- where a sign stands among the signs -/
theorem sign_eq {c : Int} (hc : 0 ≤ c ∧ c ≤ 255) (hN : 100 < N) : ∃ v, f_J0_indexOf_0f7a4 N σ 2 (i2cZ c) = some (σ, v) ∧ ((isSg c ∧ 0 ≤ v ∧ v ≤ 8) ∨ (¬ isSg c ∧ v = -1)) := by
  have hce := ch_eq c.toNat (by omega)
  rw [show ((c.toNat : Nat) : Int) = c by omega] at hce
  have H : Ok (f_J1_indexOfChar_4cfef N σ 12 c 0 9) (fun q => q.1 = σ ∧ ((isSg c ∧ 0 ≤ q.2 ∧ q.2 ≤ 8) ∨ (¬ isSg c ∧ q.2 = -1))) := by
    unfold f_J1_indexOfChar_4cfef L_J1_indexOfChar_4cfef_7
    refine st_Lt ?_
    refine ok_fix (fun t => (0 ≤ t ∧ t ≤ 9) ∧ ∀ j : Nat, (j : Int) < t → sgL.getD j 0 ≠ c) (fun t => (9 - t).toNat) (fun back t ht hback => ?_) _ ⟨by omega, fun j x => by omega⟩ (by omega)
    obtain ⟨g1, g2⟩ := ht
    refine ok_wlt (by omega) (by omega) (fun h1 => ?_) (fun h1 => ok_some ⟨rfl, .inr ⟨fun q => ?_, rfl⟩⟩)
    · have eb := sg_b t.toNat (by omega)
      have rb := sg_rg t.toNat (by omega)
      rw [show ((t.toNat : Nat) : Int) = t by omega] at eb
      refine ok_rw eb ?_
      rw [hce.2]
      refine ok_weq (by omega) (by split <;> omega) (fun h2 => ok_some ⟨rfl, .inl ⟨?_, by dsimp only; omega, by dsimp only; omega⟩⟩) (fun h2 => st_Lt (hback _ ⟨by omega, fun j x => ?_⟩ (by omega)))
      · exact isSg_L.mpr ⟨t.toNat, by omega, by split at h2 <;> omega⟩
      · by_cases k : (j : Int) = t
        · have : j = t.toNat := by omega
          rw [this]
          split at h2 <;> omega
        · exact g2 j (by omega)
    · obtain ⟨j, hj, e⟩ := isSg_L.mp q
      exact g2 j (by omega) e
  obtain ⟨⟨υ, v⟩, e, h1, h2⟩ := H
  dsimp only at h1 h2
  subst h1
  refine ⟨v, ?_, h2⟩
  rw [hce.1]
  have e1 : f_J1_indexOf_4cfef N υ 12 c 0 9 = some (υ, v) := by
    unfold f_J1_indexOf_4cfef f_J1_canEncode_9a6ad
    rw [wr_id (z := c) (by omega) (by omega), if_neg (show ¬ c < 0 by omega), if_neg (show ¬ wr 255 < c by rw [wr_id (by omega) (by omega)]; omega)]
    show Option.bind (f_J1_indexOfChar_4cfef N υ 12 c 0 9) (fun q5 => some (υ, q5.2)) = some (υ, v)
    rw [e]; rfl
  have l1 : f_J0_isLatin1_aae02 N υ 2 = some (υ, 1) := by
    unfold f_J0_isLatin1_aae02
    rw [if_neg (show ¬ wr 1 = 0 by decide)]
    show (if wr 0 = 0 then some (υ, (1 : Int)) else some (υ, 0)) = _
    rw [if_pos (by decide)]
  have l2 : f_J0_length_8abf5 N υ 2 = some (υ, 9) := by
    have c0 : f_J0_coder_7d493 N υ 2 = some (υ, 0) := by
      unfold f_J0_coder_7d493
      rw [if_neg (show ¬ wr 1 = 0 by decide)]
      show rB υ 0 = _
      unfold rB
      rw [if_pos (by decide)]
    unfold f_J0_length_8abf5
    show Option.bind (rcvO 2 (f_J0_coder_7d493 N υ 2)) (fun q3 => some (υ, shrZ 9 q3.2)) = _
    rw [c0]
    unfold rcvO
    rw [if_pos (by decide)]
    exact congrArg (fun q => some (υ, q)) (by decide : shrZ 9 0 = 9)
  have l3 : f_J0_indexOf_7cf53 N υ 2 c 0 = some (υ, v) := by
    unfold f_J0_indexOf_7cf53
    rw [l1, l2]
    unfold rcvO
    rw [if_pos (by decide), if_pos (by decide)]
    show (if wr 1 = 0 then none else Option.bind (some 12) fun w_2 => Option.bind (some (υ, (9 : Int))) fun q3 => Option.bind (f_J1_indexOf_4cfef N υ w_2 c 0 q3.2) fun q4 => some (υ, q4.2)) = _
    rw [if_neg (by decide)]
    show Option.bind (f_J1_indexOf_4cfef N υ 12 c 0 9) (fun q4 => some (υ, q4.2)) = _
    rw [e1]; rfl
  unfold f_J0_indexOf_0f7a4
  rw [l3]
  unfold rcvO
  rw [if_pos (by decide)]; rfl
theorem Spl.ext {T : Int → Int} {n k p : Int} (h : Spl T n σ k p) (hb : isBl (T p)) : Spl T n σ k (p + 1) := by
  obtain ⟨E, h1, h2, h3, h4⟩ := h
  refine ⟨E, h1, h2, by omega, fun j x y => ?_⟩
  by_cases q : j = p
  · rw [q]; exact hb
  · exact h4 j x (by omega)
theorem eqP {T : Int → Int} {n k p p' : Int} (e : p = p') (h : Spl T n σ k p) : Spl T n σ k p' := by rw [← e]; exact h
/-- the whole text cut -/
theorem split_eq {T : Int → Int} {n : Int} (hX : WXr σ.1 σ.2.2) (ht : TX T n σ) (hW : OWr (σ.2.1 3)) (hN : 2000 < N) : ∃ τ, f_X6_split N σ 2 = some (τ, 0) ∧ FT [5, 6, 7] [3] σ τ ∧ ∃ (K : Int) (E : Int → Int), fI τ 2 3 = K ∧ (1 ≤ K ∧ K ≤ n + 1) ∧ E 0 = 0 ∧ (∀ q, 0 ≤ q → q < K → Tok T n (E q) (τ.2.1 6 q) (E (q + 1)) (τ.2.1 5 q) (τ.2.1 7 q)) ∧ τ.2.1 5 (K - 1) = 102 := by
  have r := ht.2.1
  have H : Ok (f_X6_split N σ 2) (fun q => q.2 = 0 ∧ FT [5, 6, 7] [3] σ q.1 ∧ ∃ (K : Int) (E : Int → Int), fI q.1 2 3 = K ∧ (1 ≤ K ∧ K ≤ n + 1) ∧ E 0 = 0 ∧ (∀ x, 0 ≤ x → x < K → Tok T n (E x) (q.1.2.1 6 x) (E (x + 1)) (q.1.2.1 5 x) (q.1.2.1 7 x)) ∧ q.1.2.1 5 (K - 1) = 102) := by
    unfold f_X6_split
    refine sx_pI hX rfl rfl ?_
    refine ok_JnC (fun x => FT [5, 6, 7] [3] σ x ∧ ∃ k, fI x 2 3 = k ∧ (0 ≤ k ∧ k ≤ n) ∧ Spl T n x k n) (fun x hx => ?_) (fun J hJ => ?_)
    · obtain ⟨f, k, h1, h2, h3⟩ := hx
      have hXx := f.X hX
      have htx := ht.ft f (by decide) (by decide)
      refine sx_gI hXx rfl rfl ?_
      rw [htx.1]
      refine sx_rcv hXx rfl rfl (ok_rw (put_eq hXx h1 (by omega)) (ok_some ⟨rfl, f.trans (put_ft _ _ _ _), ?_⟩))
      have hp := h3.put h2.1 (show Tok T n n n n 102 0 from ⟨⟨Int.le_refl n, Int.le_refl n, Int.le_refl n, fun j x y => by omega⟩, .inl ⟨rfl, rfl, rfl, rfl⟩⟩)
      obtain ⟨E, p1, p2, p3, p4⟩ := hp
      refine ⟨k + 1, E, fI_eq, by omega, p1, p2, ?_⟩
      dsimp only
      rw [show k + 1 - 1 = k by omega, uF_k (by decide), uI_k (by decide), uI_k (by decide), uI_eq]
    · unfold L_X6_split_9
      refine ok_fix (fun q => FT [5, 6, 7] [3] σ q.1 ∧ ∃ k, fI q.1 2 3 = k ∧ (0 ≤ k ∧ k ≤ q.2.1 ∧ q.2.1 ≤ n) ∧ (0 ≤ q.2.2 ∧ q.2.2 ≤ q.2.1) ∧ Spl T n q.1 k q.2.1) (fun q => (n - q.2.1).toNat) (fun back q hq hback => ?_) _ ⟨FT.refl.wF (by simp), 0, fI_eq, by dsimp only; omega, by dsimp only; omega, ?_⟩ (by dsimp only; omega)
      · obtain ⟨φ, p, i⟩ := q
        obtain ⟨f, k, h1, h2, h3, h4⟩ := hq
        dsimp only at f h1 h2 h3 h4 hback ⊢
        have hXx := f.X hX
        have htx := ht.ft f (by decide) (by decide)
        have hWx : OWr (φ.2.1 3) := fun j x y => (f.c (by decide) (by decide)).trans (hW j x y)
        refine ok_wlt (by omega) (by omega) (fun _ => ?_) (fun c1 => hJ _ ⟨f, k, h1, by omega, eqP (show p = n by omega) h4⟩)
        refine sx_gI hXx rfl rfl ?_
        rw [htx.1]
        refine ok_wlt (by omega) (by omega) (fun c2 => ?_) (fun c2 => hJ _ ⟨f, k, h1, by omega, eqP (show p = n by omega) h4⟩)
        refine ok_byte hXx htx (by omega) (fun _ => ?_) (fun h => by omega)
        have rp := htx.2.2 p (by omega) c2
        refine ok_ltr (by omega) (fun c3 => ?_) (fun c3 => ?_)
        · refine ok_JnC (fun x => FT [5, 6, 7] [3] σ x.1 ∧ fI x.1 2 3 = k + 1 ∧ p < x.2 ∧ x.2 ≤ n ∧ Spl T n x.1 (k + 1) x.2) (fun x hx => ?_) (fun J2 hJ2 => ?_)
          · obtain ⟨y1, y2, y3, y4, y5⟩ := hx
            exact st_Lt (hback _ ⟨y1, k + 1, y2, by dsimp only; omega, by dsimp only; omega, y5⟩ (by dsimp only; omega))
          · refine ok_z1 ?_
            obtain ⟨τ, e, e1, e2, e3, e4, e5, e6⟩ := splitWord_eq (N := N) hXx htx hWx h1 (by omega) c2 c3 h4 (by omega)
            exact sx_rcv hXx rfl rfl (ok_rw e1 (hJ2 _ ⟨f.trans e2, e3, e4, e5, e6⟩))
        · refine ok_JnC (fun x => FT [5, 6, 7] [3] σ x.1 ∧ ∃ k', (k ≤ k' ∧ k' ≤ k + 1) ∧ fI x.1 2 3 = k' ∧ p < x.2 ∧ x.2 ≤ n ∧ Spl T n x.1 k' x.2) (fun x hx => ?_) (fun J2 hJ2 => ?_)
          · obtain ⟨y1, k', y2, y3, y4, y5, y6⟩ := hx
            exact st_Lt (hback _ ⟨y1, k', y3, by dsimp only; omega, by dsimp only; omega, y6⟩ (by dsimp only; omega))
          · refine ok_z0 ?_
            refine ok_dig (by omega) (fun c4 => ok_z1 ?_) (fun c4 => ok_z0 ?_)
            · obtain ⟨τ, e, e1, e2, e3, e4, e5, e6⟩ := splitNum_eq (N := N) hXx htx h1 (by omega) c2 c4 h4 (by omega)
              exact sx_rcv hXx rfl rfl (ok_rw e1 (hJ2 _ ⟨f.trans e2, k + 1, by omega, e3, e4, e5, e6⟩))
            · refine ok_JnC (fun x => FT [5, 6, 7] [3] σ x ∧ ∃ k', (k ≤ k' ∧ k' ≤ k + 1) ∧ fI x 2 3 = k' ∧ Spl T n x k' (p + 1)) (fun x hx => ?_) (fun J3 hJ3 => ?_)
              · obtain ⟨y1, k', y2, y3, y4⟩ := hx
                exact st_Lt (hJ2 _ ⟨y1, k', y2, y3, by dsimp only; omega, by dsimp only; omega, y4⟩)
              · dsimp only
                refine ok_weq (by omega) (by omega) (fun c5 => hJ3 _ ⟨f, k, by omega, h1, h4.ext (.inl c5)⟩) (fun c5 => ?_)
                refine ok_weq (by omega) (by omega) (fun c6 => hJ3 _ ⟨f, k, by omega, h1, h4.ext (.inr c6)⟩) (fun c6 => ?_)
                obtain ⟨v, e1, e2⟩ := sign_eq (N := N) (σ := φ) (c := T p) rp.2 (by omega)
                have hbl : ¬ isBl (T p) := by unfold isBl; omega
                unfold rcvO
                rw [if_pos (by decide)]
                refine ok_rw e1 ?_
                refine ok_JnC (fun kd => (isSg (T p) ∧ kd = T p) ∨ (¬ isSg (T p) ∧ kd = 103)) (fun kd hkd => ?_) (fun J4 hJ4 => ?_)
                · refine sx_rcv hXx rfl rfl (ok_rw (put_eq hXx h1 (by omega)) (hJ3 _ ⟨f.trans (put_ft _ _ _ _), k + 1, by omega, fI_eq, h4.put h2.1 ?_⟩))
                  exact ⟨⟨Int.le_refl p, by omega, by omega, fun j x y => by omega⟩, .inr (.inr (.inr ⟨c2, rfl, c3, c4, hbl, rfl, hkd⟩))⟩
                · rcases e2 with ⟨e3, e4⟩ | ⟨e3, rfl⟩
                  · refine ok_wlt0 (by dsimp only; omega) (fun q => by dsimp only at q; omega) (fun _ => hJ4 _ (.inl ⟨e3, rfl⟩))
                  · refine ok_wlt0 (by dsimp only; omega) (fun q => hJ4 _ (.inr ⟨e3, rfl⟩)) (fun q => by dsimp only at q; omega)
      · exact ⟨fun _ => 0, rfl, fun q x y => by omega, Int.le_refl 0, fun j x y => by dsimp only at x y; omega⟩
  obtain ⟨⟨τ, v⟩, e, h1, h2⟩ := H
  dsimp only at h1 h2
  subst h1
  exact ⟨τ, e, h2⟩
end F
