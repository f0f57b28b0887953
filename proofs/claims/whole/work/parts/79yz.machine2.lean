/-! the pure part: the op MACHINE, glued -/
section F
variable {N : Nat} {σ τ υ σm τm w : St} {z : Zs} {r : RS} {m : Nat} {bk : Int} {t : Int → Nat} {sp : Nat}
theorem tape_TX (hT : ITape σ σm) : TX (fun j => σ.2.1 4 j) (fI σ 2 2) σ ∧ ∀ j : Int, 0 ≤ j → j < fI σ 2 2 → (fun j => σ.2.1 4 j) j = σm.2.1 2 j % 256 := by
  obtain ⟨t1, t2, t3, t4, t5⟩ := hT
  refine ⟨⟨rfl, ⟨t2, t3⟩, fun j a b => ⟨rfl, ?_, ?_⟩⟩, fun j a b => t4 j a b⟩
  · dsimp only
    rw [t4 j a b]; omega
  · dsimp only
    rw [t4 j a b]; omega
/-- both at the first line -/
theorem ML_0 {s : Nat} {rb : Int} {x0 x1 y : St} (hz : Str z) (hs : isM s) (hrb : rb = 0 ∨ rb = 1) (c0 : fI x0 s 1 = 0 ∧ fI x0 s 7 = 0 ∧ fI x0 s 11 = 0 ∧ fI x0 s 15 = 0 ∧ fI x0 s 18 = 0) (c1 : ∀ t : Int, 0 ≤ t → t < 3 → x0.2.1 (s + 12) t = 0 ∧ x0.2.1 (s + 13) t = 0) (c2 : ∀ c : Int, 0 ≤ c → c < 64 → x0.2.1 (s + 14) c = 0) (f1 : FT [5, 6, 7] [3, 7, 8, 9, 10, 11, 12, 13] x0 x1) (x1R : XR z (.inr 0) x1) (my : MR z (.inr 0) y) (by0 : fI y 1 32 = rb) (zc : y.2.1 4 rb = 0 ∧ y.2.1 5 rb = 0 ∧ y.2.1 6 rb = 0 ∧ y.2.1 7 rb = 0 ∧ y.2.1 8 rb = 0) (zg : ∀ c : Int, 0 ≤ c → c < 64 → y.2.1 21 (64 * rb + c) = 0) (zh : ∀ c : Int, 0 ≤ c → c < 8 → y.2.1 22 (8 * rb + c) = 0) : ML z s rb 0 (uF x1 s 0 0) y := by
  have hsl := isM_le hs
  obtain ⟨d1, d7, d11, d15, d18⟩ := c0
  have e : ∀ j : Nat, j ≠ 0 → fI (uF x1 s 0 0) s j = fI x0 s j := fun j hj => (fI_j hj).trans (f1.g (by omega) (by simp; omega))
  have ec : ∀ (d : Nat) (i : Int), d ≠ 0 → (uF x1 s 0 0).2.1 (s + d) i = x0.2.1 (s + d) i := fun d i hd => (uF_k (by omega)).trans (f1.c (by omega) (by simp; omega))
  have e1 := (e 1 (by decide)).trans d1
  have e7 := (e 7 (by decide)).trans d7
  have e11 := (e 11 (by decide)).trans d11
  have e15 := (e 15 (by decide)).trans d15
  have e18 := (e 18 (by decide)).trans d18
  have e0 : fI (uF x1 s 0 0) s 0 = 0 := fI_eq
  refine ⟨⟨x1R.wF (by omega), my, by0⟩, ⟨⟨⟨by rw [e0]; exact zc.1, by omega, by omega⟩, ⟨by rw [e1]; exact zc.2.1, by omega, by omega⟩, ⟨by rw [e7]; exact zc.2.2.1, by omega, by omega⟩, ⟨by rw [e11]; exact zc.2.2.2.1, by omega, by omega⟩, ⟨by rw [e15]; exact zc.2.2.2.2, by omega, by omega⟩⟩, fun i a b => by omega, fun i a b => by omega, fun i a b => by omega, fun i a b => ⟨fun q => by omega, fun q => ?_⟩, fun c a b => ?_⟩, ⟨fun i a b => by omega, fun i j a b c => by omega⟩, ⟨by omega, fun r a b => ?_⟩, by omega⟩
  · rw [ec 12 i (by decide), ec 13 i (by decide)]; exact c1 i a b
  · rw [ec 14 c (by decide), c2 c a b, zg c a b]; decide
  · rw [e18, zh r a (by omega)]
    have := told_0 r.toNat (by omega)
    rw [show ((r.toNat : Nat) : Int) = r by omega] at this
    rw [this]; decide
theorem gl_machine (h : InvR m bk t sp σ σm) (hs : σ.2.2 1 ((2 : Nat) : Int) = 31 - m) (hW : OWr (σ.2.1 3)) (hN : 4000000 < N) : Ok (f_X11_machine N σ 1) (fun v => Ok (f_X12_machine N σm 1) (fun w => wr v.2 = wr w.2 ∧ ∃ (m' : Nat) (bk' : Int), InvR m' bk' t sp v.1 w.1 ∧ v.1.2.2 1 ((2 : Nat) : Int) = 31 - m' ∧ v.1.2.1 3 = σ.2.1 3)) := by
  obtain ⟨⟨hX, hM⟩, tp, ⟨hm, r1, k31, hbk, mach⟩, hfa, hai, ⟨hfl, hpl⟩, hst, htr, hun, hwk⟩ := id h
  have hml := isM_le hm
  have hmm : m = 8 ∨ m = 23 := hm
  obtain ⟨s, hse⟩ : ∃ s : Nat, s = 31 - m := ⟨_, rfl⟩
  have hsm : isM s := by unfold isM; omega
  have hsl := isM_le hsm
  rw [← hse] at hs
  obtain ⟨rb, hrbe⟩ : ∃ rb : Int, rb = 1 - bk := ⟨_, rfl⟩
  have hrb : rb = 0 ∨ rb = 1 := by omega
  obtain ⟨tx, tt⟩ := tape_TX tp
  obtain ⟨x0, e0, F0, c0, c1, c2⟩ := clearX (N := N) hX hsm (by omega)
  have hX0 := F0.X hX
  have tx0 : TX (fun j => σ.2.1 4 j) (fI σ 2 2) x0 := ⟨F0.f (by omega), tx.2.1, fun j a b => by rw [F0.c (by omega)]; exact tx.2.2 j a b⟩
  have hW0 : OWr (x0.2.1 3) := fun j a b => (F0.c (by omega)).trans (hW j a b)
  obtain ⟨x1, z, e1, hz, zT, zn, x1R, f1⟩ := begin_eq (N := N) hX0 tx0 hW0 (by omega)
  have hX1 := f1.X hX0
  have F1 : FA (CAf s) σ (uF x1 s 0 0) := by
    refine FA.wF ((F0.mono fun k i q => by unfold CAf; omega).trans ⟨f1.1, f1.2.1, fun k i q => ?_⟩) (by unfold CAf; omega)
    unfold CAf at q
    exact f1.c (by omega) (by simp; omega)
  refine ok_swap ?_
  refine prepM (N := N) hz zT zn hM tp.1 tx.2.1 tt (rb := rb) (by rw [k31, hrbe]) hrb (by omega) (fun y my Fy by0 y2 zc zg zh => ?_)
  refine ok_swap ?_
  unfold f_X11_machine
  refine sx_gRe hX rfl rfl hs ?_
  refine sx_gR hX rfl rfl rfl ?_
  refine mx_rcv hX hsm ?_
  refine ok_cont ?_
  unfold f_X3_read
  refine mx_rcv hX hsm (ok_rw e0 ?_)
  refine sx_rcv hX0 rfl rfl (ok_rw e1 ?_)
  refine mx_pI hX1 hsm ?_
  refine st_Jn ?_
  refine mloop hz hsm hrb (ML_0 hz hsm hrb c0 c1 c2 f1 x1R my by0 zc zg zh) (by omega) (fun x y' Fx Fy' res => ?_)
  have Gx := F1.trans Fx
  have Gy : FA (fun k i => PrA rb k i ∨ RAf rb k i) σm y' := (Fy.mono fun k i q => .inl q).trans (Fy'.mono fun k i q => .inr q)
  have y2' : fI y' 1 2 = 0 := (Fy'.f (by unfold RAf; omega)).trans y2
  rcases res with ⟨k, hML⟩ | ⟨d, xd, md⟩
  · obtain ⟨⟨hx, hmr, hb0⟩, hmach, _⟩ := hML
    obtain ⟨g1, g2, g3, g4, g5, g6⟩ := (hx.2.2 : XS z k x)
    obtain ⟨q1, q2, q3, q4, q5, q6⟩ := (hmr.2.2 : MS z k y')
    refine sx_rcv hx.1 rfl rfl (ok_rw (sound_eq hx) ?_)
    refine ok_rZ (.inr rfl) ?_
    unfold JmM
    refine sm_rcv hmr.1 (ok_rw (isGood_eq hmr) (ok_z1 ?_))
    refine sm_gI hmr.1 ?_
    rw [hb0]
    refine sm_pI hmr.1 ?_
    refine sm_pI (σ := uF y' 1 31 rb) hmr.1 ?_
    refine sm_pI (σ := uF (uF y' 1 31 rb) 1 67 0) hmr.1 ?_
    have w31 : fI (uF (uF (uF y' 1 31 rb) 1 67 0) 1 73 0) 1 31 = rb := (fI_j (by decide)).trans ((fI_j (by decide)).trans fI_eq)
    have w67 : fI (uF (uF (uF y' 1 31 rb) 1 67 0) 1 73 0) 1 67 = 0 := (fI_j (by decide)).trans fI_eq
    have w73 : fI (uF (uF (uF y' 1 31 rb) 1 67 0) 1 73 0) 1 73 = 0 := fI_eq
    have wj : ∀ j, j ≠ 31 → j ≠ 67 → j ≠ 73 → fI (uF (uF (uF y' 1 31 rb) 1 67 0) 1 73 0) 1 j = fI y' 1 j := fun j a b c => (fI_j c).trans ((fI_j b).trans (fI_j a))
    have wc : ∀ k, k ≠ 1 → (uF (uF (uF y' 1 31 rb) 1 67 0) 1 73 0).2.1 k = y'.2.1 k := fun k hk => (uF_cell hk).trans ((uF_cell hk).trans (uF_cell hk))
    have hMw : WMr (uF (uF (uF y' 1 31 rb) 1 67 0) 1 73 0).1 (uF (uF (uF y' 1 31 rb) 1 67 0) 1 73 0).2.2 := hmr.1
    generalize uF (uF (uF y' 1 31 rb) 1 67 0) 1 73 0 = w at w31 w67 w73 wj wc hMw ⊢
    refine sm_gR hMw rfl (sm_gI hMw ?_)
    rw [w31]
    refine sm_aI hMw rfl rfl (by decide) (by omega) (by omega) ?_
    rw [wc 4 (by decide)]
    refine ok_some ?_
    -- the class goes on
    refine sx_gR hx.1 rfl rfl rfl ?_
    refine sx_pI hx.1 rfl rfl ?_
    refine ok_z1 ?_
    have rr : x.2.2 = σ.2.2 := Gx.2.1
    have hX5 : WXr (uF x 2 2 0).1 (uF x 2 2 0).2.2 := hx.1
    refine sx_gRe hX5 rfl rfl (show (uF x 2 2 0).2.2 1 ((1 : Nat) : Int) = m by show x.2.2 1 _ = m; rw [rr]; exact r1) ?_
    refine sx_gRe hX5 rfl rfl (show (uF x 2 2 0).2.2 1 ((2 : Nat) : Int) = s by show x.2.2 1 _ = s; rw [rr]; exact hs) ?_
    refine sx_pR hX5 rfl rfl ?_
    have hX8 := hX5.wR (k := 1) (j := 1) (v := s) rfl
    refine sx_pR hX8 rfl rfl ?_
    have hX9 := hX8.wR (k := 1) (j := 2) (v := m) rfl
    have s1 : (uR (uR (uF x 2 2 0) 1 ((1 : Nat) : Int) s) 1 ((2 : Nat) : Int) m).2.2 1 ((1 : Nat) : Int) = s := by
      show (if (1 : Nat) = 1 ∧ ((1 : Nat) : Int) = ((2 : Nat) : Int) then m else (if (1 : Nat) = 1 ∧ ((1 : Nat) : Int) = ((1 : Nat) : Int) then s else x.2.2 1 ((1 : Nat) : Int))) = s
      rw [if_neg (by decide), if_pos (by decide)]
    have s2 : (uR (uR (uF x 2 2 0) 1 ((1 : Nat) : Int) s) 1 ((2 : Nat) : Int) m).2.2 1 ((2 : Nat) : Int) = m := by
      show (if (1 : Nat) = 1 ∧ ((2 : Nat) : Int) = ((2 : Nat) : Int) then m else (if (1 : Nat) = 1 ∧ ((2 : Nat) : Int) = ((1 : Nat) : Int) then s else x.2.2 1 ((2 : Nat) : Int))) = m
      rw [if_pos (by decide)]
    have s5 : ∀ k j, k ≠ 1 ∨ (j ≠ 1 ∧ j ≠ 2) → (uR (uR (uF x 2 2 0) 1 ((1 : Nat) : Int) s) 1 ((2 : Nat) : Int) m).2.2 k j = σ.2.2 k j := fun k j q => by
      show (if k = 1 ∧ j = ((2 : Nat) : Int) then m else (if k = 1 ∧ j = ((1 : Nat) : Int) then s else x.2.2 k j)) = _
      rw [if_neg (by omega), if_neg (by omega), rr]
    have si : (uR (uR (uF x 2 2 0) 1 ((1 : Nat) : Int) s) 1 ((2 : Nat) : Int) m).2.1 = (uF x 2 2 0).2.1 := rfl
    generalize uR (uR (uF x 2 2 0) 1 ((1 : Nat) : Int) s) 1 ((2 : Nat) : Int) m = x9 at hX9 s1 s2 s5 si ⊢
    refine sx_gR hX9 rfl rfl rfl ?_
    refine sx_rcv hX9 rfl rfl (ok_bind ?_)
    unfold f_X1_forget
    refine sx_pI hX9 rfl rfl (ok_some ?_)
    refine sx_gR (σ := uF x9 66 0 0) hX9 rfl rfl rfl ?_
    refine sx_rcv (σ := uF x9 66 0 0) hX9 rfl rfl (ok_bind ?_)
    unfold f_X2_dropSteps
    refine sx_gI (σ := uF x9 66 0 0) hX9 rfl rfl ?_
    refine sx_pI (σ := uF x9 66 0 0) hX9 rfl rfl ?_
    refine sx_pI (σ := uF (uF x9 66 0 0) 73 0 0) hX9 rfl rfl (ok_some ?_)
    refine sx_gR (σ := uF (uF (uF x9 66 0 0) 73 0 0) 73 2 (-1)) hX9 rfl rfl rfl ?_
    refine sx_rcv (σ := uF (uF (uF x9 66 0 0) 73 0 0) 73 2 (-1)) hX9 rfl rfl (ok_bind ?_)
    unfold f_X10_forget
    refine sx_pI (σ := uF (uF (uF x9 66 0 0) 73 0 0) 73 2 (-1)) hX9 rfl rfl (ok_some ?_)
    have v66 : fI (uF (uF (uF (uF x9 66 0 0) 73 0 0) 73 2 (-1)) 104 1 (-1)) 66 0 = 0 := (fI_k (by decide)).trans ((fI_k (by decide)).trans ((fI_k (by decide)).trans fI_eq))
    have v66b : fI (uF (uF (uF (uF x9 66 0 0) 73 0 0) 73 2 (-1)) 104 1 (-1)) 66 1 = fI x9 66 1 := (fI_k (by decide)).trans ((fI_k (by decide)).trans ((fI_k (by decide)).trans (fI_j (by decide))))
    have v73 : fI (uF (uF (uF (uF x9 66 0 0) 73 0 0) 73 2 (-1)) 104 1 (-1)) 73 0 = 0 := (fI_k (by decide)).trans ((fI_j (by decide)).trans fI_eq)
    have v73b : fI (uF (uF (uF (uF x9 66 0 0) 73 0 0) 73 2 (-1)) 104 1 (-1)) 73 1 = fI x9 73 1 := (fI_k (by decide)).trans ((fI_j (by decide)).trans ((fI_j (by decide)).trans (fI_k (by decide))))
    have v73c : fI (uF (uF (uF (uF x9 66 0 0) 73 0 0) 73 2 (-1)) 104 1 (-1)) 73 2 = -1 := (fI_k (by decide)).trans fI_eq
    have v104 : fI (uF (uF (uF (uF x9 66 0 0) 73 0 0) 73 2 (-1)) 104 1 (-1)) 104 1 = -1 := fI_eq
    have vc : ∀ k, k ≠ 66 → k ≠ 73 → k ≠ 104 → (uF (uF (uF (uF x9 66 0 0) 73 0 0) 73 2 (-1)) 104 1 (-1)).2.1 k = x9.2.1 k := fun k a b c => (uF_cell c).trans ((uF_cell b).trans ((uF_cell b).trans (uF_cell a)))
    have vr : (uF (uF (uF (uF x9 66 0 0) 73 0 0) 73 2 (-1)) 104 1 (-1)).2.2 = x9.2.2 := rfl
    have hXf : WXr (uF (uF (uF (uF x9 66 0 0) 73 0 0) 73 2 (-1)) 104 1 (-1)).1 (uF (uF (uF (uF x9 66 0 0) 73 0 0) 73 2 (-1)) 104 1 (-1)).2.2 := hX9
    generalize uF (uF (uF (uF x9 66 0 0) 73 0 0) 73 2 (-1)) 104 1 (-1) = xf at v66 v66b v73 v73b v73c v104 vc vr hXf ⊢
    refine sx_gRe hXf rfl rfl (show xf.2.2 1 ((1 : Nat) : Int) = s by rw [vr]; exact s1) ?_
    refine mx_gI hXf hsm (ok_some ?_)
    -- what holds
    have cx : ∀ k, k ≠ 2 → k ≠ 66 → k ≠ 73 → k ≠ 104 → xf.2.1 k = x.2.1 k := fun k a b c d => (vc k b c d).trans (by rw [si]; exact uF_cell a)
    have cσ : ∀ k, k ≠ 2 → k ≠ 5 → k ≠ 6 → k ≠ 7 → ¬ (s ≤ k ∧ k ≤ s + 14) → k ≠ 66 → k ≠ 73 → k ≠ 104 → xf.2.1 k = σ.2.1 k := fun k a b c d e f g i => (cx k a f g i).trans (by funext q; exact Gx.c (by unfold CAf; omega))
    have ff : ∀ k j : Nat, k ≠ 2 → ¬ (s ≤ k ∧ k ≤ s + 14) → k ≠ 5 → k ≠ 6 → k ≠ 7 → fI x9 k j = fI σ k j := fun k j a b c d e => by
      unfold fI
      rw [si, uF_k a]
      exact Gx.c (by unfold CAf; omega)
    obtain ⟨h4, h6, h7, h8⟩ := invK (τ := xf) (w := w) h (by rw [vr]; exact s5 _ _ (.inr (by decide))) (fun i => by rw [vr]; exact s5 _ _ (.inl (by decide))) (fun k q => cσ k (by omega) (by omega) (by omega) (by omega) (by omega) (by omega) (by omega) (by omega)) (fun k a b => by rw [wc k (by omega)]; funext i; exact Gy.c (by unfold PrA RAf; omega)) (fun j q => (wj j (by omega) (by omega) (by omega)).trans (Gy.f (by unfold PrA RAf; omega)))
    have lw : fI xf s 0 = y'.2.1 4 rb := by
      rw [hmach.1.1.1]
      exact congrFun (cx s (by omega) (by omega) (by omega) (by omega)) _
    refine ⟨by dsimp only; rw [lw], s, rb, ⟨⟨hXf, hMw⟩, ?_, ⟨hsm, by rw [vr]; exact s1, w31, hrb, hmach.keep (cx s (by omega) (by omega) (by omega) (by omega)) (fun d a b => cx (s + d) (by omega) (by omega) (by omega) (by omega)) (fun k a b => wc k (by omega))⟩, ?_, h4, ⟨?_, .inl v73c⟩, h6, h7, h8, .inl v104⟩, by rw [vr, s2]; omega, cσ 3 (by omega) (by omega) (by omega) (by omega) (by omega) (by omega) (by omega) (by omega)⟩
    · have t2 : fI xf 2 2 = 0 := by
        unfold fI
        rw [vc 2 (by decide) (by decide) (by decide), si]
        exact fI_eq
      have tj : ∀ j, j ≠ 2 → fI xf 2 j = fI x 2 j := fun j hj => by
        have : fI xf 2 j = fI (uF x 2 2 0) 2 j := by
          unfold fI
          rw [vc 2 (by decide) (by decide) (by decide), si]
        exact this.trans (fI_j hj)
      refine ⟨?_, by dsimp only; rw [t2]; omega, by dsimp only; rw [t2]; omega, fun j a b => ?_, ?_, ?_, ?_⟩
      · dsimp only
        rw [t2, wj 2 (by decide) (by decide) (by decide)]; exact y2'
      · dsimp only at b
        rw [t2] at b; omega
      · dsimp only
        rw [tj 12 (by decide), wj 4 (by decide) (by decide) (by decide), g5, q5]
      · dsimp only
        rw [tj 13 (by decide), wj 5 (by decide) (by decide) (by decide), g6, q6]
      · dsimp only
        rw [tj 12 (by decide), tj 13 (by decide), g5, g6]
        decide
    · obtain ⟨a1, ⟨a2, a3, a4⟩, a5⟩ := hfa
      refine ⟨⟨?_, ?_, ?_⟩, ⟨?_, ?_, ?_⟩, fun f a b => ?_⟩
      · dsimp only
        rw [v66, w67]
      · dsimp only
        rw [v66]; omega
      · dsimp only
        rw [v66]; omega
      · dsimp only
        rw [v66b, ff 66 1 (by decide) (by omega) (by decide) (by decide) (by decide), wj 68 (by decide) (by decide) (by decide), ← a2]
        exact Gy.f (by unfold PrA RAf; omega)
      · dsimp only
        rw [v66b, ff 66 1 (by decide) (by omega) (by decide) (by decide) (by decide)]; exact a3
      · dsimp only
        rw [v66b, ff 66 1 (by decide) (by omega) (by decide) (by decide) (by decide)]; exact a4
      · dsimp only at b
        rw [v66] at b; omega
    · obtain ⟨a1, ⟨a2, a3, a4⟩, a5⟩ := hfl
      refine ⟨⟨?_, ?_, ?_⟩, ⟨?_, ?_, ?_⟩, fun f a b => ?_⟩
      · dsimp only
        rw [v73, w73]
      · dsimp only
        rw [v73]; omega
      · dsimp only
        rw [v73]; omega
      · dsimp only
        rw [v73b, ff 73 1 (by decide) (by omega) (by decide) (by decide) (by decide), wj 74 (by decide) (by decide) (by decide), ← a2]
        exact Gy.f (by unfold PrA RAf; omega)
      · dsimp only
        rw [v73b, ff 73 1 (by decide) (by omega) (by decide) (by decide) (by decide)]; exact a3
      · dsimp only
        rw [v73b, ff 73 1 (by decide) (by omega) (by decide) (by decide) (by decide)]; exact a4
      · dsimp only at b
        rw [v73] at b; omega
  · obtain ⟨g1, ⟨g2, g3, g4⟩, g5, g6, g7⟩ := (xd.2.2 : XD z d x)
    obtain ⟨⟨q1, q2, q3⟩, q4, q5⟩ := (md.2.2 : MD d y')
    refine sx_rcv xd.1 rfl rfl (ok_rw (sound_eq xd) ?_)
    refine ok_rZ (.inl rfl) ?_
    unfold JmM
    refine sm_rcv md.1 (ok_rw (isGood_eq md) (ok_z0 (ok_some ?_)))
    refine sx_gR xd.1 rfl rfl rfl ?_
    refine sx_pI xd.1 rfl rfl ?_
    refine ok_z0 (ok_some ⟨rfl, m, bk, invDead hm hse hbk hrbe h (Gx.wF (.inl rfl)) Gy ⟨?_, ?_, ?_, fun j a b => ?_, ?_, ?_, ?_⟩, ?_, ?_⟩)
    · dsimp only
      rw [fI_eq]; exact y2'
    · dsimp only
      rw [fI_eq]; omega
    · dsimp only
      rw [fI_eq]; omega
    · dsimp only at b
      rw [fI_eq] at b; omega
    · dsimp only
      rw [fI_j (by decide), g2, q1]
    · dsimp only
      rw [fI_j (by decide), g5, q4]
    · dsimp only
      rw [fI_j (by decide), fI_j (by decide), g2, g5]
      omega
    · show x.2.2 1 _ = _
      rw [Gx.2.1, hs, hse]
    · dsimp only
      rw [uF_cell (by decide)]
      funext i
      exact Gx.c (by unfold CAf; omega)
end F
