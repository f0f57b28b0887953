/-! the pure part: the op TREATY -/
section F
variable {N : Nat} {σ τ υ σm τm w : St} {z : Zs} {m : Nat} {bk : Int} {t : Int → Nat} {sp : Nat}
theorem WXr.wRi (h : WXr σ.1 σ.2.2) {k v : Nat} {i : Int} (e : ∀ j, rxT k j = none) : WXr (uR σ k i v).1 (uR σ k i v).2.2 := ⟨h.1, fun k' j' v' q => by
  show (if k' = k ∧ (j' : Int) = i then v else σ.2.2 k' (j' : Int)) = v'
  rw [if_neg]
  · exact h.2 k' j' v' q
  · rintro ⟨rfl, _⟩
    rw [e] at q; cases q⟩
theorem sx_sR {α : Type} {Q : α → Prop} {tt k n v : Nat} {i : Int} {f : St → Option α} (hX : WXr σ.1 σ.2.2) (hs : shp shx k = (tt, n)) (hk : Nat.ble k 113 = true) (hn : n < 2147483648) (h0 : 0 ≤ i) (h1 : i < (n : Int)) (hv : shp shx v = (0, 7)) (hv2 : v ≤ 113) (h : Ok (f (uR σ k i v)) Q) : Ok (Option.bind (sR shx σ tt k i v) f) Q := by
  have e : wr i = i := wr_id (by omega) (by omega)
  unfold sR; rw [e, if_pos ⟨⟨by rw [hs], by rw [hX.1]; exact Nat.le_of_ble_eq_true hk, h0, by rw [hs]; exact h1⟩, hv, by rw [hX.1]; exact hv2⟩]; exact h
def PtA : Nat → Int → Prop := fun k i => (k = 1 ∧ (i < 0 ∨ (2 ≤ i ∧ i ≤ 10) ∨ (45 ≤ i ∧ i ≤ 46))) ∨ k = 3 ∨ (k = 24 ∧ i = 3) ∨ (k = 32 ∧ 12 ≤ i ∧ i ≤ 15)
/-- the reference up to its loop -/
theorem prepT {Q : St × Int → Prop} {T : Int → Int} {n p0 : Int} (hz : Str z) (hT : tZ z = T) (hnn : nZ z = n) (hM : WMr σm.1 σm.2.2) (h2 : fI σm 1 2 = n) (hn : 0 ≤ n ∧ n ≤ 700) (hTT : ∀ j : Int, 0 ≤ j → j < n → T j = σm.2.1 2 j % 256) (hp : 0 ≤ p0 ∧ p0 ≤ 2) (hN : 2000 < N) (k : ∀ y, MR z (.inr 0) y → FA PtA σm y → fI y 1 2 = 0 → MC (0, 0, []) y → y.2.1 24 3 = 0 → (∀ c : Int, 0 ≤ c → c < 4 → y.2.1 32 (12 + c) = 0) → Ok (L_X12_treaty_68 N 1 (JtM N p0) y) Q) : Ok (f_X12_treaty N σm 1 p0) Q := by
  unfold f_X12_treaty
  refine sm_gI hM ?_
  rw [h2]
  refine ok_wlt (by omega) (by omega) (fun c => by omega) (fun _ => ?_)
  refine om_tongue (by omega) (fun _ => ok_z1 ?_) (fun c => by omega)
  obtain ⟨y0, e0, f0, t0, v4, v5, v7, v2⟩ := takeM (N := N) hM h2 (by omega) hTT hN
  refine sm_rcv hM (ok_rw e0 ?_)
  have hM0 := f0.M hM
  have F1 : FA PtA σm y0 := by
    refine ⟨f0.1, f0.2.1, fun k i q => ?_⟩
    by_cases e : k = 1
    · subst e
      have i0 : ¬ i < 0 := fun c => q (.inl ⟨rfl, .inl c⟩)
      have := f0.f (j := i.toNat) (fun hj => q (.inl ⟨rfl, .inr (.inl (by simp at hj; omega))⟩))
      unfold fI at this
      rw [show ((i.toNat : Nat) : Int) = i by omega] at this
      exact this
    · exact f0.c e (fun hj => q (.inr (.inl (by simp at hj; exact hj))))
  refine ok_JnC (fun x => FA (fun k i => k = 32 ∧ 12 ≤ i ∧ i ≤ 15) y0 x ∧ ∀ c : Int, 0 ≤ c → c < 4 → x.2.1 32 (12 + c) = 0) (fun x hx => ?_) (fun J hJ => ?_)
  · obtain ⟨G1, g1⟩ := hx
    have hM1 := G1.M hM0
    have aj : ∀ j : Nat, fI x 1 j = fI y0 1 j := fun j => G1.f (by omega)
    refine sm_gR hM1 rfl ?_
    refine sm_sI hM1 rfl rfl (by decide) (by decide) (by decide) ?_
    refine sm_pI (σ := uI x 24 3 0) hM1 ?_
    refine sm_pI (σ := uF (uI x 24 3 0) 1 45 0) hM1 ?_
    have bj : ∀ j, j ≠ 45 → j ≠ 46 → fI (uF (uF (uI x 24 3 0) 1 45 0) 1 46 0) 1 j = fI y0 1 j := fun j a b => (fI_j b).trans ((fI_j a).trans ((fI_uk (by decide)).trans (aj j)))
    have b45 : fI (uF (uF (uI x 24 3 0) 1 45 0) 1 46 0) 1 45 = 0 := (fI_j (by decide)).trans fI_eq
    have b46 : fI (uF (uF (uI x 24 3 0) 1 45 0) 1 46 0) 1 46 = 0 := fI_eq
    have bc : ∀ k, k ≠ 1 → k ≠ 24 → (uF (uF (uI x 24 3 0) 1 45 0) 1 46 0).2.1 k = x.2.1 k := fun k a b => (uF_cell a).trans ((uF_cell a).trans (uI_cell b))
    have b24 : (uF (uF (uI x 24 3 0) 1 45 0) 1 46 0).2.1 24 3 = 0 := (uF_k (by decide)).trans ((uF_k (by decide)).trans uI_eq)
    have G2 : FA PtA σm (uF (uF (uI x 24 3 0) 1 45 0) 1 46 0) := (((F1.trans (G1.mono fun k i q => .inr (.inr (.inr q)))).wI (.inr (.inr (.inl ⟨rfl, rfl⟩)))).wF (.inl ⟨rfl, .inr (.inr (by decide))⟩)).wF (.inl ⟨rfl, .inr (.inr (by decide))⟩)
    have hM2 : WMr (uF (uF (uI x 24 3 0) 1 45 0) 1 46 0).1 (uF (uF (uI x 24 3 0) 1 45 0) 1 46 0).2.2 := hM1
    generalize uF (uF (uI x 24 3 0) 1 45 0) 1 46 0 = x2 at bj b45 b46 bc b24 G2 hM2 ⊢
    have t4 : MTx (tZ z) (nZ z) x2 := by
      rw [hT, hnn]
      exact ⟨(bj 3 (by decide) (by decide)).trans t0.1, t0.2.1, fun j p q => by rw [bc 3 (by decide) (by decide), G1.c (by omega)]; exact t0.2.2 j p q⟩
    obtain ⟨y5, e5, mr5, f5⟩ := firstM (N := N) hz hM2 t4 ((bj 7 (by decide) (by decide)).trans v7) ((bj 4 (by decide) (by decide)).trans v4) ((bj 5 (by decide) (by decide)).trans v5) hN
    refine sm_rcv hM2 (ok_rw e5 (st_Jn (k y5 mr5 ?_ ?_ ⟨?_, ?_, trivial⟩ ?_ fun c a b => ?_)))
    · exact G2.trans (f5.fa (fun i q => .inl ⟨rfl, .inl q⟩) (fun j hj => .inl ⟨rfl, .inr (.inl (by simp at hj; omega))⟩))
    · rw [f5.f (by decide), bj 2 (by decide) (by decide)]; exact v2
    · rw [f5.f (by decide)]; exact b46
    · rw [f5.f (by decide)]; exact b45
    · rw [f5.c (by decide) (by simp)]; exact b24
    · rw [f5.c (by decide) (by simp), bc 32 (by decide) (by decide)]; exact g1 c a b
  · unfold L_X12_treaty_26
    refine ok_fix (fun q => (0 ≤ q.2 ∧ q.2 ≤ 4) ∧ FA (fun k i => k = 32 ∧ 12 ≤ i ∧ i ≤ 15) y0 q.1 ∧ ∀ c : Int, 0 ≤ c → c < q.2 → q.1.2.1 32 (12 + c) = 0) (fun q => (4 - q.2).toNat) (fun back q hq hback => ?_) _ ⟨by dsimp only; omega, FA.refl, fun c p q => by dsimp only at q; omega⟩ (by dsimp only; omega)
    obtain ⟨s, i⟩ := q
    obtain ⟨g2, g3, g4⟩ := hq
    dsimp only at g2 g3 g4 hback ⊢
    have hMs := g3.M hM0
    refine ok_wlt (by omega) (by omega) (fun c => ?_) (fun c => hJ s ⟨g3, fun c' p q => g4 c' p (by omega)⟩)
    refine sm_gR hMs rfl ?_
    refine sm_sI hMs rfl rfl (by decide) (by omega) (by omega) (st_Lt (hback _ ⟨by dsimp only; omega, g3.wI ⟨rfl, by omega, by omega⟩, fun c' p q => ?_⟩ (by dsimp only; omega)))
    dsimp only at q ⊢
    by_cases e : c' = i
    · rw [e, uI_eq]
    · rw [uI_j (by omega)]; exact g4 c' p (by omega)
theorem RTl.kp {tt : Nat} {i n : Int} (h : RTl tt i n σ σm) (x : ∀ d, 1 ≤ d → d ≤ 3 → τ.2.1 (tt + d) = σ.2.1 (tt + d)) (y : w.2.1 32 (4 * i + n) = σm.2.1 32 (4 * i + n) ∧ w.2.1 25 (4 * i + n) = σm.2.1 25 (4 * i + n) ∧ w.2.1 26 (4 * i + n) = σm.2.1 26 (4 * i + n)) (y2 : ∀ j : Int, 0 ≤ j → j < 700 → w.2.1 27 (700 * i + j) = σm.2.1 27 (700 * i + j) ∧ w.2.1 28 (700 * i + j) = σm.2.1 28 (700 * i + j)) : RTl tt i n τ w := by
  have e1 := x 1 (by decide) (by decide)
  have e2 := x 2 (by decide) (by decide)
  have e3 := x 3 (by decide) (by decide)
  rcases h with ⟨h1, h2⟩ | ⟨⟨g1, g2, g3⟩, g4, g5, g6, g7⟩
  · exact .inl ⟨by rw [e2]; exact h1, by rw [y.1]; exact h2⟩
  · refine .inr ⟨⟨by rw [e2, e3]; exact g1, by rw [e1, e2, e3]; exact g2, by rw [e1, e2, e3]; exact g3⟩, by rw [y.1]; exact g4, by rw [y.2.1, e2]; exact g5, by rw [y.2.2, e3]; exact g6, fun j a b => ?_⟩
    rw [e2] at a
    rw [e3] at b
    rw [e1, (y2 j (by omega) (by omega)).1, (y2 j (by omega) (by omega)).2]
    exact g7 j a b
/-- what a treaty's text doesn't touch -/
theorem invB (h : InvR m bk t sp σ σm) (r1 : τ.2.2 1 ((1 : Nat) : Int) = σ.2.2 1 ((1 : Nat) : Int)) (c : ∀ k, (8 ≤ k ∧ k ≤ 37) ∨ (66 ≤ k ∧ k ≤ 113) → τ.2.1 k = σ.2.1 k) (d : ∀ k, (4 ≤ k ∧ k ≤ 21) ∨ (33 ≤ k ∧ k ≤ 51) → w.2.1 k = σm.2.1 k) (e : ∀ j, j = 31 ∨ 50 ≤ j → fI w 1 j = fI σm 1 j) : IMach m bk τ w ∧ IFacts τ w ∧ IAir τ w ∧ (IFly τ w ∧ IPl τ m) ∧ (IStg τ w ∧ IKn τ) ∧ IWk τ m := by
  obtain ⟨⟨h0, h0'⟩, h1, ⟨a1, a2, a3, a4, mach⟩, h3, h4, ⟨h5, h5'⟩, ⟨h6, h6'⟩, h7, h8, h9⟩ := h
  have hml := isM_le a1
  have ex : ∀ d : Nat, d ≤ 14 → τ.2.1 (m + d) = σ.2.1 (m + d) := fun d hd => c _ (.inl (by omega))
  have ef : ∀ j, fI τ m j = fI σ m j := fun j => congrFun (ex 0 (by decide)) _
  refine ⟨⟨a1, r1.trans a2, (e 31 (.inl rfl)).trans a3, a4, mach.keep (ex 0 (by decide)) (fun d a b => ex d b) (fun k a b => d k (.inl ⟨a, b⟩))⟩, h3.keep (fun k a b => c k (.inr (by omega))) (e 67 (.inr (by decide))) (e 68 (.inr (by decide))) (fun k a b => d k (.inr (by omega))), h4.keep (c 100 (.inr (by decide))) (c 101 (.inr (by decide))) (c 102 (.inr (by decide))) (e 81 (.inr (by decide))) (d 44 (.inr (by decide))) (d 45 (.inr (by decide))), ⟨h5.keep (c 73 (.inr (by decide))) (c 74 (.inr (by decide))) (c 75 (.inr (by decide))) (e 73 (.inr (by decide))) (e 74 (.inr (by decide))) (d 39 (.inr (by decide))) (d 40 (.inr (by decide))), ?_⟩, ⟨h6.keep (c 108 (.inr (by decide))) (c 109 (.inr (by decide))) (c 110 (.inr (by decide))) (e 91 (.inr (by decide))) (e 92 (.inr (by decide))) (e 93 (.inr (by decide))) (d 49 (.inr (by decide))) (d 50 (.inr (by decide))), h6'.keep fun k a b => c k (.inr (by omega))⟩, ?_⟩
  · have e2 : ∀ j, fI τ 73 j = fI σ 73 j := fun j => congrFun (c 73 (.inr (by decide))) _
    have hn := h5.1
    rcases h5' with h | ⟨g1, g2⟩
    · exact .inl ((e2 2).trans h)
    · refine .inr ⟨by rw [e2]; exact g1, fun j x y => ?_⟩
      rw [e2] at y
      have := g2 j x y
      unfold TLx2 vX wX at this ⊢
      rw [ex 13 (by decide), ex 12 (by decide), c 74 (.inr (by decide)), c 75 (.inr (by decide)), e2, e2, e2, c (77 + j.toNat) (.inr (by omega))]
      exact this
  · have e104 : ∀ j, fI τ 104 j = fI σ 104 j := fun j => congrFun (c 104 (.inr (by decide))) _
    have c1 : cW τ m = cW σ m := by unfold cW; rw [ex 5 (by decide)]
    unfold IWk WkG RmW at h9 ⊢
    rw [e104, e104, c 105 (.inr (by decide)), c1, ef 1]
    exact h9
/-- both at the first line -/
theorem TL_0 {x1 y : St} (hs : isT sp) (x1R : XR z (.inr 0) x1) (my : MR z (.inr 0) y) (mc : MC (0, 0, []) y) (a1 : fI x1 sp 1 = 0) (a2 : fI x1 sp 2 = 0) (a3 : ∀ n : Int, 0 ≤ n → n ≤ 3 → x1.2.1 (sp + 2) n = -1) (b1 : y.2.1 24 3 = 0) (b2 : ∀ c : Int, 0 ≤ c → c < 4 → y.2.1 32 (12 + c) = 0) : TL z sp 0 0 [] (uF x1 sp 0 0) y := by
  have hsl := isT_le hs
  have e : ∀ n : Int, 0 ≤ n → n ≤ 3 → (uF x1 sp 0 0).2.1 (sp + 2) n = -1 := fun n a b => (uF_k (by omega)).trans (a3 n a b)
  refine ⟨⟨x1R.wF (by omega), (fI_j (by decide)).trans a1, (fI_j (by decide)).trans a2, trivial⟩, ⟨my, mc⟩, ⟨by decide, by decide⟩, ⟨by rw [fI_eq]; exact b1, ?_⟩, fun n a b => ⟨.inl ⟨e n a b, ?_⟩, fun q => absurd (e n a b) q⟩⟩
  · rw [fI_eq]
    unfold tcn
    rw [e 0 (by decide) (by decide), e 1 (by decide) (by decide), e 2 (by decide) (by decide), e 3 (by decide) (by decide)]
    rfl
  · show wz (y.2.1 32 (4 * 3 + n)) = 0
    rw [show (4 * 3 + n : Int) = 12 + n by omega, b2 n a (by omega)]; decide
theorem gl_treaty (h : InvR m bk t sp σ σm) (hW : OWr (σ.2.1 3)) {a0 : Int} (ha : wr a0 = a0) (hN : 4000000 < N) : Ok (f_X11_treaty N σ 1 a0) (fun v => Ok (f_X12_treaty N σm 1 a0) (fun w => wr v.2 = wr w.2 ∧ ∃ (t' : Int → Nat) (sp' : Nat), InvR m bk t' sp' v.1 w.1 ∧ v.1.2.2 1 ((2 : Nat) : Int) = σ.2.2 1 ((2 : Nat) : Int) ∧ v.1.2.1 3 = σ.2.1 3)) := by
  obtain ⟨⟨hX, hM⟩, tp, hmach, hfa, hai, hfl, hst, htr, hun, hwk⟩ := id h
  have ra := wr_rg ha
  obtain ⟨⟨tr1, tr2⟩, tr3, ⟨tr4, tr5⟩, tr6, tr7, tr8, tr9⟩ := id htr
  have hsl := isT_le tr4
  obtain ⟨tx, tt⟩ := tape_TX tp
  have tn := tp.1
  have keep2 : wr (-2 : Int) = wr (-2 : Int) ∧ ∃ (t' : Int → Nat) (sp' : Nat), InvR m bk t' sp' σ σm ∧ σ.2.2 1 ((2 : Nat) : Int) = σ.2.2 1 ((2 : Nat) : Int) ∧ σ.2.1 3 = σ.2.1 3 := ⟨rfl, t, sp, h, rfl, rfl⟩
  have refM : (a0 < 0 ∨ 2 < a0 ∨ 700 < fI σ 2 2) → Ok (f_X12_treaty N σm 1 a0) (fun w => w = (σm, -2)) := fun q => by
    unfold f_X12_treaty
    refine sm_gI hM ?_
    rw [tn]
    refine ok_wlt (by omega) (by have := tx.2.1; omega) (fun _ => ok_some rfl) (fun c => ?_)
    exact om_tongue ra (fun c2 => by omega) (fun _ => ok_z0 (ok_some rfl))
  by_cases bad1 : a0 < 0 ∨ 2 < a0
  · obtain ⟨q, eq, rfl⟩ := refM (by omega)
    unfold f_X11_treaty
    refine ok_tongue ra (fun c => by omega) (fun _ => ok_z0 (ok_some (ok_eq eq keep2)))
  have hp : 0 ≤ a0 ∧ a0 ≤ 2 := by omega
  by_cases bad2 : 700 < fI σ 2 2
  · obtain ⟨q, eq, rfl⟩ := refM (by omega)
    unfold f_X11_treaty
    refine ok_tongue ra (fun _ => ok_z1 ?_) (fun c => by omega)
    refine sx_gR hX rfl rfl rfl ?_
    refine sx_gI hX rfl rfl ?_
    exact ok_wlt (by omega) (by have := tx.2.1; omega) (fun _ => ok_some (ok_eq eq keep2)) (fun c => by omega)
  -- the class begins
  have fl := fill_ok (N := N) (σ := uF (uF σ sp 1 0) sp 2 0) (k := sp + 2) (n := 4) (v := -1) (t_shpA tr4 rfl) (by show sp + 2 ≤ σ.1; rw [hX.1]; omega) (by decide) (by omega)
  have hX0 : WXr (uA (uF (uF σ sp 1 0) sp 2 0) (sp + 2) 4 (-1)).1 (uA (uF (uF σ sp 1 0) sp 2 0) (sp + 2) 4 (-1)).2.2 := hX
  have G0 : FA (TCa sp) σ (uA (uF (uF σ sp 1 0) sp 2 0) (sp + 2) 4 (-1)) := ⟨rfl, rfl, fun k i q => by
    unfold TCa at q
    rw [uA_k (by omega), uF_k (by omega), uF_k (by omega)]⟩
  have v1 : fI (uA (uF (uF σ sp 1 0) sp 2 0) (sp + 2) 4 (-1)) sp 1 = 0 := (uA_k (by omega)).trans ((fI_j (by decide)).trans fI_eq)
  have v2 : fI (uA (uF (uF σ sp 1 0) sp 2 0) (sp + 2) 4 (-1)) sp 2 = 0 := (uA_k (by omega)).trans fI_eq
  have v3 : ∀ n : Int, 0 ≤ n → n ≤ 3 → (uA (uF (uF σ sp 1 0) sp 2 0) (sp + 2) 4 (-1)).2.1 (sp + 2) n = -1 := fun n a b => uA_in ⟨a, by omega⟩
  have go0 : ∀ {Q : St × Int → Prop} {f : St × Int → Option (St × Int)}, Ok (f (uA (uF (uF σ sp 1 0) sp 2 0) (sp + 2) 4 (-1), 0)) Q → Ok (Option.bind (f_J7_fill_53178 N (uF (uF σ sp 1 0) sp 2 0) (sp + 2) (-1)) f) Q := fun q => ok_rw fl q
  have v4 : ∀ k, ¬ (sp ≤ k ∧ k ≤ sp + 2) → (uA (uF (uF σ sp 1 0) sp 2 0) (sp + 2) 4 (-1)).2.1 k = σ.2.1 k := fun k q => (uA_cell (by omega)).trans ((uF_cell (by omega)).trans (uF_cell (by omega)))
  generalize uA (uF (uF σ sp 1 0) sp 2 0) (sp + 2) 4 (-1) = x0 at hX0 G0 v1 v2 v3 v4 go0
  have tx0 : TX (fun j => σ.2.1 4 j) (fI σ 2 2) x0 := ⟨congrFun (v4 2 (by omega)) _, tx.2.1, fun j a b => by rw [v4 4 (by omega)]; exact tx.2.2 j a b⟩
  have hW0 : OWr (x0.2.1 3) := fun j a b => by rw [v4 3 (by omega)]; exact hW j a b
  obtain ⟨x1, z, e1, hz, zT, zn, x1R, f1⟩ := begin_eq (N := N) hX0 tx0 hW0 (by omega)
  have n7 : nZ z ≤ 700 := by omega
  have hX1 := f1.X hX0
  have F1 : FA (TCa sp) σ (uF x1 sp 0 0) := by
    refine FA.wF (G0.trans ⟨f1.1, f1.2.1, fun k i q => ?_⟩) (by unfold TCa; omega)
    unfold TCa at q
    exact f1.c (by omega) (by simp; omega)
  have tdis : ∀ i j : Int, (0 ≤ i ∧ i ≤ 2) → (0 ≤ j ∧ j ≤ 2) → i ≠ j → t i ≠ t j := fun i j hi hj hij => by
    have ci : i = 0 ∨ i = 1 ∨ i = 2 := by omega
    have cj : j = 0 ∨ j = 1 ∨ j = 2 := by omega
    rcases ci with rfl | rfl | rfl <;> rcases cj with rfl | rfl | rfl <;> first | (exact absurd rfl hij) | assumption | (exact Ne.symm ‹_›)
  have far : ∀ i : Int, 0 ≤ i → i < 3 → ∀ d, d ≤ 3 → ¬ (sp ≤ t i + d ∧ t i + d ≤ sp + 3) ∧ 40 ≤ t i + d ∧ t i + d ≤ 61 := fun i a b d hd => by
    have h1 := (tr1 i a b).1
    have h2 := tr6 i a b
    unfold isT at h1 tr4
    omega
  refine ok_swap ?_
  refine prepT (N := N) hz zT zn hM tp.1 ⟨tx.2.1.1, by omega⟩ tt hp (by omega) (fun y my Fy y2 mc y24 y32 => ?_)
  refine ok_swap ?_
  unfold f_X11_treaty
  refine ok_tongue ra (fun _ => ok_z1 ?_) (fun c => by omega)
  refine sx_gR hX rfl rfl rfl ?_
  refine sx_gI hX rfl rfl ?_
  refine ok_wlt (by omega) (by have := tx.2.1; omega) (fun c => by omega) (fun _ => ?_)
  refine sx_gRe hX rfl rfl tr5 ?_
  refine sx_gR hX rfl rfl rfl ?_
  refine tx_rcv hX tr4 ?_
  refine ok_cont ?_
  unfold f_X7_read
  refine tx_pI hX tr4 ?_
  refine tx_pI (σ := uF σ sp 1 0) hX tr4 ?_
  refine tx_gR (σ := uF (uF σ sp 1 0) sp 2 0) hX tr4 rfl ?_
  refine go0 ?_
  refine sx_rcv hX0 rfl rfl (ok_rw e1 ?_)
  refine tx_pI hX1 tr4 ?_
  refine st_Jn ?_
  have TL0 : TL z sp 0 0 [] (uF x1 sp 0 0) y := TL_0 tr4 x1R my mc ((f1.g (by omega) (by simp; omega)).trans v1) ((f1.g (by omega) (by simp; omega)).trans v2) (fun n a b => (f1.c (by omega) (by simp; omega)).trans (v3 n a b)) y24 y32
  refine tloop hz tr4 n7 TL0 (by omega) (fun x y' Fx Fy' res => ?_)
  have Gx := F1.trans Fx
  have Gy : FA (fun k i => PtA k i ∨ TRf k i) σm y' := (Fy.mono fun k i q => .inl q).trans (Fy'.mono fun k i q => .inr q)
  have y2' : fI y' 1 2 = 0 := (Fy'.f (by unfold TRf; omega)).trans y2
  rcases res with ⟨k, u, code, hTL⟩ | ⟨d, xd, md⟩
  · obtain ⟨hc, ⟨hmr, hmc⟩, ⟨hu, hl⟩, ⟨l1, l2⟩, hr⟩ := hTL
    obtain ⟨g1, g2, g3, g4, g5, g6⟩ := (hc.1.2.2 : XS z k x)
    obtain ⟨q1, q2, q3, q4, q5, q6⟩ := (hmr.2.2 : MS z k y')
    have zK := hz.2.2.1
    refine sx_rcv hc.1.1 rfl rfl (ok_rw (sound_eq hc.1) ?_)
    refine ok_rZ (.inr rfl) ?_
    refine copyM hmr hp hmc.2.1 ⟨by dsimp only; omega, by dsimp only; omega⟩ (by omega) (fun w Gw w24 wrr wcc => ?_)
    dsimp only at wcc
    refine sx_gR hc.1.1 rfl rfl rfl ?_
    refine sx_pI hc.1.1 rfl rfl ?_
    refine ok_z1 ?_
    have rr : x.2.2 = σ.2.2 := Gx.2.1
    have hX5 : WXr (uF x 2 2 0).1 (uF x 2 2 0).2.2 := hc.1.1
    have ta := (tr1 a0 hp.1 (by omega))
    have tal := isT_le ta.1
    refine sx_gR hX5 rfl rfl rfl ?_
    refine sx_aR hX5 rfl rfl (by decide) hp.1 (show a0 < ((3 : Nat) : Int) by omega) (show (uF x 2 2 0).2.2 39 a0 = t a0 by show x.2.2 39 a0 = _; rw [rr]; exact ta.2) ?_
    refine sx_gR hX5 rfl rfl rfl ?_
    refine sx_gRe hX5 rfl rfl (show (uF x 2 2 0).2.2 1 ((5 : Nat) : Int) = sp by show x.2.2 1 _ = _; rw [rr]; exact tr5) ?_
    refine sx_sR hX5 rfl rfl (by decide) hp.1 (show a0 < ((3 : Nat) : Int) by omega) (t_shp tr4) (by omega) ?_
    have hX6 := hX5.wRi (k := 39) (i := a0) (v := sp) (fun j => rfl)
    refine sx_pR hX6 rfl rfl ?_
    have hX7 := hX6.wR (k := 1) (j := 5) (v := t a0) rfl
    have s39 : (uR (uR (uF x 2 2 0) 39 a0 sp) 1 ((5 : Nat) : Int) (t a0)).2.2 39 a0 = sp := by
      show (if (39 : Nat) = 1 ∧ a0 = ((5 : Nat) : Int) then t a0 else (if (39 : Nat) = 39 ∧ a0 = a0 then sp else x.2.2 39 a0)) = sp
      rw [if_neg (fun q => absurd q.1 (by decide)), if_pos ⟨rfl, rfl⟩]
    have s39' : ∀ i, i ≠ a0 → (uR (uR (uF x 2 2 0) 39 a0 sp) 1 ((5 : Nat) : Int) (t a0)).2.2 39 i = σ.2.2 39 i := fun i hi => by
      show (if (39 : Nat) = 1 ∧ i = ((5 : Nat) : Int) then t a0 else (if (39 : Nat) = 39 ∧ i = a0 then sp else x.2.2 39 i)) = _
      rw [if_neg (fun q => absurd q.1 (by decide)), if_neg (fun q => hi q.2), rr]
    have s5 : (uR (uR (uF x 2 2 0) 39 a0 sp) 1 ((5 : Nat) : Int) (t a0)).2.2 1 ((5 : Nat) : Int) = t a0 := by
      show (if (1 : Nat) = 1 ∧ ((5 : Nat) : Int) = ((5 : Nat) : Int) then t a0 else (if (1 : Nat) = 39 ∧ ((5 : Nat) : Int) = a0 then sp else x.2.2 1 ((5 : Nat) : Int))) = t a0
      rw [if_pos (by decide)]
    have s1 : ∀ j : Int, j ≠ 5 → (uR (uR (uF x 2 2 0) 39 a0 sp) 1 ((5 : Nat) : Int) (t a0)).2.2 1 j = σ.2.2 1 j := fun j hj => by
      show (if (1 : Nat) = 1 ∧ j = ((5 : Nat) : Int) then t a0 else (if (1 : Nat) = 39 ∧ j = a0 then sp else x.2.2 1 j)) = _
      rw [if_neg (fun q => hj q.2), if_neg (fun q => absurd q.1 (by decide)), rr]
    have si : (uR (uR (uF x 2 2 0) 39 a0 sp) 1 ((5 : Nat) : Int) (t a0)).2.1 = (uF x 2 2 0).2.1 := rfl
    generalize uR (uR (uF x 2 2 0) 39 a0 sp) 1 ((5 : Nat) : Int) (t a0) = x7 at hX7 s39 s39' s5 s1 si ⊢
    refine sx_gR hX7 rfl rfl rfl ?_
    refine sx_rcv hX7 rfl rfl (ok_bind ?_)
    unfold f_X8_forget
    refine sx_gR hX7 rfl rfl rfl ?_
    refine ok_rw (fill_ok (n := 18) rfl (by rw [hX7.1]; decide) (by decide) (by omega)) (ok_some ?_)
    have hX8 : WXr (uA x7 65 18 (-2)).1 (uA x7 65 18 (-2)).2.2 := hX7
    have u65 : ∀ i : Int, 0 ≤ i → i < 18 → (uA x7 65 18 (-2)).2.1 65 i = -2 := fun i a b => uA_in ⟨a, b⟩
    have uc : ∀ k, k ≠ 65 → (uA x7 65 18 (-2)).2.1 k = x7.2.1 k := fun k hk => uA_cell hk
    have ur : (uA x7 65 18 (-2)).2.2 = x7.2.2 := rfl
    generalize uA x7 65 18 (-2) = xf at hX8 u65 uc ur ⊢
    refine sx_gR hX8 rfl rfl rfl ?_
    refine sx_aR hX8 rfl rfl (by decide) hp.1 (show a0 < ((3 : Nat) : Int) by omega) (show xf.2.2 39 a0 = sp by rw [ur]; exact s39) ?_
    refine tx_gI hX8 tr4 (ok_some ?_)
    have cx : ∀ k, k ≠ 2 → k ≠ 65 → xf.2.1 k = x.2.1 k := fun k a b => (uc k b).trans (by rw [si]; exact uF_cell a)
    have cσ : ∀ k, k ≠ 2 → k ≠ 5 → k ≠ 6 → k ≠ 7 → ¬ (sp ≤ k ∧ k ≤ sp + 3) → k ≠ 65 → xf.2.1 k = σ.2.1 k := fun k a b c d e f => (cx k a f).trans (by funext q; exact Gx.c (by unfold TCa; omega))
    have lw : fI xf sp 0 = y'.2.1 24 3 := by
      rw [l1]
      exact congrFun (cx sp (by omega) (by omega)) _
    have ll := tcn_rg (x.2.1 (sp + 2))
    have hMw : WMr w.1 w.2.2 := Gw.M hmr.1
    have wslot : ∀ j : Nat, fI w 1 j = fI y' 1 j := fun j => Gw.f (by omega)
    have wσ : ∀ j : Nat, j = 31 ∨ 50 ≤ j → fI w 1 j = fI σm 1 j := fun j q => (wslot j).trans (Gy.f (by unfold PtA TRf; omega))
    obtain ⟨b1, b2, b3, b4, b5, b6⟩ := invB (τ := xf) (w := w) h (by rw [ur]; exact s1 _ (by decide)) (fun k q => cσ k (by omega) (by omega) (by omega) (by omega) (by omega) (by omega)) (fun k q => by funext i; exact (Gw.c (by omega)).trans (Gy.c (by unfold PtA TRf; omega))) wσ
    refine ⟨by dsimp only; rw [lw], fun i => if i = a0 then sp else t i, t a0, ⟨⟨hX8, hMw⟩, ?_, b1, b2, b3, b4, b5, ?_, ?_, b6⟩, by rw [ur]; exact s1 _ (by decide), cσ 3 (by omega) (by omega) (by omega) (by omega) (by omega) (by omega)⟩
    · have t2 : fI xf 2 2 = 0 := by
        unfold fI
        rw [uc 2 (by decide), si]
        exact fI_eq
      have tj : ∀ j, j ≠ 2 → fI xf 2 j = fI x 2 j := fun j hj => by
        have : fI xf 2 j = fI (uF x 2 2 0) 2 j := by
          unfold fI
          rw [uc 2 (by decide), si]
        exact this.trans (fI_j hj)
      refine ⟨?_, by dsimp only; rw [t2]; omega, by dsimp only; rw [t2]; omega, fun j a b => ?_, ?_, ?_, ?_⟩
      · dsimp only
        rw [t2, wslot]; exact y2'
      · dsimp only at b
        rw [t2] at b; omega
      · dsimp only
        rw [tj 12 (by decide), wslot, g5, q5]
      · dsimp only
        rw [tj 13 (by decide), wslot, g6, q6]
      · dsimp only
        rw [tj 12 (by decide), tj 13 (by decide), g5, g6]
        decide
    · refine ⟨⟨fun i a b => ?_, fun i a b => ?_⟩, fun i a b n n0 n4 => ?_, ⟨ta.1, by rw [ur]; exact s5⟩, fun i a b => ?_, ?_, ?_, ?_⟩
      · dsimp only
        by_cases q : i = a0
        · rw [if_pos q, q, ur]
          exact ⟨tr4, s39⟩
        · rw [if_neg q, ur, s39' i q]
          exact tr1 i a b
      · dsimp only
        by_cases q : i = a0
        · rw [if_pos q, q, w24, lw, l1]
          exact ⟨rfl, by omega, by omega⟩
        · rw [if_neg q]
          have e0 : fI xf (t i) 0 = fI σ (t i) 0 := congrFun (cσ (t i) (by have := far i a b 0 (by decide); omega) (by have := far i a b 0 (by decide); omega) (by have := far i a b 0 (by decide); omega) (by have := far i a b 0 (by decide); omega) (far i a b 0 (by decide)).1 (by have := far i a b 0 (by decide); omega)) _
          rw [e0, Gw.c (by omega), Gy.c (by unfold PtA TRf; omega)]
          exact tr2 i a b
      · dsimp only
        by_cases q : i = a0
        · rw [if_pos q, q]
          have e1 := cx (sp + 1) (by omega) (by omega)
          have e2 := cx (sp + 2) (by omega) (by omega)
          have e3 := cx (sp + 3) (by omega) (by omega)
          obtain ⟨r32, r25, r26⟩ := wrr n n0 n4
          obtain ⟨hrn, hrl⟩ := hr n n0 (by omega)
          rcases hrn with ⟨h1, h2⟩ | ⟨⟨k1, k2, k3⟩, k4, k5, k6, k7⟩
          · have h2 : wz (y'.2.1 32 (4 * 3 + n)) = 0 := h2
            rw [show (4 * 3 + n : Int) = 12 + n by omega] at h2
            refine .inl ⟨by rw [e2]; exact h1, ?_⟩
            rw [r32, h2]; decide
          · rw [show (4 * 3 + n : Int) = 12 + n by omega] at k4 k5 k6
            have hle := hrl (by omega)
            refine .inr ⟨⟨by rw [e2, e3]; exact k1, by rw [e1, e2, e3]; exact k2, by rw [e1, e2, e3]; exact k3⟩, ?_, by rw [r25, e2]; exact k5, by rw [r26, e3]; exact k6, fun j c d => ?_⟩
            · rw [r32, k4]; decide
            · rw [e2] at c
              rw [e3] at d
              obtain ⟨p1, p2⟩ := wcc j (by omega) (by omega)
              have k8 := k7 j c d
              rw [show (700 * 3 + j : Int) = 2100 + j by omega] at k8
              rw [e1, p1, p2]
              exact k8
        · rw [if_neg q]
          refine (tr3 i a b n n0 n4).kp (fun d d1 d3 => ?_) ⟨?_, ?_, ?_⟩ (fun j j0 j7 => ⟨?_, ?_⟩)
          · have := far i a b d d3
            exact cσ _ (by omega) (by omega) (by omega) (by omega) this.1 (by omega)
          · rw [Gw.c (by omega), Gy.c (by unfold PtA TRf; omega)]
          · rw [Gw.c (by omega), Gy.c (by unfold PtA TRf; omega)]
          · rw [Gw.c (by omega), Gy.c (by unfold PtA TRf; omega)]
          · rw [Gw.c (by omega), Gy.c (by unfold PtA TRf; omega)]
          · rw [Gw.c (by omega), Gy.c (by unfold PtA TRf; omega)]
      · dsimp only
        by_cases q : i = a0
        · rw [if_pos q]
          exact Ne.symm (tr6 a0 hp.1 (by omega))
        · rw [if_neg q]
          exact tdis i a0 (by omega) hp q
      · dsimp only
        by_cases q : (0 : Int) = a0
        · rw [if_pos q, if_neg (by omega)]
          exact Ne.symm (tr6 1 (by decide) (by decide))
        · rw [if_neg q]
          by_cases q2 : (1 : Int) = a0
          · rw [if_pos q2]; exact tr6 0 (by decide) (by decide)
          · rw [if_neg q2]; exact tr7
      · dsimp only
        by_cases q : (0 : Int) = a0
        · rw [if_pos q, if_neg (by omega)]
          exact Ne.symm (tr6 2 (by decide) (by decide))
        · rw [if_neg q]
          by_cases q2 : (2 : Int) = a0
          · rw [if_pos q2]; exact tr6 0 (by decide) (by decide)
          · rw [if_neg q2]; exact tr8
      · dsimp only
        by_cases q : (1 : Int) = a0
        · rw [if_pos q, if_neg (by omega)]
          exact Ne.symm (tr6 2 (by decide) (by decide))
        · rw [if_neg q]
          by_cases q2 : (2 : Int) = a0
          · rw [if_pos q2]; exact tr6 1 (by decide) (by decide)
          · rw [if_neg q2]; exact tr9
    · exact fun a b ha hb => ⟨.inl (u65 _ (by omega) (by omega)), .inl (u65 _ (by omega) (by omega))⟩
  · obtain ⟨g1, ⟨g2, g3, g4⟩, g5, g6, g7⟩ := (xd.2.2 : XD z d x)
    obtain ⟨⟨q1, q2, q3⟩, q4, q5⟩ := (md.2.2 : MD d y')
    refine sx_rcv xd.1 rfl rfl (ok_rw (sound_eq xd) ?_)
    refine ok_rZ (.inl rfl) ?_
    unfold JtM
    refine sm_rcv md.1 (ok_rw (isGood_eq md) (ok_z0 (ok_some ?_)))
    refine sx_gR xd.1 rfl rfl rfl ?_
    refine sx_pI xd.1 rfl rfl ?_
    have rr : x.2.2 = σ.2.2 := Gx.2.1
    have cσ : ∀ k, k ≠ 2 → k ≠ 5 → k ≠ 6 → k ≠ 7 → ¬ (sp ≤ k ∧ k ≤ sp + 3) → (uF x 2 2 0).2.1 k = σ.2.1 k := fun k a b c d e => (uF_cell a).trans (by funext q; exact Gx.c (by unfold TCa; omega))
    obtain ⟨b1, b2, b3, b4, b5, b6⟩ := invB (τ := uF x 2 2 0) (w := y') h (by show x.2.2 1 _ = _; rw [rr]) (fun k q => cσ k (by omega) (by omega) (by omega) (by omega) (by omega)) (fun k q => by funext i; exact Gy.c (by unfold PtA TRf; omega)) (fun j q => Gy.f (by unfold PtA TRf; omega))
    have cf : ∀ i : Int, 0 ≤ i → i < 3 → ∀ d, d ≤ 3 → (uF x 2 2 0).2.1 (t i + d) = σ.2.1 (t i + d) := fun i a b d hd => by
      have := far i a b d hd
      exact cσ _ (by omega) (by omega) (by omega) (by omega) this.1
    refine ok_z0 (ok_some ⟨rfl, t, sp, ⟨⟨xd.1, md.1⟩, ⟨?_, ?_, ?_, fun j a b => ?_, ?_, ?_, ?_⟩, b1, b2, b3, b4, b5, ⟨⟨fun i a b => ?_, fun i a b => ?_⟩, fun i a b n n0 n4 => ?_, ⟨tr4, ?_⟩, tr6, tr7, tr8, tr9⟩, ?_, b6⟩, ?_, ?_⟩)
    · dsimp only
      rw [fI_eq]; exact y2'
    · dsimp only
      rw [fI_eq]; omega
    · dsimp only
      rw [fI_eq]; omega
    · dsimp only at b
      rw [fI_eq] at b; omega
    · dsimp only
      rw [fI_j (by decide), g2, q1]
    · dsimp only
      rw [fI_j (by decide), g5, q4]
    · dsimp only
      rw [fI_j (by decide), fI_j (by decide), g2, g5]
      omega
    · refine ⟨(tr1 i a b).1, ?_⟩
      show x.2.2 39 i = _
      rw [rr]; exact (tr1 i a b).2
    · dsimp only
      rw [show fI (uF x 2 2 0) (t i) 0 = fI σ (t i) 0 from congrFun (cf i a b 0 (by decide)) _, Gy.c (by unfold PtA TRf; omega)]
      exact tr2 i a b
    · refine (tr3 i a b n n0 n4).kp (fun d d1 d3 => cf i a b d d3) ⟨?_, ?_, ?_⟩ (fun j j0 j7 => ⟨?_, ?_⟩)
      · exact Gy.c (by unfold PtA TRf; omega)
      · exact Gy.c (by unfold PtA TRf; omega)
      · exact Gy.c (by unfold PtA TRf; omega)
      · exact Gy.c (by unfold PtA TRf; omega)
      · exact Gy.c (by unfold PtA TRf; omega)
    · show x.2.2 1 _ = _
      rw [rr]; exact tr5
    · exact hun.keep (fun i hi d d1 d3 => cf i hi.1 (by omega) d d3) (cσ 65 (by decide) (by decide) (by decide) (by decide) (by omega))
    · show x.2.2 1 _ = _
      rw [rr]
    · exact cσ 3 (by decide) (by decide) (by decide) (by decide) (by omega)
end F
