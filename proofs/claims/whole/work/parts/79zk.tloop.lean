/-! the pure part: all lines of a treaty -/
section F
variable {N : Nat} {σ τ υ σm τm w : St} {z : Zs} {n : Int} {t : Nat}
theorem tcn_rg (f : Int → Int) : 0 ≤ tcn f ∧ tcn f ≤ 4 := by
  have a := bI_rg (f 0)
  have b := bI_rg (f 1)
  have c := bI_rg (f 2)
  have d := bI_rg (f 3)
  unfold tcn
  omega
theorem tloop {Q : (St × Int) → (St × Int) → Prop} (hz : Str z) (ht : isT t) (n7 : nZ z ≤ 700) {k u : Int} {code : List Int} (h : TL z t k u code σ σm) (hN : 6000 < N) {J J' : St → Option (St × Int)} (hJ : ∀ x y, FA (TCa t) σ x → FA TRf σm y → ((∃ (k u : Int) (code : List Int), TL z t k u code x y) ∨ ∃ d, XR z (.inl d) x ∧ MR z (.inl d) y) → Ok (J x) (fun v => Ok (J' y) (Q v))) : Ok (L_X7_read_27 N t 2 J σ) (fun v => Ok (L_X12_treaty_68 N 1 J' σm) (Q v)) := by
  have htl := isT_le ht
  have zn := hz.1
  have zK := hz.2.2.1
  unfold L_X7_read_27 L_X12_treaty_68
  refine ok_fix2 (fun x y => FA (TCa t) σ x ∧ FA TRf σm y ∧ ((∃ (k u : Int) (code : List Int), TL z t k u code x y) ∨ ∃ d, XR z (.inl d) x ∧ MR z (.inl d) y)) (muL z) (fun b1 b2 x y hI hb => ?_) σ σm ⟨FA.refl, FA.refl, .inl ⟨k, u, code, h⟩⟩ (by
    obtain ⟨g1, g2, g3⟩ := (h.1.1.2.2 : XS z k σ)
    unfold muL
    rw [g2.2]
    split <;> omega)
  obtain ⟨f1, f2, hI⟩ := hI
  rcases hI with ⟨k, u, code, hM⟩ | ⟨d, xd, md⟩
  · have hM' := hM
    obtain ⟨hc, ⟨hmr, hmc⟩, ⟨hu, hl⟩, ⟨l1, l2⟩, hr⟩ := hM
    obtain ⟨k1, k2, k3⟩ := hc.1.kd
    dsimp only at k1 k2
    obtain ⟨_, m6, m8, mn, mt, me, _⟩ := hmr.kd
    have rk1 := hz.rg k1
    obtain ⟨g1, g2, g3, g4, g5, g6⟩ := (hc.1.2.2 : XS z k x)
    have mu1 : muL z x = (KZ z - k).toNat + 1 := by unfold muL; rw [if_pos g5, g2.2]
    have ll := tcn_rg (x.2.1 (t + 2))
    have out : kZ z k = 102 → Ok (J x) (fun v => Ok (Option.bind (rcv shm y 12 1 (f_X12_isGood N y 1)) fun q55 => (if wr q55.2 = 0 then J' y else Option.bind (gI shm y 12 1 8) fun token_56 => (if wr token_56 = 0 then J' y else Option.bind (rcv shm y 12 1 (f_X12_readTreaty N y 1)) fun q57 => b2 q57.1))) (Q v)) := fun kd => ok_mono (hJ x y f1 f2 (.inl ⟨k, u, code, hM'⟩)) fun v hv => by
      refine sm_rcv hmr.1 (ok_rw (isGood_eq hmr) (ok_z1 ?_))
      refine sm_gI hmr.1 ?_
      exact ok_weqc (by omega) (fun _ => hv) (fun q => absurd (me.mpr kd) q)
    refine tx_gI hc.1.1 ht ?_
    refine ok_wlt (by omega) (by omega) (fun c => by omega) (fun _ => ?_)
    refine sx_rcv hc.1.1 rfl rfl (ok_rw (sound_eq hc.1) (ok_z1 ?_))
    refine sx_gI hc.1.1 rfl rfl ?_
    rw [k2]
    refine ok_weq (by omega) (by omega) (fun kd => out kd) (fun kd => ?_)
    obtain ⟨v1, e1, w1, e2, F1, F2, res⟩ := line2T (N := N) hz ht n7 (by omega) hM' kd
    refine tx_rcv hc.1.1 ht (ok_rw e1 ?_)
    have hX1 : WXr v1.1.1 v1.1.2.2 := F1.X hc.1.1
    refine tx_gI hX1 ht ?_
    refine tx_pI hX1 ht ?_
    have n2 := (nx1 hz k1 kd).2
    refine ok_mono (hb _ w1.1 ⟨(f1.trans F1).wF (.inr (.inr (.inr (.inr ⟨by omega, by omega⟩)))), f2.trans F2, ?_⟩ ?_) (fun v hv => ?_)
    · rcases res with ⟨d, xd, md⟩ | ⟨k', u', code', _, hM2⟩
      · exact .inr ⟨d, xd.wF (by omega), md⟩
      · exact .inl ⟨k', u', code', hM2⟩
    · rw [mu1]
      unfold muL
      rcases res with ⟨d, xd, md⟩ | ⟨k', u', code', kk, hM2⟩
      · obtain ⟨q0, ⟨q4, q6, q7⟩, q5⟩ := (xd.2.2 : XD z d v1.1)
        rw [fI_k (by omega), q4, if_neg (by omega)]
        omega
      · obtain ⟨q1, q2, q3, q4, q5, q6⟩ := (hM2.1.1.2.2 : XS z k' _)
        rw [q5, if_pos rfl, q2.2]
        omega
    · refine sm_rcv hmr.1 (ok_rw (isGood_eq hmr) (ok_z1 ?_))
      refine sm_gI hmr.1 ?_
      refine ok_weqc (by omega) (fun q => absurd (me.mp q) kd) (fun _ => ?_)
      exact sm_rcv hmr.1 (ok_rw e2 hv)
  · have out : Ok (J x) (fun v => Ok (Option.bind (rcv shm y 12 1 (f_X12_isGood N y 1)) fun q55 => (if wr q55.2 = 0 then J' y else Option.bind (gI shm y 12 1 8) fun token_56 => (if wr token_56 = 0 then J' y else Option.bind (rcv shm y 12 1 (f_X12_readTreaty N y 1)) fun q57 => b2 q57.1))) (Q v)) := ok_mono (hJ x y f1 f2 (.inr ⟨d, xd, md⟩)) fun v hv => sm_rcv md.1 (ok_rw (isGood_eq md) (ok_z0 hv))
    refine tx_gI xd.1 ht ?_
    refine ok_ite (fun _ => out) (fun _ => ?_)
    exact sx_rcv xd.1 rfl rfl (ok_rw (sound_eq xd) (ok_z0 out))
def JtM (N : Nat) (p0 : Int) : St → Option (St × Int) := fun t10 => Option.bind (rcv shm t10 12 1 (f_X12_isGood N t10 1)) fun q11 =>
 (if wr q11.2 = 0 then some (t10, (-1)) else Option.bind (gR shm t10 12 1 36) fun treatyLines_12 =>
 Option.bind (gR shm t10 12 1 36) fun treatyLines_13 =>
 Option.bind (aI shm t10 1 treatyLines_13 3) fun a14 =>
 Option.bind (sI shm t10 1 treatyLines_12 p0 a14) fun σ15 =>
 Jn (fun t16 : St => Jn (fun t17 : St => Option.bind (gR shm t17 12 1 36) fun treatyLines_18 =>
 Option.bind (aI shm t17 1 treatyLines_18 p0) fun a19 =>
 some (t17, a19)) fun J240_19 =>
 L_X12_treaty_182 N 1 p0 J240_19 (t16, 0)) fun J180_33 =>
 L_X12_treaty_112 N 1 p0 J180_33 (σ15, 0))
/-- the reference keeps what was read -/
theorem copyM {Q : St × Int → Prop} {p0 cl : Int} {k : Int} (h : MR z (.inr k) σ) (hp : 0 ≤ p0 ∧ p0 ≤ 2) (hcl : fI σ 1 45 = cl) (hc : 0 ≤ cl ∧ cl ≤ 700) (hN : 3000 < N) (kk : ∀ w, FA (fun k i => (k = 24 ∧ i = p0) ∨ ((k = 25 ∨ k = 26 ∨ k = 32) ∧ 4 * p0 ≤ i ∧ i < 4 * p0 + 4) ∨ ((k = 27 ∨ k = 28) ∧ 700 * p0 ≤ i ∧ i < 700 * p0 + 700)) σ w → w.2.1 24 p0 = σ.2.1 24 3 → (∀ n : Int, 0 ≤ n → n < 4 → w.2.1 32 (4 * p0 + n) = wz (σ.2.1 32 (12 + n)) ∧ w.2.1 25 (4 * p0 + n) = σ.2.1 25 (12 + n) ∧ w.2.1 26 (4 * p0 + n) = σ.2.1 26 (12 + n)) → (∀ c : Int, 0 ≤ c → c < cl → w.2.1 27 (700 * p0 + c) = σ.2.1 27 (2100 + c) ∧ w.2.1 28 (700 * p0 + c) = σ.2.1 28 (2100 + c)) → Q (w, σ.2.1 24 3)) : Ok (JtM N p0 σ) Q := by
  have hM := h.1
  unfold JtM
  refine sm_rcv hM (ok_rw (isGood_eq h) (ok_z1 ?_))
  refine sm_gR hM rfl (sm_gR hM rfl ?_)
  refine sm_aI hM rfl rfl (by decide) (by decide) (by decide) ?_
  refine sm_sI hM rfl rfl (by decide) (by omega) (by omega) ?_
  have G0 : FA (fun k i => (k = 24 ∧ i = p0)) σ (uI σ 24 p0 (σ.2.1 24 3)) := FA.refl.wI ⟨rfl, rfl⟩
  have v24 : (uI σ 24 p0 (σ.2.1 24 3)).2.1 24 p0 = σ.2.1 24 3 := uI_eq
  generalize uI σ 24 p0 (σ.2.1 24 3) = y at G0 v24 ⊢
  have hMy := G0.M hM
  refine ok_JnC (fun x => FA (fun k i => (k = 25 ∨ k = 26 ∨ k = 32) ∧ 4 * p0 ≤ i ∧ i < 4 * p0 + 4) y x ∧ ∀ n : Int, 0 ≤ n → n < 4 → x.2.1 32 (4 * p0 + n) = wz (σ.2.1 32 (12 + n)) ∧ x.2.1 25 (4 * p0 + n) = σ.2.1 25 (12 + n) ∧ x.2.1 26 (4 * p0 + n) = σ.2.1 26 (12 + n)) (fun x hx => ?_) (fun J hJ => ?_)
  · obtain ⟨G1, g1⟩ := hx
    have hMx := G1.M hMy
    refine ok_JnC (fun w => FA (fun k i => (k = 27 ∨ k = 28) ∧ 700 * p0 ≤ i ∧ i < 700 * p0 + 700) x w ∧ ∀ c : Int, 0 ≤ c → c < cl → w.2.1 27 (700 * p0 + c) = σ.2.1 27 (2100 + c) ∧ w.2.1 28 (700 * p0 + c) = σ.2.1 28 (2100 + c)) (fun w hw => ?_) (fun J hJ => ?_)
    · obtain ⟨G2, g2⟩ := hw
      have hMw := G2.M hMx
      refine sm_gR hMw rfl ?_
      refine sm_aI hMw rfl rfl (by decide) (by omega) (by omega) ?_
      have e24 : w.2.1 24 p0 = σ.2.1 24 3 := (G2.c (by omega)).trans ((G1.c (by omega)).trans v24)
      rw [e24]
      refine ok_some (kk w (((G0.mono fun k i q => .inl q).trans (G1.mono fun k i q => .inr (.inl q))).trans (G2.mono fun k i q => .inr (.inr q))) e24 (fun n a b => ?_) g2)
      rw [G2.c (by omega), G2.c (by omega), G2.c (by omega)]
      exact g1 n a b
    · unfold L_X12_treaty_182
      refine ok_fix (fun q => (0 ≤ q.2 ∧ q.2 ≤ cl) ∧ FA (fun k i => (k = 27 ∨ k = 28) ∧ 700 * p0 ≤ i ∧ i < 700 * p0 + 700) x q.1 ∧ ∀ c : Int, 0 ≤ c → c < q.2 → q.1.2.1 27 (700 * p0 + c) = σ.2.1 27 (2100 + c) ∧ q.1.2.1 28 (700 * p0 + c) = σ.2.1 28 (2100 + c)) (fun q => (cl - q.2).toNat) (fun back q hq hback => ?_) _ ⟨by dsimp only; omega, FA.refl, fun c a b => by dsimp only at b; omega⟩ (by dsimp only; omega)
      obtain ⟨s, i⟩ := q
      obtain ⟨g2, g3, g4⟩ := hq
      dsimp only at g2 g3 g4 hback ⊢
      have hMs := g3.M hMx
      refine sm_gI hMs ?_
      rw [show fI s 1 45 = cl from (g3.f (by omega)).trans ((G1.f (by omega)).trans ((G0.f (by omega)).trans hcl))]
      refine ok_wlt (by omega) (by omega) (fun c => ?_) (fun c => hJ s ⟨g3, fun c' a b => g4 c' a (by omega)⟩)
      refine sm_gR hMs rfl (sm_gR hMs rfl ?_)
      refine sm_aI hMs rfl rfl (by decide) (by omega) (by omega) ?_
      have r27 : s.2.1 27 (2100 + i) = σ.2.1 27 (2100 + i) := (g3.c (by omega)).trans ((G1.c (by omega)).trans (G0.c (by omega)))
      have r28 : s.2.1 28 (2100 + i) = σ.2.1 28 (2100 + i) := (g3.c (by omega)).trans ((G1.c (by omega)).trans (G0.c (by omega)))
      rw [r27]
      refine sm_sI hMs rfl rfl (by decide) (by omega) (by omega) ?_
      refine sm_gR (σ := uI s 27 (700 * p0 + i) (σ.2.1 27 (2100 + i))) hMs rfl (sm_gR (σ := uI s 27 (700 * p0 + i) (σ.2.1 27 (2100 + i))) hMs rfl ?_)
      refine sm_aI (σ := uI s 27 (700 * p0 + i) (σ.2.1 27 (2100 + i))) hMs rfl rfl (by decide) (by omega) (by omega) ?_
      rw [uI_k (k := 28) (k' := 27) (by decide), r28]
      refine sm_sI (σ := uI s 27 (700 * p0 + i) (σ.2.1 27 (2100 + i))) hMs rfl rfl (by decide) (by omega) (by omega) (st_Lt (hback _ ⟨by dsimp only; omega, (g3.wI ⟨.inl rfl, by omega, by omega⟩).wI ⟨.inr rfl, by omega, by omega⟩, fun c' a b => ?_⟩ (by dsimp only; omega)))
      dsimp only at b ⊢
      by_cases e : c' = i
      · subst e
        refine ⟨?_, uI_eq⟩
        rw [uI_k (by decide), uI_eq]
      · have g5 := g4 c' a (by omega)
        refine ⟨?_, ?_⟩
        · rw [uI_k (by decide), uI_j (by omega)]; exact g5.1
        · rw [uI_j (by omega), uI_k (by decide)]; exact g5.2
  · unfold L_X12_treaty_112
    refine ok_fix (fun q => (0 ≤ q.2 ∧ q.2 ≤ 4) ∧ FA (fun k i => (k = 25 ∨ k = 26 ∨ k = 32) ∧ 4 * p0 ≤ i ∧ i < 4 * p0 + 4) y q.1 ∧ ∀ n : Int, 0 ≤ n → n < q.2 → q.1.2.1 32 (4 * p0 + n) = wz (σ.2.1 32 (12 + n)) ∧ q.1.2.1 25 (4 * p0 + n) = σ.2.1 25 (12 + n) ∧ q.1.2.1 26 (4 * p0 + n) = σ.2.1 26 (12 + n)) (fun q => (4 - q.2).toNat) (fun back q hq hback => ?_) _ ⟨by dsimp only; omega, FA.refl, fun c a b => by dsimp only at b; omega⟩ (by dsimp only; omega)
    obtain ⟨s, i⟩ := q
    obtain ⟨g2, g3, g4⟩ := hq
    dsimp only at g2 g3 g4 hback ⊢
    have hMs := g3.M hMy
    refine ok_wlt (by omega) (by omega) (fun c => ?_) (fun c => hJ s ⟨g3, fun c' a b => g4 c' a (by omega)⟩)
    have r32 : s.2.1 32 (12 + i) = σ.2.1 32 (12 + i) := (g3.c (by omega)).trans (G0.c (by omega))
    have r25 : s.2.1 25 (12 + i) = σ.2.1 25 (12 + i) := (g3.c (by omega)).trans (G0.c (by omega))
    have r26 : s.2.1 26 (12 + i) = σ.2.1 26 (12 + i) := (g3.c (by omega)).trans (G0.c (by omega))
    refine sm_gR hMs rfl (sm_gR hMs rfl ?_)
    refine sm_aI hMs rfl rfl (by decide) (by omega) (by omega) ?_
    rw [r32]
    refine sm_sI hMs rfl rfl (by decide) (by omega) (by omega) ?_
    refine sm_gR (σ := uI s 32 (4 * p0 + i) (wz (σ.2.1 32 (12 + i)))) hMs rfl (sm_gR (σ := uI s 32 (4 * p0 + i) (wz (σ.2.1 32 (12 + i)))) hMs rfl ?_)
    refine sm_aI (σ := uI s 32 (4 * p0 + i) (wz (σ.2.1 32 (12 + i)))) hMs rfl rfl (by decide) (by omega) (by omega) ?_
    rw [uI_k (k := 25) (k' := 32) (by decide), r25]
    refine sm_sI (σ := uI s 32 (4 * p0 + i) (wz (σ.2.1 32 (12 + i)))) hMs rfl rfl (by decide) (by omega) (by omega) ?_
    refine sm_gR (σ := uI (uI s 32 (4 * p0 + i) (wz (σ.2.1 32 (12 + i)))) 25 (4 * p0 + i) (σ.2.1 25 (12 + i))) hMs rfl (sm_gR (σ := uI (uI s 32 (4 * p0 + i) (wz (σ.2.1 32 (12 + i)))) 25 (4 * p0 + i) (σ.2.1 25 (12 + i))) hMs rfl ?_)
    refine sm_aI (σ := uI (uI s 32 (4 * p0 + i) (wz (σ.2.1 32 (12 + i)))) 25 (4 * p0 + i) (σ.2.1 25 (12 + i))) hMs rfl rfl (by decide) (by omega) (by omega) ?_
    rw [uI_k (k := 26) (k' := 25) (by decide), uI_k (k := 26) (k' := 32) (by decide), r26]
    refine sm_sI (σ := uI (uI s 32 (4 * p0 + i) (wz (σ.2.1 32 (12 + i)))) 25 (4 * p0 + i) (σ.2.1 25 (12 + i))) hMs rfl rfl (by decide) (by omega) (by omega) (st_Lt (hback _ ⟨by dsimp only; omega, ((g3.wI ⟨.inr (.inr rfl), by omega, by omega⟩).wI ⟨.inl rfl, by omega, by omega⟩).wI ⟨.inr (.inl rfl), by omega, by omega⟩, fun c' a b => ?_⟩ (by dsimp only; omega)))
    dsimp only at b ⊢
    by_cases e : c' = i
    · subst e
      refine ⟨?_, ?_, uI_eq⟩
      · rw [uI_k (by decide), uI_k (by decide), uI_eq]
      · rw [uI_k (by decide), uI_eq]
    · have g5 := g4 c' a (by omega)
      refine ⟨?_, ?_, ?_⟩
      · rw [uI_k (by decide), uI_k (by decide), uI_j (by omega)]; exact g5.1
      · rw [uI_k (by decide), uI_j (by omega), uI_k (by decide)]; exact g5.2.1
      · rw [uI_j (by omega), uI_k (by decide), uI_k (by decide)]; exact g5.2.2
end F
