/-! the pure part: all lines of a machine -/
theorem ok_swap {α β : Type} {a : Option α} {b : Option β} {Q : α → β → Prop} (h : Ok b (fun w => Ok a (fun v => Q v w))) : Ok a (fun v => Ok b (Q v)) := by
  obtain ⟨w, e, v, e2, q⟩ := h
  exact ⟨v, e2, w, e, q⟩
theorem ok_cont {α β γ : Type} {a : Option α} {b : Option β} {c : α → Option γ} {Q : γ → β → Prop} (h : Ok a (fun u => Ok b (fun w => Ok (c u) (fun v => Q v w)))) : Ok (Option.bind a c) (fun v => Ok b (Q v)) := by
  obtain ⟨u, e, w, e2, v, e3, q⟩ := h
  exact ok_rw e ⟨v, e3, w, e2, q⟩
section F
variable {N : Nat} {σ τ υ σm τm w : St} {z : Zs} {r : RS} {m : Nat} {bk : Int}
def muL (z : Zs) (t : St) : Nat := if fI t 2 12 = 0 then (KZ z - fI t 2 7).toNat + 1 else 0
theorem mloop {Q : (St × Int) → (St × Int) → Prop} (hz : Str z) (hm : isM m) (hk : bk = 0 ∨ bk = 1) {k : Int} (h : ML z m bk k σ σm) (hN : 5000 < N) {J J' : St → Option (St × Int)} (hJ : ∀ x y, FA (CAf m) σ x → FA (RAf bk) σm y → ((∃ k, ML z m bk k x y) ∨ ∃ d, XR z (.inl d) x ∧ MR z (.inl d) y) → Ok (J x) (fun v => Ok (J' y) (Q v))) : Ok (L_X3_read_13 N m 2 J σ) (fun v => Ok (L_X12_machine_126 N 1 J' σm) (Q v)) := by
  have hml := isM_le hm
  have zn := hz.1
  have zK := hz.2.2.1
  unfold L_X3_read_13 L_X12_machine_126
  refine ok_fix2 (fun t u => FA (CAf m) σ t ∧ FA (RAf bk) σm u ∧ ((∃ k, ML z m bk k t u) ∨ ∃ d, XR z (.inl d) t ∧ MR z (.inl d) u)) (muL z) (fun b1 b2 t u hI hb => ?_) σ σm ⟨FA.refl, FA.refl, .inl ⟨k, h⟩⟩ (by
    obtain ⟨g1, g2, g3⟩ := (h.1.1.2.2 : XS z k σ)
    unfold muL
    rw [g2.2]
    split <;> omega)
  obtain ⟨f1, f2, hI⟩ := hI
  rcases hI with ⟨k, hM⟩ | ⟨d, xd, md⟩
  · have hM' := hM
    obtain ⟨⟨hx, hmr, hb0⟩, ⟨⟨⟨l1, l2, l3⟩, _⟩, _⟩, _, _, hl⟩ := hM
    obtain ⟨k1, k2, k3⟩ := hx.kd
    obtain ⟨_, m6, m8, mn, mt, me, _⟩ := hmr.kd
    have rk := hz.rg k1
    obtain ⟨g1, g2, g3, g4, g5, g6⟩ := (hx.2.2 : XS z k t)
    have mu1 : muL z t = (KZ z - k).toNat + 1 := by unfold muL; rw [if_pos g5, g2.2]
    have out : kZ z k = 102 → Ok (J t) (fun v => Ok (Option.bind (rcv shm u 12 1 (f_X12_isGood N u 1)) fun q35 => (if wr q35.2 = 0 then J' u else Option.bind (gI shm u 12 1 8) fun token_36 => (if wr token_36 = 0 then J' u else Option.bind (rcv shm u 12 1 (f_X12_readMachine N u 1)) fun q37 => b2 q37.1))) (Q v)) := fun kd => ok_mono (hJ t u f1 f2 (.inl ⟨k, hM'⟩)) fun v hv => by
      refine sm_rcv hmr.1 (ok_rw (isGood_eq hmr) (ok_z1 ?_))
      refine sm_gI hmr.1 ?_
      exact ok_weqc (by omega) (fun _ => hv) (fun q => absurd (me.mpr kd) q)
    refine mx_gI hx.1 hm ?_
    refine ok_wlt (by omega) (by omega) (fun c => ?_) (fun c => out ?_)
    · refine sx_rcv hx.1 rfl rfl (ok_rw (sound_eq hx) (ok_z1 ?_))
      refine sx_gI hx.1 rfl rfl ?_
      rw [k2]
      refine ok_weq (by omega) (by omega) (fun kd => out kd) (fun kd => ?_)
      obtain ⟨v1, e1, w1, e2, F1, F2, res⟩ := line2 (N := N) hz hm hk hM' kd (by omega)
      refine mx_rcv hx.1 hm (ok_rw e1 ?_)
      have hX1 : WXr v1.1.1 v1.1.2.2 := F1.X hx.1
      refine mx_gI hX1 hm ?_
      refine mx_pI hX1 hm ?_
      have n2 := (nx1 hz k1 kd).2
      refine ok_mono (hb _ w1.1 ⟨(f1.trans F1).wF (.inr (.inr (.inr (.inr ⟨by omega, by omega⟩)))), f2.trans F2, ?_⟩ ?_) (fun v hv => ?_)
      · rcases res with ⟨d, xd, md⟩ | ⟨k', _, hM2⟩
        · exact .inr ⟨d, xd.wF (by omega), md⟩
        · exact .inl ⟨k', hM2⟩
      · rw [mu1]
        unfold muL
        rcases res with ⟨d, xd, md⟩ | ⟨k', kk, hM2⟩
        · obtain ⟨q0, ⟨q4, q6, q7⟩, q5⟩ := (xd.2.2 : XD z d v1.1)
          rw [fI_k (by omega), q4, if_neg (by omega)]
          omega
        · obtain ⟨q1, q2, q3, q4, q5, q6⟩ := (hM2.1.1.2.2 : XS z k' _)
          rw [q5, if_pos rfl, q2.2]
          omega
      · refine sm_rcv hmr.1 (ok_rw (isGood_eq hmr) (ok_z1 ?_))
        refine sm_gI hmr.1 ?_
        refine ok_weqc (by omega) (fun q => absurd (me.mp q) kd) (fun _ => ?_)
        exact sm_rcv hmr.1 (ok_rw e2 hv)
    · by_cases kd : kZ z k = 102
      · exact kd
      · have := (nx1 hz k1 kd).2
        omega
  · have out : Ok (J t) (fun v => Ok (Option.bind (rcv shm u 12 1 (f_X12_isGood N u 1)) fun q35 => (if wr q35.2 = 0 then J' u else Option.bind (gI shm u 12 1 8) fun token_36 => (if wr token_36 = 0 then J' u else Option.bind (rcv shm u 12 1 (f_X12_readMachine N u 1)) fun q37 => b2 q37.1))) (Q v)) := ok_mono (hJ t u f1 f2 (.inr ⟨d, xd, md⟩)) fun v hv => sm_rcv md.1 (ok_rw (isGood_eq md) (ok_z0 hv))
    refine mx_gI xd.1 hm ?_
    refine ok_ite (fun _ => ?_) (fun _ => out)
    exact sx_rcv xd.1 rfl rfl (ok_rw (sound_eq xd) (ok_z0 out))
/-- the class begins: an empty machine -/
theorem clearX (hX : WXr σ.1 σ.2.2) (hm : isM m) (hN : 1000 < N) : ∃ τ, f_X3_clear N σ m = some (τ, 0) ∧ FA (fun k _ => m ≤ k ∧ k ≤ m + 14) σ τ ∧ (fI τ m 1 = 0 ∧ fI τ m 7 = 0 ∧ fI τ m 11 = 0 ∧ fI τ m 15 = 0 ∧ fI τ m 18 = 0) ∧ (∀ t : Int, 0 ≤ t → t < 3 → τ.2.1 (m + 12) t = 0 ∧ τ.2.1 (m + 13) t = 0) ∧ ∀ c : Int, 0 ≤ c → c < 64 → τ.2.1 (m + 14) c = 0 := by
  have hml := isM_le hm
  have H : Ok (f_X3_clear N σ m) (fun q => q = (uA (uA (uA (uF (uF (uF (uF (uF σ m 1 0) m 7 0) m 11 0) m 15 0) m 18 0) (m + 12) 3 0) (m + 13) 3 0) (m + 14) 64 0, 0)) := by
    unfold f_X3_clear
    refine mx_pI hX hm ?_
    refine mx_pI (σ := uF σ m 1 0) hX hm ?_
    refine mx_pI (σ := uF (uF σ m 1 0) m 7 0) hX hm ?_
    refine mx_pI (σ := uF (uF (uF σ m 1 0) m 7 0) m 11 0) hX hm ?_
    refine mx_pI (σ := uF (uF (uF (uF σ m 1 0) m 7 0) m 11 0) m 15 0) hX hm ?_
    have h5 : WXr (uF (uF (uF (uF (uF σ m 1 0) m 7 0) m 11 0) m 15 0) m 18 0).1 (uF (uF (uF (uF (uF σ m 1 0) m 7 0) m 11 0) m 15 0) m 18 0).2.2 := hX
    generalize uF (uF (uF (uF (uF σ m 1 0) m 7 0) m 11 0) m 15 0) m 18 0 = s5 at h5 ⊢
    refine mx_gR h5 hm rfl ?_
    refine ok_rw (fill_ok (m_shpA hm rfl) (by rw [h5.1]; omega) (by decide) (by omega)) ?_
    refine mx_gR (σ := uA s5 (m + 12) 3 0) h5 hm rfl ?_
    refine ok_rw (fill_ok (σ := uA s5 (m + 12) 3 0) (m_shpA hm rfl) (by show m + 13 ≤ s5.1; rw [h5.1]; omega) (by decide) (by omega)) ?_
    refine mx_gR (σ := uA (uA s5 (m + 12) 3 0) (m + 13) 3 0) h5 hm rfl ?_
    exact ok_rw (fill_ok (σ := uA (uA s5 (m + 12) 3 0) (m + 13) 3 0) (m_shpA hm rfl) (by show m + 14 ≤ s5.1; rw [h5.1]; omega) (by decide) (by omega)) (ok_some rfl)
  obtain ⟨q, e, rfl⟩ := H
  refine ⟨_, e, ⟨rfl, rfl, fun k i q => ?_⟩, ⟨?_, ?_, ?_, ?_, ?_⟩, fun t a b => ⟨?_, ?_⟩, fun c a b => ?_⟩
  · rw [uA_k (by omega), uA_k (by omega), uA_k (by omega), uF_k (by omega), uF_k (by omega), uF_k (by omega), uF_k (by omega), uF_k (by omega)]
  · show (uA (uA (uA _ _ _ _) _ _ _) _ _ _).2.1 m _ = 0
    rw [uA_k (by omega), uA_k (by omega), uA_k (by omega)]
    show fI _ m 1 = 0
    rw [fI_j (by decide), fI_j (by decide), fI_j (by decide), fI_j (by decide), fI_eq]
  · show (uA (uA (uA _ _ _ _) _ _ _) _ _ _).2.1 m _ = 0
    rw [uA_k (by omega), uA_k (by omega), uA_k (by omega)]
    show fI _ m 7 = 0
    rw [fI_j (by decide), fI_j (by decide), fI_j (by decide), fI_eq]
  · show (uA (uA (uA _ _ _ _) _ _ _) _ _ _).2.1 m _ = 0
    rw [uA_k (by omega), uA_k (by omega), uA_k (by omega)]
    show fI _ m 11 = 0
    rw [fI_j (by decide), fI_j (by decide), fI_eq]
  · show (uA (uA (uA _ _ _ _) _ _ _) _ _ _).2.1 m _ = 0
    rw [uA_k (by omega), uA_k (by omega), uA_k (by omega)]
    show fI _ m 15 = 0
    rw [fI_j (by decide), fI_eq]
  · show (uA (uA (uA _ _ _ _) _ _ _) _ _ _).2.1 m _ = 0
    rw [uA_k (by omega), uA_k (by omega), uA_k (by omega)]
    show fI _ m 18 = 0
    rw [fI_eq]
  · rw [uA_k (by omega), uA_k (by omega), uA_in ⟨a, by omega⟩]
  · rw [uA_k (by omega), uA_in ⟨a, by omega⟩]
  · rw [uA_in ⟨a, by omega⟩]
theorem and255 : ∀ i : Nat, i < 256 → andZ ((i : Int) - 128) 255 = ((i : Int) - 128) % 256 := by decide +kernel
theorem byte_rd (x : Int) : andZ (wb (wb x)) 255 = x % 256 := by
  have e : wb (wb x) = wb x := by unfold wb; omega
  have r : -128 ≤ wb x ∧ wb x < 128 := by unfold wb; omega
  have := and255 (wb x + 128).toNat (by omega)
  rw [e, show ((wb x + 128).toNat : Int) - 128 = wb x by omega] at *
  rw [this]
  unfold wb
  omega
/-- the reference takes the tape -/
theorem takeM {T : Int → Int} {n : Int} (hM : WMr σ.1 σ.2.2) (h2 : fI σ 1 2 = n) (hn : 0 ≤ n ∧ n ≤ 1300) (hT : ∀ j : Int, 0 ≤ j → j < n → T j = σ.2.1 2 j % 256) (hN : 2000 < N) : ∃ τ, f_X12_takeTape N σ 1 = some (τ, 0) ∧ FM [3] [2, 3, 4, 5, 7] σ τ ∧ MTx T n τ ∧ fI τ 1 4 = 0 ∧ fI τ 1 5 = -1 ∧ fI τ 1 7 = 0 ∧ fI τ 1 2 = 0 := by
  have H : Ok (f_X12_takeTape N σ 1) (fun q => q.2 = 0 ∧ FM [3] [2, 3, 4, 5, 7] σ q.1 ∧ MTx T n q.1 ∧ fI q.1 1 4 = 0 ∧ fI q.1 1 5 = -1 ∧ fI q.1 1 7 = 0 ∧ fI q.1 1 2 = 0) := by
    unfold f_X12_takeTape
    refine sm_pI hM ?_
    refine sm_pI (σ := uF σ 1 4 0) hM ?_
    refine sm_gI (σ := uF (uF σ 1 4 0) 1 5 (-1)) hM ?_
    rw [show fI (uF (uF σ 1 4 0) 1 5 (-1)) 1 2 = n from (fI_j (by decide)).trans ((fI_j (by decide)).trans h2)]
    refine sm_pI (σ := uF (uF σ 1 4 0) 1 5 (-1)) hM ?_
    have f0 : FM [3] [2, 3, 4, 5, 7] σ (uF (uF (uF σ 1 4 0) 1 5 (-1)) 1 3 n) := ((FM.refl.uF (by decide)).uF (by decide)).uF (by decide)
    have v3 : fI (uF (uF (uF σ 1 4 0) 1 5 (-1)) 1 3 n) 1 3 = n := fI_eq
    have v4 : fI (uF (uF (uF σ 1 4 0) 1 5 (-1)) 1 3 n) 1 4 = 0 := (fI_j (by decide)).trans ((fI_j (by decide)).trans fI_eq)
    have v5 : fI (uF (uF (uF σ 1 4 0) 1 5 (-1)) 1 3 n) 1 5 = -1 := (fI_j (by decide)).trans fI_eq
    generalize uF (uF (uF σ 1 4 0) 1 5 (-1)) 1 3 n = s at f0 v3 v4 v5 ⊢
    have hMs := f0.M hM
    refine ok_JnC (fun x => FM [3] [] s x ∧ ∀ j : Int, 0 ≤ j → j < n → x.2.1 3 j = wb (σ.2.1 2 j)) (fun x hx => ?_) (fun J hJ => ?_)
    · obtain ⟨f1, g1⟩ := hx
      have hMx := f1.M hMs
      refine sm_pI hMx ?_
      refine sm_pI (σ := uF x 1 2 0) hMx (ok_some ⟨rfl, ((f0.trans (f1.mono (fun _ h => h) (by simp))).uF (by decide)).uF (by decide), ⟨?_, hn, fun j a b => ?_⟩, ?_, ?_, fI_eq, ?_⟩)
      · exact (fI_j (by decide)).trans ((fI_j (by decide)).trans ((f1.f (by simp)).trans v3))
      · dsimp only
        rw [uF_k (by decide), uF_k (by decide), g1 j a b, byte_rd, hT j a b]
        omega
      · exact (fI_j (by decide)).trans ((fI_j (by decide)).trans ((f1.f (by simp)).trans v4))
      · exact (fI_j (by decide)).trans ((fI_j (by decide)).trans ((f1.f (by simp)).trans v5))
      · exact (fI_j (by decide)).trans fI_eq
    · unfold L_X12_takeTape_20
      refine ok_fix (fun q => (0 ≤ q.2 ∧ q.2 ≤ n) ∧ FM [3] [] s q.1 ∧ ∀ j : Int, 0 ≤ j → j < q.2 → q.1.2.1 3 j = wb (σ.2.1 2 j)) (fun q => (n - q.2).toNat) (fun back q hq hback => ?_) _ ⟨by dsimp only; omega, FM.refl, fun j a b => by dsimp only at b; omega⟩ (by dsimp only; omega)
      obtain ⟨x, i⟩ := q
      obtain ⟨g1, g2, g3⟩ := hq
      dsimp only at g1 g2 g3 hback ⊢
      have hMx := g2.M hMs
      refine sm_gI hMx ?_
      rw [show fI x 1 3 = n from (g2.f (by simp)).trans v3]
      refine ok_wlt (by omega) (by omega) (fun c => ?_) (fun c => hJ x ⟨g2, fun j a b => g3 j a (by omega)⟩)
      refine sm_gR hMx rfl ?_
      refine sm_gR hMx rfl ?_
      refine sm_aI hMx rfl rfl (by decide) (by omega) (by omega) ?_
      refine sm_sI hMx rfl rfl (by decide) (by omega) (by omega) (st_Lt (hback _ ⟨by dsimp only; omega, g2.uI (by decide) (by decide), fun j a b => ?_⟩ (by dsimp only; omega)))
      dsimp only at b ⊢
      by_cases q : j = i
      · rw [q, uI_eq, g2.c (by decide) (by decide), f0.c (by decide) (by decide)]
      · rw [uI_j q]; exact g3 j a (by omega)
  obtain ⟨⟨τ, v⟩, e, h1, h2⟩ := H
  dsimp only at h1 h2
  subst h1
  exact ⟨τ, e, h2⟩
/-- the reference at the first TOKEN -/
theorem firstM (hz : Str z) (hM : WMr σ.1 σ.2.2) (ht : MTx (tZ z) (nZ z) σ) (h7 : fI σ 1 7 = 0) (h4 : fI σ 1 4 = 0) (h5 : fI σ 1 5 = -1) (hN : 2000 < N) : ∃ τ, f_X12_next N σ 1 = some (τ, 0) ∧ MR z (.inr 0) τ ∧ FM [] [6, 7, 8, 9, 10] σ τ := by
  have zn := hz.1
  have zK := hz.2.2.1
  obtain ⟨τ, e, f, a, e', kd, w, t1, t2, t3, t4⟩ := nextM (N := N) hM ht (p := 0) ⟨Int.le_refl 0, zn.1⟩ h7 hN
  have t0 := hz.tok (q := 0) ⟨Int.le_refl 0, by omega⟩
  rw [hz.2.2.2.1] at t0
  obtain ⟨rfl, rfl, rfl, rfl⟩ := t1.uni t0
  exact ⟨τ, e, ⟨f.M hM, ht.fm f (by decide) (by decide), ⟨Int.le_refl 0, by omega⟩, t2, t3, t4, (f.f (by decide)).trans h4, (f.f (by decide)).trans h5⟩, f⟩
end F
