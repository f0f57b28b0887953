/-! the pure part: a line of a treaty, in both -/
def asksW (n k : Int) : Prop := (n = 0 ∧ 23 ≤ k ∧ k ≤ 25) ∨ (n = 1 ∧ 25 ≤ k ∧ k ≤ 26) ∨ (n = 2 ∧ 27 ≤ k ∧ k ≤ 29) ∨ (n = 3 ∧ (k = 25 ∨ (30 ≤ k ∧ k ≤ 33)))
def untold (n : Int) : Int := if n = 0 then 50 else if n = 1 then 0 else 1
/-- the class's line, told -/
def TLx (t : Nat) (n : Int) (σ : St) : Prop := (0 ≤ σ.2.1 (t + 2) n ∧ σ.2.1 (t + 2) n ≤ σ.2.1 (t + 3) n ∧ σ.2.1 (t + 3) n ≤ 700) ∧ Run (σ.2.1 (t + 1)) (σ.2.1 (t + 3) n - σ.2.1 (t + 2) n).toNat (σ.2.1 (t + 2) n) 0 1 ∧ ∀ j : Int, σ.2.1 (t + 2) n ≤ j → j < σ.2.1 (t + 3) n → -34 ≤ σ.2.1 (t + 1) j ∧ σ.2.1 (t + 1) j ≤ -24 → asksW n (-1 - σ.2.1 (t + 1) j)
def RTl (t : Nat) (i n : Int) (σx σm : St) : Prop := (σx.2.1 (t + 2) n = -1 ∧ wz (σm.2.1 32 (4 * i + n)) = 0) ∨ (TLx t n σx ∧ wz (σm.2.1 32 (4 * i + n)) = 1 ∧ σm.2.1 25 (4 * i + n) = σx.2.1 (t + 2) n ∧ σm.2.1 26 (4 * i + n) = σx.2.1 (t + 3) n ∧ ∀ j : Int, σx.2.1 (t + 2) n ≤ j → j < σx.2.1 (t + 3) n → σm.2.1 27 (700 * i + j) = rc (σx.2.1 (t + 1) j) ∧ (0 ≤ σx.2.1 (t + 1) j → σm.2.1 28 (700 * i + j) = σx.2.1 (t + 1) j))
def RTr (t : Nat) (i : Int) (σx σm : St) : Prop := ∀ n : Int, 0 ≤ n → n < 4 → RTl t i n σx σm
def lv (σ : St) (t : Nat) (n : Int) (q : Int → Int) : Int := if σ.2.1 (t + 2) n = -1 then untold n else evV (σ.2.1 (t + 1)) q (σ.2.1 (t + 2) n) (σ.2.1 (t + 3) n)
theorem RTl.keep {t : Nat} {i n : Int} {σx σm τx τm : St} (h : RTl t i n σx σm) (x : ∀ d, 1 ≤ d → d ≤ 3 → τx.2.1 (t + d) = σx.2.1 (t + d)) (y0 : τm.2.1 25 = σm.2.1 25) (y1 : τm.2.1 26 = σm.2.1 26) (y2 : τm.2.1 27 = σm.2.1 27) (y3 : τm.2.1 28 = σm.2.1 28) (y4 : τm.2.1 32 = σm.2.1 32) : RTl t i n τx τm := by
  unfold RTl TLx at h ⊢
  rw [x 1 (by decide) (by decide), x 2 (by decide) (by decide), x 3 (by decide) (by decide), y0, y1, y2, y3, y4]
  exact h
theorem RTr.keep {t : Nat} {i : Int} {σx σm τx τm : St} (h : RTr t i σx σm) (x : ∀ d, 1 ≤ d → d ≤ 3 → τx.2.1 (t + d) = σx.2.1 (t + d)) (y0 : τm.2.1 25 = σm.2.1 25) (y1 : τm.2.1 26 = σm.2.1 26) (y2 : τm.2.1 27 = σm.2.1 27) (y3 : τm.2.1 28 = σm.2.1 28) (y4 : τm.2.1 32 = σm.2.1 32) : RTr t i τx τm := fun n a b => (h n a b).keep x y0 y1 y2 y3 y4
theorem RTl.x {t : Nat} {i n : Int} {σx σm : St} (h : RTl t i n σx σm) : σx.2.1 (t + 2) n = -1 ∨ TLx t n σx := by
  rcases h with h | h
  · exact .inl h.1
  · exact .inr h.1
theorem lv_keep {σ τ : St} {t : Nat} {n : Int} {q : Int → Int} (x : ∀ d, 1 ≤ d → d ≤ 3 → τ.2.1 (t + d) = σ.2.1 (t + d)) : lv τ t n q = lv σ t n q := by
  unfold lv
  rw [x 1 (by decide) (by decide), x 2 (by decide) (by decide), x 3 (by decide) (by decide)]
theorem TLx.keep {σ τ : St} {t : Nat} {n : Int} (h : TLx t n σ) (x : ∀ d, 1 ≤ d → d ≤ 3 → τ.2.1 (t + d) = σ.2.1 (t + d)) : TLx t n τ := by
  unfold TLx at h ⊢
  rw [x 1 (by decide) (by decide), x 2 (by decide) (by decide), x 3 (by decide) (by decide)]
  exact h
theorem lv_congr {σ : St} {t : Nat} {n : Int} {q q' : Int → Int} (h : σ.2.1 (t + 2) n = -1 ∨ TLx t n σ) (e : ∀ k, asksW n k → q (k - 23) = q' (k - 23)) : lv σ t n q = lv σ t n q' := by
  unfold lv
  by_cases h1 : σ.2.1 (t + 2) n = -1
  · rw [if_pos h1, if_pos h1]
  · rw [if_neg h1, if_neg h1]
    rcases h with h | ⟨h2, h3, h4⟩
    · exact absurd h h1
    · unfold evV
      rw [evN_congr (q' := q')]
      intro j j0 j1 j2
      have := e _ (h4 j j0 (by omega) j2)
      rw [show -1 - σ.2.1 (t + 1) j - 23 = -24 - σ.2.1 (t + 1) j by omega] at this
      exact this
section Tr
variable {N : Nat}
theorem ask_eq {σ : St} (hX : WXr σ.1 σ.2.2) {t : Nat} (ht : isT t) {w v : Int} (hw : 23 ≤ w ∧ w ≤ 33) : f_X7_ask N σ t w v = some (uI σ (t + 5) (w - 23) v, 0) := by
  have H : Ok (f_X7_ask N σ t w v) (fun q => q = (uI σ (t + 5) (w - 23) v, 0)) := by
    unfold f_X7_ask
    repeat' first
      | with_reducible apply st_Lt
      | with_reducible apply st_Jn
      | ((with_reducible apply ok_some); try dsimp only)
      | with_reducible apply ok_z0
      | with_reducible apply ok_z1
      | ((with_reducible apply ok_gF_hit); exact hX; exact rfl; exact rfl)
      | ((with_reducible apply tx_gF_hit); exact hX; exact ht)
      | ((with_reducible apply ok_gF_j); decide)
      | ((with_reducible apply ok_gF_k); (first | decide | omega))
      | ((with_reducible apply ok_gU_k); (first | decide | omega))
      | ((with_reducible apply ok_aF_k); (first | decide | omega))
      | ((with_reducible apply ok_aU_k); (first | decide | omega))
      | (with_reducible apply ok_rF)
      | (with_reducible apply ok_rU)
      | (with_reducible apply ok_qF)
      | (with_reducible apply ok_qU)
      | ((with_reducible apply sx_gI); exact hX; exact rfl; exact rfl)
      | ((with_reducible apply sx_gR); exact hX; exact rfl; exact rfl; exact rfl)
      | ((with_reducible apply sx_pI); exact hX; exact rfl; exact rfl)
      | ((with_reducible apply sx_rcv); exact hX; exact rfl; exact rfl)
      | ((with_reducible apply sx_aI); exact hX; exact rfl; exact rfl; exact (by decide); omega; omega)
      | ((with_reducible apply sx_sI); exact hX; exact rfl; exact rfl; exact (by decide); omega; omega)
      | ((with_reducible apply tx_gI); exact hX; exact ht)
      | ((with_reducible apply tx_gR); exact hX; exact ht; exact rfl)
      | ((with_reducible apply tx_pI); exact hX; exact ht)
      | ((with_reducible apply tx_rcv); exact hX; exact ht)
      | ((with_reducible apply tx_aI); exact hX; exact ht; exact rfl; exact (by decide); omega; omega)
      | ((with_reducible apply tx_sI); exact hX; exact ht; exact rfl; exact (by decide); omega; omega)
      | ((with_reducible apply ok_rZ); (first | exact .inl rfl | exact .inr rfl))
      | ((with_reducible refine ok_within ?_ ?_ ?_ (fun hc => ?_) (fun hc => ?_)); omega; omega; omega)
      | ((with_reducible refine ok_month ?_ (fun hc => ?_) (fun hc => ?_)); omega)
      | ((with_reducible refine ok_tongue ?_ (fun hc => ?_) (fun hc => ?_)); omega)
      | ((with_reducible refine ok_money ?_ (fun hc => ?_) (fun hc => ?_)); omega)
      | ((with_reducible refine ok_isIn ?_ ?_ ?_ (fun hc => ?_) (fun hc => ?_)); omega; omega; omega)
      | ((with_reducible refine ok_wltp ?_ ?_ ?_ ?_); omega; omega; omega)
      | ((with_reducible refine ok_wltn ?_ ?_ ?_ ?_); omega; omega; omega)
      | ((with_reducible refine ok_wlt ?_ ?_ (fun hc => ?_) (fun hc => ?_)); omega; omega)
      | ((with_reducible refine ok_wlt0 ?_ (fun hc => ?_) (fun hc => ?_)); omega)
      | ((with_reducible refine ok_w0lt ?_ (fun hc => ?_) (fun hc => ?_)); omega)
      | ((with_reducible refine ok_weq ?_ ?_ (fun hc => ?_) (fun hc => ?_)); omega; omega)
      | ((with_reducible refine ok_weqc ?_ (fun hc => ?_) (fun hc => ?_)); omega)
    all_goals first | (exfalso; omega) | rfl
  obtain ⟨q, e, rfl⟩ := H
  exact e
theorem value_eq {σ : St} (hX : WXr σ.1 σ.2.2) {t : Nat} (ht : isT t) {n : Int} (hn : 0 ≤ n ∧ n < 4) (h : σ.2.1 (t + 2) n = -1 ∨ TLx t n σ) (hN : 1000 < N) : ∃ τ, f_X7_valueOf N σ t n = some (τ, lv σ t n (fun j => σ.2.1 (t + 5) j)) ∧ FX [t + 4] σ τ := by
  by_cases h1 : σ.2.1 (t + 2) n = -1
  · have H : Ok (f_X7_valueOf N σ t n) (fun q => q = (σ, untold n)) := by
      unfold f_X7_valueOf
      refine tx_rcv hX ht (ok_bind ?_)
      unfold f_X7_isTold
      refine ok_within (by omega) (by omega) (by omega) (fun h2 => ?_) (fun h2 => by exfalso; omega)
      refine ok_z1 ?_
      refine tx_gR hX ht rfl ?_
      refine tx_aI hX ht rfl (by decide) (by omega) (by omega) ?_
      rw [h1]
      refine ok_weq (by omega) (by omega) (fun h3 => ok_some ?_) (fun h3 => absurd rfl h3)
      refine ok_z0 (ok_bind ?_)
      unfold f_X7_untold
      repeat' first
        | with_reducible apply st_Lt
        | with_reducible apply st_Jn
        | ((with_reducible apply ok_some); try dsimp only)
        | with_reducible apply ok_z0
        | with_reducible apply ok_z1
        | ((with_reducible apply ok_gF_hit); exact hX; exact rfl; exact rfl)
        | ((with_reducible apply ok_gF_j); decide)
        | ((with_reducible apply ok_gF_k); (first | decide | omega))
        | ((with_reducible apply ok_gU_k); (first | decide | omega))
        | ((with_reducible apply ok_aF_k); (first | decide | omega))
        | ((with_reducible apply ok_aU_k); (first | decide | omega))
        | (with_reducible apply ok_rF)
        | (with_reducible apply ok_rU)
        | (with_reducible apply ok_qF)
        | (with_reducible apply ok_qU)
        | ((with_reducible apply sx_gI); exact hX; exact rfl; exact rfl)
        | ((with_reducible apply sx_gR); exact hX; exact rfl; exact rfl; exact rfl)
        | ((with_reducible apply sx_pI); exact hX; exact rfl; exact rfl)
        | ((with_reducible apply sx_rcv); exact hX; exact rfl; exact rfl)
        | ((with_reducible apply sx_aI); exact hX; exact rfl; exact rfl; exact (by decide); omega; omega)
        | ((with_reducible apply sx_sI); exact hX; exact rfl; exact rfl; exact (by decide); omega; omega)
        | ((with_reducible apply ok_rZ); (first | exact .inl rfl | exact .inr rfl))
        | ((with_reducible refine ok_within ?_ ?_ ?_ (fun hc => ?_) (fun hc => ?_)); omega; omega; omega)
        | ((with_reducible refine ok_month ?_ (fun hc => ?_) (fun hc => ?_)); omega)
        | ((with_reducible refine ok_tongue ?_ (fun hc => ?_) (fun hc => ?_)); omega)
        | ((with_reducible refine ok_money ?_ (fun hc => ?_) (fun hc => ?_)); omega)
        | ((with_reducible refine ok_isIn ?_ ?_ ?_ (fun hc => ?_) (fun hc => ?_)); omega; omega; omega)
        | ((with_reducible refine ok_wltp ?_ ?_ ?_ ?_); omega; omega; omega)
        | ((with_reducible refine ok_wltn ?_ ?_ ?_ ?_); omega; omega; omega)
        | ((with_reducible refine ok_wlt ?_ ?_ (fun hc => ?_) (fun hc => ?_)); omega; omega)
        | ((with_reducible refine ok_wlt0 ?_ (fun hc => ?_) (fun hc => ?_)); omega)
        | ((with_reducible refine ok_w0lt ?_ (fun hc => ?_) (fun hc => ?_)); omega)
        | ((with_reducible refine ok_weq ?_ ?_ (fun hc => ?_) (fun hc => ?_)); omega; omega)
        | ((with_reducible refine ok_weqc ?_ (fun hc => ?_) (fun hc => ?_)); omega)
      all_goals
        try dsimp only
        unfold untold
        first | rw [if_pos (by omega)] | rw [if_neg (by omega), if_pos (by omega)] | rw [if_neg (by omega), if_neg (by omega)]
    obtain ⟨q, e, rfl⟩ := H
    refine ⟨σ, ?_, FX.refl⟩
    rw [e]; unfold lv; rw [if_pos h1]
  · rcases h with h | ⟨h2, h3, h4⟩
    · exact absurd h h1
    · obtain ⟨τ, e, f⟩ := valX hX ht hn rfl rfl h2 (fun j _ _ => rfl) (q := fun j => σ.2.1 (t + 5) j) (fun j _ _ => rfl) h3 hN
      exact ⟨τ, by rw [e]; unfold lv; rw [if_neg h1], f⟩
theorem work_eq {σx σm : St} (hM : WMr σm.1 σm.2.2) {t : Nat} {i n : Int} (hi : 0 ≤ i ∧ i ≤ 2) (hn : 0 ≤ n ∧ n < 4) (h : RTl t i n σx σm) (hN : 1000 < N) : ∃ τ, f_X12_work N σm 1 i n (untold n) = some (τ, lv σx t n (fun j => fI σm 1 (50 + j.toNat))) ∧ FM [31] [] σm τ := by
  rcases h with ⟨h1, h2⟩ | ⟨⟨h2, h3, h4⟩, g1, g2, g3, g4⟩
  · have H : Ok (f_X12_work N σm 1 i n (untold n)) (fun q => q = (σm, untold n)) := by
      unfold f_X12_work
      refine sm_gR hM rfl ?_
      refine sm_aI hM rfl rfl (by decide) (by omega) (by omega) ?_
      rw [h2]
      exact ok_z0 (ok_some rfl)
    obtain ⟨q, e, rfl⟩ := H
    refine ⟨σm, ?_, FM.refl⟩
    rw [e]; unfold lv; rw [if_pos h1]
  · obtain ⟨τ, e, f⟩ := valM (w := untold n) (c := σx.2.1 (t + 1)) (q := fun j => fI σm 1 (50 + j.toNat)) hM (by omega) hn g1 g2 g3 h2 (fun j a b => (g4 j a b).1) (fun j a b => (g4 j a b).2) (fun j _ _ => rfl) h3 hN
    refine ⟨τ, ?_, f⟩
    rw [e]; unfold lv; rw [if_neg (by omega)]
def b01 (v : Int) : Int := if wr v = 0 then 0 else 1
def qF (g h s : Int) : Int → Int := fun j => if j = 4 then g else if j = 5 then h else s
def qL (m o : Int) : Int → Int := fun j => if j = 2 then m else o
def flyB (σ : St) (t : Nat) (g h s : Int) : Int := b01 (lv σ t 2 (qF g h s))
def leaveB (σ : St) (t : Nat) (m o : Int) : Int := b01 (lv σ t 1 (qL m o))
theorem flyB_keep {σ τ : St} {t : Nat} {g h s : Int} (x : ∀ d, 1 ≤ d → d ≤ 3 → τ.2.1 (t + d) = σ.2.1 (t + d)) : flyB τ t g h s = flyB σ t g h s := by unfold flyB; rw [lv_keep x]
theorem leaveB_keep {σ τ : St} {t : Nat} {g h : Int} (x : ∀ d, 1 ≤ d → d ≤ 3 → τ.2.1 (t + d) = σ.2.1 (t + d)) : leaveB τ t g h = leaveB σ t g h := by unfold leaveB; rw [lv_keep x]
theorem b01_or (v : Int) : b01 v = 0 ∨ b01 v = 1 := by unfold b01; split <;> simp
theorem t5X {σ : St} {t : Nat} {j v : Int} : ∀ d, 1 ≤ d → d ≤ 3 → (uI σ (t + 5) j v).2.1 (t + d) = σ.2.1 (t + d) := fun d _ _ => uI_cell (by omega)
theorem fly_eq {σ : St} (hX : WXr σ.1 σ.2.2) {t : Nat} (ht : isT t) (hl : σ.2.1 (t + 2) 2 = -1 ∨ TLx t 2 σ) (g h s : Int) (hN : 1000 < N) : ∃ τ, f_X7_mayFly N σ t g h s = some (τ, flyB σ t g h s) ∧ FX [t + 4, t + 5] σ τ := by
  have H : Ok (f_X7_mayFly N σ t g h s) (fun w => w.2 = flyB σ t g h s ∧ FX [t + 4, t + 5] σ w.1) := by
    unfold f_X7_mayFly
    have x3 : ∀ d, 1 ≤ d → d ≤ 3 → (uI (uI (uI σ (t + 5) (27 - 23) g) (t + 5) (28 - 23) h) (t + 5) (29 - 23) s).2.1 (t + d) = σ.2.1 (t + d) := fun d a b => (t5X d a b).trans ((t5X d a b).trans (t5X d a b))
    obtain ⟨τ, e, f⟩ := value_eq (N := N) (σ := uI (uI (uI σ (t + 5) (27 - 23) g) (t + 5) (28 - 23) h) (t + 5) (29 - 23) s) hX ht (n := 2) (by omega) (by
      rcases hl with hl | hl
      · exact .inl (by rw [x3 2 (by decide) (by decide)]; exact hl)
      · exact .inr (hl.keep x3)) hN
    refine tx_rcv hX ht (ok_rw (ask_eq hX ht (by omega)) ?_)
    refine tx_rcv (σ := uI σ (t + 5) (27 - 23) g) hX ht (ok_rw (ask_eq (σ := uI σ (t + 5) (27 - 23) g) hX ht (by omega)) ?_)
    refine tx_rcv (σ := uI (uI σ (t + 5) (27 - 23) g) (t + 5) (28 - 23) h) hX ht (ok_rw (ask_eq (σ := uI (uI σ (t + 5) (27 - 23) g) (t + 5) (28 - 23) h) hX ht (by omega)) ?_)
    refine tx_rcv (σ := uI (uI (uI σ (t + 5) (27 - 23) g) (t + 5) (28 - 23) h) (t + 5) (29 - 23) s) hX ht (ok_rw e ?_)
    rw [lv_keep x3, lv_congr (q' := qF g h s) hl]
    · have ff : FX [t + 4, t + 5] σ τ := (((FX.refl.uI (by simp)).uI (by simp)).uI (by simp)).trans (f.mono (by simp))
      refine ok_ite (fun h1 => ok_some ⟨?_, ff⟩) (fun h1 => ok_some ⟨?_, ff⟩)
      · show (0 : Int) = b01 _
        unfold b01; rw [if_pos h1]
      · show (1 : Int) = b01 _
        unfold b01; rw [if_neg h1]
    · intro k hk
      unfold asksW at hk
      have : k = 27 ∨ k = 28 ∨ k = 29 := by omega
      rcases this with rfl | rfl | rfl
      · rw [uI_j (by decide), uI_j (by decide), uI_eq]; rfl
      · rw [uI_j (by decide), uI_eq]; rfl
      · rw [uI_eq]; rfl
  obtain ⟨⟨τ, v⟩, e, h1, h2⟩ := H
  dsimp only at h1 h2
  subst h1
  exact ⟨τ, e, h2⟩
theorem leave_eq {σ : St} (hX : WXr σ.1 σ.2.2) {t : Nat} (ht : isT t) (hl : σ.2.1 (t + 2) 1 = -1 ∨ TLx t 1 σ) (g h : Int) (hN : 1000 < N) : ∃ τ, f_X7_mayLeave N σ t g h = some (τ, leaveB σ t g h) ∧ FX [t + 4, t + 5] σ τ := by
  have H : Ok (f_X7_mayLeave N σ t g h) (fun w => w.2 = leaveB σ t g h ∧ FX [t + 4, t + 5] σ w.1) := by
    unfold f_X7_mayLeave
    have x3 : ∀ d, 1 ≤ d → d ≤ 3 → (uI (uI σ (t + 5) (25 - 23) g) (t + 5) (26 - 23) h).2.1 (t + d) = σ.2.1 (t + d) := fun d a b => (t5X d a b).trans (t5X d a b)
    obtain ⟨τ, e, f⟩ := value_eq (N := N) (σ := uI (uI σ (t + 5) (25 - 23) g) (t + 5) (26 - 23) h) hX ht (n := 1) (by omega) (by
      rcases hl with hl | hl
      · exact .inl (by rw [x3 2 (by decide) (by decide)]; exact hl)
      · exact .inr (hl.keep x3)) hN
    refine tx_rcv hX ht (ok_rw (ask_eq hX ht (by omega)) ?_)
    refine tx_rcv (σ := uI σ (t + 5) (25 - 23) g) hX ht (ok_rw (ask_eq (σ := uI σ (t + 5) (25 - 23) g) hX ht (by omega)) ?_)
    refine tx_rcv (σ := uI (uI σ (t + 5) (25 - 23) g) (t + 5) (26 - 23) h) hX ht (ok_rw e ?_)
    rw [lv_keep x3, lv_congr (q' := qL g h) hl]
    · have ff : FX [t + 4, t + 5] σ τ := ((FX.refl.uI (by simp)).uI (by simp)).trans (f.mono (by simp))
      refine ok_ite (fun h1 => ok_some ⟨?_, ff⟩) (fun h1 => ok_some ⟨?_, ff⟩)
      · show (0 : Int) = b01 _
        unfold b01; rw [if_pos h1]
      · show (1 : Int) = b01 _
        unfold b01; rw [if_neg h1]
    · intro k hk
      unfold asksW at hk
      have : k = 25 ∨ k = 26 := by omega
      rcases this with rfl | rfl
      · rw [uI_j (by decide), uI_eq]; rfl
      · rw [uI_eq]; rfl
  obtain ⟨⟨τ, v⟩, e, h1, h2⟩ := H
  dsimp only at h1 h2
  subst h1
  exact ⟨τ, e, h2⟩
theorem flies_eq {σx σm : St} (hM : WMr σm.1 σm.2.2) {t : Nat} {i : Int} (hi : 0 ≤ i ∧ i ≤ 2) (hl : RTl t i 2 σx σm) (g h s : Int) (hN : 1000 < N) : ∃ τ, f_X12_flies N σm 1 i g h s = some (τ, flyB σx t g h s) ∧ FM [31] [54, 55, 56] σm τ := by
  have H : Ok (f_X12_flies N σm 1 i g h s) (fun w => w.2 = flyB σx t g h s ∧ FM [31] [54, 55, 56] σm w.1) := by
    unfold f_X12_flies
    have f0 : FM [31] [54, 55, 56] σm (uF (uF (uF σm 1 54 g) 1 55 h) 1 56 s) := ((FM.refl.uF (by decide)).uF (by decide)).uF (by decide)
    obtain ⟨τ, e, f⟩ := work_eq (N := N) (σm := uF (uF (uF σm 1 54 g) 1 55 h) 1 56 s) hM hi (n := 2) (by omega) (hl.keep (fun _ _ _ => rfl) (f0.2.2.1 25 (by decide) (by decide)) (f0.2.2.1 26 (by decide) (by decide)) (f0.2.2.1 27 (by decide) (by decide)) (f0.2.2.1 28 (by decide) (by decide)) (f0.2.2.1 32 (by decide) (by decide))) hN
    refine sm_pI hM ?_
    refine sm_pI (σ := uF σm 1 54 g) hM ?_
    refine sm_pI (σ := uF (uF σm 1 54 g) 1 55 h) hM ?_
    refine sm_rcv (σ := uF (uF (uF σm 1 54 g) 1 55 h) 1 56 s) hM (ok_rw e ?_)
    rw [lv_congr (q' := qF g h s) hl.x]
    · have ff : FM [31] [54, 55, 56] σm τ := f0.trans (f.mono (by simp) (by simp))
      refine ok_ite (fun h1 => ok_some ⟨?_, ff⟩) (fun h1 => ok_some ⟨?_, ff⟩)
      · show (0 : Int) = b01 _
        unfold b01; rw [if_pos h1]
      · show (1 : Int) = b01 _
        unfold b01; rw [if_neg h1]
    · intro k hk
      unfold asksW at hk
      have : k = 27 ∨ k = 28 ∨ k = 29 := by omega
      rcases this with rfl | rfl | rfl
      · show fI _ 1 54 = g
        rw [fI_j (by decide), fI_j (by decide), fI_eq]
      · show fI _ 1 55 = h
        rw [fI_j (by decide), fI_eq]
      · show fI _ 1 56 = s
        rw [fI_eq]
  obtain ⟨⟨τ, v⟩, e, h1, h2⟩ := H
  dsimp only at h1 h2
  subst h1
  exact ⟨τ, e, h2⟩
theorem leaves_eq {σx σm : St} (hM : WMr σm.1 σm.2.2) {t : Nat} {i : Int} (hi : 0 ≤ i ∧ i ≤ 2) (hl : RTl t i 1 σx σm) (g h : Int) (hN : 1000 < N) : ∃ τ, f_X12_leavesBy N σm 1 i g h = some (τ, leaveB σx t g h) ∧ FM [31] [52, 53] σm τ := by
  have H : Ok (f_X12_leavesBy N σm 1 i g h) (fun w => w.2 = leaveB σx t g h ∧ FM [31] [52, 53] σm w.1) := by
    unfold f_X12_leavesBy
    have f0 : FM [31] [52, 53] σm (uF (uF σm 1 52 g) 1 53 h) := (FM.refl.uF (by decide)).uF (by decide)
    obtain ⟨τ, e, f⟩ := work_eq (N := N) (σm := uF (uF σm 1 52 g) 1 53 h) hM hi (n := 1) (by omega) (hl.keep (fun _ _ _ => rfl) (f0.2.2.1 25 (by decide) (by decide)) (f0.2.2.1 26 (by decide) (by decide)) (f0.2.2.1 27 (by decide) (by decide)) (f0.2.2.1 28 (by decide) (by decide)) (f0.2.2.1 32 (by decide) (by decide))) hN
    refine sm_pI hM ?_
    refine sm_pI (σ := uF σm 1 52 g) hM ?_
    refine sm_rcv (σ := uF (uF σm 1 52 g) 1 53 h) hM (ok_rw e ?_)
    rw [lv_congr (q' := qL g h) hl.x]
    · have ff : FM [31] [52, 53] σm τ := f0.trans (f.mono (by simp) (by simp))
      refine ok_ite (fun h1 => ok_some ⟨?_, ff⟩) (fun h1 => ok_some ⟨?_, ff⟩)
      · show (0 : Int) = b01 _
        unfold b01; rw [if_pos h1]
      · show (1 : Int) = b01 _
        unfold b01; rw [if_neg h1]
    · intro k hk
      unfold asksW at hk
      have : k = 25 ∨ k = 26 := by omega
      rcases this with rfl | rfl
      · show fI _ 1 52 = g
        rw [fI_j (by decide), fI_eq]
      · show fI _ 1 53 = h
        rw [fI_eq]
  obtain ⟨⟨τ, v⟩, e, h1, h2⟩ := H
  dsimp only at h1 h2
  subst h1
  exact ⟨τ, e, h2⟩
end Tr
