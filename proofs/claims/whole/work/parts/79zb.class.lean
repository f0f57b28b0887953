/-! the pure part: the class reads an expression -/
section F
variable {N : Nat} {σ τ υ : St} {z : Zs} {t : Nat} {n : Int} {dd : Int × Int}
def TAf (t : Nat) : Nat → Int → Prop := fun k i => k = 2 ∨ (k = t ∧ (i = 1 ∨ i = 2)) ∨ k = t + 1
def DX (z : Zs) (t : Nat) (dd : Int × Int) (σ : St) : Prop := XR z (.inl dd) σ ∧ 0 ≤ fI σ t 2 ∧ fI σ t 2 ≤ 700
def CX (z : Zs) (t : Nat) (s : PS) (σ : St) : Prop := XR z (.inr s.1) σ ∧ fI σ t 1 = s.2.1 ∧ fI σ t 2 = (s.2.2.length : Int) ∧ Stk (σ.2.1 (t + 1)) s.2.2
def CR (z : Zs) (t : Nat) (r : PRs) (σ : St) : Prop := match r with
  | .inl dd => DX z t dd σ
  | .inr s => CX z t s σ
/-- fuel enough -/
def ndG (g tag : Nat) (L d : Int) : Prop := (0 ≤ d ∧ d ≤ 7) ∧ ((tag = 0 ∧ 0 ≤ L ∧ L ≤ 5 ∧ 12 * (7 - d) + 2 * (5 - L) + 2 ≤ (g : Int)) ∨ (tag = 1 ∧ 0 ≤ L ∧ L ≤ 4 ∧ 12 * (7 - d) + 2 * (5 - L) + 1 ≤ (g : Int)) ∨ (tag = 2 ∧ 12 * (7 - d) + 1 ≤ (g : Int)) ∨ (tag = 3 ∧ 12 * (7 - d) + 1 ≤ (g : Int)))
theorem levelOf_eq {kd : Int} (h : 0 ≤ kd ∧ kd ≤ 103) : f_X7_levelOf N σ kd = some (σ, lvl kd) := by
  unfold f_X7_levelOf lvl
  rw [wr_id (by omega) (by omega)]
  repeat' split
  all_goals rfl
theorem levelOf_any (kd : Int) : ∃ v, f_X7_levelOf N σ kd = some (σ, v) := by
  unfold f_X7_levelOf
  repeat' split
  all_goals exact ⟨_, rfl⟩
theorem mayAsk_any (n kd : Int) : ∃ b, f_X7_mayAsk N σ n kd = some (σ, b) := by
  have H : Ok (f_X7_mayAsk N σ n kd) (fun q => q.1 = σ) := by
    unfold f_X7_mayAsk
    refine ok_JnC (fun _ => True) (fun x _ => ?_) (fun J hJ => ok_ite (fun _ => hJ _ trivial) (fun _ => hJ _ trivial))
    refine ok_ite (fun _ => ok_ite (fun _ => ok_ite (fun _ => ok_some rfl) (fun _ => ok_ite (fun _ => ok_some rfl) (fun _ => ok_some rfl))) (fun _ => ok_some rfl)) (fun _ => ?_)
    refine ok_ite (fun _ => ok_ite (fun _ => ok_ite (fun _ => ok_some rfl) (fun _ => ok_some rfl)) (fun _ => ok_some rfl)) (fun _ => ?_)
    refine ok_ite (fun _ => ?_) (fun _ => ok_ite (fun _ => ?_) (fun _ => ok_some rfl))
    · refine ok_rw (within_eq N σ kd 27 29) ?_
      by_cases c : wr 27 ≤ wr kd ∧ wr kd ≤ wr 29
      · rw [if_pos c]; exact ok_rZ (.inr rfl) rfl
      · rw [if_neg c]; exact ok_rZ (.inl rfl) rfl
    · refine ok_rw (within_eq N σ kd 30 33) ?_
      exact ok_ite (fun _ => ok_some rfl) (fun _ => ok_some rfl)
  obtain ⟨⟨υ, b⟩, e, h⟩ := H
  dsimp only at h
  subst h
  exact ⟨b, e⟩
theorem mayAsk_eq {kd : Int} (hn : 0 ≤ n ∧ n ≤ 3) (h : 0 ≤ kd ∧ kd ≤ 103) : ∃ b, f_X7_mayAsk N σ n kd = some (σ, b) ∧ ((b = 1 ∧ askB n kd = true) ∨ (b = 0 ∧ ¬ askB n kd = true)) := by
  have H : Ok (f_X7_mayAsk N σ n kd) (fun q => q.1 = σ ∧ ((q.2 = 1 ∧ askB n kd = true) ∨ (q.2 = 0 ∧ ¬ askB n kd = true))) := by
    simp only [askB_iff]
    unfold asksW f_X7_mayAsk
    refine ok_JnC (fun x => (x = 1 ∧ kd = 25) ∨ (x = 0 ∧ kd ≠ 25)) (fun x hx => ?_) (fun J hJ => ok_weq (by omega) (by omega) (fun q => hJ _ (.inl ⟨rfl, q⟩)) (fun q => hJ _ (.inr ⟨rfl, q⟩)))
    refine ok_weqc (by omega) (fun c => ?_) (fun c => ?_)
    · rcases hx with ⟨rfl, hx⟩ | ⟨rfl, hx⟩
      · exact ok_z1 (ok_some ⟨rfl, .inl ⟨rfl, by omega⟩⟩)
      · refine ok_z0 (ok_weq (by omega) (by omega) (fun q => ok_some ⟨rfl, .inl ⟨rfl, by omega⟩⟩) (fun q => ok_weq (by omega) (by omega) (fun q => ok_some ⟨rfl, .inl ⟨rfl, by omega⟩⟩) (fun q => ok_some ⟨rfl, .inr ⟨rfl, by omega⟩⟩)))
    refine ok_weqc (by omega) (fun c1 => ?_) (fun c1 => ?_)
    · rcases hx with ⟨rfl, hx⟩ | ⟨rfl, hx⟩
      · exact ok_z1 (ok_some ⟨rfl, .inl ⟨rfl, by omega⟩⟩)
      · refine ok_z0 (ok_weq (by omega) (by omega) (fun q => ok_some ⟨rfl, .inl ⟨rfl, by omega⟩⟩) (fun q => ok_some ⟨rfl, .inr ⟨rfl, by omega⟩⟩))
    refine ok_weqc (by omega) (fun c2 => ?_) (fun c2 => ?_)
    · exact ok_within (by omega) (by omega) (by omega) (fun q => ok_rZ (.inr rfl) ⟨rfl, .inl ⟨rfl, by omega⟩⟩) (fun q => ok_rZ (.inl rfl) ⟨rfl, .inr ⟨rfl, by omega⟩⟩)
    · rcases hx with ⟨rfl, hx⟩ | ⟨rfl, hx⟩
      · exact ok_z1 (ok_some ⟨rfl, .inl ⟨rfl, by omega⟩⟩)
      · refine ok_z0 (ok_within (by omega) (by omega) (by omega) (fun q => ok_z1 (ok_some ⟨rfl, .inl ⟨rfl, by omega⟩⟩)) (fun q => ok_z0 (ok_some ⟨rfl, .inr ⟨rfl, by omega⟩⟩)))
  obtain ⟨⟨υ, b⟩, e, h1, h2⟩ := H
  dsimp only at h1 h2
  subst h1
  exact ⟨b, e, h2⟩
theorem putX_eq (hX : WXr σ.1 σ.2.2) (ht : isT t) {l c : Int} (hl : fI σ t 2 = l) (hr : 0 ≤ l ∧ l ≤ 699) : f_X7_put N σ t c = some (uF (uI σ (t + 1) l c) t 2 (l + 1), 0) := by
  have H : Ok (f_X7_put N σ t c) (fun q => q = (uF (uI σ (t + 1) l c) t 2 (l + 1), 0)) := by
    unfold f_X7_put
    refine tx_gI hX ht ?_
    rw [hl]
    refine ok_within (by omega) (by omega) (by omega) (fun _ => ok_z1 ?_) (fun q => by omega)
    refine tx_gR hX ht rfl ?_
    refine tx_gI hX ht ?_
    rw [hl]
    refine tx_sI hX ht rfl (by decide) (by omega) (by omega) ?_
    refine tx_gI (σ := uI σ (t + 1) l c) hX ht ?_
    rw [show fI (uI σ (t + 1) l c) t 2 = l from (fI_uk (by omega)).trans hl]
    exact tx_pI (σ := uI σ (t + 1) l c) hX ht (ok_some rfl)
  obtain ⟨q, e, rfl⟩ := H
  exact e
theorem DX.put (ht : isT t) (h : DX z t dd σ) (c : Int) : ∃ τ, f_X7_put N σ t c = some (τ, 0) ∧ FA (TAf t) σ τ ∧ DX z t dd τ := by
  have htl := isT_le ht
  obtain ⟨h1, h2, h3⟩ := h
  by_cases q : fI σ t 2 ≤ 699
  · refine ⟨_, putX_eq h1.1 ht rfl ⟨h2, q⟩, (FA.refl.wI (.inr (.inr rfl))).wF (.inr (.inl ⟨rfl, .inr rfl⟩)), (h1.wI (by omega)).wF (by omega), ?_, ?_⟩
    · rw [fI_eq]; omega
    · rw [fI_eq]; omega
  · have H : Ok (f_X7_put N σ t c) (fun q => q = (σ, 0)) := by
      unfold f_X7_put
      refine tx_gI h1.1 ht ?_
      exact ok_within (by omega) (by omega) (by omega) (fun q => by omega) (fun _ => ok_z0 (ok_some rfl))
    obtain ⟨q, e, rfl⟩ := H
    exact ⟨σ, e, FA.refl, h1, h2, h3⟩
theorem DX.of (ht : isT t) (h : XR z (.inl dd) τ) (f : FT [] [7, 8, 9, 10, 11, 12, 13] σ τ) (l : 0 ≤ fI σ t 2 ∧ fI σ t 2 ≤ 700) : DX z t dd τ := by
  have htl := isT_le ht
  have e : fI τ t 2 = fI σ t 2 := f.g (by omega) (by simp)
  exact ⟨h, by omega, by omega⟩
theorem fT (f : FT [] [7, 8, 9, 10, 11, 12, 13] σ τ) : FA (TAf t) σ τ := f.fa fun _ => .inl rfl
theorem f5T (f : FT [] [7, 8, 9, 10, 11] σ τ) : FT [] [7, 8, 9, 10, 11, 12, 13] σ τ := f.mono (fun _ h => h) (by simp)
theorem f2T (f : FT [] [12, 13] σ τ) : FT [] [7, 8, 9, 10, 11, 12, 13] σ τ := f.mono (fun _ h => h) (by simp)
/-- done with a fault, the rest is run through -/
theorem dead_R (hz : Str z) (ht : isT t) (hN : 1000 < N) : ∀ (g tag : Nat) (L d : Int) (σ : St), ndG g tag L d → DX z t dd σ → Ok (f_R N g tag σ t 2 n L d) (fun q => FA (TAf t) σ q.1 ∧ DX z t dd q.1)
  | 0, tag, L, d, σ, hg, h => by
    unfold ndG at hg
    omega
  | g + 1, 0, L, d, σ, hg, h => by
    have hX := h.1.1
    show Ok (B_X7_readLevel N (f_R N g) σ t 2 n L d) _
    unfold ndG at hg
    unfold B_X7_readLevel
    refine ok_weq (by omega) (by omega) (fun c => ?_) (fun c => ?_)
    · refine tx_rcv hX ht (ok_bind (ok_mono (dead_R hz ht hN g 3 0 d σ (by unfold ndG; omega) h) fun v hv => ok_some hv))
    · have nx : Ok (Option.bind (rcv shx σ 7 t (f_R N g 1 σ t 2 n L d)) fun q2 => some (q2.1, (0 : Int))) (fun q => FA (TAf t) σ q.1 ∧ DX z t dd q.1) := tx_rcv hX ht (ok_bind (ok_mono (dead_R hz ht hN g 1 L d σ (by unfold ndG; omega) h) fun v hv => ok_some hv))
      refine st_Jn ?_
      refine ok_weq (by omega) (by omega) (fun c2 => ?_) (fun _ => nx)
      refine sx_gI hX rfl rfl ?_
      refine ok_ite (fun _ => ?_) (fun _ => nx)
      exact tx_rcv hX ht (ok_bind (ok_mono (dead_R hz ht hN g 2 0 d σ (by unfold ndG; omega) h) fun v hv => ok_some hv))
  | g + 1, 1, L, d, σ, hg, h => by
    have hX := h.1.1
    show Ok (B_X7_readJoined N (f_R N g) σ t 2 n L d) _
    unfold ndG at hg
    unfold B_X7_readJoined
    refine ok_JnC (fun x => 0 ≤ x ∧ x ≤ 60) (fun x hx => ?_) (fun J hJ => ok_ite (fun _ => hJ _ (by decide)) (fun _ => hJ _ (by decide)))
    refine tx_rcv hX ht (ok_bind (ok_mono (dead_R hz ht hN g 0 (L + 1) d σ (by unfold ndG; omega) h) fun v hv => ?_))
    have hX1 := hv.2.1.1
    unfold L_X7_readJoined_27
    obtain ⟨N', rfl⟩ : ∃ N', N = N' + 1 := ⟨N - 1, by omega⟩
    show Ok (if wr 0 < wr x then _ else _) _
    refine ok_ite (fun _ => ?_) (fun _ => ok_some hv)
    exact sx_rcv hX1 rfl rfl (ok_rw (sound_eq hv.2.1) (ok_z0 (ok_some hv)))
  | g + 1, 2, L, d, σ, hg, h => by
    have hX := h.1.1
    show Ok (B_X7_readNot N (f_R N g) σ t 2 n d) _
    unfold ndG at hg
    unfold B_X7_readNot
    refine ok_wlt (by omega) (by omega) (fun c => ?_) (fun c => ?_)
    · obtain ⟨τ, e, x, f⟩ := refuse_eq (N := N) hz h.1 (w := 2) (by decide)
      exact sx_rcv hX rfl rfl (ok_rw e (ok_some ⟨fT (f2T f), DX.of ht x (f2T f) h.2⟩))
    · obtain ⟨τ, e, x, f⟩ := adv_eq (N := N) hz h.1
      refine sx_rcv hX rfl rfl (ok_rw e ?_)
      have h1 : DX z t dd τ := DX.of ht x (f5T f) h.2
      refine tx_rcv h1.1.1 ht (ok_bind (ok_mono (dead_R hz ht hN g 0 2 (d + 1) τ (by unfold ndG; omega) h1) fun v hv => ?_))
      obtain ⟨τ2, e2, f2, h2⟩ := hv.2.put (N := N) ht (-23)
      exact tx_rcv hv.2.1.1 ht (ok_rw e2 (ok_some ⟨((fT (f5T f)).trans hv.1).trans f2, h2⟩))
  | g + 1, m + 3, L, d, σ, hg, h => by
    have hX := h.1.1
    have htl := isT_le ht
    show Ok (B_X7_readUnit N (f_R N g) σ t 2 n d) _
    unfold ndG at hg
    unfold B_X7_readUnit
    refine tx_gI hX ht ?_
    refine tx_pI hX ht ?_
    have h1 : DX z t dd (uF σ t 1 (fI σ t 1 + 1)) := ⟨h.1.wF (by omega), by rw [fI_j (by decide)]; exact h.2.1, by rw [fI_j (by decide)]; exact h.2.2⟩
    have F1 : FA (TAf t) σ (uF σ t 1 (fI σ t 1 + 1)) := FA.refl.wF (.inr (.inl ⟨rfl, .inl rfl⟩))
    generalize uF σ t 1 (fI σ t 1 + 1) = τ at h1 F1 ⊢
    have hX1 := h1.1.1
    have ref : ∀ w : Int, 1 ≤ w ∧ w ≤ 7 → ∀ {f : St × Int → Option (St × Int)}, (∀ τ', f (τ', 0) = some (τ', 0)) → Ok (Option.bind (rcv shx τ 6 2 (f_X6_refuse N τ 2 w)) f) (fun q => FA (TAf t) σ q.1 ∧ DX z t dd q.1) := fun w hw f hf => by
      obtain ⟨τ', e, x, f'⟩ := refuse_eq (N := N) hz h1.1 (w := w) hw
      refine sx_rcv hX1 rfl rfl (ok_rw e ?_)
      rw [hf]
      exact ok_some ⟨F1.trans (fT (f2T f')), DX.of ht x (f2T f') h1.2⟩
    have adv : ∀ τ1, FA (TAf t) σ τ1 → DX z t dd τ1 → Ok (Option.bind (rcv shx τ1 6 2 (f_X6_advance N τ1 2)) fun q => some (q.1, (0 : Int))) (fun q => FA (TAf t) σ q.1 ∧ DX z t dd q.1) := fun τ1 F h => by
      obtain ⟨τ', e, x, f'⟩ := adv_eq (N := N) hz h.1
      exact sx_rcv h.1.1 rfl rfl (ok_rw e (ok_some ⟨F.trans (fT (f5T f')), DX.of ht x (f5T f') h.2⟩))
    refine tx_gI hX1 ht ?_
    refine ok_ite (fun _ => ref 2 (by decide) fun _ => rfl) (fun _ => ?_)
    refine sx_gI hX1 rfl rfl ?_
    refine ok_ite (fun _ => ?_) (fun _ => ?_)
    · refine sx_gI hX1 rfl rfl ?_
      obtain ⟨τ2, e2, f2, h2⟩ := h1.put (N := N) ht (fI τ 2 10)
      exact tx_rcv hX1 ht (ok_rw e2 (adv τ2 (F1.trans f2) h2))
    · refine sx_gI hX1 rfl rfl ?_
      obtain ⟨b, eb⟩ := mayAsk_any (N := N) (σ := τ) n (fI τ 2 8)
      refine ok_rw eb ?_
      refine ok_ite (fun _ => ?_) (fun _ => ?_)
      · refine sx_gI hX1 rfl rfl ?_
        refine ok_rw (within_eq N τ _ 23 33) ?_
        refine ok_ite (fun _ => ?_) (fun _ => ref 7 (by decide) fun _ => rfl)
        refine sx_gI hX1 rfl rfl ?_
        refine st_Jn ?_
        refine ok_ite (fun _ => ?_) (fun _ => ref 2 (by decide) fun _ => rfl)
        refine ok_wlt (by omega) (by omega) (fun _ => ref 2 (by decide) fun _ => rfl) (fun c => ?_)
        obtain ⟨τ2, e2, x2, f2⟩ := adv_eq (N := N) hz h1.1
        refine sx_rcv hX1 rfl rfl (ok_rw e2 ?_)
        have h2 : DX z t dd τ2 := DX.of ht x2 (f5T f2) h1.2
        refine tx_rcv h2.1.1 ht (ok_bind (ok_mono (dead_R hz ht hN g 0 0 (d + 1) τ2 (by unfold ndG; omega) h2) fun v hv => ?_))
        obtain ⟨τ3, e3, x3, f3⟩ := expect_eq (N := N) hz hv.2.1 (w := 41) (by decide)
        exact sx_rcv hv.2.1.1 rfl rfl (ok_rw e3 (ok_some ⟨((F1.trans (fT (f5T f2))).trans hv.1).trans (fT f3), DX.of ht x3 f3 hv.2.2⟩))
      · refine sx_gI hX1 rfl rfl ?_
        obtain ⟨τ2, e2, f2, h2⟩ := h1.put (N := N) ht (-1 - fI τ 2 8)
        exact tx_rcv hX1 ht (ok_rw e2 (adv τ2 (F1.trans f2) h2))
theorem CX.put (ht : isT t) {s : PS} (h : CX z t s σ) (hl : (s.2.2.length : Int) ≤ 699) (c : Int) : ∃ τ, f_X7_put N σ t c = some (τ, 0) ∧ FA (TAf t) σ τ ∧ CX z t (s.1, s.2.1, c :: s.2.2) τ := by
  have htl := isT_le ht
  obtain ⟨h1, h2, h3, h4⟩ := h
  refine ⟨_, putX_eq h1.1 ht h3 ⟨by omega, hl⟩, (FA.refl.wI (.inr (.inr rfl))).wF (.inr (.inl ⟨rfl, .inr rfl⟩)), (h1.wI (by omega)).wF (by omega), ?_, ?_, ?_⟩
  · rw [fI_j (by decide), fI_uk (by omega)]; exact h2
  · rw [fI_eq]
    dsimp only
    rw [List.length_cons]; omega
  · rw [uF_cell (by omega)]
    exact h4.push rfl
theorem CX.of (ht : isT t) {s : PS} {k' : Int} (h : CX z t s σ) (x : XR z (.inr k') τ) (f : FT [] [7, 8, 9, 10, 11, 12, 13] σ τ) : CX z t (k', s.2.1, s.2.2) τ := by
  have htl := isT_le ht
  obtain ⟨h1, h2, h3, h4⟩ := h
  refine ⟨x, (f.g (by omega) (by simp)).trans h2, (f.g (by omega) (by simp)).trans h3, ?_⟩
  rw [f.2.2.1 (t + 1) (by omega) (by simp)]; exact h4
theorem CX.dead (ht : isT t) {s : PS} (h : CX z t s σ) (hl : (s.2.2.length : Int) ≤ 700) (x : XR z (.inl dd) τ) (f : FT [] [7, 8, 9, 10, 11, 12, 13] σ τ) : DX z t dd τ := DX.of ht x f (by have := h.2.2.1; omega)
end F
