/-! the pure part: the reference reads a unit -/
section F
variable {N : Nat} {σ τ υ : St} {z : Zs} {n : Int}
theorem mayAskM_eq (hM : WMr σ.1 σ.2.2) (h49 : fI σ 1 49 = n) (hn : 0 ≤ n ∧ n ≤ 3) (kd : Int) : f_X12_mayAsk N σ 1 (if 23 ≤ kd ∧ kd ≤ 33 then rc (-1 - kd) else 0) = some (σ, if 23 ≤ kd ∧ kd ≤ 33 then (if askB n kd = true then 1 else 0) else 1) := by
  by_cases c : 23 ≤ kd ∧ kd ≤ 33
  · rw [if_pos c, if_pos c]
    have g : gI shm σ 12 1 49 = some n := by
      unfold gI; rw [if_pos ⟨rfl, by rw [hM.1]; decide⟩]
      exact congrArg some h49
    unfold f_X12_mayAsk
    simp only [g]
    have hk : kd = 23 ∨ kd = 24 ∨ kd = 25 ∨ kd = 26 ∨ kd = 27 ∨ kd = 28 ∨ kd = 29 ∨ kd = 30 ∨ kd = 31 ∨ kd = 32 ∨ kd = 33 := by omega
    have hn' : n = 0 ∨ n = 1 ∨ n = 2 ∨ n = 3 := by omega
    rcases hn' with rfl | rfl | rfl | rfl <;> rcases hk with rfl | rfl | rfl | rfl | rfl | rfl | rfl | rfl | rfl | rfl | rfl <;> rfl
  · rw [if_neg c, if_neg c]
    unfold f_X12_mayAsk
    rw [if_pos (by decide)]
theorem rc_ne {kd : Int} (h : 23 ≤ kd ∧ kd ≤ 33) : 97 ≤ rc (-1 - kd) ∧ rc (-1 - kd) ≤ 119 := by
  have hk : kd = 23 ∨ kd = 24 ∨ kd = 25 ∨ kd = 26 ∨ kd = 27 ∨ kd = 28 ∨ kd = 29 ∨ kd = 30 ∨ kd = 31 ∨ kd = 32 ∨ kd = 33 := by omega
  rcases hk with rfl | rfl | rfl | rfl | rfl | rfl | rfl | rfl | rfl | rfl | rfl <;> decide
/-- a push -/
theorem RP.push {s : PS} {P : List Int} (h : RP z n s P σ) {x a b : Int} (ha : a = rk x) (hb : x < 0 → b = rc x) (hl : (s.2.2.length : Int) + npn P + (if x < 0 then 1 else 0) ≤ s.1) (h60 : P.length + 1 ≤ 60) (hc : ¬ (x = -23 ∨ x = 1)) : ∃ τ, f_X12_put N σ 1 a b = some (τ, 0) ∧ FA EAf σ τ ∧ RP z n s (x :: P) τ := by
  obtain ⟨h1, ⟨h2, h3, h4, h5, h6⟩, h7, h8, h9, h10⟩ := h
  refine ⟨_, pput_eq h1.1 h4 ⟨by omega, by omega⟩, ?_, ((h1.wI (by decide)).wI (by decide)).wF rfl, ⟨?_, ?_, ?_, ?_, ?_⟩, ?_, ⟨?_, fun q => ?_, ?_⟩, ?_, by rw [List.length_cons]; exact h60⟩
  · exact ((FA.refl.wI (.inr (.inr (.inl rfl)))).wI (.inr (.inr (.inr rfl)))).wF (.inl ⟨rfl, by omega⟩)
  · rw [fI_j (by decide), fI_uk (by decide), fI_uk (by decide)]; exact h2
  · rw [fI_j (by decide), fI_uk (by decide), fI_uk (by decide)]; exact h3
  · rw [fI_eq, List.length_cons]; omega
  · rw [fI_j (by decide), fI_uk (by decide), fI_uk (by decide), h5]
    show cnt P = cnt P + (if x = -23 ∨ x = 1 then 1 else 0)
    rw [if_neg hc]; omega
  · rw [fI_j (by decide), fI_uk (by decide), fI_uk (by decide)]; exact h6
  · rw [uF_cell (by decide), uF_cell (by decide), uI_cell (by decide), uI_cell (by decide), uI_cell (by decide), uI_cell (by decide)]; exact h7
  · rw [uF_k (by decide), uI_k (by decide), uI_eq]; exact ha
  · rw [uF_k (by decide), uI_eq]; exact hb q
  · refine h8.congr fun j p q => ⟨?_, ?_⟩
    · rw [uF_k (by decide), uI_k (by decide), uI_j (by omega)]
    · rw [uF_k (by decide), uI_j (by omega), uI_k (by decide)]
  · show (s.2.2.length : Int) + (npn P + (if x < 0 then 1 else 0)) ≤ s.1
    omega
/-- a push that goes deeper -/
theorem RP.push2 {Q : St × Int → Prop} {s : PS} {P : List Int} (h : RP z n s P σ) {x a : Int} (ha : a = rk x) (hx : x = -23 ∨ x = 1) (hl : (s.2.2.length : Int) + npn P + (if x < 0 then 1 else 0) ≤ s.1) (h60 : P.length + 1 ≤ 60) (k : ∀ τ, FA EAf σ τ → RP z n s (x :: P) τ → Q (τ, 1)) : Ok (Option.bind (rcv shm σ 12 1 (f_X12_put N σ 1 a 126)) fun q19 => Option.bind (gI shm q19.1 12 1 47) fun deep_20 => Option.bind (pI shm q19.1 12 1 47 (deep_20 + 1)) fun σ21 => some (σ21, 1)) Q := by
  obtain ⟨h1, ⟨h2, h3, h4, h5, h6⟩, h7, h8, h9, h10⟩ := h
  refine sm_rcv h1.1 (ok_rw (pput_eq h1.1 h4 ⟨by omega, by omega⟩) ?_)
  have e47 : fI (uF (uI (uI σ 29 (P.length : Int) a) 30 (P.length : Int) 126) 1 48 ((P.length : Int) + 1)) 1 47 = cnt P := (fI_j (by decide)).trans ((fI_uk (by decide)).trans ((fI_uk (by decide)).trans h5))
  have hM : WMr (uF (uI (uI σ 29 (P.length : Int) a) 30 (P.length : Int) 126) 1 48 ((P.length : Int) + 1)).1 (uF (uI (uI σ 29 (P.length : Int) a) 30 (P.length : Int) 126) 1 48 ((P.length : Int) + 1)).2.2 := h1.1
  refine sm_gI hM ?_
  rw [e47]
  refine sm_pI hM (ok_some (k _ ?_ ⟨(((h1.wI (by decide)).wI (by decide)).wF rfl).wF rfl, ⟨?_, ?_, ?_, ?_, ?_⟩, ?_, ⟨?_, fun q => ?_, ?_⟩, ?_, by rw [List.length_cons]; exact h60⟩))
  · exact (((FA.refl.wI (.inr (.inr (.inl rfl)))).wI (.inr (.inr (.inr rfl)))).wF (.inl ⟨rfl, by omega⟩)).wF (.inl ⟨rfl, by omega⟩)
  · rw [fI_j (by decide), fI_j (by decide), fI_uk (by decide), fI_uk (by decide)]; exact h2
  · rw [fI_j (by decide), fI_j (by decide), fI_uk (by decide), fI_uk (by decide)]; exact h3
  · rw [fI_j (by decide), fI_eq, List.length_cons]; omega
  · rw [fI_eq]
    show cnt P + 1 = cnt P + (if x = -23 ∨ x = 1 then 1 else 0)
    rw [if_pos hx]
  · rw [fI_j (by decide), fI_j (by decide), fI_uk (by decide), fI_uk (by decide)]; exact h6
  · rw [uF_cell (by decide), uF_cell (by decide), uF_cell (by decide), uF_cell (by decide), uI_cell (by decide), uI_cell (by decide), uI_cell (by decide), uI_cell (by decide)]; exact h7
  · rw [uF_k (by decide), uF_k (by decide), uI_k (by decide), uI_eq]; exact ha
  · rw [uF_k (by decide), uF_k (by decide), uI_eq]
    have : x = -23 := by omega
    rw [this]; rfl
  · refine h8.congr fun j p q => ⟨?_, ?_⟩
    · rw [uF_k (by decide), uF_k (by decide), uI_k (by decide), uI_j (by omega)]
    · rw [uF_k (by decide), uF_k (by decide), uI_j (by omega), uI_k (by decide)]
  · show (s.2.2.length : Int) + (npn P + (if x < 0 then 1 else 0)) ≤ s.1
    omega
set_option maxHeartbeats 4000000 in
theorem unitTail {Q : St × Int → Prop} {s : PS} {y t5 b40 cc : Int} {ys : List Int} {w : St} (hz : Str z) (n7 : nZ z ≤ 700) (h : RP z n s (y :: ys) w) (hlen : (y :: ys).length ≤ 50) (hN : 3000 < N) (ht5 : (t5 = 1 ∧ kZ z s.1 = 22 ∧ (rk y ≤ 3 ∨ 7 ≤ rk y)) ∨ (t5 = 0 ∧ ¬ (kZ z s.1 = 22 ∧ (rk y ≤ 3 ∨ 7 ≤ rk y)))) (a40 : b40 = 0 ∨ b40 = 1) (i40 : b40 = 1 ↔ kZ z s.1 = 40) (c1 : (23 ≤ kZ z s.1 ∧ kZ z s.1 ≤ 33) → cc = rc (-1 - kZ z s.1)) (hcr : 0 ≤ cc ∧ cc ≤ 119 ∧ (cc = 0 ↔ ¬ (23 ≤ kZ z s.1 ∧ kZ z s.1 ≤ 33))) (hx : (t5 = 1 ∧ cnt (y :: ys) < 7) ∨ (t5 = 0 ∧ s.2.1 < 60 ∧ (kZ z s.1 = 101 ∨ (23 ≤ kZ z s.1 ∧ kZ z s.1 ≤ 33) ∨ (kZ z s.1 = 40 ∧ cnt (y :: ys) < 7)))) (hw : (23 ≤ kZ z s.1 ∧ kZ z s.1 ≤ 33) → askB n (kZ z s.1) = true)
    (wNot : kZ z s.1 = 22 → (rk y ≤ 3 ∨ 7 ≤ rk y) → cnt (y :: ys) < 7 → ∀ x, RP z n (nxt z s.1, s.2.1, s.2.2) (-23 :: y :: ys) x → FA EAf w x → Q (x, 1))
    (wNum : s.2.1 < 60 → kZ z s.1 = 101 → ∀ x, RP z n (nxt z s.1, s.2.1 + 1, wZ z s.1 :: s.2.2) (y :: ys) x → FA EAf w x → Q (x, 0))
    (wAsk : s.2.1 < 60 → askB n (kZ z s.1) = true → ∀ x, RP z n (nxt z s.1, s.2.1 + 1, (-1 - kZ z s.1) :: s.2.2) (y :: ys) x → FA EAf w x → Q (x, 0))
    (wOpen : s.2.1 < 60 → kZ z s.1 = 40 → cnt (y :: ys) < 7 → ∀ x, RP z n (nxt z s.1, s.2.1 + 1, s.2.2) (1 :: y :: ys) x → FA EAf w x → Q (x, 1)) : Ok (Option.bind (gI shm w 12 1 46) fun units_12 =>
 Jn (fun t13 : Int => Option.bind (pI shm w 12 1 46 (units_12 + t13)) fun σ14 =>
 Jn (fun t15 : Int => Option.bind (rcv shm σ14 12 1 (f_X12_next N σ14 1)) fun q16 =>
 Jn (fun t17 : Unit => Jn (fun t18 : Int => Option.bind (rcv shm q16.1 12 1 (f_X12_put N q16.1 1 t18 126)) fun q19 =>
 Option.bind (gI shm q19.1 12 1 47) fun deep_20 =>
 Option.bind (pI shm q19.1 12 1 47 (deep_20 + 1)) fun σ21 =>
 some (σ21, 1)) fun J212_21 =>
 (if wr t5 = 0 then J212_21 7 else J212_21 3)) fun J201_23 =>
 (if wr t5 = 0 then (if wr b40 = 0 then Jn (fun t25 : Int => Option.bind (rcv shm q16.1 12 1 (f_X12_step N q16.1 1 t25 t15)) fun q26 =>
 some (q26.1, 0)) fun J242_26 =>
 (if wr cc = 0 then J242_26 110 else J242_26 cc) else J201_23 ()) else J201_23 ())) fun J187_30 =>
 (if wr cc = 0 then Option.bind (gI shm σ14 12 1 9) fun number_32 =>
 J187_30 number_32 else J187_30 0)) fun J170_33 =>
 (if wr t5 = 0 then J170_33 1 else J170_33 0)) Q := by
  obtain ⟨h1, ⟨h2, h3, h4, h5, h6⟩, h7, h8, h9, h10⟩ := id h
  have hM := h1.1
  obtain ⟨k1, k6, k8, kn, kt, ke, knm, knu, kw, k7⟩ := h1.kd
  have zK := hz.2.2.1
  have rnp := npn_lo (y :: ys)
  rw [List.length_cons] at h10 hlen
  refine sm_gI hM ?_
  rw [h2]
  have k102 : kZ z s.1 ≠ 102 := by
    rcases hx with ⟨rfl, hx⟩ | ⟨rfl, p1, p2⟩
    · rcases ht5 with ⟨_, q⟩ | ⟨q, _⟩ <;> omega
    · omega
  have nx := nx1 hz k1 k102
  refine ok_JnC (fun t13 => t13 = 1 - t5) (fun t13 ht13 => ?_) (fun J hJ => ?_)
  rotate_left
  · rcases ht5 with ⟨rfl, _⟩ | ⟨rfl, _⟩
    · exact ok_z1 (hJ _ rfl)
    · exact ok_z0 (hJ _ rfl)
  subst ht13
  refine sm_pI hM ?_
  have hRP : RP z n (s.1, s.2.1 + (1 - t5), s.2.2) (y :: ys) (uF w 1 46 (s.2.1 + (1 - t5))) := ⟨h1.wF rfl, ⟨fI_eq, (fI_j (by decide)).trans h3, (fI_j (by decide)).trans h4, (fI_j (by decide)).trans h5, (fI_j (by decide)).trans h6⟩, by rw [uF_cell (by decide), uF_cell (by decide)]; exact h7, by rw [uF_cell (by decide), uF_cell (by decide)]; exact h8, h9, by rw [List.length_cons]; omega⟩
  have F1 : FA EAf w (uF w 1 46 (s.2.1 + (1 - t5))) := FA.refl.wF (.inl ⟨rfl, by omega⟩)
  have n9 : kZ z s.1 = 101 → fI (uF w 1 46 (s.2.1 + (1 - t5))) 1 9 = wZ z s.1 := fun q => (fI_j (by decide)).trans (knu q)
  generalize uF w 1 46 (s.2.1 + (1 - t5)) = x1 at hRP F1 n9 ⊢
  have hM1 := hRP.1.1
  refine ok_JnC (fun t15 => kZ z s.1 = 101 → t15 = wZ z s.1) (fun t15 ht15 => ?_) (fun J hJ => ?_)
  rotate_left
  · refine ok_weqc (by omega) (fun c => sm_gI hM1 (hJ _ n9)) (fun c => hJ _ fun q => by omega)
  obtain ⟨x2, e2, m2, f2⟩ := next_eq (N := N) hz hRP.1 (by omega)
  refine sm_rcv hM1 (ok_rw e2 ?_)
  have f2' : FM [] [4, 5, 6, 7, 8, 9, 10] x1 x2 := f2.mono (fun _ h => h) (by simp)
  have hRP2 : RP z n (nxt z s.1, s.2.1 + (1 - t5), s.2.2) (y :: ys) x2 := hRP.of m2 f2' (by dsimp only; omega)
  have F2 : FA EAf w x2 := F1.trans (f7E f2')
  have hM2 := hRP2.1.1
  refine ok_JnC (fun _ => t5 = 1 ∨ kZ z s.1 = 40) (fun _ hu2 => ?_) (fun J hJ => ?_)
  · refine ok_JnC (fun t18 => t18 = if t5 = 0 then 7 else 3) (fun t18 ht18 => ?_) (fun J2 hJ2 => ?_)
    · subst ht18
      rcases ht5 with ⟨rfl, p1, p2⟩ | ⟨rfl, p1⟩
      · refine hRP2.push2 (x := -23) rfl (.inl rfl) (by dsimp only; rw [if_pos (by decide)]; omega) (by rw [List.length_cons]; omega) (fun τ Fτ rτ => wNot p1 p2 ?_ τ ?_ (F2.trans Fτ))
        · rcases hx with ⟨_, q⟩ | ⟨q, _⟩
          · exact q
          · omega
        · have e : s.2.1 + (1 - 1) = s.2.1 := by omega
          rw [e] at rτ
          exact rτ
      · have hk : kZ z s.1 = 40 := by omega
        have hx2 : s.2.1 < 60 ∧ cnt (y :: ys) < 7 := by
          rcases hx with ⟨q, _⟩ | ⟨_, q, q2⟩ <;> omega
        refine hRP2.push2 (x := 1) rfl (.inr rfl) (by dsimp only; rw [if_neg (by decide)]; omega) (by rw [List.length_cons]; omega) (fun τ Fτ rτ => wOpen hx2.1 hk hx2.2 τ ?_ (F2.trans Fτ))
        have e : s.2.1 + (1 - 0) = s.2.1 + 1 := by omega
        rw [e] at rτ
        exact rτ
    · rcases ht5 with ⟨rfl, _⟩ | ⟨rfl, _⟩
      · exact ok_z1 (hJ2 _ (by rw [if_neg (by decide)]))
      · exact ok_z0 (hJ2 _ (by rw [if_pos rfl]))
  · rcases ht5 with ⟨rfl, p1, p2⟩ | ⟨rfl, p1⟩
    · exact ok_z1 (hJ _ (.inl rfl))
    refine ok_z0 ?_
    rcases a40 with rfl | rfl
    rotate_left
    · exact ok_z1 (hJ _ (.inr (i40.mp rfl)))
    refine ok_z0 ?_
    have hk40 : kZ z s.1 ≠ 40 := fun q => by have := i40.mpr q; omega
    have hx2 : s.2.1 < 60 ∧ (kZ z s.1 = 101 ∨ (23 ≤ kZ z s.1 ∧ kZ z s.1 ≤ 33)) := by
      rcases hx with ⟨q, _⟩ | ⟨_, q, q2⟩ <;> omega
    have eu : s.2.1 + (1 - 0) = s.2.1 + 1 := by omega
    rw [eu] at hRP2
    refine ok_JnC (fun t25 => t25 = if kZ z s.1 = 101 then 110 else rc (-1 - kZ z s.1)) (fun t25 ht25 => ?_) (fun J2 hJ2 => ?_)
    · subst ht25
      rcases hx2.2 with q | q
      · rw [if_pos q, ht15 q]
        have rw0 := hz.num k1 q
        have r110 : (110 : Int) = rc (wZ z s.1) := (if_pos rw0.1).symm
        rw [r110]
        obtain ⟨x3, e3, F3, r3⟩ := hRP2.step (N := N) n7 hz (c := wZ z s.1) (b := wZ z s.1) (by dsimp only; omega) (fun _ => rfl)
        exact sm_rcv hM2 (ok_rw e3 (ok_some (wNum hx2.1 q x3 r3 (F2.trans F3))))
      · rw [if_neg (by omega)]
        obtain ⟨x3, e3, F3, r3⟩ := hRP2.step (N := N) n7 hz (c := -1 - kZ z s.1) (b := t15) (by dsimp only; omega) (fun q2 => by omega)
        exact sm_rcv hM2 (ok_rw e3 (ok_some (wAsk hx2.1 (hw q) x3 r3 (F2.trans F3))))
    · refine ok_weqc (by omega) (fun c => hJ2 _ ?_) (fun c => hJ2 _ ?_)
      · rw [if_pos (by omega)]
      · rw [if_neg (by omega), c1 (by omega)]
set_option maxHeartbeats 4000000 in
theorem unitM {Q : St × Int → Prop} {s : PS} {y : Int} {ys : List Int} (hz : Str z) (n7 : nZ z ≤ 700) (hn : 0 ≤ n ∧ n ≤ 3) (h : RP z n s (y :: ys) σ) (hu : 0 ≤ s.2.1 ∧ s.2.1 ≤ 60) (hc : cnt (y :: ys) ≤ 7) (hlen : (y :: ys).length ≤ 50) (hN : 3000 < N)
    (wNot : kZ z s.1 = 22 → (rk y ≤ 3 ∨ 7 ≤ rk y) → cnt (y :: ys) < 7 → ∀ x, RP z n (nxt z s.1, s.2.1, s.2.2) (-23 :: y :: ys) x → FA EAf σ x → Q (x, 1))
    (wNot7 : kZ z s.1 = 22 → (rk y ≤ 3 ∨ 7 ≤ rk y) → cnt (y :: ys) = 7 → ∀ x, MR z (.inl (2, pZ z s.1)) x → FA EAf σ x → Q (x, 1))
    (w60 : ¬ (kZ z s.1 = 22 ∧ (rk y ≤ 3 ∨ 7 ≤ rk y)) → s.2.1 = 60 → ∀ x, MR z (.inl (bad (kZ z s.1) 2, pZ z s.1)) x → FA EAf σ x → Q (x, 1))
    (wNum : s.2.1 < 60 → kZ z s.1 = 101 → ∀ x, RP z n (nxt z s.1, s.2.1 + 1, wZ z s.1 :: s.2.2) (y :: ys) x → FA EAf σ x → Q (x, 0))
    (wAsk : s.2.1 < 60 → askB n (kZ z s.1) = true → ∀ x, RP z n (nxt z s.1, s.2.1 + 1, (-1 - kZ z s.1) :: s.2.2) (y :: ys) x → FA EAf σ x → Q (x, 0))
    (w7 : s.2.1 < 60 → (23 ≤ kZ z s.1 ∧ kZ z s.1 ≤ 33) → ¬ askB n (kZ z s.1) = true → ∀ x, MR z (.inl (7, pZ z s.1)) x → FA EAf σ x → Q (x, 1))
    (wOpen : s.2.1 < 60 → kZ z s.1 = 40 → cnt (y :: ys) < 7 → ∀ x, RP z n (nxt z s.1, s.2.1 + 1, s.2.2) (1 :: y :: ys) x → FA EAf σ x → Q (x, 1))
    (wBad : ¬ (kZ z s.1 = 22 ∧ (rk y ≤ 3 ∨ 7 ≤ rk y)) → s.2.1 < 60 → kZ z s.1 ≠ 101 → ¬ (23 ≤ kZ z s.1 ∧ kZ z s.1 ≤ 33) → ¬ (kZ z s.1 = 40 ∧ cnt (y :: ys) < 7) → ∀ x, MR z (.inl (bad (kZ z s.1) 2, pZ z s.1)) x → FA EAf σ x → Q (x, 1)) : Ok (f_X12_unit N σ 1) Q := by
  obtain ⟨h1, ⟨h2, h3, h4, h5, h6⟩, h7, h8, h9, h10⟩ := id h
  have hM := h1.1
  obtain ⟨k1, k6, k8, kn, kt, ke, knm, knu, kw, k7⟩ := h1.kd
  have rkd := hz.rg k1
  have zK := hz.2.2.1
  have ry := rk_rg y
  have rcn := cnt_lo (y :: ys)
  have rnp := npn_lo (y :: ys)
  rw [List.length_cons] at h10 hlen
  have e1 : fI σ 1 48 - 1 = (ys.length : Int) := by rw [h4, List.length_cons]; omega
  have a1 : σ.2.1 29 (ys.length : Int) = rk y := h8.1
  obtain ⟨b40, e40, a40, i40⟩ := is_eq (N := N) hz h1 (c := 40) (by unfold isSg; decide)
  have i40 := i40 s.1 rfl
  unfold f_X12_unit
  refine sm_gR hM rfl (sm_gI hM ?_)
  rw [e1]
  refine sm_aI hM rfl rfl (by decide) (by omega) (by omega) ?_
  rw [a1]
  refine ok_JnC (fun t4 => (t4 = 1 ∧ (rk y ≤ 3 ∨ 7 ≤ rk y)) ∨ (t4 = 0 ∧ ¬ (rk y ≤ 3 ∨ 7 ≤ rk y))) (fun t4 ht4 => ?_) (fun J hJ => ?_)
  rotate_left
  · refine ok_JnC (fun _ => rk y ≤ 3 ∨ 7 ≤ rk y) (fun _ hu => hJ _ (.inl ⟨rfl, hu⟩)) (fun J2 hJ2 => ?_)
    refine ok_wlt (by omega) (by omega) (fun c => ?_) (fun c => hJ2 _ (.inl c))
    refine sm_gR hM rfl (sm_gI hM ?_)
    rw [e1]
    refine sm_aI hM rfl rfl (by decide) (by omega) (by omega) ?_
    rw [a1]
    exact ok_wlt (by omega) (by omega) (fun c2 => hJ _ (.inr ⟨rfl, by omega⟩)) (fun c2 => hJ2 _ (.inr c2))
  refine ok_JnC (fun t5 => (t5 = 1 ∧ kZ z s.1 = 22 ∧ (rk y ≤ 3 ∨ 7 ≤ rk y)) ∨ (t5 = 0 ∧ ¬ (kZ z s.1 = 22 ∧ (rk y ≤ 3 ∨ 7 ≤ rk y)))) (fun t5 ht5 => ?_) (fun J hJ => ?_)
  rotate_left
  · refine ok_JnC (fun _ => ¬ (kZ z s.1 = 22 ∧ (rk y ≤ 3 ∨ 7 ≤ rk y))) (fun _ hu => hJ _ (.inr ⟨rfl, hu⟩)) (fun J2 hJ2 => ?_)
    rcases ht4 with ⟨rfl, ht4⟩ | ⟨rfl, ht4⟩
    · refine ok_z1 ?_
      obtain ⟨b, e, a, i⟩ := isWord_eq (N := N) hz h1 (j := 22) (w := 7237492) (by decide) rfl
      have i := i s.1 rfl
      refine sm_rcv hM (ok_rw e ?_)
      rcases a with rfl | rfl
      · exact ok_z0 (hJ2 _ fun q => by have := i.mpr q.1; omega)
      · exact ok_z1 (hJ _ (.inl ⟨rfl, i.mp rfl, ht4⟩))
    · exact ok_z0 (hJ2 _ fun q => ht4 q.2)
  refine sm_rcv hM (ok_rw e40 ?_)
  refine sm_rcv hM (ok_rw (wordHere_eq hz h1) ?_)
  dsimp only
  obtain ⟨xw, ew, mw, fw⟩ := wrong_eq (N := N) hz h1
  have mw : MR z (.inl (bad (kZ z s.1) 2, pZ z s.1)) xw := mw
  have FW : FA EAf σ xw := f7E (fw.mono (fun _ h => h) (by simp))
  have c0 : ¬ (23 ≤ kZ z s.1 ∧ kZ z s.1 ≤ 33) → (if 23 ≤ kZ z s.1 ∧ kZ z s.1 ≤ 33 then rc (-1 - kZ z s.1) else 0) = 0 := fun q => if_neg q
  have c1 : (23 ≤ kZ z s.1 ∧ kZ z s.1 ≤ 33) → (if 23 ≤ kZ z s.1 ∧ kZ z s.1 ≤ 33 then rc (-1 - kZ z s.1) else 0) = rc (-1 - kZ z s.1) := fun q => if_pos q
  generalize hcc : (if 23 ≤ kZ z s.1 ∧ kZ z s.1 ≤ 33 then rc (-1 - kZ z s.1) else 0) = cc at c0 c1
  have hcr : 0 ≤ cc ∧ cc ≤ 119 ∧ (cc = 0 ↔ ¬ (23 ≤ kZ z s.1 ∧ kZ z s.1 ≤ 33)) := by
    by_cases q : 23 ≤ kZ z s.1 ∧ kZ z s.1 ≤ 33
    · have := rc_ne q
      have := c1 q
      omega
    · have := c0 q
      omega
  refine ok_JnC (fun x => (x = σ ∧ ((t5 = 1 ∧ cnt (y :: ys) < 7) ∨ (t5 = 0 ∧ s.2.1 < 60 ∧ (kZ z s.1 = 101 ∨ (23 ≤ kZ z s.1 ∧ kZ z s.1 ≤ 33) ∨ (kZ z s.1 = 40 ∧ cnt (y :: ys) < 7))))) ∨ (x = xw ∧ ((t5 = 1 ∧ cnt (y :: ys) = 7) ∨ (t5 = 0 ∧ (s.2.1 = 60 ∨ (kZ z s.1 ≠ 101 ∧ ¬ (23 ≤ kZ z s.1 ∧ kZ z s.1 ≤ 33) ∧ ¬ (kZ z s.1 = 40 ∧ cnt (y :: ys) < 7))))))) (fun x hx => ?_) (fun J hJ => ?_)
  rotate_left
  · refine ok_JnC (fun _ => (t5 = 1 ∧ cnt (y :: ys) = 7) ∨ (t5 = 0 ∧ (s.2.1 = 60 ∨ (kZ z s.1 ≠ 101 ∧ ¬ (23 ≤ kZ z s.1 ∧ kZ z s.1 ≤ 33) ∧ ¬ (kZ z s.1 = 40 ∧ cnt (y :: ys) < 7))))) (fun _ hu => sm_rcv hM (ok_rw ew (hJ _ (.inr ⟨rfl, hu⟩)))) (fun J2 hJ2 => ?_)
    refine ok_JnC (fun _ => t5 = 1 ∨ (t5 = 0 ∧ s.2.1 < 60 ∧ (kZ z s.1 = 101 ∨ (23 ≤ kZ z s.1 ∧ kZ z s.1 ≤ 33) ∨ kZ z s.1 = 40))) (fun _ hu => ?_) (fun J3 hJ3 => ?_)
    · refine ok_JnC (fun _ => t5 = 1 ∨ (t5 = 0 ∧ s.2.1 < 60 ∧ kZ z s.1 = 40)) (fun _ hu2 => ?_) (fun J4 hJ4 => ?_)
      · refine sm_gI hM ?_
        rw [h5]
        refine ok_weq (by omega) (by omega) (fun c => hJ2 _ ?_) (fun c => hJ _ (.inl ⟨rfl, ?_⟩))
        · rcases hu2 with q | ⟨q, q2, q3⟩
          · exact .inl ⟨q, c⟩
          · exact .inr ⟨q, .inr ⟨by omega, by omega, by omega⟩⟩
        · rcases hu2 with q | ⟨q, q2, q3⟩
          · exact .inl ⟨q, by omega⟩
          · exact .inr ⟨q, q2, .inr (.inr ⟨q3, by omega⟩)⟩
      · rcases hu with rfl | ⟨rfl, q2, q3⟩
        · exact ok_z1 (hJ4 _ (.inl rfl))
        · refine ok_z0 ?_
          rcases a40 with rfl | rfl
          · exact ok_z0 (hJ _ (.inl ⟨rfl, .inr ⟨rfl, q2, by omega⟩⟩))
          · exact ok_z1 (hJ4 _ (.inr ⟨rfl, q2, i40.mp rfl⟩))
    · rcases ht5 with ⟨rfl, q1, q2⟩ | ⟨rfl, q1⟩
      · exact ok_z1 (hJ3 _ (.inl rfl))
      · refine ok_z0 ?_
        refine ok_JnC (fun _ => kZ z s.1 = 101 ∨ (23 ≤ kZ z s.1 ∧ kZ z s.1 ≤ 33) ∨ kZ z s.1 = 40) (fun _ hu2 => ?_) (fun J4 hJ4 => ?_)
        · refine sm_gI hM ?_
          rw [h2]
          exact ok_weq (by omega) (by omega) (fun c => hJ2 _ (.inr ⟨rfl, .inl c⟩)) (fun c => hJ3 _ (.inr ⟨rfl, by omega, hu2⟩))
        · refine ok_weqc (by omega) (fun c => ?_) (fun c => hJ4 _ (.inr (.inl (by omega))))
          refine sm_gI hM ?_
          refine ok_weq (by omega) (by omega) (fun c2 => hJ4 _ (.inl (kt.mp c2))) (fun c2 => ?_)
          rcases a40 with rfl | rfl
          · refine ok_z0 (hJ2 _ (.inr ⟨rfl, .inr ⟨fun q => c2 (kt.mpr q), by omega, by omega⟩⟩))
          · exact ok_z1 (hJ4 _ (.inr (.inr (i40.mp rfl))))
  rcases hx with ⟨rfl, hx⟩ | ⟨rfl, hx⟩
  rotate_left
  · refine sm_rcv mw.1 (ok_rw (isGood_eq mw) ?_)
    refine st_Jn (ok_z0 ?_)
    refine sm_rcv mw.1 (ok_rw (isGood_eq mw) (ok_z0 (ok_some ?_)))
    rcases hx with ⟨rfl, hx⟩ | ⟨rfl, hx⟩
    · have hk : kZ z s.1 = 22 ∧ (rk y ≤ 3 ∨ 7 ≤ rk y) := by
        rcases ht5 with ⟨_, q⟩ | ⟨q, _⟩
        · exact q
        · omega
      refine wNot7 hk.1 hk.2 hx x ?_ FW
      unfold bad at mw
      rw [if_neg (by omega)] at mw
      exact mw
    · have hk : ¬ (kZ z s.1 = 22 ∧ (rk y ≤ 3 ∨ 7 ≤ rk y)) := by
        rcases ht5 with ⟨q, _⟩ | ⟨_, q⟩
        · omega
        · exact q
      by_cases q60 : s.2.1 = 60
      · exact w60 hk q60 x mw FW
      · rcases hx with hx | ⟨p1, p2, p3⟩
        · exact absurd hx q60
        · exact wBad hk (by omega) p1 p2 p3 x mw FW
  refine sm_rcv hM (ok_rw (isGood_eq h1) ?_)
  refine ok_JnC (fun w => (w = x ∧ ((23 ≤ kZ z s.1 ∧ kZ z s.1 ≤ 33) → askB n (kZ z s.1) = true)) ∨ ((23 ≤ kZ z s.1 ∧ kZ z s.1 ≤ 33) ∧ ¬ askB n (kZ z s.1) = true ∧ MR z (.inl (7, pZ z s.1)) w ∧ FA EAf x w)) (fun w hw => ?_) (fun J hJ => ?_)
  rotate_left
  · refine ok_z1 ?_
    have ma := mayAskM_eq (N := N) hM h6 hn (kZ z s.1)
    rw [hcc] at ma
    refine sm_rcv hM (ok_rw ma ?_)
    by_cases q : 23 ≤ kZ z s.1 ∧ kZ z s.1 ≤ 33
    · rw [if_pos q]
      by_cases q2 : askB n (kZ z s.1) = true
      · rw [if_pos q2]
        exact ok_z1 (hJ _ (.inl ⟨rfl, fun _ => q2⟩))
      · rw [if_neg q2]
        refine ok_z0 (sm_gI hM ?_)
        rw [k6]
        obtain ⟨x7, e7, m7, f7'⟩ := fails_eq (N := N) hz h1 (w := 7) (p := pZ z s.1) (by decide)
        exact sm_rcv hM (ok_rw e7 (hJ _ (.inr ⟨q, q2, m7, f7E (f7'.mono (fun _ h => h) (by simp))⟩)))
    · rw [if_neg q]
      exact ok_z1 (hJ _ (.inl ⟨rfl, fun c => absurd c q⟩))
  rcases hw with ⟨rfl, hw⟩ | ⟨q, q2, m7, F7⟩
  rotate_left
  · refine sm_rcv m7.1 (ok_rw (isGood_eq m7) (ok_z0 (ok_some ?_)))
    rcases hx with ⟨rfl, hx⟩ | ⟨rfl, p1, p2⟩
    · rcases ht5 with ⟨_, q⟩ | ⟨q, _⟩ <;> omega
    · exact w7 p1 q q2 w m7 F7
  refine sm_rcv hM (ok_rw (isGood_eq h1) (ok_z1 ?_))
  exact unitTail hz n7 h (by rw [List.length_cons]; exact hlen) hN ht5 a40 i40 c1 hcr (by
    rcases hx with ⟨q, q2⟩ | ⟨q, q2, q3⟩
    · exact .inl ⟨q, q2⟩
    · exact .inr ⟨q, q2, q3⟩) hw wNot wNum wAsk wOpen
end F
