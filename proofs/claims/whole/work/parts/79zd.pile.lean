/-! the pure part: the reference's pile -/
section F
variable {N : Nat} {σ τ υ : St} {z : Zs} {n : Int}
def rk (x : Int) : Int := if x = -22 then 1 else if x = -21 then 2 else if x = -23 then 3 else if x = -61 ∨ x = -62 ∨ x = -63 then 4 else if x = -44 ∨ x = -46 then 5 else if x = -43 then 6 else if x = 1 then 7 else 8
def rkT (kd : Int) : Int := if kd = 20 then 2 else if kd = 21 then 1 else if kd = 60 ∨ kd = 61 ∨ kd = 62 then 4 else if kd = 43 ∨ kd = 45 then 5 else if kd = 42 then 6 else 0
theorem rk_rg (x : Int) : 1 ≤ rk x ∧ rk x ≤ 8 := by
  unfold rk
  repeat' split
  all_goals decide
theorem rkT_rg (x : Int) : 0 ≤ rkT x ∧ rkT x ≤ 6 := by
  unfold rkT
  repeat' split
  all_goals decide
def cnt : List Int → Int
  | [] => 0
  | x :: xs => cnt xs + (if x = -23 ∨ x = 1 then 1 else 0)
def npn : List Int → Int
  | [] => 0
  | x :: xs => npn xs + (if x < 0 then 1 else 0)
theorem cnt_lo : ∀ P : List Int, 0 ≤ cnt P ∧ cnt P ≤ (P.length : Int)
  | [] => by decide
  | x :: xs => by
    have := cnt_lo xs
    unfold cnt
    rw [List.length_cons]
    split <;> omega
theorem npn_lo : ∀ P : List Int, 0 ≤ npn P
  | [] => by decide
  | x :: xs => by
    have := npn_lo xs
    unfold npn
    split <;> omega
def PlR (f g : Int → Int) : List Int → Prop
  | [] => True
  | x :: xs => f (xs.length : Int) = rk x ∧ (x < 0 → g (xs.length : Int) = rc x) ∧ PlR f g xs
def CdR (f g : Int → Int) : List Int → Prop
  | [] => True
  | x :: xs => f (2100 + (xs.length : Int)) = rc x ∧ (0 ≤ x → g (2100 + (xs.length : Int)) = x) ∧ CdR f g xs
theorem PlR.congr {f g f' g' : Int → Int} : ∀ {s : List Int}, PlR f g s → (∀ j : Int, 0 ≤ j → j < (s.length : Int) → f' j = f j ∧ g' j = g j) → PlR f' g' s
  | [], _, _ => trivial
  | x :: xs, h, e => by
    rw [List.length_cons] at e
    obtain ⟨e1, e2⟩ := e (xs.length : Int) (by omega) (by omega)
    exact ⟨by rw [e1]; exact h.1, fun q => by rw [e2]; exact h.2.1 q, PlR.congr h.2.2 fun j a b => e j a (by omega)⟩
theorem CdR.congr {f g f' g' : Int → Int} : ∀ {s : List Int}, CdR f g s → (∀ j : Int, 2100 ≤ j → j < 2100 + (s.length : Int) → f' j = f j ∧ g' j = g j) → CdR f' g' s
  | [], _, _ => trivial
  | x :: xs, h, e => by
    rw [List.length_cons] at e
    obtain ⟨e1, e2⟩ := e (2100 + (xs.length : Int)) (by omega) (by omega)
    exact ⟨by rw [e1]; exact h.1, fun q => by rw [e2]; exact h.2.1 q, CdR.congr h.2.2 fun j a b => e j a (by omega)⟩
/-- the reference inside an expression: which line, where, its pile -/
def RP (z : Zs) (n : Int) (s : PS) (P : List Int) (σ : St) : Prop := MR z (.inr s.1) σ ∧ (fI σ 1 46 = s.2.1 ∧ fI σ 1 45 = (s.2.2.length : Int) ∧ fI σ 1 48 = (P.length : Int) ∧ fI σ 1 47 = cnt P ∧ fI σ 1 49 = n) ∧ CdR (σ.2.1 27) (σ.2.1 28) s.2.2 ∧ PlR (σ.2.1 29) (σ.2.1 30) P ∧ (s.2.2.length : Int) + npn P ≤ s.1 ∧ P.length ≤ 60
def EAf : Nat → Int → Prop := fun k i => (k = 1 ∧ (i < 0 ∨ (4 ≤ i ∧ i ≤ 10) ∨ (45 ≤ i ∧ i ≤ 48))) ∨ ((k = 27 ∨ k = 28) ∧ 2100 ≤ i) ∨ k = 29 ∨ k = 30
theorem f7E (f : FM [] [4, 5, 6, 7, 8, 9, 10] σ τ) : FA EAf σ τ := f7 f fun i q => .inl ⟨rfl, by omega⟩
/-- the pile is left as it is -/
theorem RP.of {s : PS} {P : List Int} {k' : Int} (h : RP z n s P σ) (m : MR z (.inr k') τ) (f : FM [] [4, 5, 6, 7, 8, 9, 10] σ τ) (hk : s.1 ≤ k') : RP z n (k', s.2.1, s.2.2) P τ := by
  obtain ⟨h1, ⟨h2, h3, h4, h5, h6⟩, h7, h8, h9, h10⟩ := h
  refine ⟨m, ⟨(f.f (by decide)).trans h2, (f.f (by decide)).trans h3, (f.f (by decide)).trans h4, (f.f (by decide)).trans h5, (f.f (by decide)).trans h6⟩, ?_, ?_, by dsimp only; omega, h10⟩
  · rw [f.2.2.1 27 (by decide) (by simp), f.2.2.1 28 (by decide) (by simp)]; exact h7
  · rw [f.2.2.1 29 (by decide) (by simp), f.2.2.1 30 (by decide) (by simp)]; exact h8
theorem step_eq (hM : WMr σ.1 σ.2.2) {c a b : Int} (hc : fI σ 1 45 = c) (hr : 0 ≤ c ∧ c < 700) : f_X12_step N σ 1 a b = some (uF (uI (uI σ 27 (2100 + c) a) 28 (2100 + c) b) 1 45 (c + 1), 0) := by
  have H : Ok (f_X12_step N σ 1 a b) (fun q => q = (uF (uI (uI σ 27 (2100 + c) a) 28 (2100 + c) b) 1 45 (c + 1), 0)) := by
    unfold f_X12_step
    refine sm_gR hM rfl (sm_gI hM ?_)
    rw [hc]
    refine sm_sI hM rfl rfl (by decide) (by omega) (by omega) ?_
    refine sm_gR (σ := uI σ 27 (2100 + c) a) hM rfl (sm_gI (σ := uI σ 27 (2100 + c) a) hM ?_)
    rw [show fI (uI σ 27 (2100 + c) a) 1 45 = c from (fI_uk (by decide)).trans hc]
    refine sm_sI (σ := uI σ 27 (2100 + c) a) hM rfl rfl (by decide) (by omega) (by omega) ?_
    refine sm_gI (σ := uI (uI σ 27 (2100 + c) a) 28 (2100 + c) b) hM ?_
    rw [show fI (uI (uI σ 27 (2100 + c) a) 28 (2100 + c) b) 1 45 = c from (fI_uk (by decide)).trans ((fI_uk (by decide)).trans hc)]
    exact sm_pI (σ := uI (uI σ 27 (2100 + c) a) 28 (2100 + c) b) hM (ok_some rfl)
  obtain ⟨q, e, rfl⟩ := H
  exact e
theorem pput_eq (hM : WMr σ.1 σ.2.2) {p a b : Int} (hc : fI σ 1 48 = p) (hr : 0 ≤ p ∧ p < 80) : f_X12_put N σ 1 a b = some (uF (uI (uI σ 29 p a) 30 p b) 1 48 (p + 1), 0) := by
  have H : Ok (f_X12_put N σ 1 a b) (fun q => q = (uF (uI (uI σ 29 p a) 30 p b) 1 48 (p + 1), 0)) := by
    unfold f_X12_put
    refine sm_gR hM rfl (sm_gI hM ?_)
    rw [hc]
    refine sm_sI hM rfl rfl (by decide) (by omega) (by omega) ?_
    refine sm_gR (σ := uI σ 29 p a) hM rfl (sm_gI (σ := uI σ 29 p a) hM ?_)
    rw [show fI (uI σ 29 p a) 1 48 = p from (fI_uk (by decide)).trans hc]
    refine sm_sI (σ := uI σ 29 p a) hM rfl rfl (by decide) (by omega) (by omega) ?_
    refine sm_gI (σ := uI (uI σ 29 p a) 30 p b) hM ?_
    rw [show fI (uI (uI σ 29 p a) 30 p b) 1 48 = p from (fI_uk (by decide)).trans ((fI_uk (by decide)).trans hc)]
    exact sm_pI (σ := uI (uI σ 29 p a) 30 p b) hM (ok_some rfl)
  obtain ⟨q, e, rfl⟩ := H
  exact e
/-- a code more -/
theorem RP.step {s : PS} {P : List Int} (h : RP z n s P σ) (n7 : nZ z ≤ 700) (hz : Str z) {c b : Int} (hl : (s.2.2.length : Int) + 1 + npn P ≤ s.1 ∧ (s.2.2.length : Int) < 700) (hb : 0 ≤ c → b = c) : ∃ τ, f_X12_step N σ 1 (rc c) b = some (τ, 0) ∧ FA EAf σ τ ∧ RP z n (s.1, s.2.1, c :: s.2.2) P τ := by
  obtain ⟨h1, ⟨h2, h3, h4, h5, h6⟩, h7, h8, h9, h10⟩ := h
  refine ⟨_, step_eq h1.1 h3 ⟨by omega, hl.2⟩, ?_, ((h1.wI (by decide)).wI (by decide)).wF rfl, ⟨?_, ?_, ?_, ?_, ?_⟩, ⟨?_, fun q => ?_, ?_⟩, ?_, by dsimp only; rw [List.length_cons]; omega, h10⟩
  · exact ((FA.refl.wI (.inr (.inl ⟨.inl rfl, by omega⟩))).wI (.inr (.inl ⟨.inr rfl, by omega⟩))).wF (.inl ⟨rfl, by omega⟩)
  · rw [fI_j (by decide), fI_uk (by decide), fI_uk (by decide)]; exact h2
  · rw [fI_eq]; dsimp only; rw [List.length_cons]; omega
  · rw [fI_j (by decide), fI_uk (by decide), fI_uk (by decide)]; exact h4
  · rw [fI_j (by decide), fI_uk (by decide), fI_uk (by decide)]; exact h5
  · rw [fI_j (by decide), fI_uk (by decide), fI_uk (by decide)]; exact h6
  · rw [uF_k (by decide), uI_k (by decide), uI_eq]
  · rw [uF_k (by decide), uI_eq]; exact hb q
  · refine h7.congr fun j a b => ⟨?_, ?_⟩
    · rw [uF_k (by decide), uI_k (by decide), uI_j (by omega)]
    · rw [uF_k (by decide), uI_j (by omega), uI_k (by decide)]
  · rw [uF_cell (by decide), uF_cell (by decide), uI_cell (by decide), uI_cell (by decide), uI_cell (by decide), uI_cell (by decide)]; exact h8
/-- the rank of the TOKEN here -/
theorem rank_eq (hz : Str z) {k : Int} (h : MR z (.inr k) σ) : f_X12_rankHere N σ 1 = some (σ, rkT (kZ z k)) := by
  have H : Ok (f_X12_rankHere N σ 1) (fun q => q = (σ, rkT (kZ z k))) := by
    unfold f_X12_rankHere
    obtain ⟨b20, e20, a20, i20⟩ := isWord_eq (N := N) hz h (j := 20) (w := 6385252) (by decide) rfl
    obtain ⟨b21, e21, a21, i21⟩ := isWord_eq (N := N) hz h (j := 21) (w := 28530) (by decide) rfl
    obtain ⟨b60, e60, a60, i60⟩ := is_eq (N := N) hz h (c := 60) (by unfold isSg; decide)
    obtain ⟨b62, e62, a62, i62⟩ := is_eq (N := N) hz h (c := 62) (by unfold isSg; decide)
    obtain ⟨b61, e61, a61, i61⟩ := is_eq (N := N) hz h (c := 61) (by unfold isSg; decide)
    obtain ⟨b43, e43, a43, i43⟩ := is_eq (N := N) hz h (c := 43) (by unfold isSg; decide)
    obtain ⟨b45, e45, a45, i45⟩ := is_eq (N := N) hz h (c := 45) (by unfold isSg; decide)
    obtain ⟨b42, e42, a42, i42⟩ := is_eq (N := N) hz h (c := 42) (by unfold isSg; decide)
    have i20 := i20 k rfl
    have i21 := i21 k rfl
    have i60 := i60 k rfl
    have i62 := i62 k rfl
    have i61 := i61 k rfl
    have i43 := i43 k rfl
    have i45 := i45 k rfl
    have i42 := i42 k rfl
    unfold rkT
    refine sm_rcv h.1 (ok_rw e20 ?_)
    by_cases c20 : kZ z k = 20
    · have : b20 = 1 := i20.mpr c20
      subst this
      exact ok_z1 (ok_some (by rw [c20]; rfl))
    have z20 : b20 = 0 := by omega
    subst z20
    refine ok_z0 ?_
    refine sm_rcv h.1 (ok_rw e21 ?_)
    by_cases c21 : kZ z k = 21
    · have : b21 = 1 := i21.mpr c21
      subst this
      exact ok_z1 (ok_some (by rw [c21]; rfl))
    have z21 : b21 = 0 := by omega
    subst z21
    refine ok_z0 ?_
    refine sm_rcv h.1 (ok_rw e60 ?_)
    by_cases c60 : kZ z k = 60
    · have : b60 = 1 := i60.mpr c60
      subst this
      exact ok_z1 (ok_some (by rw [c60]; rfl))
    have z60 : b60 = 0 := by omega
    subst z60
    refine ok_z0 ?_
    refine sm_rcv h.1 (ok_rw e62 ?_)
    by_cases c62 : kZ z k = 62
    · have : b62 = 1 := i62.mpr c62
      subst this
      exact ok_z1 (ok_some (by rw [c62]; rfl))
    have z62 : b62 = 0 := by omega
    subst z62
    refine ok_z0 ?_
    refine sm_rcv h.1 (ok_rw e61 ?_)
    by_cases c61 : kZ z k = 61
    · have : b61 = 1 := i61.mpr c61
      subst this
      exact ok_z1 (ok_some (by rw [c61]; rfl))
    have z61 : b61 = 0 := by omega
    subst z61
    refine ok_z0 ?_
    refine sm_rcv h.1 (ok_rw e43 ?_)
    by_cases c43 : kZ z k = 43
    · have : b43 = 1 := i43.mpr c43
      subst this
      exact ok_z1 (ok_some (by rw [c43]; rfl))
    have z43 : b43 = 0 := by omega
    subst z43
    refine ok_z0 ?_
    refine sm_rcv h.1 (ok_rw e45 ?_)
    by_cases c45 : kZ z k = 45
    · have : b45 = 1 := i45.mpr c45
      subst this
      exact ok_z1 (ok_some (by rw [c45]; rfl))
    have z45 : b45 = 0 := by omega
    subst z45
    refine ok_z0 ?_
    refine sm_rcv h.1 (ok_rw e42 ?_)
    by_cases c42 : kZ z k = 42
    · have : b42 = 1 := i42.mpr c42
      subst this
      exact ok_z1 (ok_some (by rw [c42]; rfl))
    have z42 : b42 = 0 := by omega
    subst z42
    refine ok_z0 ?_
    refine ok_some ?_
    rw [if_neg c20, if_neg c21, if_neg (by omega), if_neg (by omega), if_neg c42]
  obtain ⟨q, e, rfl⟩ := H
  exact e
/-- the word asked for here -/
theorem wordHere_eq (hz : Str z) {k : Int} (h : MR z (.inr k) σ) : f_X12_wordHere N σ 1 = some (σ, if 23 ≤ kZ z k ∧ kZ z k ≤ 33 then rc (-1 - kZ z k) else 0) := by
  have H : Ok (f_X12_wordHere N σ 1) (fun q => q = (σ, if 23 ≤ kZ z k ∧ kZ z k ≤ 33 then rc (-1 - kZ z k) else 0)) := by
    unfold f_X12_wordHere
    obtain ⟨b23, e23, a23, i23⟩ := isWord_eq (N := N) hz h (j := 23) (w := 1818324580) (by decide) rfl
    have i23 := i23 k rfl
    refine sm_rcv h.1 (ok_rw e23 ?_)
    by_cases c23 : kZ z k = 23
    · have : b23 = 1 := i23.mpr c23
      subst this
      exact ok_z1 (ok_some (by rw [c23]; rfl))
    have z23 : b23 = 0 := by omega
    subst z23
    refine ok_z0 ?_
    obtain ⟨b24, e24, a24, i24⟩ := isWord_eq (N := N) hz h (j := 24) (w := 1668248436) (by decide) rfl
    have i24 := i24 k rfl
    refine sm_rcv h.1 (ok_rw e24 ?_)
    by_cases c24 : kZ z k = 24
    · have : b24 = 1 := i24.mpr c24
      subst this
      exact ok_z1 (ok_some (by rw [c24]; rfl))
    have z24 : b24 = 0 := by omega
    subst z24
    refine ok_z0 ?_
    obtain ⟨b25, e25, a25, i25⟩ := isWord_eq (N := N) hz h (j := 25) (w := 470020945000) (by decide) rfl
    have i25 := i25 k rfl
    refine sm_rcv h.1 (ok_rw e25 ?_)
    by_cases c25 : kZ z k = 25
    · have : b25 = 1 := i25.mpr c25
      subst this
      exact ok_z1 (ok_some (by rw [c25]; rfl))
    have z25 : b25 = 0 := by omega
    subst z25
    refine ok_z0 ?_
    obtain ⟨b26, e26, a26, i26⟩ := isWord_eq (N := N) hz h (j := 26) (w := 1870030194) (by decide) rfl
    have i26 := i26 k rfl
    refine sm_rcv h.1 (ok_rw e26 ?_)
    by_cases c26 : kZ z k = 26
    · have : b26 = 1 := i26.mpr c26
      subst this
      exact ok_z1 (ok_some (by rw [c26]; rfl))
    have z26 : b26 = 0 := by omega
    subst z26
    refine ok_z0 ?_
    obtain ⟨b27, e27, a27, i27⟩ := isWord_eq (N := N) hz h (j := 27) (w := 113741193899620) (by decide) rfl
    have i27 := i27 k rfl
    refine sm_rcv h.1 (ok_rw e27 ?_)
    by_cases c27 : kZ z k = 27
    · have : b27 = 1 := i27.mpr c27
      subst this
      exact ok_z1 (ok_some (by rw [c27]; rfl))
    have z27 : b27 = 0 := by omega
    subst z27
    refine ok_z0 ?_
    obtain ⟨b28, e28, a28, i28⟩ := isWord_eq (N := N) hz h (j := 28) (w := 1752135026) (by decide) rfl
    have i28 := i28 k rfl
    refine sm_rcv h.1 (ok_rw e28 ?_)
    by_cases c28 : kZ z k = 28
    · have : b28 = 1 := i28.mpr c28
      subst this
      exact ok_z1 (ok_some (by rw [c28]; rfl))
    have z28 : b28 = 0 := by omega
    subst z28
    refine ok_z0 ?_
    obtain ⟨b29, e29, a29, i29⟩ := isWord_eq (N := N) hz h (j := 29) (w := 495806932324) (by decide) rfl
    have i29 := i29 k rfl
    refine sm_rcv h.1 (ok_rw e29 ?_)
    by_cases c29 : kZ z k = 29
    · have : b29 = 1 := i29.mpr c29
      subst this
      exact ok_z1 (ok_some (by rw [c29]; rfl))
    have z29 : b29 = 0 := by omega
    subst z29
    refine ok_z0 ?_
    obtain ⟨b30, e30, a30, i30⟩ := isWord_eq (N := N) hz h (j := 30) (w := 27419012906970725) (by decide) rfl
    have i30 := i30 k rfl
    refine sm_rcv h.1 (ok_rw e30 ?_)
    by_cases c30 : kZ z k = 30
    · have : b30 = 1 := i30.mpr c30
      subst this
      exact ok_z1 (ok_some (by rw [c30]; rfl))
    have z30 : b30 = 0 := by omega
    subst z30
    refine ok_z0 ?_
    obtain ⟨b31, e31, a31, i31⟩ := isWord_eq (N := N) hz h (j := 31) (w := 495673374574) (by decide) rfl
    have i31 := i31 k rfl
    refine sm_rcv h.1 (ok_rw e31 ?_)
    by_cases c31 : kZ z k = 31
    · have : b31 = 1 := i31.mpr c31
      subst this
      exact ok_z1 (ok_some (by rw [c31]; rfl))
    have z31 : b31 = 0 := by omega
    subst z31
    refine ok_z0 ?_
    obtain ⟨b32, e32, a32, i32⟩ := isWord_eq (N := N) hz h (j := 32) (w := 122545758368371) (by decide) rfl
    have i32 := i32 k rfl
    refine sm_rcv h.1 (ok_rw e32 ?_)
    by_cases c32 : kZ z k = 32
    · have : b32 = 1 := i32.mpr c32
      subst this
      exact ok_z1 (ok_some (by rw [c32]; rfl))
    have z32 : b32 = 0 := by omega
    subst z32
    refine ok_z0 ?_
    obtain ⟨b33, e33, a33, i33⟩ := isWord_eq (N := N) hz h (j := 33) (w := 482955846501) (by decide) rfl
    have i33 := i33 k rfl
    refine sm_rcv h.1 (ok_rw e33 ?_)
    by_cases c33 : kZ z k = 33
    · have : b33 = 1 := i33.mpr c33
      subst this
      exact ok_z1 (ok_some (by rw [c33]; rfl))
    have z33 : b33 = 0 := by omega
    subst z33
    refine ok_z0 ?_
    refine ok_some ?_
    rw [if_neg (by omega)]
  obtain ⟨q, e, rfl⟩ := H
  exact e
def cmpB : List Int → Bool
  | [] => false
  | x :: xs => if rk x = 5 ∨ rk x = 6 then cmpB xs else decide (rk x = 4)
theorem PlR.at {f g : Int → Int} : ∀ {a : List Int} {x : Int} {xs : List Int}, PlR f g (a ++ x :: xs) → f (xs.length : Int) = rk x ∧ (x < 0 → g (xs.length : Int) = rc x)
  | [], _, _, h => ⟨h.1, h.2.1⟩
  | _ :: a, _, _, h => PlR.at (a := a) h.2.2
/-- has a relation been read at this level -/
theorem compared_eq {s : PS} {P : List Int} (h : RP z n s P σ) (hp : ∃ x, x ∈ P ∧ rk x ≠ 5 ∧ rk x ≠ 6) (hN : 1000 < N) : f_X12_isCompared N σ 1 = some (σ, if cmpB P = true then 1 else 0) := by
  obtain ⟨h1, ⟨h2, h3, h4, h5, h6⟩, h7, h8, h9, h10⟩ := h
  have hM := h1.1
  have H : Ok (f_X12_isCompared N σ 1) (fun q => q = (σ, if cmpB P = true then 1 else 0)) := by
    unfold f_X12_isCompared
    refine sm_gI hM ?_
    rw [h4]
    refine st_Lt ?_
    refine ok_JnC (fun t => ∃ (a : List Int) (x : Int) (xs : List Int), P = a ++ x :: xs ∧ t = (xs.length : Int) ∧ cmpB P = decide (rk x = 4)) (fun t ht => ?_) (fun J hJ => ?_)
    · obtain ⟨a, x, xs, rfl, rfl, e⟩ := ht
      have hl : xs.length < 60 := by
        rw [List.length_append, List.length_cons] at h10; omega
      refine sm_gR hM rfl ?_
      refine sm_aI hM rfl rfl (by decide) (by omega) (by omega) ?_
      rw [(h8.at).1, e]
      have := rk_rg x
      refine ok_weq (by omega) (by omega) (fun q => ok_some ?_) (fun q => ok_some ?_)
      · rw [if_pos (decide_eq_true q)]
      · rw [if_neg (by simp; exact q)]
    · unfold L_X12_isCompared_7
      refine ok_fix (fun t => ∃ (a xs : List Int), P = a ++ xs ∧ t + 1 = (xs.length : Int) ∧ cmpB P = cmpB xs ∧ ∃ x, x ∈ xs ∧ rk x ≠ 5 ∧ rk x ≠ 6) (fun t => (t + 1).toNat) (fun back t ht hback => ?_) _ ⟨[], P, rfl, by omega, rfl, hp⟩ (by omega)
      obtain ⟨a, xs, e1, e2, e3, e4⟩ := ht
      match xs, e1, e2, e3, e4 with
      | [], e1, e2, e3, e4 =>
        obtain ⟨x, hx, _⟩ := e4
        cases hx
      | x :: xs, e1, e2, e3, e4 =>
        subst e1
        rw [List.length_cons] at e2
        have hl : xs.length < 60 := by
          rw [List.length_append, List.length_cons] at h10; omega
        have et : t = (xs.length : Int) := by omega
        subst et
        have rx := rk_rg x
        refine sm_gR hM rfl ?_
        refine sm_aI hM rfl rfl (by decide) (by omega) (by omega) ?_
        rw [(h8.at).1]
        refine ok_JnC (fun _ => rk x = 5 ∨ rk x = 6) (fun _ hu => st_Lt (hback _ ⟨a ++ [x], xs, by simp, by omega, ?_, ?_⟩ (by omega))) (fun J2 hJ2 => ?_)
        · rw [e3]
          show (if rk x = 5 ∨ rk x = 6 then cmpB xs else _) = _
          rw [if_pos hu]
        · obtain ⟨y, hy, hy2⟩ := e4
          rcases List.mem_cons.mp hy with rfl | hy
          · omega
          · exact ⟨y, hy, hy2⟩
        · refine ok_weq (by omega) (by omega) (fun q => hJ2 _ (.inl q)) (fun q => ?_)
          refine sm_gR hM rfl ?_
          refine sm_aI hM rfl rfl (by decide) (by omega) (by omega) ?_
          rw [(h8.at).1]
          refine ok_weq (by omega) (by omega) (fun q2 => hJ2 _ (.inr q2)) (fun q2 => hJ _ ⟨a, x, xs, rfl, rfl, ?_⟩)
          rw [e3]
          show (if rk x = 5 ∨ rk x = 6 then cmpB xs else _) = _
          rw [if_neg (by omega)]
  obtain ⟨q, e, rfl⟩ := H
  exact e
def emA : List Int → List Int → List Int
  | [], c => c
  | q :: qs, c => emA qs (q :: c)
theorem emA_app : ∀ (a b c : List Int), emA (a ++ b) c = emA b (emA a c)
  | [], _, _ => rfl
  | x :: a, b, c => emA_app a b (x :: c)
/-- the pile popped down to its part P -/
theorem popM {Q : St × Int → Prop} {s : PS} {q1 : St × Int} {Q0 P : List Int} (hz : Str z) (n7 : nZ z ≤ 700) (h : RP z n s (Q0 ++ P) σ) (hq : 0 ≤ q1.2 ∧ q1.2 ≤ 6) (h0 : ∀ q, q ∈ Q0 → q < 0 ∧ q1.2 ≤ rk q ∧ rk q ≤ 6) (hp : ∃ y ys, P = y :: ys ∧ (7 ≤ rk y ∨ rk y < q1.2)) (hN : 1000 < N) {J : St → Option (St × Int)} (hJ : ∀ x, RP z n (s.1, s.2.1, emA Q0 s.2.2) P x → FA EAf σ x → Ok (J x) Q) : Ok (L_X12_behind_23 N 1 q1 J σ) Q := by
  obtain ⟨y, ys, rfl, hy⟩ := hp
  unfold L_X12_behind_23
  have zK := hz.2.2.1
  refine ok_fix (fun x => ∃ (Q1 c1 : List Int), RP z n (s.1, s.2.1, c1) (Q1 ++ y :: ys) x ∧ emA Q1 c1 = emA Q0 s.2.2 ∧ (∀ q, q ∈ Q1 → q < 0 ∧ q1.2 ≤ rk q ∧ rk q ≤ 6) ∧ FA EAf σ x) (fun x => (fI x 1 48).toNat) (fun back x hx hback => ?_) σ ⟨Q0, s.2.2, h, rfl, h0, FA.refl⟩ (by
    have := h.2.1.2.2.1
    have := h.2.2.2.2.2
    omega)
  obtain ⟨Q1, c1, hr, he, hQ1, hF⟩ := hx
  obtain ⟨r1, ⟨r2, r3, r4, r5, r6⟩, r7, r8, r9, r10⟩ := id hr
  have hM := r1.1
  match Q1, hr, he, hQ1, r4, r5, r8, r9, r10 with
  | [], hr, he, hQ1, r4, r5, r8, r9, r10 =>
    have ry := rk_rg y
    have e1 : fI x 1 48 - 1 = (ys.length : Int) := by rw [r4, List.nil_append, List.length_cons]; omega
    have hl : ys.length < 60 := by rw [List.nil_append, List.length_cons] at r10; omega
    refine sm_gR hM rfl (sm_gI hM ?_)
    rw [e1]
    refine sm_aI hM rfl rfl (by decide) (by omega) (by omega) ?_
    rw [(PlR.at (a := []) r8).1]
    have fin : Ok (J x) Q := hJ x (by rw [← he]; exact hr) hF
    refine ok_wlt (by omega) (by omega) (fun _ => fin) (fun q => ?_)
    refine sm_gR hM rfl (sm_gI hM ?_)
    rw [e1]
    refine sm_aI hM rfl rfl (by decide) (by omega) (by omega) ?_
    rw [(PlR.at (a := []) r8).1]
    exact ok_wlt (by omega) (by omega) (fun _ => fin) (fun q2 => by omega)
  | q :: Q1, hr, he, hQ1, r4, r5, r8, r9, r10 =>
    obtain ⟨q0, q2, q3⟩ := hQ1 q List.mem_cons_self
    have e1 : fI x 1 48 - 1 = ((Q1 ++ y :: ys).length : Int) := by rw [r4, List.cons_append, List.length_cons]; omega
    have hl : (Q1 ++ y :: ys).length < 60 := by rw [List.cons_append, List.length_cons] at r10; omega
    have pt := PlR.at (a := []) (xs := Q1 ++ y :: ys) r8
    refine sm_gR hM rfl (sm_gI hM ?_)
    rw [e1]
    refine sm_aI hM rfl rfl (by decide) (by omega) (by omega) ?_
    rw [pt.1]
    refine ok_wlt (by omega) (by omega) (fun c => by omega) (fun _ => ?_)
    refine sm_gR hM rfl (sm_gI hM ?_)
    rw [e1]
    refine sm_aI hM rfl rfl (by decide) (by omega) (by omega) ?_
    rw [pt.1]
    refine ok_wlt (by omega) (by omega) (fun c => by omega) (fun _ => ?_)
    refine sm_gI hM ?_
    rw [e1]
    refine sm_pI hM ?_
    have m1 : MR z (.inr s.1) (uF x 1 48 ((Q1 ++ y :: ys).length : Int)) := r1.wF rfl
    have w48 : fI (uF x 1 48 ((Q1 ++ y :: ys).length : Int)) 1 48 = ((Q1 ++ y :: ys).length : Int) := fI_eq
    have wj : ∀ j, j ≠ 48 → fI (uF x 1 48 ((Q1 ++ y :: ys).length : Int)) 1 j = fI x 1 j := fun j hj => fI_j hj
    have wc : ∀ k, k ≠ 1 → (uF x 1 48 ((Q1 ++ y :: ys).length : Int)).2.1 k = x.2.1 k := fun k hk => uF_cell hk
    have F1 : FA EAf σ (uF x 1 48 ((Q1 ++ y :: ys).length : Int)) := hF.wF (.inl ⟨rfl, by omega⟩)
    generalize uF x 1 48 ((Q1 ++ y :: ys).length : Int) = x1 at m1 w48 wj wc F1 ⊢
    have hM1 := m1.1
    refine sm_gR hM1 rfl (sm_gI hM1 ?_)
    rw [w48]
    refine sm_aI hM1 rfl rfl (by decide) (by omega) (by omega) ?_
    rw [wc 29 (by decide), pt.1]
    refine ok_JnC (fun x2 => RP z n (s.1, s.2.1, c1) (Q1 ++ y :: ys) x2 ∧ (c1.length : Int) + 1 + npn (Q1 ++ y :: ys) ≤ s.1 ∧ x2.2.1 30 = x.2.1 30 ∧ FA EAf σ x2) (fun x2 hx2 => ?_) (fun J2 hJ2 => ?_)
    · obtain ⟨g1, g2, g3, g4⟩ := hx2
      have hM2 := g1.1.1
      refine sm_gR hM2 rfl (sm_gI hM2 ?_)
      rw [g1.2.1.2.2.1]
      refine sm_aI hM2 rfl rfl (by decide) (by omega) (by omega) ?_
      rw [g3, pt.2 q0]
      have hkn := (g1.1.kd).1
      have npl := npn_lo (Q1 ++ y :: ys)
      obtain ⟨x3, e3, f3, r3⟩ := g1.step (N := N) n7 hz (c := q) (b := 0) ⟨g2, by dsimp only; dsimp only at hkn; omega⟩ (fun c => by omega)
      refine sm_rcv hM2 (ok_rw e3 (hback _ ⟨Q1, q :: c1, r3, he, fun q' hq' => hQ1 q' (List.mem_cons_of_mem _ hq'), g4.trans f3⟩ ?_))
      have e5 := r3.2.1.2.2.1
      dsimp only at e5 ⊢
      rw [e5, r4, List.cons_append, List.length_cons]
      omega
    · have np : (c1.length : Int) + 1 + npn (Q1 ++ y :: ys) ≤ s.1 := by
        have r9 : (c1.length : Int) + (npn (Q1 ++ y :: ys) + (if q < 0 then 1 else 0)) ≤ s.1 := r9
        rw [if_pos q0] at r9
        omega
      have r5 : fI x 1 47 = cnt (Q1 ++ y :: ys) + (if q = -23 ∨ q = 1 then 1 else 0) := r5
      have pl : PlR (x1.2.1 29) (x1.2.1 30) (Q1 ++ y :: ys) := by
        rw [wc 29 (by decide), wc 30 (by decide)]; exact r8.2.2
      have cd : CdR (x1.2.1 27) (x1.2.1 28) c1 := by
        rw [wc 27 (by decide), wc 28 (by decide)]; exact r7
      refine ok_weq (by omega) (by omega) (fun c => ?_) (fun c => hJ2 _ ⟨⟨m1, ⟨(wj 46 (by decide)).trans r2, (wj 45 (by decide)).trans r3, w48, ?_, (wj 49 (by decide)).trans r6⟩, cd, pl, by dsimp only; omega, by omega⟩, np, wc 30 (by decide), F1⟩)
      · have qn : q = -23 := by
          unfold rk at c
          repeat' split at c
          all_goals first | omega | skip
        rw [if_pos (.inl qn)] at r5
        refine sm_gI hM1 ?_
        rw [wj 47 (by decide), r5]
        refine sm_pI hM1 (hJ2 _ ⟨⟨m1.wF rfl, ⟨(fI_j (by decide)).trans ((wj 46 (by decide)).trans r2), (fI_j (by decide)).trans ((wj 45 (by decide)).trans r3), (fI_j (by decide)).trans w48, ?_, (fI_j (by decide)).trans ((wj 49 (by decide)).trans r6)⟩, ?_, ?_, by dsimp only; omega, by omega⟩, np, ?_, F1.wF (.inl ⟨rfl, by omega⟩)⟩)
        · rw [fI_eq]; omega
        · rw [uF_cell (by decide), uF_cell (by decide)]; exact cd
        · rw [uF_cell (by decide), uF_cell (by decide)]; exact pl
        · rw [uF_cell (by decide)]; exact wc 30 (by decide)
      · rw [wj 47 (by decide), r5, if_neg]
        · omega
        · rintro (rfl | rfl)
          · exact c rfl
          · omega
end F
