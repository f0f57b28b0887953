/-! the pure part: a line of a machine, both sides -/
section F
variable {N : Nat} {σ τ υ σm τm : St} {z : Zs} {r : RS} {m : Nat} {bk : Int}
theorem RMp_st (h : RMp m bk σ σm) (x : ∀ (d : Nat) (i : Int), 2 ≤ d → d ≤ 5 → 0 ≤ i → i < fI σ m 1 → τ.2.1 (m + d) i = σ.2.1 (m + d) i) (y : ∀ (k : Nat) (i : Int), 9 ≤ k → k ≤ 12 → 0 ≤ i → i < fI σ m 1 → τm.2.1 k (12 * bk + i) = σm.2.1 k (12 * bk + i)) (w : ∀ i : Int, 0 ≤ i → fI σ m 1 ≤ i → i < fI τ m 1 → (τm.2.1 9 (12 * bk + i) = τ.2.1 (m + 2) i ∧ 0 ≤ τ.2.1 (m + 2) i ∧ τ.2.1 (m + 2) i ≤ 1) ∧ (τm.2.1 10 (12 * bk + i) = τ.2.1 (m + 3) i ∧ 10 ≤ τ.2.1 (m + 3) i ∧ τ.2.1 (m + 3) i ≤ 25374) ∧ (τm.2.1 11 (12 * bk + i) = τ.2.1 (m + 4) i ∧ 0 ≤ τ.2.1 (m + 4) i ∧ τ.2.1 (m + 4) i ≤ 99) ∧ (τm.2.1 12 (12 * bk + i) = τ.2.1 (m + 5) i ∧ 0 ≤ τ.2.1 (m + 5) i ∧ τ.2.1 (m + 5) i ≤ 999)) : RMp m bk τ τm := fun i a b => by
  by_cases c : i < fI σ m 1
  · rw [x 2 i (by decide) (by decide) a c, x 3 i (by decide) (by decide) a c, x 4 i (by decide) (by decide) a c, x 5 i (by decide) (by decide) a c, y 9 i (by decide) (by decide) a c, y 10 i (by decide) (by decide) a c, y 11 i (by decide) (by decide) a c, y 12 i (by decide) (by decide) a c]
    exact h i a c
  · exact w i a (by omega) b
theorem RMj_st (h : RMj m bk σ σm) (p : fI σ m 1 ≤ fI τ m 1) (x : ∀ (d : Nat) (i : Int), 6 ≤ d → d ≤ 8 → 0 ≤ i → i < fI σ m 7 → τ.2.1 (m + d) i = σ.2.1 (m + d) i) (y : ∀ (k : Nat) (i : Int), 13 ≤ k → k ≤ 15 → 0 ≤ i → i < fI σ m 7 → τm.2.1 k (16 * bk + i) = σm.2.1 k (16 * bk + i)) (w : ∀ j : Int, 0 ≤ j → fI σ m 7 ≤ j → j < fI τ m 7 → (τm.2.1 13 (16 * bk + j) = τ.2.1 (m + 6) j ∧ 0 ≤ τ.2.1 (m + 6) j ∧ τ.2.1 (m + 6) j < fI τ m 1) ∧ (τm.2.1 14 (16 * bk + j) = τ.2.1 (m + 7) j ∧ 0 ≤ τ.2.1 (m + 7) j ∧ τ.2.1 (m + 7) j < fI τ m 1) ∧ τ.2.1 (m + 6) j ≠ τ.2.1 (m + 7) j ∧ (τm.2.1 15 (16 * bk + j) = τ.2.1 (m + 8) j ∧ 0 ≤ τ.2.1 (m + 8) j ∧ τ.2.1 (m + 8) j ≤ 99)) : RMj m bk τ τm := fun i a b => by
  by_cases c : i < fI σ m 7
  · rw [x 6 i (by decide) (by decide) a c, x 7 i (by decide) (by decide) a c, x 8 i (by decide) (by decide) a c, y 13 i (by decide) (by decide) a c, y 14 i (by decide) (by decide) a c, y 15 i (by decide) (by decide) a c]
    obtain ⟨⟨h1, h2, h3⟩, ⟨h4, h5, h6⟩, h7, h8⟩ := h i a c
    exact ⟨⟨h1, h2, by omega⟩, ⟨h4, h5, by omega⟩, h7, h8⟩
  · exact w i a (by omega) b
theorem RMv_st (h : RMv m bk σ σm) (p : fI σ m 1 ≤ fI τ m 1) (x : ∀ (d : Nat) (i : Int), 9 ≤ d → d ≤ 11 → 0 ≤ i → i < fI σ m 11 → τ.2.1 (m + d) i = σ.2.1 (m + d) i) (y : ∀ (k : Nat) (i : Int), 16 ≤ k → k ≤ 18 → 0 ≤ i → i < fI σ m 11 → τm.2.1 k (16 * bk + i) = σm.2.1 k (16 * bk + i)) (w : ∀ j : Int, 0 ≤ j → fI σ m 11 ≤ j → j < fI τ m 11 → (τm.2.1 16 (16 * bk + j) = τ.2.1 (m + 9) j ∧ 0 ≤ τ.2.1 (m + 9) j ∧ τ.2.1 (m + 9) j < fI τ m 1) ∧ (τm.2.1 17 (16 * bk + j) = τ.2.1 (m + 10) j ∧ 0 ≤ τ.2.1 (m + 10) j ∧ τ.2.1 (m + 10) j < fI τ m 1) ∧ τ.2.1 (m + 9) j ≠ τ.2.1 (m + 10) j ∧ (τm.2.1 18 (16 * bk + j) = τ.2.1 (m + 11) j ∧ 0 ≤ τ.2.1 (m + 11) j ∧ τ.2.1 (m + 11) j ≤ 24)) : RMv m bk τ τm := fun i a b => by
  by_cases c : i < fI σ m 11
  · rw [x 9 i (by decide) (by decide) a c, x 10 i (by decide) (by decide) a c, x 11 i (by decide) (by decide) a c, y 16 i (by decide) (by decide) a c, y 17 i (by decide) (by decide) a c, y 18 i (by decide) (by decide) a c]
    obtain ⟨⟨h1, h2, h3⟩, ⟨h4, h5, h6⟩, h7, h8⟩ := h i a c
    exact ⟨⟨h1, h2, by omega⟩, ⟨h4, h5, by omega⟩, h7, h8⟩
  · exact w i a (by omega) b
theorem RMt_st (h : RMt m bk σ σm) (p : fI σ m 15 ≤ fI τ m 15) (x : ∀ (d : Nat) (i : Int), 12 ≤ d → d ≤ 13 → 0 ≤ i → (i < fI σ m 15 ∨ fI τ m 15 ≤ i) → τ.2.1 (m + d) i = σ.2.1 (m + d) i) (y : ∀ (k : Nat) (i : Int), 19 ≤ k → k ≤ 20 → 0 ≤ i → i < fI σ m 15 → τm.2.1 k (3 * bk + i) = σm.2.1 k (3 * bk + i)) (w : ∀ t : Int, 0 ≤ t → fI σ m 15 ≤ t → t < fI τ m 15 → τm.2.1 19 (3 * bk + t) = τ.2.1 (m + 12) t ∧ 0 ≤ τ.2.1 (m + 12) t ∧ τ.2.1 (m + 12) t ≤ 99 ∧ τm.2.1 20 (3 * bk + t) = τ.2.1 (m + 13) t ∧ 1 ≤ τ.2.1 (m + 13) t ∧ τ.2.1 (m + 13) t ≤ 15) : RMt m bk τ τm := fun t a b => by
  obtain ⟨h1, h2⟩ := h t a b
  refine ⟨fun c => ?_, fun c => ?_⟩
  · by_cases c2 : t < fI σ m 15
    · rw [x 12 t (by decide) (by decide) a (.inl c2), x 13 t (by decide) (by decide) a (.inl c2), y 19 t (by decide) (by decide) a c2, y 20 t (by decide) (by decide) a c2]
      exact h1 c2
    · exact w t a (by omega) c
  · rw [x 12 t (by decide) (by decide) a (.inr c), x 13 t (by decide) (by decide) a (.inr c)]
    exact h2 (by omega)
theorem RMg_st (h : RMg m bk σ σm) (x : ∀ c : Int, 0 ≤ c → c < 64 → (τ.2.1 (m + 14) c = σ.2.1 (m + 14) c ∧ τm.2.1 21 (64 * bk + c) = σm.2.1 21 (64 * bk + c)) ∨ (τm.2.1 21 (64 * bk + c) = τ.2.1 (m + 14) c ∧ 0 ≤ τ.2.1 (m + 14) c ∧ τ.2.1 (m + 14) c ≤ 7)) : RMg m bk τ τm := fun c a b => by
  rcases x c a b with ⟨x1, x2⟩ | x
  · rw [x1, x2]; exact h c a b
  · exact x
/-- rows told, both ways -/
def RTo (m : Nat) (bk : Int) (σ σm : St) : Prop := (0 ≤ fI σ m 18 ∧ fI σ m 18 < 256) ∧ ∀ r : Int, 0 ≤ r → r ≤ 7 → wz (σm.2.1 22 (8 * bk + r)) = andZ (shrZ (fI σ m 18) r) 1
/-- both readers between two lines -/
def ML (z : Zs) (m : Nat) (bk k : Int) (σ σm : St) : Prop := (XR z (.inr k) σ ∧ MR z (.inr k) σm ∧ fI σm 1 32 = bk) ∧ RMach m bk σ σm ∧ NmR (σ.2.1 (m + 1)) (fI σ m 1) bk σm ∧ RTo m bk σ σm ∧ fI σ m 0 ≤ k
def CAf (m : Nat) : Nat → Int → Prop := fun k _ => k = 2 ∨ k = 5 ∨ k = 6 ∨ k = 7 ∨ (m ≤ k ∧ k ≤ m + 14)
def RAf (bk : Int) : Nat → Int → Prop := fun k i => (k = 1 ∧ (i < 0 ∨ (4 ≤ i ∧ i ≤ 10))) ∨ (4 ≤ k ∧ k ≤ 8 ∧ i = bk) ∨ (9 ≤ k ∧ k ≤ 12 ∧ 12 * bk ≤ i ∧ i < 12 * bk + 12) ∨ (13 ≤ k ∧ k ≤ 18 ∧ 16 * bk ≤ i ∧ i < 16 * bk + 16) ∨ (19 ≤ k ∧ k ≤ 20 ∧ 3 * bk ≤ i ∧ i < 3 * bk + 3) ∨ (k = 21 ∧ 64 * bk ≤ i ∧ i < 64 * bk + 64) ∨ k = 22 ∨ k = 23
/-- the end of a line, the reference -/
theorem tailM {Q : St × Int → Prop} (hz : Str z) (h : MR z r σ) (hb : fI σ 1 32 = bk) (hk : bk = 0 ∨ bk = 1) (hN : 2000 < N) (k : ∀ τ, MR z (opX z 59 r) τ → FA (fun k i => (k = 1 ∧ (i < 0 ∨ (4 ≤ i ∧ i ≤ 10))) ∨ (k = 4 ∧ i = bk)) σ τ → τ.2.1 4 bk = σ.2.1 4 bk + 1 → Q (τ, 0)) : Ok (Option.bind (rcv shm σ 12 1 (f_X12_is N σ 1 59)) fun q10 =>
 Option.bind (rcv shm σ 12 1 (f_X12_must N σ 1 q10.2)) fun q11 =>
 Option.bind (gR shm q11.1 12 1 11) fun lineMany_12 =>
 Option.bind (gI shm q11.1 12 1 32) fun rb_13 =>
 Option.bind (aI shm q11.1 1 lineMany_12 rb_13) fun a14 =>
 Option.bind (sI shm q11.1 1 lineMany_12 rb_13 (a14 + 1)) fun σ15 =>
 some (σ15, 0)) Q := by
  refine ok_sm hz h (by unfold isSg; decide) hN (fun t m f => ?_)
  have F : FA (fun k i => (k = 1 ∧ (i < 0 ∨ (4 ≤ i ∧ i ≤ 10))) ∨ (k = 4 ∧ i = bk)) σ t := f7 f fun i q => .inl ⟨rfl, q⟩
  refine sm_gR m.1 rfl ?_
  refine sm_gI m.1 ?_
  rw [show fI t 1 32 = bk from (f.f (by decide)).trans hb]
  refine sm_aI m.1 rfl rfl (by decide) (by omega) (by omega) ?_
  rw [show t.2.1 4 bk = σ.2.1 4 bk from f.c (by decide) (by simp)]
  exact sm_sI m.1 rfl rfl (by decide) (by omega) (by omega) (ok_some (k _ (m.wI (by decide)) (F.wI (.inr ⟨rfl, rfl⟩)) uI_eq))
/-- no room, or no line -/
theorem full_eq (hz : Str z) {k P C1 C2 C3 : Int} (h : MR z (.inr k) σ) (hb : fI σ 1 32 = bk) (hk : bk = 0 ∨ bk = 1) (c0 : σ.2.1 5 bk = P) (c1 : σ.2.1 6 bk = C1) (c2 : σ.2.1 7 bk = C2) (c3 : σ.2.1 8 bk = C3) (hr : (0 ≤ P ∧ P ≤ 12) ∧ (0 ≤ C1 ∧ C1 ≤ 16) ∧ (0 ≤ C2 ∧ C2 ≤ 16) ∧ (0 ≤ C3 ∧ C3 ≤ 3)) : ∃ b, f_X12_isFull N σ 1 = some (σ, b) ∧ (b = 0 ∨ b = 1) ∧ (b = 0 ↔ ((kZ z k = 0 ∧ P < 12) ∨ (kZ z k = 7 ∧ C1 < 16) ∨ (kZ z k = 9 ∧ C2 < 16) ∨ (kZ z k = 11 ∧ C3 < 3) ∨ kZ z k = 14)) := by
  have H : Ok (f_X12_isFull N σ 1) (fun q => q.1 = σ ∧ (q.2 = 0 ∨ q.2 = 1) ∧ (q.2 = 0 ↔ ((kZ z k = 0 ∧ P < 12) ∨ (kZ z k = 7 ∧ C1 < 16) ∨ (kZ z k = 9 ∧ C2 < 16) ∨ (kZ z k = 11 ∧ C3 < 3) ∨ kZ z k = 14))) := by
    unfold f_X12_isFull
    obtain ⟨b0, e0, a0, i0⟩ := isWord_eq (N := N) hz h (j := 0) (w := 1885434484) (by decide) rfl
    obtain ⟨b7, e7, a7, i7⟩ := isWord_eq (N := N) hz h (j := 7) (w := 1785686382) (by decide) rfl
    obtain ⟨b9, e9, a9, i9⟩ := isWord_eq (N := N) hz h (j := 9) (w := 470021465459) (by decide) rfl
    obtain ⟨b11, e11, a11, i11⟩ := isWord_eq (N := N) hz h (j := 11) (w := 1952542315) (by decide) rfl
    obtain ⟨b14, e14, a14, i14⟩ := isWord_eq (N := N) hz h (j := 14) (w := 7499639) (by decide) rfl
    have i0 := i0 k rfl
    have i7 := i7 k rfl
    have i9 := i9 k rfl
    have i11 := i11 k rfl
    have i14 := i14 k rfl
    refine sm_rcv h.1 (ok_rw e0 ?_)
    rcases a0 with rfl | rfl
    · refine ok_z0 (sm_rcv h.1 (ok_rw e7 ?_))
      rcases a7 with rfl | rfl
      · refine ok_z0 (sm_rcv h.1 (ok_rw e9 ?_))
        rcases a9 with rfl | rfl
        · refine ok_z0 (sm_rcv h.1 (ok_rw e11 ?_))
          rcases a11 with rfl | rfl
          · refine ok_z0 (sm_rcv h.1 (ok_rw e14 ?_))
            rcases a14 with rfl | rfl
            · exact ok_z0 (ok_some ⟨rfl, .inr rfl, by dsimp only; omega⟩)
            · exact ok_z1 (ok_some ⟨rfl, .inl rfl, by dsimp only; omega⟩)
          · refine ok_z1 (sm_gR h.1 rfl (sm_gI h.1 ?_))
            rw [hb]
            refine sm_aI h.1 rfl rfl (by decide) (by omega) (by omega) ?_
            rw [c3]
            exact ok_weq (by omega) (by omega) (fun q => ok_some ⟨rfl, .inr rfl, by dsimp only; omega⟩) (fun q => ok_some ⟨rfl, .inl rfl, by dsimp only; omega⟩)
        · refine ok_z1 (sm_gR h.1 rfl (sm_gI h.1 ?_))
          rw [hb]
          refine sm_aI h.1 rfl rfl (by decide) (by omega) (by omega) ?_
          rw [c2]
          exact ok_weq (by omega) (by omega) (fun q => ok_some ⟨rfl, .inr rfl, by dsimp only; omega⟩) (fun q => ok_some ⟨rfl, .inl rfl, by dsimp only; omega⟩)
      · refine ok_z1 (sm_gR h.1 rfl (sm_gI h.1 ?_))
        rw [hb]
        refine sm_aI h.1 rfl rfl (by decide) (by omega) (by omega) ?_
        rw [c1]
        exact ok_weq (by omega) (by omega) (fun q => ok_some ⟨rfl, .inr rfl, by dsimp only; omega⟩) (fun q => ok_some ⟨rfl, .inl rfl, by dsimp only; omega⟩)
    · refine ok_z1 (sm_gR h.1 rfl (sm_gI h.1 ?_))
      rw [hb]
      refine sm_aI h.1 rfl rfl (by decide) (by omega) (by omega) ?_
      rw [c0]
      exact ok_weq (by omega) (by omega) (fun q => ok_some ⟨rfl, .inr rfl, by dsimp only; omega⟩) (fun q => ok_some ⟨rfl, .inl rfl, by dsimp only; omega⟩)
  obtain ⟨⟨υ, b⟩, e, h1, h2⟩ := H
  dsimp only at h1 h2
  subst h1
  exact ⟨b, e, h2⟩
/-- a line of the reference, by what it begins with -/
theorem lineM {Q : St × Int → Prop} (hz : Str z) {k P C1 C2 C3 : Int} (h : MR z (.inr k) σ) (hb : fI σ 1 32 = bk) (hk : bk = 0 ∨ bk = 1) (c0 : σ.2.1 5 bk = P) (c1 : σ.2.1 6 bk = C1) (c2 : σ.2.1 7 bk = C2) (c3 : σ.2.1 8 bk = C3) (hr : (0 ≤ P ∧ P ≤ 12) ∧ (0 ≤ C1 ∧ C1 ≤ 16) ∧ (0 ≤ C2 ∧ C2 ≤ 16) ∧ (0 ≤ C3 ∧ C3 ≤ 3)) (hN : 2000 < N)
    (w0 : ¬ ((kZ z k = 0 ∧ P < 12) ∨ (kZ z k = 7 ∧ C1 < 16) ∨ (kZ z k = 9 ∧ C2 < 16) ∨ (kZ z k = 11 ∧ C3 < 3) ∨ kZ z k = 14) → ∀ τ, MR z (opF z 2 (.inr k)) τ → FM [] [4, 5] σ τ → Q (τ, 0))
    (w1 : ((kZ z k = 0 ∧ P < 12) ∨ (kZ z k = 7 ∧ C1 < 16) ∨ (kZ z k = 9 ∧ C2 < 16) ∨ (kZ z k = 11 ∧ C3 < 3) ∨ kZ z k = 14) → ∀ y, MR z (.inr (nxt z k)) y → FM [] [4, 5, 6, 7, 8, 9, 10] σ y → ∃ (x : St) (rx : RS), ((kZ z k = 0 ∧ f_X12_readPart N y 1 = some (x, 0)) ∨ (kZ z k = 7 ∧ f_X12_readJoin N y 1 = some (x, 0)) ∨ (kZ z k = 9 ∧ f_X12_readMoves N y 1 = some (x, 0)) ∨ (kZ z k = 11 ∧ f_X12_readTank N y 1 = some (x, 0)) ∨ (kZ z k = 14 ∧ f_X12_readRow N y 1 = some (x, 0))) ∧ MR z rx x ∧ fI x 1 32 = bk ∧ ∀ τ, MR z (opX z 59 rx) τ → FA (fun k i => (k = 1 ∧ (i < 0 ∨ (4 ≤ i ∧ i ≤ 10))) ∨ (k = 4 ∧ i = bk)) x τ → τ.2.1 4 bk = x.2.1 4 bk + 1 → Q (τ, 0)) : Ok (f_X12_readMachine N σ 1) Q := by
  unfold f_X12_readMachine
  obtain ⟨b0, e0, a0, i0⟩ := isWord_eq (N := N) hz h (j := 0) (w := 1885434484) (by decide) rfl
  obtain ⟨b7, e7, a7, i7⟩ := isWord_eq (N := N) hz h (j := 7) (w := 1785686382) (by decide) rfl
  obtain ⟨b9, e9, a9, i9⟩ := isWord_eq (N := N) hz h (j := 9) (w := 470021465459) (by decide) rfl
  obtain ⟨b11, e11, a11, i11⟩ := isWord_eq (N := N) hz h (j := 11) (w := 1952542315) (by decide) rfl
  obtain ⟨b5, e5, a5, i5⟩ := full_eq (N := N) hz h hb hk c0 c1 c2 c3 hr
  have i0 := i0 k rfl
  have i7 := i7 k rfl
  have i9 := i9 k rfl
  have i11 := i11 k rfl
  refine sm_rcv h.1 (ok_rw e0 ?_)
  refine sm_rcv h.1 (ok_rw e7 ?_)
  refine sm_rcv h.1 (ok_rw e9 ?_)
  refine sm_rcv h.1 (ok_rw e11 ?_)
  refine sm_rcv h.1 (ok_rw e5 ?_)
  rcases a5 with rfl | rfl
  · have good := i5.mp rfl
    refine st_Jn (ok_z0 ?_)
    refine sm_rcv h.1 (ok_rw (isGood_eq h) (ok_z1 ?_))
    obtain ⟨y, ey, my, fy⟩ := next_eq (N := N) hz h hN
    refine sm_rcv h.1 (ok_rw ey ?_)
    obtain ⟨x, rx, hx, mx, bx, qx⟩ := w1 good y my (fy.mono (fun _ h => h) (by simp))
    refine st_Jn ?_
    rcases hx with ⟨kd, ex⟩ | ⟨kd, ex⟩ | ⟨kd, ex⟩ | ⟨kd, ex⟩ | ⟨kd, ex⟩
    · have z0 : b0 = 1 := i0.mpr kd
      subst z0
      exact ok_z1 (sm_rcv my.1 (ok_rw ex (tailM hz mx bx hk hN qx)))
    · have z0 : b0 = 0 := by omega
      have z7 : b7 = 1 := i7.mpr kd
      subst z0 z7
      exact ok_z0 (ok_z1 (sm_rcv my.1 (ok_rw ex (tailM hz mx bx hk hN qx))))
    · have z0 : b0 = 0 := by omega
      have z7 : b7 = 0 := by omega
      have z9 : b9 = 1 := i9.mpr kd
      subst z0 z7 z9
      exact ok_z0 (ok_z0 (ok_z1 (sm_rcv my.1 (ok_rw ex (tailM hz mx bx hk hN qx)))))
    · have z0 : b0 = 0 := by omega
      have z7 : b7 = 0 := by omega
      have z9 : b9 = 0 := by omega
      have z11 : b11 = 1 := i11.mpr kd
      subst z0 z7 z9 z11
      exact ok_z0 (ok_z0 (ok_z0 (ok_z1 (sm_rcv my.1 (ok_rw ex (tailM hz mx bx hk hN qx))))))
    · have z0 : b0 = 0 := by omega
      have z7 : b7 = 0 := by omega
      have z9 : b9 = 0 := by omega
      have z11 : b11 = 0 := by omega
      subst z0 z7 z9 z11
      exact ok_z0 (ok_z0 (ok_z0 (ok_z0 (sm_rcv my.1 (ok_rw ex (tailM hz mx bx hk hN qx))))))
  · refine st_Jn (ok_z1 ?_)
    obtain ⟨τ, e, m2, f⟩ := wrong_eq (N := N) hz h
    refine sm_rcv h.1 (ok_rw e ?_)
    refine sm_rcv m2.1 (ok_rw (isGood_eq m2) (ok_z0 (ok_some (w0 (fun q => by have := i5.mpr q; omega) τ m2 f))))
/-- a line of the class, by what it begins with -/
theorem lineX {Q : St × Int → Prop} (hz : Str z) (hm : isM m) {k P C1 C2 C3 : Int} (h : XR z (.inr k) σ) (c0 : fI σ m 1 = P) (c1 : fI σ m 7 = C1) (c2 : fI σ m 11 = C2) (c3 : fI σ m 15 = C3) (hr : (0 ≤ P ∧ P ≤ 12) ∧ (0 ≤ C1 ∧ C1 ≤ 16) ∧ (0 ≤ C2 ∧ C2 ≤ 16) ∧ (0 ≤ C3 ∧ C3 ≤ 3))
    (w0 : ¬ ((kZ z k = 0 ∧ P < 12) ∨ (kZ z k = 7 ∧ C1 < 16) ∨ (kZ z k = 9 ∧ C2 < 16) ∨ (kZ z k = 11 ∧ C3 < 3) ∨ kZ z k = 14) → ∀ τ, XR z (opF z 2 (.inr k)) τ → FT [] [12, 13] σ τ → Q (τ, 0))
    (w1 : ((kZ z k = 0 ∧ P < 12) ∨ (kZ z k = 7 ∧ C1 < 16) ∨ (kZ z k = 9 ∧ C2 < 16) ∨ (kZ z k = 11 ∧ C3 < 3) ∨ kZ z k = 14) → ∃ x : St, ((kZ z k = 0 ∧ f_X3_readPart N σ m 2 = some (x, 0)) ∨ (kZ z k = 7 ∧ f_X3_readJoin N σ m 2 = some (x, 0)) ∨ (kZ z k = 9 ∧ f_X3_readMoves N σ m 2 = some (x, 0)) ∨ (kZ z k = 11 ∧ f_X3_readTank N σ m 2 = some (x, 0)) ∨ (kZ z k = 14 ∧ f_X3_readRow N σ m 2 = some (x, 0))) ∧ Q (x, 0)) : Ok (f_X3_readLine N σ m 2) Q := by
  have hX := h.1
  obtain ⟨k1, k2, k3⟩ := h.kd
  have rk := hz.rg k1
  obtain ⟨τ, e, x2, f⟩ := refuse_eq (N := N) hz h (w := 2) (by decide)
  unfold f_X3_readLine
  refine sx_gI hX rfl rfl ?_
  rw [k2]
  by_cases good : (kZ z k = 0 ∧ P < 12) ∨ (kZ z k = 7 ∧ C1 < 16) ∨ (kZ z k = 9 ∧ C2 < 16) ∨ (kZ z k = 11 ∧ C3 < 3) ∨ kZ z k = 14
  · obtain ⟨x, hx, qx⟩ := w1 good
    rw [wr_id (z := kZ z k) (by omega) (by omega)]
    rcases hx with ⟨kd, ex⟩ | ⟨kd, ex⟩ | ⟨kd, ex⟩ | ⟨kd, ex⟩ | ⟨kd, ex⟩
    · exact ok_pos kd (mx_rcv hX hm (ok_rw ex (ok_some qx)))
    · exact ok_neg (by omega) (ok_pos kd (mx_rcv hX hm (ok_rw ex (ok_some qx))))
    · exact ok_neg (by omega) (ok_neg (by omega) (ok_pos kd (mx_rcv hX hm (ok_rw ex (ok_some qx)))))
    · exact ok_neg (by omega) (ok_neg (by omega) (ok_neg (by omega) (ok_pos kd (mx_rcv hX hm (ok_rw ex (ok_some qx))))))
    · exact ok_neg (by omega) (ok_neg (by omega) (ok_neg (by omega) (ok_neg (by omega) (ok_pos kd (mx_rcv hX hm (ok_rw ex (ok_some qx)))))))
  · have fin := w0 good τ x2 f
    refine ok_weqc (by omega) (fun kd => ?_) (fun d0 => ?_)
    · refine mx_rcv hX hm (ok_bind ?_)
      unfold f_X3_readPart
      refine mx_gI hX hm ?_
      rw [c0]
      exact ok_wlt (by omega) (by omega) (fun q => by omega) (fun _ => sx_rcv hX rfl rfl (ok_rw e (ok_some (ok_some fin))))
    refine ok_weqc (by omega) (fun kd => ?_) (fun d7 => ?_)
    · refine mx_rcv hX hm (ok_bind ?_)
      unfold f_X3_readJoin
      refine mx_gI hX hm ?_
      rw [c1]
      exact ok_wlt (by omega) (by omega) (fun q => by omega) (fun _ => sx_rcv hX rfl rfl (ok_rw e (ok_some (ok_some fin))))
    refine ok_weqc (by omega) (fun kd => ?_) (fun d9 => ?_)
    · refine mx_rcv hX hm (ok_bind ?_)
      unfold f_X3_readMoves
      refine mx_gI hX hm ?_
      rw [c2]
      exact ok_wlt (by omega) (by omega) (fun q => by omega) (fun _ => sx_rcv hX rfl rfl (ok_rw e (ok_some (ok_some fin))))
    refine ok_weqc (by omega) (fun kd => ?_) (fun d11 => ?_)
    · refine mx_rcv hX hm (ok_bind ?_)
      unfold f_X3_readTank
      refine mx_gI hX hm ?_
      rw [c3]
      exact ok_wlt (by omega) (by omega) (fun q => by omega) (fun _ => sx_rcv hX rfl rfl (ok_rw e (ok_some (ok_some fin))))
    refine ok_weqc (by omega) (fun kd => by omega) (fun d14 => sx_rcv hX rfl rfl (ok_rw e (ok_some fin)))
end F
