/-! the pure part: what a treaty's line is worth -/
def jn (k a b : Int) : Int := if k = 20 then (if wr a = 0 then 0 else if wr b = 0 then 0 else 1) else if k = 42 then a * b else if k = 43 then a + b else if k = 45 then a - b else if k = 60 then (if wr a < wr b then 1 else 0) else if k = 61 then (if wr a = wr b then 1 else 0) else if k = 62 then (if wr b < wr a then 1 else 0) else (if wr a = 0 then if wr b = 0 then 0 else 1 else 1)
def isBin (c : Int) : Prop := c = -21 ∨ c = -22 ∨ c = -43 ∨ c = -44 ∨ c = -46 ∨ c = -61 ∨ c = -62 ∨ c = -63
/-- how high a pile is behind a code -/
def hs (c : Int) (n n' : Nat) : Prop := (0 ≤ c ∧ c ≤ 9999 ∧ n < 60 ∧ n' = n + 1) ∨ (-34 ≤ c ∧ c ≤ -24 ∧ n < 60 ∧ n' = n + 1) ∨ (c = -23 ∧ 1 ≤ n ∧ n ≤ 60 ∧ n' = n) ∨ (isBin c ∧ 2 ≤ n ∧ n ≤ 60 ∧ n' + 1 = n)
def Run (c : Int → Int) : Nat → Int → Nat → Nat → Prop
  | 0, _, n, n' => n = n'
  | k + 1, p, n, n' => ∃ n1, hs (c p) n n1 ∧ Run c k (p + 1) n1 n'
def rc (c : Int) : Int := if 0 ≤ c then 110 else if c = -24 then 108 else if c = -25 then 99 else if c = -26 then 109 else if c = -27 then 111 else if c = -28 then 103 else if c = -29 then 104 else if c = -30 then 115 else if c = -31 then 97 else if c = -32 then 119 else if c = -33 then 116 else if c = -34 then 112 else if c = -23 then 126 else if c = -21 then 38 else if c = -22 then 124 else -1 - c
def ev1 (c : Int) (q : Int → Int) (s : List Int) : List Int := if 0 ≤ c then c :: s else if -34 ≤ c ∧ c ≤ -24 then q (-24 - c) :: s else if c = -23 then (match s with
    | x :: xs => (if wr x = 0 then 1 else 0) :: xs
    | [] => []) else (match s with
    | y :: x :: xs => jn (-1 - c) x y :: xs
    | s => s)
def evN (c q : Int → Int) : Nat → Int → List Int → List Int
  | 0, _, s => s
  | k + 1, p, s => evN c q k (p + 1) (ev1 (c p) q s)
def evV (c q : Int → Int) (a b : Int) : Int := (evN c q (b - a).toNat a []).headD 0
def Stk (f : Int → Int) : List Int → Prop
  | [] => True
  | x :: xs => f (xs.length : Int) = x ∧ Stk f xs
theorem Stk.congr {f g : Int → Int} : ∀ {s : List Int}, Stk f s → (∀ j : Int, 0 ≤ j → j < (s.length : Int) → g j = f j) → Stk g s
  | [], _, _ => trivial
  | x :: xs, h, e => by
    simp only [List.length_cons] at e
    exact ⟨by rw [e _ (by omega) (by omega)]; exact h.1, Stk.congr h.2 fun j h0 h1 => e j h0 (by omega)⟩
theorem Stk.push {σ : St} {k : Nat} {s : List Int} {p v : Int} (h : Stk (σ.2.1 k) s) (hp : p = (s.length : Int)) : Stk ((uI σ k p v).2.1 k) (v :: s) := by
  subst hp
  exact ⟨uI_eq, h.congr fun j _ h1 => uI_j (by omega)⟩
theorem ev1_congr {c : Int} {q q' : Int → Int} {s : List Int} (h : -34 ≤ c ∧ c ≤ -24 → q (-24 - c) = q' (-24 - c)) : ev1 c q s = ev1 c q' s := by
  unfold ev1
  by_cases h1 : 0 ≤ c
  · rw [if_pos h1, if_pos h1]
  · rw [if_neg h1, if_neg h1]
    by_cases h2 : -34 ≤ c ∧ c ≤ -24
    · rw [if_pos h2, if_pos h2, h h2]
    · rw [if_neg h2, if_neg h2]
theorem evN_congr {c q q' : Int → Int} : ∀ (k : Nat) (p : Int) (s : List Int), (∀ j : Int, p ≤ j → j < p + (k : Int) → -34 ≤ c j ∧ c j ≤ -24 → q (-24 - c j) = q' (-24 - c j)) → evN c q k p s = evN c q' k p s
  | 0, _, _, _ => rfl
  | k + 1, p, s, h => by
    show evN c q k (p + 1) (ev1 (c p) q s) = evN c q' k (p + 1) (ev1 (c p) q' s)
    rw [ev1_congr (h p (by omega) (by omega)), evN_congr k (p + 1) _ fun j h1 h2 => h j (by omega) (by omega)]
theorem evN_code {c d q : Int → Int} : ∀ (k : Nat) (p p' : Int) (s : List Int), (∀ j : Int, 0 ≤ j → j < (k : Int) → c (p + j) = d (p' + j)) → evN c q k p s = evN d q k p' s
  | 0, _, _, _, _ => rfl
  | k + 1, p, p', s, h => by
    show evN c q k (p + 1) (ev1 (c p) q s) = evN d q k (p' + 1) (ev1 (d p') q s)
    have e := h 0 (by omega) (by omega)
    rw [Int.add_zero, Int.add_zero] at e
    rw [e, evN_code k (p + 1) (p' + 1) _ fun j h1 h2 => by have := h (j + 1) (by omega) (by omega); rw [Int.add_assoc, Int.add_assoc, Int.add_comm 1 j]; exact this]
theorem ev1_len {c : Int} {q : Int → Int} {s : List Int} {n' : Nat} (h : hs c s.length n') : (ev1 c q s).length = n' := by
  unfold ev1
  unfold hs isBin at h
  by_cases h1 : 0 ≤ c
  · rw [if_pos h1, List.length_cons]; omega
  · rw [if_neg h1]
    by_cases h2 : -34 ≤ c ∧ c ≤ -24
    · rw [if_pos h2, List.length_cons]; omega
    · rw [if_neg h2]
      by_cases h3 : c = -23
      · rw [if_pos h3]
        match s, h with
        | [], h => simp only [List.length_nil] at h; omega
        | x :: xs, h => simp only [List.length_cons] at h ⊢; omega
      · rw [if_neg h3]
        match s, h with
        | [], h => simp only [List.length_nil] at h; omega
        | [x], h => simp only [List.length_cons, List.length_nil] at h; omega
        | y :: x :: xs, h => simp only [List.length_cons] at h ⊢; omega
theorem joined_eq (N : Nat) (σ : St) {k : Int} (a b : Int) (h : -2147483648 ≤ k ∧ k < 2147483648) : f_X7_joined N σ k a b = some (σ, jn k a b) := by
  unfold f_X7_joined jn
  rw [wr_id h.1 h.2]
  repeat' split
  all_goals rfl
theorem two_eq (N : Nat) (σ : St) {c : Int} (a b : Int) (h : isBin c) : f_X12_two N σ (rc c) a b = some (σ, jn (-1 - c) a b) := by
  rcases h with rfl | rfl | rfl | rfl | rfl | rfl | rfl | rfl
  · rw [show rc (-21) = 38 from rfl]; unfold f_X12_two; rw [if_pos (by decide)]; show _ = some (σ, jn 20 a b); unfold jn; rw [if_pos rfl]; repeat' split
    all_goals rfl
  · rw [show rc (-22) = 124 from rfl]; unfold f_X12_two
    rw [if_neg (by decide), if_neg (by decide), if_neg (by decide), if_neg (by decide), if_neg (by decide), if_neg (by decide), if_neg (by decide)]; show _ = some (σ, if wr a = 0 then (if wr b = 0 then 0 else 1) else 1); repeat' split
    all_goals rfl
  · rw [show rc (-43) = 42 from rfl]; unfold f_X12_two; rw [if_neg (by decide), if_pos (by decide)]; rfl
  · rw [show rc (-44) = 43 from rfl]; unfold f_X12_two; rw [if_neg (by decide), if_neg (by decide), if_pos (by decide)]; rfl
  · rw [show rc (-46) = 45 from rfl]; unfold f_X12_two; rw [if_neg (by decide), if_neg (by decide), if_neg (by decide), if_pos (by decide)]; rfl
  · rw [show rc (-61) = 60 from rfl]; unfold f_X12_two; rw [if_neg (by decide), if_neg (by decide), if_neg (by decide), if_neg (by decide), if_pos (by decide)]
    show _ = some (σ, if wr a < wr b then 1 else 0)
    split <;> rfl
  · rw [show rc (-62) = 61 from rfl]; unfold f_X12_two; rw [if_neg (by decide), if_neg (by decide), if_neg (by decide), if_neg (by decide), if_neg (by decide), if_pos (by decide)]
    show _ = some (σ, if wr a = wr b then 1 else 0)
    split <;> rfl
  · rw [show rc (-63) = 62 from rfl]; unfold f_X12_two; rw [if_neg (by decide), if_neg (by decide), if_neg (by decide), if_neg (by decide), if_neg (by decide), if_neg (by decide), if_pos (by decide)]
    show _ = some (σ, if wr b < wr a then 1 else 0)
    split <;> rfl
theorem term_num (N : Nat) {σ : St} {c v : Int} (h : 0 ≤ c) : f_X12_term N σ 1 (rc c) v = some (σ, v) := by
  rw [show rc c = 110 from if_pos h]; unfold f_X12_term
  rw [if_neg (by decide), if_neg (by decide), if_neg (by decide), if_neg (by decide), if_neg (by decide), if_neg (by decide), if_pos (by decide)]
theorem term_word (N : Nat) {σ : St} (hM : WMr σ.1 σ.2.2) {c : Int} (v : Int) (h : -34 ≤ c ∧ c ≤ -24) : f_X12_term N σ 1 (rc c) v = some (σ, fI σ 1 (50 + (-24 - c).toNat)) := by
  have g : ∀ j, gI shm σ 12 1 j = some (fI σ 1 j) := fun j => by unfold gI; rw [if_pos ⟨rfl, by rw [hM.1]; decide⟩]; rfl
  have hc : c = -24 ∨ c = -25 ∨ c = -26 ∨ c = -27 ∨ c = -28 ∨ c = -29 ∨ c = -30 ∨ c = -31 ∨ c = -32 ∨ c = -33 ∨ c = -34 := by omega
  unfold f_X12_term
  simp only [g]
  rcases hc with rfl | rfl | rfl | rfl | rfl | rfl | rfl | rfl | rfl | rfl | rfl <;> rfl
theorem term_eq (N : Nat) {σ : St} (hM : WMr σ.1 σ.2.2) {c v : Int} (q : Int → Int) (hv : 0 ≤ c → v = c) (hq : -34 ≤ c ∧ c ≤ -24 → q (-24 - c) = fI σ 1 (50 + (-24 - c).toNat)) (h : 0 ≤ c ∨ (-34 ≤ c ∧ c ≤ -24)) : f_X12_term N σ 1 (rc c) v = some (σ, if 0 ≤ c then c else q (-24 - c)) := by
  by_cases h0 : 0 ≤ c
  · rw [term_num N h0, if_pos h0, hv h0]
  · rw [term_word N hM v (by omega), if_neg h0, hq (by omega)]
section Ev
variable {N : Nat} {σ : St} {Q : St × Int → Prop}
theorem pushX (hX : WXr σ.1 σ.2.2) {t : Nat} (ht : isT t) {v : Int} {s : List Int} (hs : Stk (σ.2.1 (t + 4)) s) (hn : s.length < 60) (h : ∀ τ, FX [t + 4] σ τ → Stk (τ.2.1 (t + 4)) (v :: s) → Q (τ, (s.length : Int) + 1)) : Ok (f_X7_push N σ t v (s.length : Int)) Q := by
  unfold f_X7_push
  repeat' first
    | with_reducible apply st_Lt
    | with_reducible apply st_Jn
    | ((with_reducible apply ok_some); try dsimp only)
    | with_reducible apply ok_z0
    | with_reducible apply ok_z1
    | ((with_reducible apply ok_gF_hit); exact hX; exact rfl; exact rfl)
    | ((with_reducible apply tx_gF_hit); exact hX; exact ht)
    | ((with_reducible apply ok_gF_j); decide)
    | ((with_reducible apply ok_gF_k); (first | decide | omega))
    | ((with_reducible apply ok_gU_k); (first | decide | omega))
    | ((with_reducible apply ok_aF_k); (first | decide | omega))
    | ((with_reducible apply ok_aU_k); (first | decide | omega))
    | (with_reducible apply ok_rF)
    | (with_reducible apply ok_rU)
    | (with_reducible apply ok_qF)
    | (with_reducible apply ok_qU)
    | ((with_reducible apply sx_gI); exact hX; exact rfl; exact rfl)
    | ((with_reducible apply sx_gR); exact hX; exact rfl; exact rfl; exact rfl)
    | ((with_reducible apply sx_pI); exact hX; exact rfl; exact rfl)
    | ((with_reducible apply sx_rcv); exact hX; exact rfl; exact rfl)
    | ((with_reducible apply sx_aI); exact hX; exact rfl; exact rfl; exact (by decide); omega; omega)
    | ((with_reducible apply sx_sI); exact hX; exact rfl; exact rfl; exact (by decide); omega; omega)
    | ((with_reducible apply tx_gI); exact hX; exact ht)
    | ((with_reducible apply tx_gR); exact hX; exact ht; exact rfl)
    | ((with_reducible apply tx_pI); exact hX; exact ht)
    | ((with_reducible apply tx_rcv); exact hX; exact ht)
    | ((with_reducible apply tx_aI); exact hX; exact ht; exact rfl; exact (by decide); omega; omega)
    | ((with_reducible apply tx_sI); exact hX; exact ht; exact rfl; exact (by decide); omega; omega)
    | ((with_reducible apply ok_rZ); (first | exact .inl rfl | exact .inr rfl))
    | ((with_reducible refine ok_within ?_ ?_ ?_ (fun hc => ?_) (fun hc => ?_)); omega; omega; omega)
    | ((with_reducible refine ok_month ?_ (fun hc => ?_) (fun hc => ?_)); omega)
    | ((with_reducible refine ok_tongue ?_ (fun hc => ?_) (fun hc => ?_)); omega)
    | ((with_reducible refine ok_money ?_ (fun hc => ?_) (fun hc => ?_)); omega)
    | ((with_reducible refine ok_isIn ?_ ?_ ?_ (fun hc => ?_) (fun hc => ?_)); omega; omega; omega)
    | ((with_reducible refine ok_wltp ?_ ?_ ?_ ?_); omega; omega; omega)
    | ((with_reducible refine ok_wltn ?_ ?_ ?_ ?_); omega; omega; omega)
    | ((with_reducible refine ok_wlt ?_ ?_ (fun hc => ?_) (fun hc => ?_)); omega; omega)
    | ((with_reducible refine ok_wlt0 ?_ (fun hc => ?_) (fun hc => ?_)); omega)
    | ((with_reducible refine ok_w0lt ?_ (fun hc => ?_) (fun hc => ?_)); omega)
    | ((with_reducible refine ok_weq ?_ ?_ (fun hc => ?_) (fun hc => ?_)); omega; omega)
    | ((with_reducible refine ok_weqc ?_ (fun hc => ?_) (fun hc => ?_)); omega)
  all_goals first | (exfalso; omega) | skip
  exact h _ (FX.refl.uI (List.mem_singleton.mpr rfl)) (hs.push rfl)
theorem workX (hX : WXr σ.1 σ.2.2) {t : Nat} (ht : isT t) {c : Int} {q : Int → Int} {s : List Int} {n' : Nat} (hst : Stk (σ.2.1 (t + 4)) s) (hh : hs c s.length n') (hq : -34 ≤ c ∧ c ≤ -24 → q (-24 - c) = σ.2.1 (t + 5) (-24 - c)) (h : ∀ τ, FX [t + 4] σ τ → Stk (τ.2.1 (t + 4)) (ev1 c q s) → Q (τ, (n' : Int))) : Ok (f_X7_work N σ t c (s.length : Int)) Q := by
  have hh' := hh
  unfold hs isBin at hh
  have hl := ev1_len (q := q) hh'
  unfold f_X7_work
  rcases hh with hh | hh | hh | hh
  · refine st_Lt ?_
    refine ok_wlt0 (by omega) (fun h0 => by exfalso; omega) (fun h0 => ?_)
    refine tx_rcv hX ht (ok_bind ?_)
    refine pushX hX ht hst hh.2.2.1 (fun τ h1 h2 => ?_)
    dsimp only
    rw [show ev1 c q s = c :: s from if_pos h0] at h
    have := h τ h1 h2
    rw [show (n' : Int) = (s.length : Int) + 1 by omega] at this
    exact ok_some this
  · refine st_Lt ?_
    refine ok_wlt0 (by omega) (fun h0 => ?_) (fun h0 => by exfalso; omega)
    refine ok_within (by omega) (by omega) (by omega) (fun h1 => ?_) (fun h1 => by exfalso; omega)
    refine ok_z1 ?_
    refine tx_gR hX ht rfl ?_
    refine tx_aI hX ht rfl (by decide) (by omega) (by omega) ?_
    rw [show (-1 - c - 23 : Int) = -24 - c by omega]
    refine tx_rcv hX ht (ok_bind ?_)
    refine pushX hX ht hst hh.2.2.1 (fun τ h1 h2 => ?_)
    dsimp only
    rw [show ev1 c q s = q (-24 - c) :: s by unfold ev1; rw [if_neg (by omega), if_pos ⟨hh.1, hh.2.1⟩], hq ⟨hh.1, hh.2.1⟩] at h
    have := h τ h1 h2
    rw [show (n' : Int) = (s.length : Int) + 1 by omega] at this
    exact ok_some this
  · obtain ⟨rfl, hh⟩ := hh
    match s, hst, hh, hl, h with
    | [], _, hh, _, _ => simp only [List.length_nil] at hh; omega
    | x :: xs, hst, hh, hl, h =>
      simp only [List.length_cons] at hh hl ⊢
      refine st_Lt ?_
      refine ok_wlt0 (by omega) (fun h0 => ?_) (fun h0 => by exfalso; omega)
      refine ok_within (by omega) (by omega) (by omega) (fun h1 => by exfalso; omega) (fun h1 => ?_)
      refine ok_z0 ?_
      refine st_Jn ?_
      refine ok_weq (by omega) (by omega) (fun h2 => ?_) (fun h2 => by exfalso; omega)
      refine ok_within (by omega) (by omega) (by omega) (fun h3 => ?_) (fun h3 => by exfalso; omega)
      refine ok_z1 ?_
      refine tx_gR hX ht rfl ?_
      refine tx_gR hX ht rfl ?_
      refine tx_aI hX ht rfl (by decide) (by omega) (by omega) ?_
      rw [show (((xs.length + 1 : Nat) : Int) - 1) = (xs.length : Int) by omega, hst.1]
      refine st_Jn ?_
      rw [show ev1 (-23) q (x :: xs) = (if wr x = 0 then 1 else 0) :: xs from rfl] at h
      refine ok_ite (fun h4 => ?_) (fun h4 => ?_)
      · refine tx_sI hX ht rfl (by decide) (by omega) (by omega) (ok_some ?_)
        rw [if_pos h4] at h
        have := h _ (FX.refl.uI (List.mem_singleton.mpr rfl)) (hst.2.push rfl)
        rw [show (n' : Int) = ((xs.length + 1 : Nat) : Int) by omega] at this
        exact this
      · refine tx_sI hX ht rfl (by decide) (by omega) (by omega) (ok_some ?_)
        rw [if_neg h4] at h
        have := h _ (FX.refl.uI (List.mem_singleton.mpr rfl)) (hst.2.push rfl)
        rw [show (n' : Int) = ((xs.length + 1 : Nat) : Int) by omega] at this
        exact this
  · obtain ⟨hb, hh⟩ := hh
    match s, hst, hh, hl, h with
    | [], _, hh, _, _ => simp only [List.length_nil] at hh; omega
    | [x], _, hh, _, _ => simp only [List.length_cons, List.length_nil] at hh; omega
    | y :: x :: xs, hst, hh, hl, h =>
      simp only [List.length_cons] at hh hl ⊢
      refine st_Lt ?_
      refine ok_wlt0 (by omega) (fun h0 => ?_) (fun h0 => by exfalso; omega)
      refine ok_within (by omega) (by omega) (by omega) (fun h1 => by exfalso; omega) (fun h1 => ?_)
      refine ok_z0 ?_
      refine st_Jn ?_
      refine ok_weq (by omega) (by omega) (fun h2 => by exfalso; omega) (fun h2 => ?_)
      refine ok_within (by omega) (by omega) (by omega) (fun h3 => ?_) (fun h3 => by exfalso; omega)
      refine ok_z1 ?_
      refine tx_gR hX ht rfl ?_
      refine tx_gR hX ht rfl ?_
      refine tx_aI hX ht rfl (by decide) (by omega) (by omega) ?_
      refine tx_gR hX ht rfl ?_
      refine tx_aI hX ht rfl (by decide) (by omega) (by omega) ?_
      have e1 := hst.1
      simp only [List.length_cons] at e1
      rw [show (((xs.length + 1 + 1 : Nat) : Int) - 1) = ((xs.length + 1 : Nat) : Int) by omega, show (((xs.length + 1 + 1 : Nat) : Int) - 2) = (xs.length : Int) by omega, e1, hst.2.1]
      refine ok_rw (joined_eq N σ _ _ (by omega)) ?_
      refine tx_sI hX ht rfl (by decide) (by omega) (by omega) (ok_some ?_)
      rw [show ev1 c q (y :: x :: xs) = jn (-1 - c) x y :: xs by unfold ev1; rw [if_neg (by omega), if_neg (by omega), if_neg (by omega)]] at h
      have := h _ (FX.refl.uI (List.mem_singleton.mpr rfl)) (hst.2.2.push rfl)
      rw [show (n' : Int) = ((xs.length + 1 : Nat) : Int) by omega] at this
      exact this
/-- a told line's worth, the class -/
theorem valX (hX : WXr σ.1 σ.2.2) {t : Nat} (ht : isT t) {n a b : Int} {c q : Int → Int} (hn : 0 ≤ n ∧ n < 4) (ha : σ.2.1 (t + 2) n = a) (hb : σ.2.1 (t + 3) n = b) (h0 : 0 ≤ a ∧ a ≤ b ∧ b ≤ 700) (hc : ∀ j, a ≤ j → j < b → σ.2.1 (t + 1) j = c j) (hq : ∀ j, 0 ≤ j → j ≤ 10 → q j = σ.2.1 (t + 5) j) (hr : Run c (b - a).toNat a 0 1) (hN : 1000 < N) : ∃ τ, f_X7_valueOf N σ t n = some (τ, evV c q a b) ∧ FX [t + 4] σ τ := by
  have H : Ok (f_X7_valueOf N σ t n) (fun w => w.2 = evV c q a b ∧ FX [t + 4] σ w.1) := by
    unfold f_X7_valueOf
    refine tx_rcv hX ht (ok_bind ?_)
    unfold f_X7_isTold
    refine ok_within (by omega) (by omega) (by omega) (fun h1 => ?_) (fun h1 => by exfalso; omega)
    refine ok_z1 ?_
    refine tx_gR hX ht rfl ?_
    refine tx_aI hX ht rfl (by decide) (by omega) (by omega) ?_
    rw [ha]
    refine ok_weq (by omega) (by omega) (fun h2 => by exfalso; omega) (fun h2 => ok_some ?_)
    refine ok_z1 ?_
    refine tx_gR hX ht rfl ?_
    refine tx_aI hX ht rfl (by decide) (by omega) (by omega) ?_
    rw [ha]
    refine st_Jn ?_
    unfold L_X7_valueOf_22
    refine ok_fix (fun w => ∃ s : List Int, FX [t + 4] σ w.1 ∧ Stk (w.1.2.1 (t + 4)) s ∧ w.2.1 = (s.length : Int) ∧ a ≤ w.2.2 ∧ w.2.2 ≤ b ∧ Run c (b - w.2.2).toNat w.2.2 s.length 1 ∧ evN c q (b - w.2.2).toNat w.2.2 s = evN c q (b - a).toNat a []) (fun w => (b - w.2.2).toNat) (fun back w hI hback => ?_) _ ⟨[], FX.refl, trivial, rfl, Int.le_refl a, h0.2.1, hr, rfl⟩ (by show (b - a).toNat < N; omega)
    obtain ⟨τ, top, i⟩ := w
    obtain ⟨s, g1, g2, g3, g4, g5, g6, g7⟩ := hI
    dsimp only at g1 g2 g3 g4 g5 g6 g7 ⊢
    subst g3
    have hX' := g1.X hX
    have k1 : ∀ d, d ≠ 4 → τ.2.1 (t + d) = σ.2.1 (t + d) := fun d hd => g1.2.2 _ (by rw [List.mem_singleton]; omega)
    refine tx_gR hX' ht rfl ?_
    refine tx_aI hX' ht rfl (by decide) (by omega) (by omega) ?_
    rw [k1 3 (by decide), hb]
    refine ok_wlt (by omega) (by omega) (fun h3 => ?_) (fun h3 => ?_)
    · refine tx_gR hX' ht rfl ?_
      refine tx_aI hX' ht rfl (by decide) (by omega) (by omega) ?_
      rw [k1 1 (by decide), hc i g4 h3]
      obtain ⟨k, hk⟩ : ∃ k, (b - i).toNat = k + 1 := ⟨(b - i).toNat - 1, by omega⟩
      have hk' : (b - (i + 1)).toNat = k := by omega
      rw [hk] at g6 g7
      obtain ⟨n1, e1, e2⟩ := g6
      refine tx_rcv hX' ht (ok_bind ?_)
      refine workX hX' ht (q := q) g2 e1 (fun hw => ?_) (fun υ u1 u2 => ?_)
      · rw [k1 5 (by decide)]; exact hq _ (by omega) (by omega)
      refine st_Lt ?_
      refine hback _ ⟨ev1 (c i) q s, g1.trans u1, u2, ?_, by dsimp only; omega, by dsimp only; omega, ?_, ?_⟩ (by dsimp only; omega)
      · rw [ev1_len e1]
      · dsimp only; rw [hk', ev1_len e1]; exact e2
      · dsimp only; rw [hk']; exact g7
    · have hi : i = b := by omega
      subst hi
      rw [Int.sub_self] at g6 g7
      have g6' : s.length = 1 := g6
      have g7' : s = evN c q (i - a).toNat a [] := g7
      match s, g6', g2, g7' with
      | [x], _, g2, g7' =>
        refine ok_weq (by show _ ∧ _; simp only [List.length_cons, List.length_nil]; omega) (by omega) (fun h4 => ?_) (fun h4 => by exfalso; simp only [List.length_cons, List.length_nil] at h4; omega)
        refine tx_gR hX' ht rfl ?_
        refine tx_aI hX' ht rfl (by decide) (by omega) (by omega) (ok_some ?_)
        refine ⟨?_, g1⟩
        show τ.2.1 (t + 4) 0 = evV c q a i
        unfold evV
        rw [← g7']
        exact g2.1
  obtain ⟨⟨τ, v⟩, e, h1, h2⟩ := H
  dsimp only at h1 h2
  subst h1
  exact ⟨τ, e, h2⟩
/-- and the reference -/
theorem valM (hM : WMr σ.1 σ.2.2) {i n a b w : Int} {c q : Int → Int} (hi : 0 ≤ i ∧ i ≤ 3) (hn : 0 ≤ n ∧ n < 4) (hd : wz (σ.2.1 32 (4 * i + n)) = 1) (ha : σ.2.1 25 (4 * i + n) = a) (hb : σ.2.1 26 (4 * i + n) = b) (h0 : 0 ≤ a ∧ a ≤ b ∧ b ≤ 700) (hc : ∀ j, a ≤ j → j < b → σ.2.1 27 (700 * i + j) = rc (c j)) (hv : ∀ j, a ≤ j → j < b → 0 ≤ c j → σ.2.1 28 (700 * i + j) = c j) (hq : ∀ j, 0 ≤ j → j ≤ 10 → q j = fI σ 1 (50 + j.toNat)) (hr : Run c (b - a).toNat a 0 1) (hN : 1000 < N) : ∃ τ, f_X12_work N σ 1 i n w = some (τ, evV c q a b) ∧ FM [31] [] σ τ := by
  have H : Ok (f_X12_work N σ 1 i n w) (fun w => w.2 = evV c q a b ∧ FM [31] [] σ w.1) := by
    unfold f_X12_work
    refine sm_gR hM rfl ?_
    refine sm_aI hM rfl rfl (by decide) (by omega) (by omega) ?_
    rw [hd]
    refine ok_z1 ?_
    refine sm_gR hM rfl ?_
    refine sm_aI hM rfl rfl (by decide) (by omega) (by omega) ?_
    rw [ha]
    refine st_Lt ?_
    refine st_Jn ?_
    unfold L_X12_work_36
    refine ok_fix (fun w => ∃ s : List Int, ∃ p : Int, FM [31] [] σ w.1 ∧ Stk (w.1.2.1 31) s ∧ w.2.1 = (s.length : Int) ∧ w.2.2 = 700 * i + p ∧ a ≤ p ∧ p ≤ b ∧ Run c (b - p).toNat p s.length 1 ∧ evN c q (b - p).toNat p s = evN c q (b - a).toNat a []) (fun w => (700 * i + b - w.2.2).toNat) (fun back w hI hback => ?_) _ ⟨[], a, FM.refl, trivial, rfl, rfl, by omega, h0.2.1, hr, rfl⟩ (by show (700 * i + b - (700 * i + a)).toNat < N; omega)
    obtain ⟨τ, top, k⟩ := w
    obtain ⟨s, p, g1, g2, g3, g3', g4, g5, g6, g7⟩ := hI
    dsimp only at g1 g2 g3 g3' g4 g5 g6 g7 hback ⊢
    subst g3 g3'
    have hM' := g1.M hM
    have k1 : ∀ d, d ≠ 1 → d ≠ 31 → τ.2.1 d = σ.2.1 d := fun d h1 hd => g1.2.2.1 _ h1 (by rw [List.mem_singleton]; omega)
    refine sm_gR hM' rfl ?_
    refine sm_aI hM' rfl rfl (by decide) (by omega) (by omega) ?_
    rw [k1 26 (by decide) (by decide), hb]
    refine ok_wlt (by omega) (by omega) (fun h3 => ?_) (fun h3 => ?_)
    · have h3 : p < b := by omega
      refine sm_gR hM' rfl ?_
      refine sm_aI hM' rfl rfl (by decide) (by omega) (by omega) ?_
      rw [k1 27 (by decide) (by decide), hc p g4 h3]
      obtain ⟨k, hk⟩ : ∃ k, (b - p).toNat = k + 1 := ⟨(b - p).toNat - 1, by omega⟩
      have hk' : (b - (p + 1)).toNat = k := by omega
      rw [hk] at g6 g7
      obtain ⟨n1, e1, e2⟩ := g6
      have hl := ev1_len (q := q) e1
      have fin : ∀ υ, FM [31] [] τ υ → Stk (υ.2.1 31) (ev1 (c p) q s) → Ok (back (υ, (n1 : Int), 700 * i + p + 1)) (fun w => w.2 = evV c q a b ∧ FM [31] [] σ w.1) := fun υ u1 u2 => by
        refine hback _ ⟨ev1 (c p) q s, p + 1, g1.trans u1, u2, ?_, ?_, by omega, by omega, ?_, ?_⟩ ?_
        · dsimp only; rw [hl]
        · dsimp only; omega
        · rw [hk', hl]; exact e2
        · rw [hk']; exact g7
        · dsimp only; omega
      have hcases := e1
      unfold hs at hcases
      have hN31 : (31 : Nat) ∈ [31] := List.mem_singleton.mpr rfl
      refine st_Jn ?_
      rcases hcases with hh | hh | hh | hh
      · have er : rc (c p) = 110 := if_pos hh.1
        refine ok_weq (by omega) (by omega) (fun h4 => by exfalso; omega) (fun h4 => ?_)
        unfold f_X12_isLetter
        rw [er]
        refine ok_bind ?_
        refine ok_wlt (by omega) (by omega) (fun h4 => by exfalso; omega) (fun h4 => ?_)
        refine ok_wlt (by omega) (by omega) (fun h4 => by exfalso; omega) (fun h4 => ok_some ?_)
        refine ok_z1 ?_
        refine sm_gR hM' rfl ?_
        refine sm_gR hM' rfl ?_
        refine sm_aI hM' rfl rfl (by decide) (by omega) (by omega) ?_
        refine sm_rcv hM' ?_
        rw [← er]
        refine ok_rw (term_eq N hM' q (fun _ => by rw [k1 28 (by decide) (by decide)]; exact hv p g4 h3 hh.1) (fun hw => by rw [hq _ (by omega) (by omega)]; exact (g1.f (List.not_mem_nil)).symm) (.inl hh.1)) ?_
        rw [if_pos hh.1]
        refine sm_sI hM' rfl rfl (by decide) (by omega) (by omega) ?_
        refine st_Lt (st_Lt ?_)
        have := fin _ (FM.refl.uI (by decide) hN31) (by rw [show ev1 (c p) q s = c p :: s from if_pos hh.1]; exact g2.push (v := c p) rfl)
        rw [show (n1 : Int) = (s.length : Int) + 1 by omega] at this
        exact this
      · have er : 97 ≤ rc (c p) ∧ rc (c p) ≤ 122 := by
          have : c p = -24 ∨ c p = -25 ∨ c p = -26 ∨ c p = -27 ∨ c p = -28 ∨ c p = -29 ∨ c p = -30 ∨ c p = -31 ∨ c p = -32 ∨ c p = -33 ∨ c p = -34 := by omega
          rcases this with e | e | e | e | e | e | e | e | e | e | e <;> rw [e] <;> decide
        refine ok_weq (by omega) (by omega) (fun h4 => by exfalso; omega) (fun h4 => ?_)
        unfold f_X12_isLetter
        refine ok_bind ?_
        refine ok_wlt (by omega) (by omega) (fun h4 => by exfalso; omega) (fun h4 => ?_)
        refine ok_wlt (by omega) (by omega) (fun h4 => by exfalso; omega) (fun h4 => ok_some ?_)
        refine ok_z1 ?_
        refine sm_gR hM' rfl ?_
        refine sm_gR hM' rfl ?_
        refine sm_aI hM' rfl rfl (by decide) (by omega) (by omega) ?_
        refine sm_rcv hM' ?_
        refine ok_rw (term_eq N hM' q (fun h5 => by exfalso; omega) (fun hw => by rw [hq _ (by omega) (by omega)]; exact (g1.f (List.not_mem_nil)).symm) (.inr ⟨hh.1, hh.2.1⟩)) ?_
        rw [if_neg (by omega)]
        refine sm_sI hM' rfl rfl (by decide) (by omega) (by omega) ?_
        refine st_Lt (st_Lt ?_)
        have := fin _ (FM.refl.uI (by decide) hN31) (by rw [show ev1 (c p) q s = q (-24 - c p) :: s by unfold ev1; rw [if_neg (by omega), if_pos ⟨hh.1, hh.2.1⟩]]; exact g2.push (v := q (-24 - c p)) rfl)
        rw [show (n1 : Int) = (s.length : Int) + 1 by omega] at this
        exact this
      · have er : rc (c p) = 126 := by rw [hh.1]; rfl
        match s, g2, hh, hl, fin with
        | [], _, hh, _, _ => simp only [List.length_nil] at hh; omega
        | x :: xs, g2, hh, hl, fin =>
          simp only [List.length_cons] at hh hl ⊢
          refine ok_weq (by omega) (by omega) (fun h4 => ?_) (fun h4 => by exfalso; omega)
          refine sm_gR hM' rfl ?_
          refine sm_gR hM' rfl ?_
          refine sm_aI hM' rfl rfl (by decide) (by omega) (by omega) ?_
          rw [show (((xs.length + 1 : Nat) : Int) - 1) = (xs.length : Int) by omega, g2.1]
          refine st_Jn ?_
          rw [show ev1 (c p) q (x :: xs) = (if wr x = 0 then 1 else 0) :: xs by rw [hh.1]; rfl] at fin
          refine ok_ite (fun h5 => ?_) (fun h5 => ?_)
          · refine sm_sI hM' rfl rfl (by decide) (by omega) (by omega) (st_Lt ?_)
            rw [if_pos h5] at fin
            have := fin _ (FM.refl.uI (by decide) hN31) (g2.2.push rfl)
            rw [show (n1 : Int) = ((xs.length + 1 : Nat) : Int) by omega] at this
            exact this
          · refine sm_sI hM' rfl rfl (by decide) (by omega) (by omega) (st_Lt ?_)
            rw [if_neg h5] at fin
            have := fin _ (FM.refl.uI (by decide) hN31) (g2.2.push rfl)
            rw [show (n1 : Int) = ((xs.length + 1 : Nat) : Int) by omega] at this
            exact this
      · obtain ⟨hb1, hh⟩ := hh
        have er : (rc (c p) < 97 ∨ 122 < rc (c p)) ∧ rc (c p) ≠ 126 ∧ 0 ≤ rc (c p) ∧ rc (c p) ≤ 200 := by
          rcases hb1 with e | e | e | e | e | e | e | e <;> rw [e] <;> decide
        match s, g2, hh, hl, fin with
        | [], _, hh, _, _ => simp only [List.length_nil] at hh; omega
        | [x], _, hh, _, _ => simp only [List.length_cons, List.length_nil] at hh; omega
        | y :: x :: xs, g2, hh, hl, fin =>
          simp only [List.length_cons] at hh hl ⊢
          have e1 := g2.1
          simp only [List.length_cons] at e1
          have tail : Ok (Option.bind (gR shm τ 12 1 43) fun pile_21 => Option.bind (gR shm τ 12 1 43) fun pile_22 => Option.bind (aI shm τ 1 pile_22 (((xs.length + 1 + 1 : Nat) : Int) + (-1) - 1)) fun a23 => Option.bind (gR shm τ 12 1 43) fun pile_24 => Option.bind (aI shm τ 1 pile_24 (((xs.length + 1 + 1 : Nat) : Int) + (-1))) fun a25 => Option.bind (f_X12_two N τ (rc (c p)) a23 a25) fun q26 => Option.bind (sI shm τ 1 pile_21 (((xs.length + 1 + 1 : Nat) : Int) + (-1) - 1) q26.2) fun σ27 => Lt (700 * i + p + 1) fun x17 => back (σ27, ((xs.length + 1 + 1 : Nat) : Int) + (-1), x17)) (fun w => w.2 = evV c q a b ∧ FM [31] [] σ w.1) := by
            refine sm_gR hM' rfl ?_
            refine sm_gR hM' rfl ?_
            refine sm_aI hM' rfl rfl (by decide) (by omega) (by omega) ?_
            refine sm_gR hM' rfl ?_
            refine sm_aI hM' rfl rfl (by decide) (by omega) (by omega) ?_
            rw [show (((xs.length + 1 + 1 : Nat) : Int) + (-1) - 1) = (xs.length : Int) by omega, show (((xs.length + 1 + 1 : Nat) : Int) + (-1)) = ((xs.length + 1 : Nat) : Int) by omega, e1, g2.2.1]
            refine ok_rw (two_eq N τ _ _ hb1) ?_
            refine sm_sI hM' rfl rfl (by decide) (by omega) (by omega) (st_Lt ?_)
            rw [show ev1 (c p) q (y :: x :: xs) = jn (-1 - c p) x y :: xs by unfold ev1; rcases hb1 with e | e | e | e | e | e | e | e <;> rw [e] <;> rfl] at fin
            have := fin _ (FM.refl.uI (by decide) hN31) (g2.2.2.push rfl)
            rw [show (n1 : Int) = ((xs.length + 1 : Nat) : Int) by omega] at this
            exact this
          refine ok_weq (by omega) (by omega) (fun h4 => by exfalso; omega) (fun h4 => ?_)
          unfold f_X12_isLetter
          refine ok_bind ?_
          refine ok_wlt (by omega) (by omega) (fun h4 => ok_some (ok_z0 (st_Lt tail))) (fun h4 => ?_)
          exact ok_wlt (by omega) (by omega) (fun h4 => ok_some (ok_z0 (st_Lt tail))) (fun h4 => by exfalso; omega)
    · have hpb : p = b := by omega
      subst hpb
      rw [Int.sub_self] at g6 g7
      have g6' : s.length = 1 := g6
      have g7' : s = evN c q (p - a).toNat a [] := g7
      match s, g6', g2, g7' with
      | [x], _, g2, g7' =>
        refine sm_gR hM' rfl ?_
        refine sm_aI hM' rfl rfl (by decide) (by omega) (by omega) (ok_some ?_)
        refine ⟨?_, g1⟩
        show τ.2.1 31 0 = evV c q a p
        unfold evV
        rw [← g7']
        exact g2.1
  obtain ⟨⟨τ, v⟩, e, h1, h2⟩ := H
  dsimp only at h1 h2
  subst h1
  exact ⟨τ, e, h2⟩
end Ev
