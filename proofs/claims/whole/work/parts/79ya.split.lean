/-! the pure part: the class cuts a text into TOKENS -/
section F
variable {N : Nat} {σ τ υ : St} {A B J K : List Nat}
/-- of the tape's cell only the named places are others, and of the rest only the named cells -/
def FT (A J : List Nat) (σ τ : St) : Prop := τ.1 = σ.1 ∧ τ.2.2 = σ.2.2 ∧ (∀ k, k ≠ 2 → k ∉ A → τ.2.1 k = σ.2.1 k) ∧ ∀ j, j ∉ J → fI τ 2 j = fI σ 2 j
theorem FT.refl : FT A J σ σ := ⟨rfl, rfl, fun _ _ _ => rfl, fun _ _ => rfl⟩
theorem FT.trans (h : FT A J σ τ) (g : FT A J τ υ) : FT A J σ υ := ⟨g.1.trans h.1, g.2.1.trans h.2.1, fun k h1 hk => (g.2.2.1 k h1 hk).trans (h.2.2.1 k h1 hk), fun j hj => (g.2.2.2 j hj).trans (h.2.2.2 j hj)⟩
theorem FT.mono (h : FT A J σ τ) (s : ∀ k, k ∈ A → k ∈ B) (t : ∀ k, k ∈ J → k ∈ K) : FT B K σ τ := ⟨h.1, h.2.1, fun k h1 hk => h.2.2.1 k h1 fun q => hk (s k q), fun j hj => h.2.2.2 j fun q => hj (t j q)⟩
theorem FT.wI {k : Nat} {i v : Int} (h : FT A J σ τ) (h1 : k ≠ 2) (hk : k ∈ A) : FT A J σ (uI τ k i v) := ⟨h.1, h.2.1, fun k' g' h' => (uI_cell fun e => h' (by rw [e]; exact hk)).trans (h.2.2.1 k' g' h'), fun j hj => (fI_uk (Ne.symm h1)).trans (h.2.2.2 j hj)⟩
theorem FT.wF {j : Nat} {v : Int} (h : FT A J σ τ) (hj : j ∈ J) : FT A J σ (uF τ 2 j v) := ⟨h.1, h.2.1, fun k' g' h' => (uF_cell g').trans (h.2.2.1 k' g' h'), fun j' hj' => (fI_j fun e => hj' (by rw [e]; exact hj)).trans (h.2.2.2 j' hj')⟩
theorem FT.X (h : FT A J σ τ) (hX : WXr σ.1 σ.2.2) : WXr τ.1 τ.2.2 := by rw [h.1, h.2.1]; exact hX
theorem FT.f (h : FT A J σ τ) {j : Nat} (hj : j ∉ J) : fI τ 2 j = fI σ 2 j := h.2.2.2 j hj
theorem FT.c (h : FT A J σ τ) {k : Nat} {i : Int} (h1 : k ≠ 2) (hk : k ∉ A) : τ.2.1 k i = σ.2.1 k i := congrFun (h.2.2.1 k h1 hk) _
theorem FT.g (h : FT A J σ τ) {k j : Nat} (h1 : k ≠ 2) (hk : k ∉ A) : fI τ k j = fI σ k j := congrFun (h.2.2.1 k h1 hk) _
theorem FT.fx (h : FT A J σ τ) : FX (2 :: A) σ τ := ⟨h.1, h.2.1, fun k hk => h.2.2.1 k (fun e => hk (by rw [e]; exact List.mem_cons_self)) fun q => hk (List.mem_cons_of_mem _ q)⟩
/-- the text that lies on the tape -/
def TX (T : Int → Int) (n : Int) (σ : St) : Prop := fI σ 2 2 = n ∧ (0 ≤ n ∧ n ≤ 1300) ∧ ∀ j : Int, 0 ≤ j → j < n → σ.2.1 4 j = T j ∧ 0 ≤ T j ∧ T j ≤ 255
theorem TX.ft {T : Int → Int} {n : Int} (h : TX T n σ) (f : FT A J σ τ) (h4 : 4 ∉ A) (h2 : 2 ∉ J) : TX T n τ := ⟨(f.f h2).trans h.1, h.2.1, fun j x y => by rw [f.c (by decide) h4]; exact h.2.2 j x y⟩
section S
variable {α : Type} {Q : α → Prop} {T : Int → Int} {n : Int}
theorem ok_byte (hX : WXr σ.1 σ.2.2) (ht : TX T n σ) {p : Int} (hp : 0 ≤ p ∧ p ≤ 1301) {f : St × Int → Option α} (h1 : p < n → Ok (f (σ, T p)) Q) (h2 : n ≤ p → Ok (f (σ, -1)) Q) : Ok (Option.bind (rcv shx σ 6 2 (f_X6_byteAt N σ 2 p)) f) Q := by
  have e := ht.1
  have r := ht.2.1
  refine sx_rcv hX rfl rfl (ok_bind ?_)
  unfold f_X6_byteAt
  refine sx_gI hX rfl rfl ?_
  rw [e]
  refine ok_within (by omega) (by omega) (by omega) (fun h => ok_z1 ?_) (fun h => ok_z0 (ok_some (h2 (by omega))))
  refine sx_gR hX rfl rfl rfl ?_
  refine sx_aI hX rfl rfl (by decide) (by omega) (by omega) (ok_some ?_)
  rw [(ht.2.2 p (by omega) (by omega)).1]
  exact h1 (by omega)
theorem ok_ltr {c : Int} (hc : -1 ≤ c ∧ c ≤ 255) {f : St × Int → Option α} (h1 : isLt c → Ok (f (σ, 1)) Q) (h2 : ¬ isLt c → Ok (f (σ, 0)) Q) : Ok (Option.bind (f_X6_isLetter N σ c) f) Q := by
  refine ok_bind ?_
  unfold f_X6_isLetter
  unfold isLt at h1 h2
  refine ok_within (by omega) (by omega) (by omega) (fun h => ?_) (fun h => ?_)
  · exact ok_rZ (.inr rfl) (h1 h)
  · exact ok_rZ (.inl rfl) (h2 (by omega))
theorem ok_dig {c : Int} (hc : -1 ≤ c ∧ c ≤ 255) {f : St × Int → Option α} (h1 : isDg c → Ok (f (σ, 1)) Q) (h2 : ¬ isDg c → Ok (f (σ, 0)) Q) : Ok (Option.bind (f_X6_isDigit N σ c) f) Q := by
  refine ok_bind ?_
  unfold f_X6_isDigit
  unfold isDg at h1 h2
  refine ok_within (by omega) (by omega) (by omega) (fun h => ?_) (fun h => ?_)
  · exact ok_rZ (.inr rfl) (h1 h)
  · exact ok_rZ (.inl rfl) (h2 (by omega))
theorem TX.rg (ht : TX T n σ) {p : Int} (hp : 0 ≤ p ∧ p < n) : -1 ≤ T p ∧ T p ≤ 255 := by
  have := ht.2.2 p hp.1 hp.2
  omega
theorem pkA_st {a p : Int} (h : a ≤ p) : pkA T a (p + 1 - a).toNat = pkA T a (p - a).toNat * 32 + (T p - 96) := by
  rw [show (p + 1 - a).toNat = (p - a).toNat + 1 by omega]
  show pkA T a (p - a).toNat * 32 + (T (a + ((p - a).toNat : Int)) - 96) = _
  rw [show a + ((p - a).toNat : Int) = p by omega]
theorem pkB_st {a p : Int} (h : a ≤ p) : pkB T a (p + 1 - a).toNat = pkB T a (p - a).toNat * 256 + T p := by
  rw [show (p + 1 - a).toNat = (p - a).toNat + 1 by omega]
  show pkB T a (p - a).toNat * 256 + T (a + ((p - a).toNat : Int)) = _
  rw [show a + ((p - a).toNat : Int) = p by omega]
theorem pkD_st {a p : Int} (h : a ≤ p) : pkD T a (p + 1 - a).toNat = pkD T a (p - a).toNat * 10 + (T p - 48) := by
  rw [show (p + 1 - a).toNat = (p - a).toNat + 1 by omega]
  show pkD T a (p - a).toNat * 10 + (T (a + ((p - a).toNat : Int)) - 48) = _
  rw [show a + ((p - a).toNat : Int) = p by omega]
/-- the loop over a word -/
theorem wordX (hX : WXr σ.1 σ.2.2) (ht : TX T n σ) {a : Int} (ha : 0 ≤ a ∧ a < n) (hl : isLt (T a)) (hN : 1400 < N) {J : Int × Int → Option (St × Int)} {Q : St × Int → Prop} (hJ : ∀ e, a < e → e ≤ n → (∀ j, a ≤ j → j < e → isLt (T j)) → (e < n → ¬ isLt (T e)) → Ok (J (pkA T a (if e - a ≤ 8 then e - a else 8).toNat, e)) Q) : Ok (L_X6_splitWord_5 N σ 2 a J (0, a)) Q := by
  unfold L_X6_splitWord_5
  have e := ht.1
  have r := ht.2.1
  refine ok_fix (fun q => (a ≤ q.2 ∧ q.2 ≤ n) ∧ (∀ j, a ≤ j → j < q.2 → isLt (T j)) ∧ q.1 = pkA T a (if q.2 - a ≤ 8 then q.2 - a else 8).toNat) (fun q => (n - q.2).toNat) (fun back q hq hback => ?_) _ ⟨by dsimp only; omega, fun j x y => by dsimp only at y; omega, ?_⟩ (by dsimp only; omega)
  · obtain ⟨l, p⟩ := q
    obtain ⟨g1, g2, g3⟩ := hq
    dsimp only at g1 g2 g3 hback ⊢
    refine sx_gI hX rfl rfl ?_
    rw [e]
    refine ok_wlt (by omega) (by omega) (fun h1 => ?_) (fun h1 => ?_)
    · refine ok_byte hX ht (by omega) (fun h2 => ?_) (fun h2 => by omega)
      refine ok_ltr (ht.rg (by omega)) (fun h3 => ok_z1 ?_) (fun h3 => ok_z0 ?_)
      · refine ok_JnC (fun x => x = pkA T a (if p + 1 - a ≤ 8 then p + 1 - a else 8).toNat) (fun x hx => ?_) (fun J2 hJ2 => ?_)
        · refine st_Lt (hback _ ⟨by dsimp only; omega, fun j x y => ?_, hx⟩ (by dsimp only; omega))
          dsimp only at y
          by_cases k : j = p
          · rw [k]; exact h3
          · exact g2 j x (by omega)
        · refine ok_wlt (by omega) (by omega) (fun h4 => ?_) (fun h4 => ?_)
          · refine ok_byte hX ht (by omega) (fun h5 => ?_) (fun h5 => by omega)
            refine ok_rw (show f_X6_withLetter N σ l (T p) = some (σ, ((((l * 32) + (wr (T p))) - 97) + 1)) from rfl) (hJ2 _ ?_)
            have := ht.rg (p := p) (by omega)
            rw [if_pos (by omega)] at g3
            dsimp only
            rw [if_pos (by omega), pkA_st (by omega), wr_id (by omega) (by omega), g3]
            omega
          · refine hJ2 _ ?_
            rw [if_neg (by omega)]
            by_cases k : p - a = 8
            · rw [if_pos (by omega), k] at g3; exact g3
            · rw [if_neg (by omega)] at g3; exact g3
      · rw [g3]
        refine hJ p ?_ (by omega) g2 (fun _ => h3)
        by_cases k : a = p
        · rw [k] at hl; exact absurd hl h3
        · omega
    · rw [g3]
      exact hJ p (by omega) (by omega) g2 (fun _ => by omega)
  · dsimp only
    rw [if_pos (by omega), show a - a = 0 by omega]; rfl
/-- the loop over a number -/
theorem numX (hX : WXr σ.1 σ.2.2) (ht : TX T n σ) {a : Int} (ha : 0 ≤ a ∧ a < n) (hl : isDg (T a)) (hN : 1400 < N) {J : Int × Int → Option (St × Int)} {Q : St × Int → Prop} (hJ : ∀ e, a < e → e ≤ n → (∀ j, a ≤ j → j < e → isDg (T j)) → (e < n → ¬ isDg (T e)) → Ok (J (pkD T a (if e - a ≤ 4 then e - a else 4).toNat, e)) Q) : Ok (L_X6_splitNumber_5 N σ 2 a J (0, a)) Q := by
  unfold L_X6_splitNumber_5
  have e := ht.1
  have r := ht.2.1
  refine ok_fix (fun q => (a ≤ q.2 ∧ q.2 ≤ n) ∧ (∀ j, a ≤ j → j < q.2 → isDg (T j)) ∧ q.1 = pkD T a (if q.2 - a ≤ 4 then q.2 - a else 4).toNat) (fun q => (n - q.2).toNat) (fun back q hq hback => ?_) _ ⟨by dsimp only; omega, fun j x y => by dsimp only at y; omega, ?_⟩ (by dsimp only; omega)
  · obtain ⟨l, p⟩ := q
    obtain ⟨g1, g2, g3⟩ := hq
    dsimp only at g1 g2 g3 hback ⊢
    refine sx_gI hX rfl rfl ?_
    rw [e]
    refine ok_wlt (by omega) (by omega) (fun h1 => ?_) (fun h1 => ?_)
    · refine ok_byte hX ht (by omega) (fun h2 => ?_) (fun h2 => by omega)
      refine ok_dig (ht.rg (by omega)) (fun h3 => ok_z1 ?_) (fun h3 => ok_z0 ?_)
      · refine ok_JnC (fun x => x = pkD T a (if p + 1 - a ≤ 4 then p + 1 - a else 4).toNat) (fun x hx => ?_) (fun J2 hJ2 => ?_)
        · refine st_Lt (hback _ ⟨by dsimp only; omega, fun j x y => ?_, hx⟩ (by dsimp only; omega))
          dsimp only at y
          by_cases k : j = p
          · rw [k]; exact h3
          · exact g2 j x (by omega)
        · refine ok_wlt (by omega) (by omega) (fun h4 => ?_) (fun h4 => ?_)
          · refine ok_byte hX ht (by omega) (fun h5 => ?_) (fun h5 => by omega)
            refine hJ2 _ ?_
            have := ht.rg (p := p) (by omega)
            rw [if_pos (by omega)] at g3
            dsimp only
            rw [if_pos (by omega), pkD_st (by omega), wr_id (by omega) (by omega), g3]
            omega
          · refine hJ2 _ ?_
            rw [if_neg (by omega)]
            by_cases k : p - a = 4
            · rw [if_pos (by omega), k] at g3; exact g3
            · rw [if_neg (by omega)] at g3; exact g3
      · rw [g3]
        refine hJ p ?_ (by omega) g2 (fun _ => h3)
        by_cases k : a = p
        · rw [k] at hl; exact absurd hl h3
        · omega
    · rw [g3]
      exact hJ p (by omega) (by omega) g2 (fun _ => by omega)
  · dsimp only
    rw [if_pos (by omega), show a - a = 0 by omega]; rfl
end S
theorem wA_rg0 : ∀ j : Nat, j < 34 → 0 ≤ wA j ∧ wA j < 1099511627776 := by decide
theorem wA_rg {j : Int} (h : 0 ≤ j ∧ j ≤ 33) : 0 ≤ wA j ∧ wA j < 1099511627776 := by
  have := wA_rg0 j.toNat (by omega)
  rw [show ((j.toNat : Nat) : Int) = j by omega] at this
  exact this
/-- the own words' row -/
def OWr (r : Int → Int) : Prop := ∀ j : Int, 0 ≤ j → j ≤ 33 → r j = wA j
theorem kind_eq (hX : WXr σ.1 σ.2.2) (hW : OWr (σ.2.1 3)) {w : Int} (hw : 0 ≤ w ∧ w < 1099511627776) (hN : 100 < N) : ∃ kd, f_X6_kindOfWord N σ 2 w = some (σ, kd) ∧ KW w kd := by
  have H : Ok (f_X6_kindOfWord N σ 2 w) (fun q => q.1 = σ ∧ KW w q.2) := by
    unfold f_X6_kindOfWord L_X6_kindOfWord_2
    refine ok_fix (fun t => (0 ≤ t ∧ t ≤ 34) ∧ ∀ j, 0 ≤ j → j < t → w ≠ wA j) (fun t => (34 - t).toNat) (fun back t ht hback => ?_) _ ⟨by omega, fun j x y => by omega⟩ (by omega)
    obtain ⟨g1, g2⟩ := ht
    refine ok_wlt (by omega) (by omega) (fun h1 => ?_) (fun h1 => ok_some ⟨rfl, .inr ⟨rfl, fun j x y => g2 j x (by omega)⟩⟩)
    refine sx_gR hX rfl rfl rfl ?_
    refine sx_aI hX rfl rfl (by decide) (by omega) (by omega) ?_
    have r := wA_rg (j := t) (by omega)
    rw [hW t (by omega) (by omega), wl_id (by omega) (by omega), wl_id (by omega) (by omega)]
    refine ok_ite (fun h2 => ok_some ⟨rfl, .inl ⟨by omega, by dsimp only; omega, h2.symm⟩⟩) (fun h2 => st_Lt (hback _ ⟨by omega, fun j x y => ?_⟩ (by omega)))
    by_cases k : j = t
    · rw [k]; exact fun e => h2 e.symm
    · exact g2 j x (by omega)
  obtain ⟨⟨υ, kd⟩, e, h1, h2⟩ := H
  dsimp only at h1 h2
  subst h1
  exact ⟨kd, e, h2⟩
theorem put_eq (hX : WXr σ.1 σ.2.2) {k kd st w : Int} (hk : fI σ 2 3 = k) (hr : 0 ≤ k ∧ k ≤ 1300) : f_X6_putToken N σ 2 kd st w = some (uF (uI (uI (uI σ 5 k kd) 6 k st) 7 k w) 2 3 (k + 1), 0) := by
  have H : Ok (f_X6_putToken N σ 2 kd st w) (fun q => q = (uF (uI (uI (uI σ 5 k kd) 6 k st) 7 k w) 2 3 (k + 1), 0)) := by
    unfold f_X6_putToken
    refine sx_gI hX rfl rfl ?_
    rw [hk]
    refine ok_within (by omega) (by omega) (by omega) (fun _ => ok_z1 ?_) (fun h => by omega)
    refine sx_gR hX rfl rfl rfl ?_
    refine sx_gI hX rfl rfl ?_
    rw [hk]
    refine sx_sI hX rfl rfl (by decide) (by omega) (by omega) ?_
    refine sx_gR (σ := uI σ 5 k kd) hX rfl rfl rfl ?_
    refine sx_gI (σ := uI σ 5 k kd) hX rfl rfl ?_
    rw [show fI (uI σ 5 k kd) 2 3 = k from (fI_uk (by decide)).trans hk]
    refine sx_sI (σ := uI σ 5 k kd) hX rfl rfl (by decide) (by omega) (by omega) ?_
    refine sx_gR (σ := uI (uI σ 5 k kd) 6 k st) hX rfl rfl rfl ?_
    refine sx_gI (σ := uI (uI σ 5 k kd) 6 k st) hX rfl rfl ?_
    rw [show fI (uI (uI σ 5 k kd) 6 k st) 2 3 = k from (fI_uk (by decide)).trans ((fI_uk (by decide)).trans hk)]
    refine sx_sI (σ := uI (uI σ 5 k kd) 6 k st) hX rfl rfl (by decide) (by omega) (by omega) ?_
    refine sx_gI (σ := uI (uI (uI σ 5 k kd) 6 k st) 7 k w) hX rfl rfl ?_
    rw [show fI (uI (uI (uI σ 5 k kd) 6 k st) 7 k w) 2 3 = k from (fI_uk (by decide)).trans ((fI_uk (by decide)).trans ((fI_uk (by decide)).trans hk))]
    exact sx_pI (σ := uI (uI (uI σ 5 k kd) 6 k st) 7 k w) hX rfl rfl (ok_some rfl)
  obtain ⟨q, e, rfl⟩ := H
  exact e
/-- TOKENS put so far, and the place behind them -/
def Spl (T : Int → Int) (n : Int) (σ : St) (k p : Int) : Prop := ∃ E : Int → Int, E 0 = 0 ∧ (∀ q, 0 ≤ q → q < k → Tok T n (E q) (σ.2.1 6 q) (E (q + 1)) (σ.2.1 5 q) (σ.2.1 7 q)) ∧ E k ≤ p ∧ ∀ j, E k ≤ j → j < p → isBl (T j)
theorem Tok.back {T : Int → Int} {n p p' a e kd w : Int} (h : Tok T n p a e kd w) (hp : p' ≤ p) (hb : ∀ j, p' ≤ j → j < p → isBl (T j)) : Tok T n p' a e kd w := by
  obtain ⟨⟨h1, h2, h3, h4⟩, h5⟩ := h
  refine ⟨⟨by omega, h2, h3, fun j x y => ?_⟩, h5⟩
  by_cases k : j < p
  · exact hb j x k
  · exact h4 j (by omega) y
theorem Spl.put {T : Int → Int} {n k p a e kd w : Int} (h : Spl T n σ k p) (hk : 0 ≤ k) (ht : Tok T n p a e kd w) : Spl T n (uF (uI (uI (uI σ 5 k kd) 6 k a) 7 k w) 2 3 (k + 1)) (k + 1) e := by
  obtain ⟨E, h1, h2, h3, h4⟩ := h
  refine ⟨fun q => if q = k + 1 then e else E q, ?_, fun q x y => ?_, ?_, fun j x y => ?_⟩
  · dsimp only
    rw [if_neg (by omega)]; exact h1
  · dsimp only
    rw [if_neg (show ¬ q = k + 1 by omega)]
    by_cases z : q = k
    · subst z
      have a6 : (uF (uI (uI (uI σ 5 q kd) 6 q a) 7 q w) 2 3 (q + 1)).2.1 6 q = a := (uF_k (by decide)).trans ((uI_k (by decide)).trans uI_eq)
      have a5 : (uF (uI (uI (uI σ 5 q kd) 6 q a) 7 q w) 2 3 (q + 1)).2.1 5 q = kd := (uF_k (by decide)).trans ((uI_k (by decide)).trans ((uI_k (by decide)).trans uI_eq))
      have a7 : (uF (uI (uI (uI σ 5 q kd) 6 q a) 7 q w) 2 3 (q + 1)).2.1 7 q = w := (uF_k (by decide)).trans uI_eq
      rw [if_pos rfl, a6, a5, a7]
      exact ht.back h3 h4
    · have a6 : (uF (uI (uI (uI σ 5 k kd) 6 k a) 7 k w) 2 3 (k + 1)).2.1 6 q = σ.2.1 6 q := (uF_k (by decide)).trans ((uI_k (by decide)).trans ((uI_j z).trans (uI_k (by decide))))
      have a5 : (uF (uI (uI (uI σ 5 k kd) 6 k a) 7 k w) 2 3 (k + 1)).2.1 5 q = σ.2.1 5 q := (uF_k (by decide)).trans ((uI_k (by decide)).trans ((uI_k (by decide)).trans (uI_j z)))
      have a7 : (uF (uI (uI (uI σ 5 k kd) 6 k a) 7 k w) 2 3 (k + 1)).2.1 7 q = σ.2.1 7 q := (uF_k (by decide)).trans ((uI_j z).trans ((uI_k (by decide)).trans (uI_k (by decide))))
      rw [if_neg (by omega), a6, a5, a7]
      exact h2 q x (by omega)
  · dsimp only
    rw [if_pos rfl]; exact Int.le_refl e
  · dsimp only at x
    rw [if_pos rfl] at x
    omega
theorem put_ft (k kd st w : Int) : FT [5, 6, 7] [3] σ (uF (uI (uI (uI σ 5 k kd) 6 k st) 7 k w) 2 3 (k + 1)) := (((FT.refl.wI (by decide) (by simp)).wI (by decide) (by simp)).wI (by decide) (by simp)).wF (by simp)
theorem splitWord_eq {T : Int → Int} {n : Int} (hX : WXr σ.1 σ.2.2) (ht : TX T n σ) (hW : OWr (σ.2.1 3)) {k a : Int} (hk : fI σ 2 3 = k) (hka : 0 ≤ k ∧ k ≤ a) (ha : a < n) (hl : isLt (T a)) (hS : Spl T n σ k a) (hN : 1400 < N) : ∃ τ e, f_X6_splitWord N σ 2 a = some (τ, e) ∧ FT [5, 6, 7] [3] σ τ ∧ fI τ 2 3 = k + 1 ∧ a < e ∧ e ≤ n ∧ Spl T n τ (k + 1) e := by
  have r := ht.2.1
  have H : Ok (f_X6_splitWord N σ 2 a) (fun q => FT [5, 6, 7] [3] σ q.1 ∧ fI q.1 2 3 = k + 1 ∧ a < q.2 ∧ q.2 ≤ n ∧ Spl T n q.1 (k + 1) q.2) := by
    unfold f_X6_splitWord
    refine st_Jn ?_
    refine wordX hX ht (by omega) hl hN (fun e h1 h2 h3 h4 => ?_)
    have wr0 : 0 ≤ pkA T a (if e - a ≤ 8 then e - a else 8).toNat ∧ pkA T a (if e - a ≤ 8 then e - a else 8).toNat < 1099511627776 := by
      refine pkA_rg (fun j hj => ?_) (by split <;> omega)
      have := h3 (a + (j : Int)) (by omega) (by split at hj <;> omega)
      exact this
    refine ok_JnC (fun kd => (e - a ≤ 8 ∧ KW (pkA T a (if e - a ≤ 8 then e - a else 8).toNat) kd) ∨ (8 < e - a ∧ kd = 103)) (fun kd hkd => ?_) (fun J2 hJ2 => ?_)
    · refine sx_rcv hX rfl rfl (ok_rw (put_eq hX hk (by omega)) (ok_some ⟨put_ft _ _ _ _, fI_eq, h1, h2, hS.put hka.1 ?_⟩))
      exact ⟨⟨Int.le_refl a, by omega, h2, fun j x y => by omega⟩, .inr (.inl ⟨ha, h1, hl, h3, h4, rfl, hkd⟩)⟩
    · dsimp only
      refine ok_wlt (by omega) (by omega) (fun h5 => hJ2 _ (.inr ⟨by omega, rfl⟩)) (fun h5 => ?_)
      obtain ⟨kd, e1, e2⟩ := kind_eq (N := N) hX hW wr0 (by omega)
      exact sx_rcv hX rfl rfl (ok_rw e1 (hJ2 _ (.inl ⟨by omega, e2⟩)))
  obtain ⟨⟨τ, e⟩, e1, h⟩ := H
  exact ⟨τ, e, e1, h⟩
theorem splitNum_eq {T : Int → Int} {n : Int} (hX : WXr σ.1 σ.2.2) (ht : TX T n σ) {k a : Int} (hk : fI σ 2 3 = k) (hka : 0 ≤ k ∧ k ≤ a) (ha : a < n) (hl : isDg (T a)) (hS : Spl T n σ k a) (hN : 1400 < N) : ∃ τ e, f_X6_splitNumber N σ 2 a = some (τ, e) ∧ FT [5, 6, 7] [3] σ τ ∧ fI τ 2 3 = k + 1 ∧ a < e ∧ e ≤ n ∧ Spl T n τ (k + 1) e := by
  have r := ht.2.1
  have H : Ok (f_X6_splitNumber N σ 2 a) (fun q => FT [5, 6, 7] [3] σ q.1 ∧ fI q.1 2 3 = k + 1 ∧ a < q.2 ∧ q.2 ≤ n ∧ Spl T n q.1 (k + 1) q.2) := by
    unfold f_X6_splitNumber
    refine st_Jn ?_
    refine numX hX ht (by omega) hl hN (fun e h1 h2 h3 h4 => ?_)
    refine ok_JnC (fun b => (b = 1 ∧ (4 < e - a ∨ (e < n ∧ isLt (T e)))) ∨ (b = 0 ∧ e - a ≤ 4 ∧ (e < n → ¬ isLt (T e)))) (fun b hb => ?_) (fun J2 hJ2 => ?_)
    · refine ok_JnC (fun kd => (e - a ≤ 4 ∧ (e < n → ¬ isLt (T e)) ∧ kd = 101) ∨ ((4 < e - a ∨ (e < n ∧ isLt (T e))) ∧ kd = 103)) (fun kd hkd => ?_) (fun J3 hJ3 => ?_)
      · refine sx_rcv hX rfl rfl (ok_rw (put_eq hX hk (by omega)) (ok_some ⟨put_ft _ _ _ _, fI_eq, h1, h2, hS.put hka.1 ?_⟩))
        exact ⟨⟨Int.le_refl a, by omega, h2, fun j x y => by omega⟩, .inr (.inr (.inl ⟨ha, h1, hl, h3, h4, rfl, hkd⟩))⟩
      · rcases hb with ⟨rfl, hb⟩ | ⟨rfl, hb⟩
        · exact ok_z1 (hJ3 _ (.inr ⟨hb, rfl⟩))
        · exact ok_z0 (hJ3 _ (.inl ⟨hb.1, hb.2, rfl⟩))
    · refine ok_JnC (fun _ => 4 < e - a ∨ (e < n ∧ isLt (T e))) (fun _ hu => hJ2 _ (.inl ⟨rfl, hu⟩)) (fun J3 hJ3 => ?_)
      dsimp only
      refine ok_wlt (by omega) (by omega) (fun h5 => hJ3 _ (.inl h5)) (fun h5 => ?_)
      refine ok_byte hX ht (by omega) (fun h6 => ?_) (fun h6 => ?_)
      · refine ok_ltr (ht.rg (by omega)) (fun h7 => ok_z1 (hJ3 _ (.inr ⟨h6, h7⟩))) (fun h7 => ok_z0 (hJ2 _ (.inr ⟨rfl, h5, fun _ => h7⟩)))
      · refine ok_ltr (by omega) (fun h7 => ?_) (fun h7 => ok_z0 (hJ2 _ (.inr ⟨rfl, h5, fun _ => by omega⟩)))
        unfold isLt at h7
        omega
  obtain ⟨⟨τ, e⟩, e1, h⟩ := H
  exact ⟨τ, e, e1, h⟩
end F
