/-! the pure part: the reference goes to the next TOKEN, its loops -/
section F
variable {N : Nat} {σ τ υ : St} {T : Int → Int} {n : Int} {Q : St × Int → Prop}
theorem sgn_in {p : Int} (h : p < n) : sgn T n p = T p := if_pos h
theorem sgn_out {p : Int} (h : n ≤ p) : sgn T n p = 0 := if_neg (by omega)
/-- blanks passed -/
theorem nx_blank (hM : WMr σ.1 σ.2.2) (ht : MTx T n σ) {p : Int} (hp : 0 ≤ p ∧ p ≤ n) (h6 : fI σ 1 6 = p) (hN : 2000 < N) {J : St → Option (St × Int)} (hJ : ∀ x a, FM [] [6] σ x → fI x 1 6 = a → p ≤ a → a ≤ n → (∀ j, p ≤ j → j < a → isBl (T j)) → (a < n → ¬ isBl (T a)) → Ok (J x) Q) : Ok (L_X12_next_8 N 1 J σ) Q := by
  unfold L_X12_next_8
  have r := ht.2.1
  refine ok_fix (fun x => FM [] [6] σ x ∧ (p ≤ fI x 1 6 ∧ fI x 1 6 ≤ n) ∧ ∀ j, p ≤ j → j < fI x 1 6 → isBl (T j)) (fun x => (n - fI x 1 6).toNat) (fun back x hx hback => ?_) _ ⟨FM.refl, by omega, fun j x y => by omega⟩ (by omega)
  obtain ⟨f, g1, g2⟩ := hx
  have hMx := f.M hM
  have htx := ht.fm f (by decide) (by decide)
  generalize ha : fI x 1 6 = a at g1 g2
  refine sm_gI hMx ?_
  refine sm_gI hMx ?_
  rw [ha, htx.1]
  refine ok_wlt (by omega) (by omega) (fun c => ?_) (fun c => hJ x a f ha (by omega) (by omega) g2 (fun q => by omega))
  refine sm_gI hMx ?_
  rw [ha]
  refine ok_sign hMx htx (by omega) ?_
  rw [sgn_in c]
  have rp := (htx.2.2 a (by omega) c).2
  refine ok_JnC (fun _ => isBl (T a)) (fun _ hb => ?_) (fun J2 hJ2 => ?_)
  · refine sm_gI hMx ?_
    rw [ha]
    refine sm_pI hMx (hback _ ⟨f.uF (by decide), ?_, fun j x y => ?_⟩ ?_)
    · rw [fI_eq]; omega
    · rw [fI_eq] at y
      by_cases k : j = a
      · rw [k]; exact hb
      · exact g2 j x (by omega)
    · rw [fI_eq, ha]; omega
  · refine ok_weq (by omega) (by omega) (fun q => hJ2 _ (.inl q)) (fun q => ?_)
    refine sm_gI hMx ?_
    rw [ha]
    refine ok_sign hMx htx (by omega) ?_
    rw [sgn_in c]
    refine ok_weq (by omega) (by omega) (fun q2 => hJ2 _ (.inr q2)) (fun q2 => hJ x a f ha (by omega) (by omega) g2 (fun _ => ?_))
    unfold isBl
    omega
/-- letters passed -/
theorem nx_word (hM : WMr σ.1 σ.2.2) (ht : MTx T n σ) {a : Int} (hp : 0 ≤ a ∧ a < n) (hl : isLt (T a)) (h7 : fI σ 1 7 = a + 1) (hN : 2000 < N) {J : St → Option (St × Int)} (hJ : ∀ x e, FM [] [7] σ x → fI x 1 7 = e → a < e → e ≤ n → (∀ j, a ≤ j → j < e → isLt (T j)) → (e < n → ¬ isLt (T e)) → Ok (J x) Q) : Ok (L_X12_next_119 N 1 J σ) Q := by
  unfold L_X12_next_119
  have r := ht.2.1
  refine ok_fix (fun x => FM [] [7] σ x ∧ (a < fI x 1 7 ∧ fI x 1 7 ≤ n) ∧ ∀ j, a ≤ j → j < fI x 1 7 → isLt (T j)) (fun x => (n - fI x 1 7).toNat) (fun back x hx hback => ?_) _ ⟨FM.refl, by omega, fun j x y => by rw [show j = a by omega]; exact hl⟩ (by omega)
  obtain ⟨f, g1, g2⟩ := hx
  have hMx := f.M hM
  have htx := ht.fm f (by decide) (by decide)
  generalize he : fI x 1 7 = e at g1 g2
  refine sm_gI hMx ?_
  rw [he]
  refine ok_sign hMx htx (by omega) ?_
  have rs := htx.sg (p := e) (by omega)
  refine om_ltr rs (fun c => ok_z1 ?_) (fun c => ok_z0 (hJ x e f he (by omega) (by omega) g2 (fun q => ?_)))
  · by_cases k : e < n
    · rw [sgn_in k] at c
      refine sm_gI hMx ?_
      rw [he]
      refine sm_pI hMx (hback _ ⟨f.uF (by decide), ?_, fun j x y => ?_⟩ ?_)
      · rw [fI_eq]; omega
      · rw [fI_eq] at y
        by_cases k : j = e
        · rw [k]; exact c
        · exact g2 j x (by omega)
      · rw [fI_eq, he]; omega
    · rw [sgn_out (by omega)] at c
      unfold isLt at c
      omega
  · rw [sgn_in q] at c; exact c
/-- a name packed -/
theorem nx_name (hM : WMr σ.1 σ.2.2) (ht : MTx T n σ) {a e : Int} (hp : 0 ≤ a ∧ a < e ∧ e ≤ n) (hl : ∀ j, a ≤ j → j < e → isLt (T j)) (h6 : fI σ 1 6 = a) (h7 : fI σ 1 7 = e) (h10 : fI σ 1 10 = 0) (hN : 2000 < N) {J : St → Option (St × Int)} (hJ : ∀ x, FM [] [10] σ x → fI x 1 10 = pkB T a (if e - a ≤ 8 then e - a else 8).toNat → Ok (J x) Q) : Ok (L_X12_next_156 N 1 J (σ, a)) Q := by
  unfold L_X12_next_156
  have r := ht.2.1
  refine ok_fix (fun x => FM [] [10] σ x.1 ∧ (a ≤ x.2 ∧ x.2 ≤ e ∧ x.2 ≤ a + 8) ∧ fI x.1 1 10 = pkB T a (x.2 - a).toNat) (fun x => (e - x.2).toNat) (fun back x hx hback => ?_) _ ⟨FM.refl, by dsimp only; omega, ?_⟩ (by dsimp only; omega)
  · obtain ⟨x, k⟩ := x
    obtain ⟨f, g1, g2⟩ := hx
    dsimp only at f g1 g2 hback ⊢
    have hMx := f.M hM
    have htx := ht.fm f (by decide) (by decide)
    have x6 : fI x 1 6 = a := (f.f (by decide)).trans h6
    have x7 : fI x 1 7 = e := (f.f (by decide)).trans h7
    refine sm_gI hMx ?_
    rw [x7]
    refine ok_wlt (by omega) (by omega) (fun c => ?_) (fun c => hJ x f ?_)
    · refine sm_gI hMx ?_
      rw [x6]
      refine ok_wlt (by omega) (by omega) (fun c2 => ?_) (fun c2 => hJ x f ?_)
      · refine sm_gI hMx ?_
        refine ok_sign hMx htx (by omega) ?_
        rw [sgn_in (by omega), g2]
        have rp := (htx.2.2 k (by omega) (by omega)).2
        have rk := pkB_rg (T := T) (a := a) (m := (k - a).toNat) (fun j hj => hl (a + (j : Int)) (by omega) (by omega)) (by omega)
        have lo := lor_eq (x := pkB T a (k - a).toNat) (c := T k) ⟨rk.1, rk.2.2 (by omega)⟩ rp
        dsimp only
        rw [wr_id (z := T k) (by omega) (by omega), lo, ← pkB_st g1.1]
        refine sm_pI hMx (st_Lt (hback _ ⟨f.uF (by decide), by dsimp only; omega, fI_eq⟩ (by dsimp only; omega)))
      · rw [g2]
        have : k - a = 8 := by omega
        rw [this]
        split
        · rename_i q
          have : e - a = 8 := by omega
          rw [this]
        · rfl
    · rw [g2]
      have : k = e := by omega
      rw [this, if_pos (by omega)]
  · dsimp only
    rw [h10, show a - a = 0 by omega]; rfl
/-- digits passed -/
theorem nx_num (hM : WMr σ.1 σ.2.2) (ht : MTx T n σ) {a : Int} (hp : 0 ≤ a ∧ a < n) (hl : isDg (T a)) (h6 : fI σ 1 6 = a) (h7 : fI σ 1 7 = a) (h9 : fI σ 1 9 = 0) (hN : 2000 < N) {J : St → Option (St × Int)} (hJ : ∀ x e, FM [] [7, 9] σ x → fI x 1 7 = e → a < e → e ≤ n → (∀ j, a ≤ j → j < e → isDg (T j)) → (e < n → ¬ isDg (T e)) → fI x 1 9 = pkD T a (if e - a ≤ 4 then e - a else 4).toNat → Ok (J x) Q) : Ok (L_X12_next_259 N 1 J σ) Q := by
  unfold L_X12_next_259
  have r := ht.2.1
  refine ok_fix (fun x => FM [] [7, 9] σ x ∧ (a ≤ fI x 1 7 ∧ fI x 1 7 ≤ n) ∧ (∀ j, a ≤ j → j < fI x 1 7 → isDg (T j)) ∧ fI x 1 9 = pkD T a (if fI x 1 7 - a ≤ 4 then fI x 1 7 - a else 4).toNat) (fun x => (n - fI x 1 7).toNat) (fun back x hx hback => ?_) _ ⟨FM.refl, by omega, fun j x y => by omega, ?_⟩ (by omega)
  · obtain ⟨f, g1, g2, g3⟩ := hx
    have hMx := f.M hM
    have htx := ht.fm f (by decide) (by decide)
    have x6 : fI x 1 6 = a := (f.f (by decide)).trans h6
    generalize he : fI x 1 7 = e at g1 g2 g3
    refine sm_gI hMx ?_
    rw [he]
    refine ok_sign hMx htx (by omega) ?_
    have rs := htx.sg (p := e) (by omega)
    refine om_dig rs (fun c => ok_z1 ?_) (fun c => ok_z0 ?_)
    · by_cases k : e < n
      · rw [sgn_in k] at c rs
        refine sm_gI hMx ?_
        refine sm_gI hMx ?_
        rw [he, x6]
        refine ok_JnC (fun y => FM [] [7, 9] σ y ∧ fI y 1 7 = e ∧ fI y 1 9 = pkD T a (if e + 1 - a ≤ 4 then e + 1 - a else 4).toNat) (fun y hy => ?_) (fun J2 hJ2 => ?_)
        · obtain ⟨y1, y2, y3⟩ := hy
          have hMy := y1.M hM
          refine sm_gI hMy ?_
          rw [y2]
          refine sm_pI hMy (hback _ ⟨y1.uF (by decide), ?_, fun j x y => ?_, ?_⟩ ?_)
          · rw [fI_eq]; omega
          · rw [fI_eq] at y
            by_cases k : j = e
            · rw [k]; exact c
            · exact g2 j x (by omega)
          · rw [fI_j (by decide), fI_eq]; exact y3
          · rw [fI_eq, he]; omega
        · refine ok_wlt (by omega) (by omega) (fun c4 => ?_) (fun c4 => hJ2 _ ⟨f, he, ?_⟩)
          · refine sm_gI hMx ?_
            refine sm_gI hMx ?_
            rw [he]
            refine ok_sign hMx htx (by omega) ?_
            rw [sgn_in k]
            refine sm_pI hMx (hJ2 _ ⟨f.uF (by decide), (fI_j (by decide)).trans he, ?_⟩)
            rw [if_pos (by omega)] at g3
            rw [fI_eq, if_pos (by omega), pkD_st (by omega), g3]
            omega
          · rw [g3, if_neg (show ¬ e + 1 - a ≤ 4 by omega)]
            split
            · rename_i q
              have : e - a = 4 := by omega
              rw [this]
            · rfl
      · rw [sgn_out (by omega)] at c
        unfold isDg at c
        omega
    · refine hJ x e f he ?_ (by omega) g2 (fun q => ?_) g3
      · by_cases k : e = a
        · rw [k, sgn_in hp.2] at c; exact absurd hl c
        · omega
      · rw [sgn_in q] at c; exact c
  · rw [h7, h9, if_pos (by omega), show a - a = 0 by omega]; rfl
theorem nextM (hM : WMr σ.1 σ.2.2) (ht : MTx T n σ) {p : Int} (hp : 0 ≤ p ∧ p ≤ n) (h7 : fI σ 1 7 = p) (hN : 2000 < N) : ∃ τ, f_X12_next N σ 1 = some (τ, 0) ∧ FM [] [6, 7, 8, 9, 10] σ τ ∧ ∃ a e kd w, Tok T n p a e kd w ∧ fI τ 1 6 = a ∧ fI τ 1 7 = e ∧ TkM T a kd w (fI τ 1 8) (fI τ 1 9) (fI τ 1 10) := by
  have r := ht.2.1
  have H : Ok (f_X12_next N σ 1) (fun q => q.2 = 0 ∧ FM [] [6, 7, 8, 9, 10] σ q.1 ∧ ∃ a e kd w, Tok T n p a e kd w ∧ fI q.1 1 6 = a ∧ fI q.1 1 7 = e ∧ TkM T a kd w (fI q.1 1 8) (fI q.1 1 9) (fI q.1 1 10)) := by
    unfold f_X12_next
    refine sm_gI hM ?_
    rw [h7]
    refine sm_pI hM ?_
    have f0 : FM [] [6] σ (uF σ 1 6 p) := FM.refl.uF (by decide)
    have v6 : fI (uF σ 1 6 p) 1 6 = p := fI_eq
    generalize uF σ 1 6 p = y0 at f0 v6 ⊢
    have hM0 := f0.M hM
    have ht0 := ht.fm f0 (by decide) (by decide)
    refine st_Jn (nx_blank hM0 ht0 hp v6 hN (fun x a f1 u6 c1 c2 c3 c4 => ?_))
    have hM1 := f1.M hM0
    have ht1 := ht0.fm f1 (by decide) (by decide)
    refine sm_gI hM1 ?_
    rw [u6]
    refine ok_sign hM1 ht1 (by omega) ?_
    refine sm_gI hM1 ?_
    rw [u6]
    refine sm_pI hM1 ?_
    have f2 : FM [] [6, 7, 8, 9, 10] σ (uF x 1 7 (a + 1)) := ((f0.trans f1).mono (fun _ h => h) (by simp)).uF (by decide)
    have s6 : fI (uF x 1 7 (a + 1)) 1 6 = a := (fI_j (by decide)).trans u6
    have s7 : fI (uF x 1 7 (a + 1)) 1 7 = a + 1 := fI_eq
    generalize uF x 1 7 (a + 1) = y2 at f2 s6 s7 ⊢
    have hM2 := f2.M hM
    have ht2 := ht.fm f2 (by decide) (by decide)
    refine sm_gI hM2 ?_
    refine sm_gI hM2 ?_
    rw [s6, ht2.1]
    refine ok_wlt (by omega) (by omega) (fun c5 => ?_) (fun c5 => ?_)
    · rw [sgn_in c5]
      have rp := (ht2.2.2 a (by omega) c5).2
      refine om_ltr rp (fun c6 => ok_z1 ?_) (fun c6 => ok_z0 ?_)
      · refine st_Jn (nx_word hM2 ht2 (by omega) c6 s7 hN (fun x3 e f3 t7 d1 d2 d3 d4 => ?_))
        have hM3 := f3.M hM2
        have t6 : fI x3 1 6 = a := (f3.f (by decide)).trans s6
        refine sm_pI hM3 ?_
        have f4 : FM [] [6, 7, 8, 9, 10] σ (uF x3 1 10 0) := (f2.trans (f3.mono (fun _ h => h) (by simp))).uF (by decide)
        have w6 : fI (uF x3 1 10 0) 1 6 = a := (fI_j (by decide)).trans t6
        have w7 : fI (uF x3 1 10 0) 1 7 = e := (fI_j (by decide)).trans t7
        have w10 : fI (uF x3 1 10 0) 1 10 = 0 := fI_eq
        generalize uF x3 1 10 0 = y4 at f4 w6 w7 w10 ⊢
        have hM4 := f4.M hM
        have ht4 := ht.fm f4 (by decide) (by decide)
        refine sm_gI hM4 ?_
        rw [w6]
        refine st_Jn (nx_name hM4 ht4 ⟨by omega, d1, d2⟩ d3 w6 w7 w10 hN (fun x5 f5 n10 => ?_))
        have f6 : FM [] [6, 7, 8, 9, 10] σ x5 := f4.trans (f5.mono (fun _ h => h) (by simp))
        have hM5 := f5.M hM4
        have m6 : fI x5 1 6 = a := (f5.f (by decide)).trans w6
        have m7 : fI x5 1 7 = e := (f5.f (by decide)).trans w7
        have ls : Lts T a (if e - a ≤ 8 then e - a else 8).toNat := fun j hj => d3 (a + (j : Int)) (by omega) (by split at hj <;> omega)
        have hNm : Nm (pkA T a (if e - a ≤ 8 then e - a else 8).toNat) (pkB T a (if e - a ≤ 8 then e - a else 8).toNat) := ⟨T, a, _, by split <;> omega, ls, rfl, rfl⟩
        refine sm_gI hM5 ?_
        refine sm_gI hM5 ?_
        rw [m6, m7]
        refine ok_JnC (fun tk => ∃ kd, ((e - a ≤ 8 ∧ KW (pkA T a (if e - a ≤ 8 then e - a else 8).toNat) kd) ∨ (8 < e - a ∧ kd = 103)) ∧ TkM T a kd (pkA T a (if e - a ≤ 8 then e - a else 8).toNat) tk (fI x5 1 9) (fI x5 1 10)) (fun tk htk => ?_) (fun J2 hJ2 => ?_)
        · obtain ⟨kd, k1, k2⟩ := htk
          refine sm_pI hM5 (ok_some ⟨rfl, f6.uF (by decide), a, e, kd, _, ⟨⟨c1, c2, d2, c3⟩, .inr (.inl ⟨c5, d1, c6, d3, d4, rfl, k1⟩)⟩, ?_, ?_, ?_⟩)
          · exact (fI_j (by decide)).trans m6
          · exact (fI_j (by decide)).trans m7
          · rw [show fI (uF x5 1 8 tk) 1 8 = tk from fI_eq, show fI (uF x5 1 8 tk) 1 9 = fI x5 1 9 from fI_j (by decide), show fI (uF x5 1 8 tk) 1 10 = fI x5 1 10 from fI_j (by decide)]
            exact k2
        · refine ok_wlt (by omega) (by omega) (fun q => hJ2 _ ⟨103, .inr ⟨by omega, rfl⟩, .inr (.inl ⟨rfl, rfl⟩)⟩) (fun q => ?_)
          refine sm_gI hM5 ?_
          rw [n10]
          refine om_kept (fun hj => ok_z1 ?_) (fun hj => ok_z0 ?_)
          · obtain ⟨j, j1, j2⟩ := hj
            have ow := (hNm.wlx (Nm.own j1)).mp j2
            refine hJ2 _ ⟨j, .inl ⟨by omega, .inl ⟨j1.1, j1.2, ow⟩⟩, .inr (.inr (.inr (.inl ⟨j1, rfl, ?_⟩)))⟩
            rw [n10]
            exact (hNm.inj (Nm.own j1)).mp ow
          · refine hJ2 _ ⟨100, .inl ⟨by omega, .inr ⟨rfl, fun j x y => ?_⟩⟩, .inr (.inr (.inl ⟨rfl, rfl, ?_⟩))⟩
            · exact fun q => hj j x y ((hNm.wlx (Nm.own ⟨x, y⟩)).mpr q)
            · rw [n10]; exact hNm
      · refine om_dig rp (fun c7 => ok_z1 ?_) (fun c7 => ok_z0 ?_)
        · refine sm_pI hM2 ?_
          have f3 : FM [] [6, 7, 8, 9, 10] σ (uF y2 1 9 0) := f2.uF (by decide)
          have t6 : fI (uF y2 1 9 0) 1 6 = a := (fI_j (by decide)).trans s6
          have t9 : fI (uF y2 1 9 0) 1 9 = 0 := fI_eq
          generalize uF y2 1 9 0 = y3 at f3 t6 t9 ⊢
          have hM3 := f3.M hM
          refine sm_gI hM3 ?_
          rw [t6]
          refine sm_pI hM3 ?_
          have f4 : FM [] [6, 7, 8, 9, 10] σ (uF y3 1 7 a) := f3.uF (by decide)
          have w6 : fI (uF y3 1 7 a) 1 6 = a := (fI_j (by decide)).trans t6
          have w9 : fI (uF y3 1 7 a) 1 9 = 0 := (fI_j (by decide)).trans t9
          have w7 : fI (uF y3 1 7 a) 1 7 = a := fI_eq
          generalize uF y3 1 7 a = y4 at f4 w6 w7 w9 ⊢
          have hM4 := f4.M hM
          have ht4 := ht.fm f4 (by decide) (by decide)
          refine st_Jn (nx_num hM4 ht4 ⟨by omega, c5⟩ c7 w6 w7 w9 hN (fun x5 e f5 m7 d1 d2 d3 d4 m9 => ?_))
          have f6 : FM [] [6, 7, 8, 9, 10] σ x5 := f4.trans (f5.mono (fun _ h => h) (by simp))
          have hM5 := f5.M hM4
          have ht5 := ht4.fm f5 (by decide) (by decide)
          have m6 : fI x5 1 6 = a := (f5.f (by decide)).trans w6
          refine sm_gI hM5 ?_
          refine sm_gI hM5 ?_
          rw [m6, m7]
          refine ok_JnC (fun tk => ∃ kd, ((e - a ≤ 4 ∧ (e < n → ¬ isLt (T e)) ∧ kd = 101) ∨ ((4 < e - a ∨ (e < n ∧ isLt (T e))) ∧ kd = 103)) ∧ TkM T a kd (pkD T a (if e - a ≤ 4 then e - a else 4).toNat) tk (fI x5 1 9) (fI x5 1 10)) (fun tk htk => ?_) (fun J2 hJ2 => ?_)
          · obtain ⟨kd, k1, k2⟩ := htk
            refine sm_pI hM5 (ok_some ⟨rfl, f6.uF (by decide), a, e, kd, _, ⟨⟨c1, c2, d2, c3⟩, .inr (.inr (.inl ⟨c5, d1, c7, d3, d4, rfl, k1⟩))⟩, ?_, ?_, ?_⟩)
            · exact (fI_j (by decide)).trans m6
            · exact (fI_j (by decide)).trans m7
            · rw [show fI (uF x5 1 8 tk) 1 8 = tk from fI_eq, show fI (uF x5 1 8 tk) 1 9 = fI x5 1 9 from fI_j (by decide), show fI (uF x5 1 8 tk) 1 10 = fI x5 1 10 from fI_j (by decide)]
              exact k2
          · refine ok_JnC (fun _ => 4 < e - a ∨ (e < n ∧ isLt (T e))) (fun _ hu => hJ2 _ ⟨103, .inr ⟨hu, rfl⟩, .inr (.inl ⟨rfl, rfl⟩)⟩) (fun J3 hJ3 => ?_)
            refine ok_wlt (by omega) (by omega) (fun q => hJ3 _ (.inl q)) (fun q => ?_)
            refine sm_gI hM5 ?_
            rw [m7]
            refine ok_sign hM5 ht5 (by omega) ?_
            refine om_ltr (ht5.sg (by omega)) (fun c8 => ok_z1 ?_) (fun c8 => ok_z0 (hJ2 _ ⟨101, .inl ⟨q, fun h => ?_, rfl⟩, .inr (.inr (.inr (.inr (.inl ⟨rfl, rfl, m9⟩))))⟩))
            · by_cases k : e < n
              · rw [sgn_in k] at c8
                exact hJ3 _ (.inr ⟨k, c8⟩)
              · rw [sgn_out (by omega)] at c8
                unfold isLt at c8
                omega
            · rw [sgn_in h] at c8; exact c8
        · have nb := c4 c5
          refine om_sg rp (fun c8 => ?_) (fun c8 => ?_)
          · refine ok_JnC (fun tk => tk = 5) (fun tk htk => ?_) (fun J2 hJ2 => ok_z1 (hJ2 _ rfl))
            subst htk
            refine sm_pI hM2 (ok_some ⟨rfl, f2.uF (by decide), a, a + 1, T a, 0, ⟨⟨c1, c2, by omega, c3⟩, .inr (.inr (.inr ⟨c5, rfl, c6, c7, nb, rfl, .inl ⟨c8, rfl⟩⟩))⟩, (fI_j (by decide)).trans s6, (fI_j (by decide)).trans s7, .inr (.inr (.inr (.inr (.inr ⟨c8, fI_eq, rfl⟩))))⟩)
          · refine ok_JnC (fun tk => tk = 1) (fun tk htk => ?_) (fun J2 hJ2 => ok_z0 (hJ2 _ rfl))
            subst htk
            refine sm_pI hM2 (ok_some ⟨rfl, f2.uF (by decide), a, a + 1, 103, 0, ⟨⟨c1, c2, by omega, c3⟩, .inr (.inr (.inr ⟨c5, rfl, c6, c7, nb, rfl, .inr ⟨c8, rfl⟩⟩))⟩, (fI_j (by decide)).trans s6, (fI_j (by decide)).trans s7, .inr (.inl ⟨rfl, fI_eq⟩)⟩)
    · have ea : a = n := by omega
      refine sm_pI hM2 ?_
      have f3 : FM [] [6, 7, 8, 9, 10] σ (uF y2 1 8 0) := f2.uF (by decide)
      have t8 : fI (uF y2 1 8 0) 1 8 = 0 := fI_eq
      generalize uF y2 1 8 0 = y3 at f3 t8 ⊢
      have hM3 := f3.M hM
      have ht3 := ht.fm f3 (by decide) (by decide)
      refine sm_gI hM3 ?_
      rw [ht3.1]
      refine sm_pI hM3 ?_
      have f4 : FM [] [6, 7, 8, 9, 10] σ (uF y3 1 6 n) := f3.uF (by decide)
      have w8 : fI (uF y3 1 6 n) 1 8 = 0 := (fI_j (by decide)).trans t8
      have w6 : fI (uF y3 1 6 n) 1 6 = n := fI_eq
      generalize uF y3 1 6 n = y4 at f4 w8 w6 ⊢
      have hM4 := f4.M hM
      have ht4 := ht.fm f4 (by decide) (by decide)
      refine sm_gI hM4 ?_
      rw [ht4.1]
      refine sm_pI hM4 (ok_some ⟨rfl, f4.uF (by decide), n, n, 102, 0, ⟨⟨by omega, Int.le_refl n, Int.le_refl n, fun j x y => c3 j x (by omega)⟩, .inl ⟨rfl, rfl, rfl, rfl⟩⟩, (fI_j (by decide)).trans w6, fI_eq, .inl ⟨rfl, (fI_j (by decide)).trans w8⟩⟩)
  obtain ⟨⟨τ, v⟩, e, h1, h2⟩ := H
  dsimp only at h1 h2
  subst h1
  exact ⟨τ, e, h2⟩
end F
