/-! the pure part: the op MACHINE -/
section F
variable {N : Nat} {σ τ υ σm τm w : St} {z : Zs} {r : RS} {m : Nat} {bk : Int} {t : Int → Nat} {sp : Nat}
theorem WXr.wR (h : WXr σ.1 σ.2.2) {k j v : Nat} (e : rxT k j = none) : WXr (uR σ k (j : Int) v).1 (uR σ k (j : Int) v).2.2 := ⟨h.1, fun k' j' v' q => by
  show (if k' = k ∧ (j' : Int) = (j : Int) then v else σ.2.2 k' (j' : Int)) = v'
  rw [if_neg]
  · exact h.2 k' j' v' q
  · rintro ⟨rfl, q2⟩
    have : j' = j := by omega
    subst this
    rw [e] at q; cases q⟩
theorem sx_pR {α : Type} {Q : α → Prop} {ci k j v : Nat} {f : St → Option α} (hX : WXr σ.1 σ.2.2) (hs : shp shx k = (0, ci)) (hk : Nat.ble k 113 = true) (h : Ok (f (uR σ k (j : Int) v)) Q) : Ok (Option.bind (pR shx σ ci k j v) f) Q := by
  unfold pR; rw [if_pos ⟨hs, by rw [hX.1]; exact Nat.le_of_ble_eq_true hk⟩]; exact h
def PrA (rb : Int) : Nat → Int → Prop := fun k i => (k = 1 ∧ (i < 0 ∨ (2 ≤ i ∧ i ≤ 10) ∨ i = 32)) ∨ k = 3 ∨ (4 ≤ k ∧ k ≤ 8 ∧ i = rb) ∨ (k = 21 ∧ 64 * rb ≤ i ∧ i < 64 * rb + 64) ∨ k = 22
def JmM (N : Nat) : St → Option (St × Int) := fun t22 => Option.bind (rcv shm t22 12 1 (f_X12_isGood N t22 1)) fun q23 =>
 (if wr q23.2 = 0 then some (t22, (-1)) else Option.bind (gI shm t22 12 1 32) fun rb_24 =>
 Option.bind (pI shm t22 12 1 31 rb_24) fun σ25 =>
 Option.bind (pI shm σ25 12 1 67 0) fun σ26 =>
 Option.bind (pI shm σ26 12 1 73 0) fun σ27 =>
 Option.bind (gR shm σ27 12 1 11) fun lineMany_28 =>
 Option.bind (gI shm σ27 12 1 31) fun bank_29 =>
 Option.bind (aI shm σ27 1 lineMany_28 bank_29) fun a30 =>
 some (σ27, a30))
/-- the reference up to its loop -/
theorem prepM {Q : St × Int → Prop} {T : Int → Int} {n rb : Int} (hz : Str z) (hT : tZ z = T) (hnn : nZ z = n) (hM : WMr σm.1 σm.2.2) (h2 : fI σm 1 2 = n) (hn : 0 ≤ n ∧ n ≤ 1300) (hTT : ∀ j : Int, 0 ≤ j → j < n → T j = σm.2.1 2 j % 256) (hb : 1 - fI σm 1 31 = rb) (hrb : rb = 0 ∨ rb = 1) (hN : 2000 < N) (k : ∀ y, MR z (.inr 0) y → FA (PrA rb) σm y → fI y 1 32 = rb → fI y 1 2 = 0 → (y.2.1 4 rb = 0 ∧ y.2.1 5 rb = 0 ∧ y.2.1 6 rb = 0 ∧ y.2.1 7 rb = 0 ∧ y.2.1 8 rb = 0) → (∀ c : Int, 0 ≤ c → c < 64 → y.2.1 21 (64 * rb + c) = 0) → (∀ c : Int, 0 ≤ c → c < 8 → y.2.1 22 (8 * rb + c) = 0) → Ok (L_X12_machine_126 N 1 (JmM N) y) Q) : Ok (f_X12_machine N σm 1) Q := by
  unfold f_X12_machine
  obtain ⟨y0, e0, f0, t0, v4, v5, v7, v2⟩ := takeM (N := N) hM h2 hn hTT hN
  refine sm_rcv hM (ok_rw e0 ?_)
  have hM0 := f0.M hM
  refine sm_gI hM0 ?_
  rw [show fI y0 1 31 = fI σm 1 31 from f0.f (by decide), hb]
  refine sm_pI hM0 ?_
  have F1 : FA (PrA rb) σm (uF y0 1 32 rb) := by
    refine FA.wF ⟨f0.1, f0.2.1, fun k i q => ?_⟩ (.inl ⟨rfl, .inr (.inr rfl)⟩)
    by_cases e : k = 1
    · subst e
      have i0 : ¬ i < 0 := fun c => q (.inl ⟨rfl, .inl c⟩)
      have := f0.f (j := i.toNat) (fun hj => q (.inl ⟨rfl, .inr (.inl (by simp at hj; omega))⟩))
      unfold fI at this
      rw [show ((i.toNat : Nat) : Int) = i by omega] at this
      exact this
    · exact f0.c e (fun hj => q (.inr (.inl (by simp at hj; exact hj))))
  have m1 : ∀ j, j ≠ 32 → fI (uF y0 1 32 rb) 1 j = fI y0 1 j := fun j hj => fI_j hj
  have b1 : fI (uF y0 1 32 rb) 1 32 = rb := fI_eq
  have t1 : MTx T n (uF y0 1 32 rb) := t0.fm (A := []) (J := [32]) (FM.refl.uF (by decide)) (by decide) (by decide)
  have m2 := (m1 2 (by decide)).trans v2
  have m4 := (m1 4 (by decide)).trans v4
  have m5 := (m1 5 (by decide)).trans v5
  have m7 := (m1 7 (by decide)).trans v7
  clear m1
  have hM1 : WMr (uF y0 1 32 rb).1 (uF y0 1 32 rb).2.2 := hM0
  generalize uF y0 1 32 rb = y1 at F1 b1 t1 m2 m4 m5 m7 hM1 ⊢
  have step : ∀ (k : Nat) (y : St), 4 ≤ k → k ≤ 8 → FA (PrA rb) y1 y → FA (PrA rb) y1 (uI y k rb 0) := fun k y a b f => f.wI (.inr (.inr (.inl ⟨a, b, rfl⟩)))
  refine sm_gR hM1 rfl (sm_gI hM1 ?_)
  rw [b1]
  refine sm_sI hM1 rfl rfl (by decide) (by omega) (by omega) ?_
  refine sm_gR (σ := uI y1 4 rb 0) hM1 rfl (sm_gI (σ := uI y1 4 rb 0) hM1 ?_)
  rw [show fI (uI y1 4 rb 0) 1 32 = rb from (fI_uk (by decide)).trans b1]
  refine sm_sI (σ := uI y1 4 rb 0) hM1 rfl rfl (by decide) (by omega) (by omega) ?_
  refine sm_gR (σ := uI (uI y1 4 rb 0) 5 rb 0) hM1 rfl (sm_gI (σ := uI (uI y1 4 rb 0) 5 rb 0) hM1 ?_)
  rw [show fI (uI (uI y1 4 rb 0) 5 rb 0) 1 32 = rb from (fI_uk (by decide)).trans ((fI_uk (by decide)).trans b1)]
  refine sm_sI (σ := uI (uI y1 4 rb 0) 5 rb 0) hM1 rfl rfl (by decide) (by omega) (by omega) ?_
  refine sm_gR (σ := uI (uI (uI y1 4 rb 0) 5 rb 0) 6 rb 0) hM1 rfl (sm_gI (σ := uI (uI (uI y1 4 rb 0) 5 rb 0) 6 rb 0) hM1 ?_)
  rw [show fI (uI (uI (uI y1 4 rb 0) 5 rb 0) 6 rb 0) 1 32 = rb from (fI_uk (by decide)).trans ((fI_uk (by decide)).trans ((fI_uk (by decide)).trans b1))]
  refine sm_sI (σ := uI (uI (uI y1 4 rb 0) 5 rb 0) 6 rb 0) hM1 rfl rfl (by decide) (by omega) (by omega) ?_
  refine sm_gR (σ := uI (uI (uI (uI y1 4 rb 0) 5 rb 0) 6 rb 0) 7 rb 0) hM1 rfl (sm_gI (σ := uI (uI (uI (uI y1 4 rb 0) 5 rb 0) 6 rb 0) 7 rb 0) hM1 ?_)
  rw [show fI (uI (uI (uI (uI y1 4 rb 0) 5 rb 0) 6 rb 0) 7 rb 0) 1 32 = rb from (fI_uk (by decide)).trans ((fI_uk (by decide)).trans ((fI_uk (by decide)).trans ((fI_uk (by decide)).trans b1)))]
  refine sm_sI (σ := uI (uI (uI (uI y1 4 rb 0) 5 rb 0) 6 rb 0) 7 rb 0) hM1 rfl rfl (by decide) (by omega) (by omega) ?_
  have F2 : FA (PrA rb) σm (uI (uI (uI (uI (uI y1 4 rb 0) 5 rb 0) 6 rb 0) 7 rb 0) 8 rb 0) := F1.trans (step 8 _ (by decide) (by decide) (step 7 _ (by decide) (by decide) (step 6 _ (by decide) (by decide) (step 5 _ (by decide) (by decide) (step 4 _ (by decide) (by decide) FA.refl)))))
  have c2 : ∀ (k : Nat) (i : Int), k < 4 ∨ 8 < k → (uI (uI (uI (uI (uI y1 4 rb 0) 5 rb 0) 6 rb 0) 7 rb 0) 8 rb 0).2.1 k i = y1.2.1 k i := fun k i q => (uI_k (by omega)).trans ((uI_k (by omega)).trans ((uI_k (by omega)).trans ((uI_k (by omega)).trans (uI_k (by omega)))))
  have z4 : (uI (uI (uI (uI (uI y1 4 rb 0) 5 rb 0) 6 rb 0) 7 rb 0) 8 rb 0).2.1 4 rb = 0 := (uI_k (by decide)).trans ((uI_k (by decide)).trans ((uI_k (by decide)).trans ((uI_k (by decide)).trans uI_eq)))
  have z5 : (uI (uI (uI (uI (uI y1 4 rb 0) 5 rb 0) 6 rb 0) 7 rb 0) 8 rb 0).2.1 5 rb = 0 := (uI_k (by decide)).trans ((uI_k (by decide)).trans ((uI_k (by decide)).trans uI_eq))
  have z6 : (uI (uI (uI (uI (uI y1 4 rb 0) 5 rb 0) 6 rb 0) 7 rb 0) 8 rb 0).2.1 6 rb = 0 := (uI_k (by decide)).trans ((uI_k (by decide)).trans uI_eq)
  have z7 : (uI (uI (uI (uI (uI y1 4 rb 0) 5 rb 0) 6 rb 0) 7 rb 0) 8 rb 0).2.1 7 rb = 0 := (uI_k (by decide)).trans uI_eq
  have z8 : (uI (uI (uI (uI (uI y1 4 rb 0) 5 rb 0) 6 rb 0) 7 rb 0) 8 rb 0).2.1 8 rb = 0 := uI_eq
  have hM2 : WMr (uI (uI (uI (uI (uI y1 4 rb 0) 5 rb 0) 6 rb 0) 7 rb 0) 8 rb 0).1 (uI (uI (uI (uI (uI y1 4 rb 0) 5 rb 0) 6 rb 0) 7 rb 0) 8 rb 0).2.2 := hM1
  clear step
  generalize uI (uI (uI (uI (uI y1 4 rb 0) 5 rb 0) 6 rb 0) 7 rb 0) 8 rb 0 = y2 at F2 c2 z4 z5 z6 z7 z8 hM2 ⊢
  have a1 : ∀ j : Nat, fI y2 1 j = fI y1 1 j := fun j => c2 1 _ (by decide)
  refine ok_JnC (fun x => FA (fun k i => k = 21 ∧ 64 * rb ≤ i ∧ i < 64 * rb + 64) y2 x ∧ ∀ c : Int, 0 ≤ c → c < 64 → x.2.1 21 (64 * rb + c) = 0) (fun x hx => ?_) (fun J hJ => ?_)
  · obtain ⟨G1, g1⟩ := hx
    have hM3 := G1.M hM2
    refine ok_JnC (fun x' => FA (fun k i => k = 22) x x' ∧ ∀ c : Int, 0 ≤ c → c < 8 → x'.2.1 22 (8 * rb + c) = 0) (fun x' hx' => ?_) (fun J hJ => ?_)
    · obtain ⟨G2, g2⟩ := hx'
      have hM4 := G2.M hM3
      have b : ∀ j : Nat, fI x' 1 j = fI y1 1 j := fun j => (G2.f (by decide)).trans ((G1.f (by omega)).trans (a1 j))
      have b' : ∀ (k : Nat) (i : Int), k ≠ 22 → k ≠ 21 → x'.2.1 k i = y2.2.1 k i := fun k i q q2 => (G2.c q).trans (G1.c fun u => q2 u.1)
      have t4 : MTx (tZ z) (nZ z) x' := by
        rw [hT, hnn]
        exact ⟨(b 3).trans t1.1, t1.2.1, fun j p q => by rw [b' 3 j (by decide) (by decide), c2 3 j (by decide)]; exact t1.2.2 j p q⟩
      obtain ⟨y5, e5, mr5, f5⟩ := firstM (N := N) hz hM4 t4 ((b 7).trans m7) ((b 4).trans m4) ((b 5).trans m5) hN
      refine sm_rcv hM4 (ok_rw e5 ?_)
      have c5 : ∀ (k : Nat) (i : Int), k ≠ 1 → y5.2.1 k i = x'.2.1 k i := fun k i q => f5.c q (by simp)
      refine st_Jn (k y5 mr5 ?_ ?_ ?_ ⟨?_, ?_, ?_, ?_, ?_⟩ (fun c p q => ?_) (fun c p q => ?_))
      · refine (F2.trans (G1.mono fun k i q => ?_)).trans ((G2.mono fun k i q => ?_).trans (f5.fa (fun i q => .inl ⟨rfl, .inl q⟩) (fun j hj => .inl ⟨rfl, .inr (.inl (by simp at hj; omega))⟩)))
        · unfold PrA; omega
        · unfold PrA; omega
      · rw [f5.f (by decide), b]; exact b1
      · rw [f5.f (by decide), b]; exact m2
      · rw [c5 _ _ (by decide), b' _ _ (by decide) (by decide)]; exact z4
      · rw [c5 _ _ (by decide), b' _ _ (by decide) (by decide)]; exact z5
      · rw [c5 _ _ (by decide), b' _ _ (by decide) (by decide)]; exact z6
      · rw [c5 _ _ (by decide), b' _ _ (by decide) (by decide)]; exact z7
      · rw [c5 _ _ (by decide), b' _ _ (by decide) (by decide)]; exact z8
      · rw [c5 _ _ (by decide), G2.c (by decide)]; exact g1 c p q
      · rw [c5 _ _ (by decide)]; exact g2 c p q
    · unfold L_X12_machine_95
      refine ok_fix (fun q => (0 ≤ q.2 ∧ q.2 ≤ 8) ∧ FA (fun k i => k = 22) x q.1 ∧ ∀ c : Int, 0 ≤ c → c < q.2 → q.1.2.1 22 (8 * rb + c) = 0) (fun q => (8 - q.2).toNat) (fun back q hq hback => ?_) _ ⟨by dsimp only; omega, FA.refl, fun c p q => by dsimp only at q; omega⟩ (by dsimp only; omega)
      obtain ⟨s, i⟩ := q
      obtain ⟨g2, g3, g4⟩ := hq
      dsimp only at g2 g3 g4 hback ⊢
      have hMs := g3.M hM3
      refine ok_wlt (by omega) (by omega) (fun c => ?_) (fun c => hJ s ⟨g3, fun c' p q => g4 c' p (by omega)⟩)
      refine sm_gR hMs rfl (sm_gI hMs ?_)
      rw [show fI s 1 32 = rb from (g3.f (by decide)).trans ((G1.f (by omega)).trans ((a1 32).trans b1))]
      refine sm_sI hMs rfl rfl (by decide) (by omega) (by omega) (st_Lt (hback _ ⟨by dsimp only; omega, g3.wI rfl, fun c' p q => ?_⟩ (by dsimp only; omega)))
      dsimp only at q ⊢
      by_cases e : c' = i
      · rw [e, uI_eq]
      · rw [uI_j (by omega)]; exact g4 c' p (by omega)
  · unfold L_X12_machine_66
    refine ok_fix (fun q => (0 ≤ q.2 ∧ q.2 ≤ 64) ∧ FA (fun k i => k = 21 ∧ 64 * rb ≤ i ∧ i < 64 * rb + 64) y2 q.1 ∧ ∀ c : Int, 0 ≤ c → c < q.2 → q.1.2.1 21 (64 * rb + c) = 0) (fun q => (64 - q.2).toNat) (fun back q hq hback => ?_) _ ⟨by dsimp only; omega, FA.refl, fun c p q => by dsimp only at q; omega⟩ (by dsimp only; omega)
    obtain ⟨s, i⟩ := q
    obtain ⟨g2, g3, g4⟩ := hq
    dsimp only at g2 g3 g4 hback ⊢
    have hMs := g3.M hM2
    refine ok_wlt (by omega) (by omega) (fun c => ?_) (fun c => hJ s ⟨g3, fun c' p q => g4 c' p (by omega)⟩)
    refine sm_gR hMs rfl (sm_gI hMs ?_)
    rw [show fI s 1 32 = rb from (g3.f (by omega)).trans ((a1 32).trans b1)]
    refine sm_sI hMs rfl rfl (by decide) (by omega) (by omega) (st_Lt (hback _ ⟨by dsimp only; omega, g3.wI ⟨rfl, by omega, by omega⟩, fun c' p q => ?_⟩ (by dsimp only; omega)))
    dsimp only at q ⊢
    by_cases e : c' = i
    · rw [e, uI_eq]
    · rw [uI_j (by omega)]; exact g4 c' p (by omega)
/-- what no text touches -/
theorem invK (h : InvR m bk t sp σ σm) (r5 : τ.2.2 1 ((5 : Nat) : Int) = σ.2.2 1 ((5 : Nat) : Int)) (r39 : ∀ i, τ.2.2 39 i = σ.2.2 39 i) (c : ∀ k, (38 ≤ k ∧ k ≤ 65) ∨ (100 ≤ k ∧ k ≤ 102) ∨ (108 ≤ k ∧ k ≤ 113) → τ.2.1 k = σ.2.1 k) (d : ∀ k, 24 ≤ k → k ≤ 51 → w.2.1 k = σm.2.1 k) (e : ∀ j, 74 ≤ j → fI w 1 j = fI σm 1 j) : IAir τ w ∧ (IStg τ w ∧ IKn τ) ∧ ITre t sp τ w ∧ IUnl t τ := by
  obtain ⟨⟨h0, h0'⟩, h1, h2, h3, h4, ⟨h5, h5'⟩, ⟨h6, h6'⟩, h7, h8, h9⟩ := h
  have ct : ∀ i : Int, 0 ≤ i → i < 3 → ∀ k : Nat, k ≤ 3 → τ.2.1 (t i + k) = σ.2.1 (t i + k) := fun i x y k hk => by
    have := isT_le (h7.1.1 i x y).1
    exact c _ (.inl (by omega))
  refine ⟨h4.keep (c 100 (by decide)) (c 101 (by decide)) (c 102 (by decide)) (e 81 (by decide)) (d 44 (by decide) (by decide)) (d 45 (by decide) (by decide)), ⟨h6.keep (c 108 (by decide)) (c 109 (by decide)) (c 110 (by decide)) (e 91 (by decide)) (e 92 (by decide)) (e 93 (by decide)) (d 49 (by decide) (by decide)) (d 50 (by decide) (by decide)), h6'.keep fun k x y => c k (.inr (.inr ⟨x, y⟩))⟩, ?_, h8.keep (fun i hi k k1 k2 => ct i hi.1 (by omega) k k2) (c 65 (by decide))⟩
  obtain ⟨⟨g1, g2⟩, g3, g4, g5⟩ := h7
  refine ⟨⟨fun i x y => ?_, fun i x y => ?_⟩, fun i x y n p q => ?_, ?_, g5⟩
  · rw [r39]; exact g1 i x y
  · rw [show fI τ (t i) 0 = fI σ (t i) 0 from congrFun (ct i x y 0 (by decide)) _, d 24 (by decide) (by decide)]
    exact g2 i x y
  · exact (g3 i x y n p q).keep (fun k k1 k2 => ct i x y k k2) (d 25 (by decide) (by decide)) (d 26 (by decide) (by decide)) (d 27 (by decide) (by decide)) (d 28 (by decide) (by decide)) (d 32 (by decide) (by decide))
  · rw [r5]; exact g4
/-- a text refused: the machine in use stays -/
theorem invDead {s : Nat} {rb : Int} (hm : isM m) (hs : s = 31 - m) (hbk : bk = 0 ∨ bk = 1) (hrb : rb = 1 - bk) (h : InvR m bk t sp σ σm) (fx : FA (CAf s) σ τ) (fm : FA (fun k i => PrA rb k i ∨ RAf rb k i) σm w) (tp : ITape τ w) : InvR m bk t sp τ w := by
  have hml := isM_le hm
  have hmm : m = 8 ∨ m = 23 := hm
  obtain ⟨h4, h6, h7, h8⟩ := invK (τ := τ) (w := w) h (by rw [fx.2.1]) (fun i => by rw [fx.2.1]) (fun k q => by funext i; exact fx.c (by unfold CAf; omega)) (fun k a b => by funext i; exact fm.c (by unfold PrA RAf; omega)) (fun j q => fm.f (by unfold PrA RAf; omega))
  obtain ⟨⟨h0, h0'⟩, h1, h2, h3, _, ⟨h5, h5'⟩, _, _, _, h9⟩ := h
  obtain ⟨a1, a2, a3, a4, ⟨⟨l1, l2, l3⟩, ⟨p1, p2, p3⟩, ⟨j1, j2, j3⟩, ⟨v1, v2, v3⟩, ⟨t1, t2, t3⟩⟩, hp, hj, hv, ht, hg⟩ := h2
  have ex : ∀ d : Nat, d ≤ 14 → τ.2.1 (m + d) = σ.2.1 (m + d) := fun d hd => by funext i; exact fx.c (by unfold CAf; omega)
  have ef : ∀ j, fI τ m j = fI σ m j := fun j => congrFun (ex 0 (by decide)) _
  have em : ∀ k, k = 66 ∨ k = 67 ∨ k = 68 ∨ k = 69 ∨ k = 70 ∨ k = 71 ∨ (73 ≤ k ∧ k ≤ 89) ∨ k = 104 ∨ k = 105 → τ.2.1 k = σ.2.1 k := fun k q => by funext i; exact fx.c (by unfold CAf; omega)
  have ew : ∀ (k : Nat) (i : Int), (4 ≤ k ∧ k ≤ 8 ∧ i = bk) ∨ (9 ≤ k ∧ k ≤ 12 ∧ 12 * bk ≤ i ∧ i < 12 * bk + 12) ∨ (13 ≤ k ∧ k ≤ 18 ∧ 16 * bk ≤ i ∧ i < 16 * bk + 16) ∨ (19 ≤ k ∧ k ≤ 20 ∧ 3 * bk ≤ i ∧ i < 3 * bk + 3) ∨ (k = 21 ∧ 64 * bk ≤ i ∧ i < 64 * bk + 64) → w.2.1 k i = σm.2.1 k i := fun k i q => fm.c (by unfold PrA RAf; omega)
  have e1 := ef 1
  have e7 := ef 7
  have e11 := ef 11
  have e15 := ef 15
  have wcell : ∀ k, 24 ≤ k → w.2.1 k = σm.2.1 k := fun k a => by funext i; exact fm.c (by unfold PrA RAf; omega)
  have wslot : ∀ j : Nat, 11 ≤ j → j ≠ 32 → fI w 1 j = fI σm 1 j := fun j a b => fm.f (by unfold PrA RAf; omega)
  refine ⟨⟨fx.X h0, fm.M h0'⟩, tp, ⟨a1, by rw [fx.2.1]; exact a2, (wslot 31 (by decide) (by decide)).trans a3, a4, ⟨⟨?_, ?_, ?_⟩, ⟨?_, ?_, ?_⟩, ⟨?_, ?_, ?_⟩, ⟨?_, ?_, ?_⟩, ?_, ?_, ?_⟩, ?_, ?_, ?_, ?_, ?_⟩, ?_, h4, ⟨?_, ?_⟩, h6, h7, h8, ?_⟩
  · rw [ew 4 bk (by omega), ef]; exact l1
  · rw [ef]; exact l2
  · rw [ef]; exact l3
  · rw [ew 5 bk (by omega), ef]; exact p1
  · rw [ef]; exact p2
  · rw [ef]; exact p3
  · rw [ew 6 bk (by omega), ef]; exact j1
  · rw [ef]; exact j2
  · rw [ef]; exact j3
  · rw [ew 7 bk (by omega), ef]; exact v1
  · rw [ef]; exact v2
  · rw [ef]; exact v3
  · rw [ew 8 bk (by omega), ef]; exact t1
  · rw [ef]; exact t2
  · rw [ef]; exact t3
  · exact RMp_st hp (fun d i a b c e => congrFun (ex d (by omega)) i) (fun k i a b c e => ew k _ (by omega)) (fun i a b c => by omega)
  · exact RMj_st hj (by omega) (fun d i a b c e => congrFun (ex d (by omega)) i) (fun k i a b c e => ew k _ (by omega)) (fun i a b c => by omega)
  · exact RMv_st hv (by omega) (fun d i a b c e => congrFun (ex d (by omega)) i) (fun k i a b c e => ew k _ (by omega)) (fun i a b c => by omega)
  · exact RMt_st ht (by omega) (fun d i a b c e => congrFun (ex d (by omega)) i) (fun k i a b c e => ew k _ (by omega)) (fun i a b c => by omega)
  · exact RMg_st hg fun c a b => .inl ⟨congrFun (ex 14 (by decide)) c, ew 21 _ (by omega)⟩
  · exact h3.keep (fun k a b => em k (by omega)) (wslot 67 (by decide) (by decide)) (wslot 68 (by decide) (by decide)) (fun k a b => wcell k (by omega))
  · exact h5.keep (em 73 (by omega)) (em 74 (by omega)) (em 75 (by omega)) (wslot 73 (by decide) (by decide)) (wslot 74 (by decide) (by decide)) (wcell 39 (by decide)) (wcell 40 (by decide))
  · have e2 : ∀ j, fI τ 73 j = fI σ 73 j := fun j => congrFun (em 73 (by omega)) _
    have hn := h5.1
    rcases h5' with h | ⟨g1, g2⟩
    · exact .inl ((e2 2).trans h)
    · refine .inr ⟨by rw [e2]; exact g1, fun j x y => ?_⟩
      rw [e2] at y
      have := g2 j x y
      unfold TLx2 vX wX at this ⊢
      rw [ex 13 (by decide), ex 12 (by decide), em 74 (by omega), em 75 (by omega), e2, e2, e2, em (77 + j.toNat) (by omega)]
      exact this
  · have e104 : ∀ j, fI τ 104 j = fI σ 104 j := fun j => congrFun (em 104 (by omega)) _
    have c1 : cW τ m = cW σ m := by unfold cW; rw [ex 5 (by decide)]
    unfold IWk WkG RmW at h9 ⊢
    rw [e104, e104, em 105 (by omega), c1, e1]
    exact h9
end F
