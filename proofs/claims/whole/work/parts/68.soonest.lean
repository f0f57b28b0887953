/-! the pure part: soonest -/
section W
variable {N : Nat} {σ σm : St}
def SB (B c b : Int) (E : Int → Prop) : Int → Int → Int → Prop := fun n g x => 64 * g + n < B ∨ (n = c ∧ g = b ∧ E x)
def SL (B : Int) : Int → Int → Int → Prop := fun n g _ => 64 * g + n < B
theorem addS_SB (B c b e : Int) (E : Int → Prop) : addS (SB B c b E) c b e = SB B c b (fun x => E x ∨ x = e) := by
  funext n g x
  apply propext
  unfold addS SB
  constructor
  · rintro ((h | ⟨h1, h2, h3⟩) | ⟨h1, h2, h3⟩)
    · exact .inl h
    · exact .inr ⟨h1, h2, .inl h3⟩
    · exact .inr ⟨h1, h2, .inr h3⟩
  · rintro (h | ⟨h1, h2, h3 | h3⟩)
    · exact .inl (.inl h)
    · exact .inl (.inr ⟨h1, h2, h3⟩)
    · exact .inr ⟨h1, h2, h3⟩
theorem SB_none (B c b : Int) : SB B c b (fun _ => False) = SL B := by
  funext n g x
  apply propext
  unfold SB SL
  constructor
  · rintro (h | ⟨_, _, h⟩)
    · exact h
    · exact absurd h id
  · exact .inl
def Iw (σ σm : St) (t m : Nat) (hr br fr most : Int) (S : Int → Int → Int → Prop) (υ : St) : Prop := FM [43, 31] [54, 55, 56] σm υ ∧ Tb43 υ ∧ Tw (fsC σ t m hr br) (slC σ t m hr) fr most S υ
theorem Iw.step {m t : Nat} {bk : Int} (hI : IMach m bk σ σm) {i hr br fr most : Int} (hi : 0 ≤ i ∧ i ≤ 2) (hl : RTl t i 2 σ σm) (hM : WMr σm.1 σm.2.2) (hmo : 0 ≤ most ∧ most ≤ 99) {S : Int → Int → Int → Prop} {υ : St} (h : Iw σ σm t m hr br fr most S υ) {e b c v : Int} (he : 0 ≤ e ∧ e ≤ 63) (hb : 0 ≤ b ∧ b ≤ 99) (hn : nb c e) (hv : v = dd (fsC σ t m hr br) (slC σ t m hr) fr b.toNat c) (hv2 : 0 ≤ v ∧ v < 100000) (hN : 1000 < N) : ∃ φ, f_X12_enter N υ 1 e b v i hr br most = some (φ, 0) ∧ Iw σ σm t m hr br fr most (addS S c b e) φ := by
  obtain ⟨h1, h2, h3⟩ := h
  obtain ⟨φ, e1, f1, f2, f3⟩ := enter_eq (N := N) hI hi hl (h1.M hM) h1 h2 hmo (hr := hr) (br := br) he hb hv2 hN
  exact ⟨φ, e1, f1, f2, h3.enter hmo.2 he hb.1 hn hv hv2.2 f3⟩
theorem Tw.val {fs sl : Int → Int} {fr most : Int} (hmo : 0 ≤ most ∧ most ≤ 99) {b c : Int} (hb : 0 ≤ b ∧ b ≤ most) (hc : 0 ≤ c ∧ c ≤ 63) {υ : St} {B : Int} (hB : 64 * b ≤ B) (h : Tw fs sl fr most (SL B) υ) : (υ.2.1 43 (100 * c + b) = 1000000 ∧ dd fs sl fr b.toNat c = 100000) ∨ (υ.2.1 43 (100 * c + b) = dd fs sl fr b.toNat c ∧ dd fs sl fr b.toNat c < 100000) := by
  obtain ⟨t1, t2⟩ := h c b hc ⟨hb.1, by omega⟩
  by_cases h0 : b = 0
  · have := t1 h0
    subst h0
    rw [this]
    show _ ∨ ((if c = fr then 0 else 1000000) = (if c = fr then (0 : Int) else 100000) ∧ (if c = fr then (0 : Int) else 100000) < 100000)
    by_cases hcf : c = fr
    · rw [if_pos hcf, if_pos hcf]; exact .inr ⟨rfl, by decide⟩
    · rw [if_neg hcf]
      refine .inl ⟨rfl, ?_⟩
      show (if c = fr then (0 : Int) else 100000) = 100000
      rw [if_neg hcf]
  · have a := t2 (by omega) hb.2
    have d := dd_ls fs sl fr (f := b) (by omega) c
    rcases Ls.uniq (S := SL B) (S' := fun _ _ _ => True) (fun n g hn hg h0 => ⟨fun _ => trivial, fun _ => by unfold SL; have := hn.1; omega⟩) a d with ⟨q1, q2⟩ | ⟨q1, q2⟩
    · exact .inl ⟨q1, q2⟩
    · refine .inr ⟨q1, ?_⟩
      rw [← q1]
      obtain ⟨n, hn, ⟨_, k2, _, k4, k5⟩ | ⟨_, k2, _, k4, k5⟩⟩ := q2
      · have := (dd_small fs sl fr (b - 3).toNat (by omega) n).1 k4
        omega
      · have := (dd_small fs sl fr (b - 2).toNat (by omega) n).1 k4
        omega
theorem so113 {m t : Nat} {bk : Int} (hI : IMach m bk σ σm) {i hr br fr most : Int} (hi : 0 ≤ i ∧ i ≤ 2) (hl : RTl t i 2 σ σm) (hM : WMr σm.1 σm.2.2) (hmo : 0 ≤ most ∧ most ≤ 99) {t34 : St × Int} {b : Int} (e34 : t34.2 = b) (hb : 0 ≤ b ∧ b ≤ most) {υ0 : St} (h0 : Iw σ σm t m hr br fr most (SL (64 * b)) υ0) {J : St → Option (St × Int)} {Q : St × Int → Prop} (hN : 1000 < N) (h : ∀ υ, Iw σ σm t m hr br fr most (SL (64 * (b + 1))) υ → Ok (J υ) Q) : Ok (L_X12_soonest_113 N 1 i hr br most t34 J (υ0, 0)) Q := by
  unfold L_X12_soonest_113
  refine ok_fix (fun w => Iw σ σm t m hr br fr most (SL (64 * b + w.2)) w.1 ∧ 0 ≤ w.2 ∧ w.2 ≤ 64) (fun w => (64 - w.2).toNat) (fun back w hI' hback => ?_) _ ⟨by dsimp only; rw [Int.add_zero]; exact h0, Int.le_refl _, by dsimp only; omega⟩ (by dsimp only; omega)
  obtain ⟨υ, c⟩ := w
  obtain ⟨g1, g2, g3⟩ := hI'
  dsimp only at g1 g2 g3 hback ⊢
  rw [e34]
  refine ok_wlt (by omega) (by omega) (fun h1 => ?_) (fun h1 => h υ (by rw [show 64 * (b + 1) = 64 * b + c by omega]; exact g1))
  have hMu := g1.1.M hM
  have hv := g1.2.2.val hmo hb ⟨g2, by omega⟩ (by omega)
  have hbv := g1.2.1 (100 * c + b) (by omega) (by omega)
  refine sm_gR hMu rfl ?_
  refine sm_aI hMu rfl rfl (by decide) (by omega) (by omega) ?_
  refine st_Jn ?_
  have ddr : 0 ≤ dd (fsC σ t m hr br) (slC σ t m hr) fr b.toNat c := ((dd_rw _ _ fr b.toNat).1 c).1
  rcases hv with ⟨v1, v2⟩ | ⟨v1, v2⟩
  · rw [v1]
    refine ok_wlt (by omega) (by omega) (fun h2 => by exfalso; omega) (fun _ => st_Lt ?_)
    refine hback _ ⟨⟨g1.1, g1.2.1, fun e f he hf => ⟨(g1.2.2 e f he hf).1, fun f1 f2 => ?_⟩⟩, by dsimp only; omega, by dsimp only; omega⟩ (by dsimp only; omega)
    refine ((g1.2.2 e f he hf).2 f1 f2).iff (fun val => ?_)
    constructor
    · rintro ⟨n, hn, ⟨q1, q2, q3, q4⟩ | ⟨q1, q2, q3, q4⟩⟩
      · exact ⟨n, hn, .inl ⟨q1, q2, by unfold SL at q3 ⊢; omega, q4⟩⟩
      · exact ⟨n, hn, .inr ⟨q1, q2, by unfold SL at q3 ⊢; omega, q4⟩⟩
    · rintro ⟨n, hn, ⟨q1, q2, q3, q4, q5⟩ | ⟨q1, q2, q3, q4, q5⟩⟩
      · refine ⟨n, hn, .inl ⟨q1, q2, ?_, q4, q5⟩⟩
        unfold SL at q3 ⊢
        have hn1 := hn.1
        by_cases hq : 64 * (f - 3) + n < 64 * b + c
        · exact hq
        · exfalso
          have e1 : f - 3 = b := by omega
          have e2 : n = c := by omega
          rw [e1, e2, v2] at q4
          omega
      · refine ⟨n, hn, .inr ⟨q1, q2, ?_, q4, q5⟩⟩
        unfold SL at q3 ⊢
        have hn1 := hn.1
        by_cases hq : 64 * (f - 2) + n < 64 * b + c
        · exact hq
        · exfalso
          have e1 : f - 2 = b := by omega
          have e2 : n = c := by omega
          rw [e1, e2, v2] at q4
          omega
  · rw [v1]
    generalize hV : dd (fsC σ t m hr br) (slC σ t m hr) fr b.toNat c = v at v2 ddr
    refine ok_wlt (by omega) (by omega) (fun _ => ?_) (fun h2 => by exfalso; omega)
    have tm : Int.tmod (wr c) 8 = c % 8 := by rw [wr_id (by omega) (by omega), Int.tmod_eq_emod_of_nonneg g2]
    rw [tm]
    -- the end of it
    have fin : ∀ φ, Iw σ σm t m hr br fr most (SB (64 * b + c) c b (fun x => ((((0 < c % 8 ∧ x = c - 1) ∨ (c % 8 < 7 ∧ x = c + 1)) ∨ (7 < c ∧ x = c - 8)) ∨ (c < 56 ∧ x = c + 8)))) φ → Ok (Lt (c + 1) fun x44 => back (φ, x44)) Q := fun φ hφ => by
      refine st_Lt (hback _ ⟨⟨hφ.1, hφ.2.1, fun e f he hf => ⟨(hφ.2.2 e f he hf).1, fun f1 f2 => ?_⟩⟩, by dsimp only; omega, by dsimp only; omega⟩ (by dsimp only; omega))
      refine ((hφ.2.2 e f he hf).2 f1 f2).same (fun n g hn hg h0 => ?_)
      dsimp only
      unfold SB SL
      obtain ⟨hn1, hn2⟩ := hn
      constructor
      · rintro (q | ⟨q1, q2, _⟩) <;> omega
      · intro q
        by_cases hq : 64 * g + n < 64 * b + c
        · exact .inl hq
        · exact .inr (by omega)
    have s4 : ∀ φ, Iw σ σm t m hr br fr most (SB (64 * b + c) c b (fun x => (((0 < c % 8 ∧ x = c - 1) ∨ (c % 8 < 7 ∧ x = c + 1)) ∨ (7 < c ∧ x = c - 8)))) φ → Ok (if wr c < wr 56 then Option.bind (rcv shm φ 12 1 (f_X12_enter N φ 1 (c + 8) b v i hr br most)) fun q49 => Lt (c + 1) fun x44 => back (q49.1, x44) else Lt (c + 1) fun x44 => back (φ, x44)) Q := fun φ hφ => by
      refine ok_wlt (by omega) (by omega) (fun h5 => ?_) (fun h5 => fin φ ?_)
      · obtain ⟨ψ, e1, e2⟩ := hφ.step (N := N) hI hi hl hM hmo (e := c + 8) (b := b) (c := c) (v := v) (by omega) (by omega) ⟨by omega, by omega⟩ hV.symm ⟨ddr, v2⟩ hN
        rw [addS_SB] at e2
        refine sm_rcv (hφ.1.M hM) (ok_rw e1 (fin ψ ?_))
        have : (fun x : Int => ((((0 < c % 8 ∧ x = c - 1) ∨ (c % 8 < 7 ∧ x = c + 1)) ∨ (7 < c ∧ x = c - 8)) ∨ (c < 56 ∧ x = c + 8))) = (fun x => (((0 < c % 8 ∧ x = c - 1) ∨ (c % 8 < 7 ∧ x = c + 1)) ∨ (7 < c ∧ x = c - 8)) ∨ x = c + 8) := by
          funext x; apply propext; omega
        rw [this]; exact e2
      · have : (fun x : Int => ((((0 < c % 8 ∧ x = c - 1) ∨ (c % 8 < 7 ∧ x = c + 1)) ∨ (7 < c ∧ x = c - 8)) ∨ (c < 56 ∧ x = c + 8))) = (fun x => (((0 < c % 8 ∧ x = c - 1) ∨ (c % 8 < 7 ∧ x = c + 1)) ∨ (7 < c ∧ x = c - 8))) := by
          funext x; apply propext; omega
        rw [this]; exact hφ
    have s3 : ∀ φ, Iw σ σm t m hr br fr most (SB (64 * b + c) c b (fun x => ((0 < c % 8 ∧ x = c - 1) ∨ (c % 8 < 7 ∧ x = c + 1)))) φ → Ok (if wr 7 < wr c then Option.bind (rcv shm φ 12 1 (f_X12_enter N φ 1 (c - 8) b v i hr br most)) fun q52 => (if wr c < wr 56 then Option.bind (rcv shm q52.1 12 1 (f_X12_enter N q52.1 1 (c + 8) b v i hr br most)) fun q49 => Lt (c + 1) fun x44 => back (q49.1, x44) else Lt (c + 1) fun x44 => back (q52.1, x44)) else (if wr c < wr 56 then Option.bind (rcv shm φ 12 1 (f_X12_enter N φ 1 (c + 8) b v i hr br most)) fun q49 => Lt (c + 1) fun x44 => back (q49.1, x44) else Lt (c + 1) fun x44 => back (φ, x44))) Q := fun φ hφ => by
      refine ok_wlt (by omega) (by omega) (fun h5 => ?_) (fun h5 => s4 φ ?_)
      · obtain ⟨ψ, e1, e2⟩ := hφ.step (N := N) hI hi hl hM hmo (e := c - 8) (b := b) (c := c) (v := v) (by omega) (by omega) ⟨by omega, by omega⟩ hV.symm ⟨ddr, v2⟩ hN
        rw [addS_SB] at e2
        refine sm_rcv (hφ.1.M hM) (ok_rw e1 (s4 ψ ?_))
        have : (fun x : Int => (((0 < c % 8 ∧ x = c - 1) ∨ (c % 8 < 7 ∧ x = c + 1)) ∨ (7 < c ∧ x = c - 8))) = (fun x => ((0 < c % 8 ∧ x = c - 1) ∨ (c % 8 < 7 ∧ x = c + 1)) ∨ x = c - 8) := by
          funext x; apply propext; omega
        rw [this]; exact e2
      · have : (fun x : Int => (((0 < c % 8 ∧ x = c - 1) ∨ (c % 8 < 7 ∧ x = c + 1)) ∨ (7 < c ∧ x = c - 8))) = (fun x => ((0 < c % 8 ∧ x = c - 1) ∨ (c % 8 < 7 ∧ x = c + 1))) := by
          funext x; apply propext; omega
        rw [this]; exact hφ
    have s2 : ∀ φ, Iw σ σm t m hr br fr most (SB (64 * b + c) c b (fun x => (0 < c % 8 ∧ x = c - 1))) φ → Ok (if wr (c % 8) < wr 7 then Option.bind (rcv shm φ 12 1 (f_X12_enter N φ 1 (c + 1) b v i hr br most)) fun q55 => (if wr 7 < wr c then Option.bind (rcv shm q55.1 12 1 (f_X12_enter N q55.1 1 (c - 8) b v i hr br most)) fun q52 => (if wr c < wr 56 then Option.bind (rcv shm q52.1 12 1 (f_X12_enter N q52.1 1 (c + 8) b v i hr br most)) fun q49 => Lt (c + 1) fun x44 => back (q49.1, x44) else Lt (c + 1) fun x44 => back (q52.1, x44)) else (if wr c < wr 56 then Option.bind (rcv shm q55.1 12 1 (f_X12_enter N q55.1 1 (c + 8) b v i hr br most)) fun q49 => Lt (c + 1) fun x44 => back (q49.1, x44) else Lt (c + 1) fun x44 => back (q55.1, x44))) else (if wr 7 < wr c then Option.bind (rcv shm φ 12 1 (f_X12_enter N φ 1 (c - 8) b v i hr br most)) fun q52 => (if wr c < wr 56 then Option.bind (rcv shm q52.1 12 1 (f_X12_enter N q52.1 1 (c + 8) b v i hr br most)) fun q49 => Lt (c + 1) fun x44 => back (q49.1, x44) else Lt (c + 1) fun x44 => back (q52.1, x44)) else (if wr c < wr 56 then Option.bind (rcv shm φ 12 1 (f_X12_enter N φ 1 (c + 8) b v i hr br most)) fun q49 => Lt (c + 1) fun x44 => back (q49.1, x44) else Lt (c + 1) fun x44 => back (φ, x44)))) Q := fun φ hφ => by
      refine ok_wlt (by omega) (by omega) (fun h5 => ?_) (fun h5 => s3 φ ?_)
      · obtain ⟨ψ, e1, e2⟩ := hφ.step (N := N) hI hi hl hM hmo (e := c + 1) (b := b) (c := c) (v := v) (by omega) (by omega) ⟨by omega, by omega⟩ hV.symm ⟨ddr, v2⟩ hN
        rw [addS_SB] at e2
        refine sm_rcv (hφ.1.M hM) (ok_rw e1 (s3 ψ ?_))
        have : (fun x : Int => ((0 < c % 8 ∧ x = c - 1) ∨ (c % 8 < 7 ∧ x = c + 1))) = (fun x => (0 < c % 8 ∧ x = c - 1) ∨ x = c + 1) := by
          funext x; apply propext; omega
        rw [this]; exact e2
      · have : (fun x : Int => ((0 < c % 8 ∧ x = c - 1) ∨ (c % 8 < 7 ∧ x = c + 1))) = (fun x => (0 < c % 8 ∧ x = c - 1)) := by
          funext x; apply propext; omega
        rw [this]; exact hφ
    have g1' := g1
    rw [← SB_none (64 * b + c) c b] at g1'
    refine st_Jn ?_
    refine ok_w0lt (by omega) (fun h5 => ?_) (fun h5 => s2 υ ?_)
    · obtain ⟨ψ, e1, e2⟩ := g1'.step (N := N) hI hi hl hM hmo (e := c - 1) (b := b) (c := c) (v := v) (by omega) (by omega) ⟨by omega, by omega⟩ hV.symm ⟨ddr, v2⟩ hN
      rw [addS_SB] at e2
      refine sm_rcv hMu (ok_rw e1 (s2 ψ ?_))
      have : (fun x : Int => (0 < c % 8 ∧ x = c - 1)) = (fun x => False ∨ x = c - 1) := by
        funext x; apply propext
        exact ⟨fun q => .inr q.2, fun q => ⟨h5, q.resolve_left id⟩⟩
      rw [this]; exact e2
    · have : (fun x : Int => (0 < c % 8 ∧ x = c - 1)) = (fun x => False) := by
        funext x; apply propext
        exact ⟨fun q => by omega, fun q => absurd q id⟩
      rw [this]; exact g1'
end W
