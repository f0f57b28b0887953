/-! the pure part: WAYS, the soonest
-/
section W
variable {N : Nat} {σ σm : St}
def fsC (σ : St) (t m : Nat) (hr br : Int) : Int → Int := fun c => fsV σ t hr br (σ.2.1 (m + 14) c)
def slC (σ : St) (t m : Nat) (hr : Int) : Int → Int := fun c => flyB σ t (σ.2.1 (m + 14) c) hr 9
def dTo (fs sl : Int → Int) (fr to : Int) : Int → Int := fun g => dd fs sl fr g.toNat to
theorem fewest_eq {m : Nat} {bk : Int} (hI : IMach m bk σ σm) {τ0 : St} (hX : WXr τ0.1 τ0.2.2) (em : τ0.2.1 (m + 14) = σ.2.1 (m + 14)) {fs sl : Int → Int} (hfs : ∀ c : Int, 0 ≤ c → c ≤ 63 → wz (τ0.2.1 93 (σ.2.1 (m + 14) c)) = fs c ∧ wz (τ0.2.1 94 (σ.2.1 (m + 14) c)) = sl c) {fr to fuel : Int} (hfr : 0 ≤ fr ∧ fr ≤ 63) (hto : 0 ≤ to ∧ to ≤ 63) (hfu : 0 ≤ fuel ∧ fuel ≤ 99) (hN : 1000 < N) : ∃ τ best burnt, f_X9_fewestMinutes N τ0 92 m fr to fuel = some (τ, if best < 100000 then 100 * best + burnt else -1) ∧ FX [96, 97, 98, 99] τ0 τ ∧ Sel (dTo fs sl fr to) (fuel + 1) best burnt := by
  have hm := hI.1
  have hml := isM_le hm
  have ddr : ∀ g c, 0 ≤ dd fs sl fr g c ∧ dd fs sl fr g c ≤ 100000 := fun g c => (dd_rw fs sl fr g).1 c
  have H : Ok (f_X9_fewestMinutes N τ0 92 m fr to fuel) (fun w => ∃ best burnt, w.2 = (if best < 100000 then 100 * best + burnt else -1) ∧ FX [96, 97, 98, 99] τ0 w.1 ∧ Sel (dTo fs sl fr to) (fuel + 1) best burnt) := by
    unfold f_X9_fewestMinutes
    refine ok_within (by omega) (by omega) (by omega) (fun _ => ok_z1 ?_) (fun h => by exfalso; omega)
    refine ok_within (by omega) (by omega) (by omega) (fun _ => ok_z1 ?_) (fun h => by exfalso; omega)
    refine st_Jn ?_
    unfold L_X9_fewestMinutes_25
    refine ok_fix (fun w => FX [96, 97, 98, 99] τ0 w.1 ∧ 0 ≤ w.2 ∧ w.2 ≤ 4 ∧ ∀ f, 0 ≤ f → f < w.2 → ∀ c, 0 ≤ c → c ≤ 63 → w.1.2.1 (rwC f) c = 100000) (fun w => (4 - w.2).toNat) (fun back w hI hback => ?_) _ ⟨FX.refl, Int.le_refl _, by dsimp only; omega, fun f a b => by dsimp only at b; omega⟩ (by dsimp only; omega)
    obtain ⟨τ, f⟩ := w
    obtain ⟨g1, g2, g3, g4⟩ := hI
    dsimp only at g1 g2 g3 g4 hback ⊢
    have hX' := g1.X hX
    refine ok_wlt (by omega) (by omega) (fun h1 => ?_) (fun h1 => ?_)
    · refine sx_gR hX' rfl rfl rfl ?_
      obtain ⟨q1, q2, q3⟩ := row95 hX' (i := f) (by omega)
      rw [wr_id (by omega) (by omega), Int.tmod_eq_emod_of_nonneg g2] at q1
      rw [show f % 4 = f by omega] at q1
      refine sx_aR hX' rfl rfl (by decide) g2 (by omega) q1 ?_
      have rc := rwC_or f
      refine ok_rw (fill_ok (n := 64) (rw_shp f).1 (by rw [hX'.1]; exact Nat.le_of_ble_eq_true (rw_shp f).2) (by decide) (by omega)) (st_Lt ?_)
      refine hback _ ⟨g1.uA (by rcases rc with e | e | e | e <;> rw [e] <;> simp), by dsimp only; omega, by dsimp only; omega, fun f' a b c c0 c1 => ?_⟩ (by dsimp only; omega)
      dsimp only at b ⊢
      by_cases hf : f' = f
      · rw [hf]; exact uA_in ⟨c0, by omega⟩
      · rw [uA_k (by unfold rwC; omega)]; exact g4 f' a (by omega) c c0 c1
    · have : f = 4 := by omega
      subst this
      refine sx_gR hX' rfl rfl rfl ?_
      refine sx_aR hX' rfl rfl (by decide) (by decide) (by decide) (hX'.2 95 0 96 rfl) ?_
      refine sx_sI hX' rfl rfl (by decide) (by omega) (by omega) ?_
      refine sx_gR (σ := uI τ 96 fr 0) hX' rfl rfl rfl ?_
      refine sx_aR (σ := uI τ 96 fr 0) hX' rfl rfl (by decide) (by decide) (by decide) (hX'.2 95 0 96 rfl) ?_
      refine sx_aI (σ := uI τ 96 fr 0) hX' rfl rfl (by decide) (by omega) (by omega) ?_
      have f1 : FX [96, 97, 98, 99] τ0 (uI τ 96 fr 0) := g1.uI (by simp)
      have d0 : ∀ c, 0 ≤ c → c ≤ 63 → (uI τ 96 fr 0).2.1 (rwC 0) c = dd fs sl fr 0 c := fun c c0 c1 => by
        show (uI τ 96 fr 0).2.1 96 c = if c = fr then 0 else 100000
        rw [uW_at]
        by_cases hc : c = fr
        · rw [if_pos hc, if_pos hc]
        · rw [if_neg hc, if_neg hc]; exact g4 0 (by omega) (by omega) c c0 c1
      rw [show (uI τ 96 fr 0).2.1 96 to = dd fs sl fr 0 to from d0 to hto.1 hto.2]
      refine st_Jn ?_
      have z0 : dd fs sl fr 0 to = 0 ∨ dd fs sl fr 0 to = 100000 := by
        show (if to = fr then (0 : Int) else 100000) = 0 ∨ (if to = fr then (0 : Int) else 100000) = 100000
        split <;> simp
      unfold L_X9_fewestMinutes_74
      refine ok_fix (fun w => FX [96, 97, 98, 99] τ0 w.1 ∧ 1 ≤ w.2.2.2 ∧ w.2.2.2 ≤ fuel + 1 ∧ Sel (dTo fs sl fr to) w.2.2.2 w.2.1 w.2.2.1 ∧ ∀ g, 0 ≤ g → w.2.2.2 - 3 ≤ g → g < w.2.2.2 → ∀ c, 0 ≤ c → c ≤ 63 → w.1.2.1 (rwC g) c = dd fs sl fr g.toNat c) (fun w => (fuel + 1 - w.2.2.2).toNat) (fun back w hI hback => ?_) _ ⟨f1, Int.le_refl _, by dsimp only; omega, ?_, ?_⟩ (by dsimp only; omega)
      · obtain ⟨υ, best, burnt, f⟩ := w
        obtain ⟨k1, k2, k3, k4, k5⟩ := hI
        dsimp only at k1 k2 k3 k4 k5 hback ⊢
        have hX2 := k1.X hX
        have brg : 0 ≤ best ∧ best ≤ 100000 := by
          rcases k4 with ⟨a, _⟩ | ⟨_, a, _⟩
          · omega
          · have := ddr burnt.toNat to
            have e : dTo fs sl fr to burnt = dd fs sl fr burnt.toNat to := rfl
            omega
        refine ok_wlt (by omega) (by omega) (fun h2 => ?_) (fun h2 => ?_)
        · have : f = fuel + 1 := by omega
          subst this
          exact ok_wlt (by omega) (by omega) (fun h3 => ok_some ⟨best, burnt, by rw [if_pos h3], k1, k4⟩) (fun h3 => ok_some ⟨best, burnt, by rw [if_neg (by omega)], k1, k4⟩)
        · obtain ⟨φ, e, p1, p2⟩ := findRow_eq (N := N) hI (τ0 := υ) hX2 ((k1.2.2 _ (by simp; omega)).trans em) (fs := fs) (sl := sl) (fr := fr) (fun c c0 c1 => by rw [k1.2.2 93 (by decide), k1.2.2 94 (by decide)]; exact hfs c c0 c1) (f := f) (by omega) (fun h3 => k5 (f - 3) (by omega) (by omega) (by omega)) (fun h3 => k5 (f - 2) (by omega) (by omega) (by omega)) hN
          have rc := rwC_or f
          have p3 : FX [96, 97, 98, 99] τ0 φ := k1.trans (p1.mono (by intro k hk; rw [List.mem_singleton] at hk; rw [hk]; rcases rc with e | e | e | e <;> rw [e] <;> simp))
          have hX3 := p3.X hX
          obtain ⟨q1, q2, q3⟩ := row95 hX3 (i := f) (by omega)
          have dr := ddr f.toNat to
          have hDf : dTo fs sl fr to f = dd fs sl fr f.toNat to := rfl
          refine sx_rcv hX2 rfl rfl (ok_rw e ?_)
          dsimp only
          refine sx_gR hX3 rfl rfl rfl ?_
          refine sx_aR hX3 rfl rfl (by decide) q2 q3 q1 ?_
          refine sx_aI hX3 (rw_shp f).1 (rw_shp f).2 (by decide) (by omega) (by omega) ?_
          rw [p2 to hto.1 hto.2]
          refine st_Jn ?_
          have rows : ∀ g, 0 ≤ g → f + 1 - 3 ≤ g → g < f + 1 → ∀ c, 0 ≤ c → c ≤ 63 → φ.2.1 (rwC g) c = dd fs sl fr g.toNat c := fun g a b c' c c0 c1 => by
            by_cases hg : g = f
            · rw [hg]; exact p2 c c0 c1
            · rw [p1.2.2 (rwC g) (by rw [List.mem_singleton]; unfold rwC; omega)]
              exact k5 g a (by omega) (by omega) c c0 c1
          refine ok_wlt (by omega) (by omega) (fun h3 => ?_) (fun h3 => ?_)
          · refine sx_gR hX3 rfl rfl rfl ?_
            refine sx_aR hX3 rfl rfl (by decide) q2 q3 q1 ?_
            refine sx_aI hX3 (rw_shp f).1 (rw_shp f).2 (by decide) (by omega) (by omega) ?_
            rw [p2 to hto.1 hto.2]
            refine st_Lt ?_
            refine hback _ ⟨p3, by dsimp only; omega, by dsimp only; omega, ?_, rows⟩ (by dsimp only; omega)
            dsimp only
            refine .inr ⟨by omega, rfl, by omega, fun g a b => ?_, fun g a b => ?_⟩
            · rcases k4 with ⟨_, _, s3⟩ | ⟨_, _, _, _, s5⟩
              · have := s3 g a (by omega); omega
              · have := s5 g a (by omega); omega
            · by_cases hg : g = f
              · rw [hg]; exact Int.le_refl _
              · rcases k4 with ⟨_, _, s3⟩ | ⟨_, _, _, _, s5⟩
                · have := s3 g a (by omega); omega
                · have := s5 g a (by omega); omega
          · refine st_Lt ?_
            refine hback _ ⟨p3, by dsimp only; omega, by dsimp only; omega, ?_, rows⟩ (by dsimp only; omega)
            dsimp only
            rcases k4 with ⟨s1, s2, s3⟩ | ⟨s1, s2, s3, s4, s5⟩
            · refine .inl ⟨s1, s2, fun g a b => ?_⟩
              by_cases hg : g = f
              · rw [hg]; omega
              · exact s3 g a (by omega)
            · refine .inr ⟨by omega, s2, s3, s4, fun g a b => ?_⟩
              by_cases hg : g = f
              · rw [hg]; omega
              · exact s5 g a (by omega)
      · dsimp only
        rcases z0 with z | z
        · refine .inr ⟨by omega, rfl, by omega, fun g a b => by omega, fun g a b => ?_⟩
          have : g = 0 := by omega
          rw [this]; exact Int.le_refl _
        · refine .inl ⟨z, rfl, fun g a b => ?_⟩
          have : g = 0 := by omega
          rw [this]
          show 100000 ≤ dd fs sl fr 0 to
          omega
      · intro g a b c' c c0 c1
        dsimp only at b c' ⊢
        have : g = 0 := by omega
        rw [this]; exact d0 c c0 c1
  obtain ⟨⟨τ, v⟩, e, best, burnt, h1, h2, h3⟩ := H
  dsimp only at h1 h2
  subst h1
  exact ⟨τ, best, burnt, e, h2, h3⟩
/-- the reference's table -/
def Tw (fs sl : Int → Int) (fr most : Int) (S : Int → Int → Int → Prop) (υ : St) : Prop := ∀ e f : Int, (0 ≤ e ∧ e ≤ 63) → (0 ≤ f ∧ f ≤ 99) → (f = 0 → υ.2.1 43 (100 * e + f) = if e = fr then 0 else 1000000) ∧ (1 ≤ f → f ≤ most → Ls fs sl fr 1000000 S f e (υ.2.1 43 (100 * e + f)))
theorem Ls.same {fs sl : Int → Int} {fr far : Int} {S S' : Int → Int → Int → Prop} {f e T : Int} (hS : ∀ n g, nb n e → (g = f - 3 ∨ g = f - 2) → 0 ≤ g → (S n g e ↔ S' n g e)) (a : Ls fs sl fr far S f e T) : Ls fs sl fr far S' f e T := by
  have tr : ∀ v, Ct fs sl fr S f e v ↔ Ct fs sl fr S' f e v := fun v => by
    constructor
    · rintro ⟨n, hn, ⟨q1, q2, q3, q4⟩ | ⟨q1, q2, q3, q4⟩⟩
      · exact ⟨n, hn, .inl ⟨q1, q2, (hS n _ hn (.inl rfl) (by omega)).mp q3, q4⟩⟩
      · exact ⟨n, hn, .inr ⟨q1, q2, (hS n _ hn (.inr rfl) (by omega)).mp q3, q4⟩⟩
    · rintro ⟨n, hn, ⟨q1, q2, q3, q4⟩ | ⟨q1, q2, q3, q4⟩⟩
      · exact ⟨n, hn, .inl ⟨q1, q2, (hS n _ hn (.inl rfl) (by omega)).mpr q3, q4⟩⟩
      · exact ⟨n, hn, .inr ⟨q1, q2, (hS n _ hn (.inr rfl) (by omega)).mpr q3, q4⟩⟩
  rcases a with ⟨a1, a2⟩ | ⟨a1, a2⟩
  · exact .inl ⟨a1, fun v h => a2 v ((tr v).mpr h)⟩
  · exact .inr ⟨(tr _).mp a1, fun v h => a2 v ((tr v).mpr h)⟩
/-- one way more -/
theorem Ls.more {fs sl : Int → Int} {fr : Int} {S S' : Int → Int → Int → Prop} {f e T w : Int} (a : Ls fs sl fr 1000000 S f e T) (up : ∀ v, Ct fs sl fr S' f e v ↔ (Ct fs sl fr S f e v ∨ v = w)) (hw : w < 1000000) : Ls fs sl fr 1000000 S' f e (if w < T then w else T) := by
  rcases a with ⟨a1, a2⟩ | ⟨a1, a2⟩
  · rw [if_pos (by omega)]
    refine .inr ⟨(up _).mpr (.inr rfl), fun v h => ?_⟩
    rcases (up v).mp h with h | h
    · exact absurd h (a2 v)
    · omega
  · by_cases h1 : w < T
    · rw [if_pos h1]
      refine .inr ⟨(up _).mpr (.inr rfl), fun v h => ?_⟩
      rcases (up v).mp h with h | h
      · have := a2 v h; omega
      · omega
    · rw [if_neg h1]
      refine .inr ⟨(up _).mpr (.inl a1), fun v h => ?_⟩
      rcases (up v).mp h with h | h
      · exact a2 v h
      · omega
end W
