/-! the pure part: a FLIGHT, the class's PLAN -/
section F
variable {N : Nat} {σ σm : St}
theorem code_eqs {c : Int} (hc : 0 ≤ c ∧ c ≤ 100) : Int.tdiv (wr c) 9 = c / 9 ∧ Int.tmod (wr (Int.tdiv (wr c) 3)) 3 = c / 3 % 3 ∧ Int.tmod (wr c) 3 = c % 3 := by
  rw [wr_id (z := c) (by omega) (by omega), Int.tdiv_eq_ediv_of_nonneg hc.1, Int.tdiv_eq_ediv_of_nonneg hc.1, wr_id (by omega) (by omega), Int.tmod_eq_emod_of_nonneg (by omega), Int.tmod_eq_emod_of_nonneg hc.1]
  exact ⟨rfl, rfl, rfl⟩
theorem canPump_eq {m : Nat} (hm : isM m) (hk : Tk m σ) {pl : Int} {τ : St} (hτ : FlX σ τ m pl) {f : Int → Int} (h91 : ∀ t : Int, 0 ≤ t → t < 3 → τ.2.1 91 t = f t) (hv : vld (σ.2.1 (m + 13)) f) {c : Int} (hc : 1 ≤ c ∧ c ≤ 100) : ∃ r, f_X2_canPump N τ 73 m c = some (τ, r) ∧ ((r = 1 ∧ okP (σ.2.1 (m + 13)) f c) ∨ (r = 0 ∧ ¬ okP (σ.2.1 (m + 13)) f c)) := by
  obtain ⟨hX, ⟨e13, e12, e74, e75⟩, e0, e1, e2⟩ := hτ
  obtain ⟨c1, c2, c3⟩ := code_eqs (c := c) (by omega)
  have ka := hk (c / 3 % 3) (by omega) (by omega)
  have kb := hk (c % 3) (by omega) (by omega)
  have va := hv (c / 3 % 3) (by omega) (by omega)
  have vb := hv (c % 3) (by omega) (by omega)
  have H : Ok (f_X2_canPump N τ 73 m c) (fun q => q.1 = τ ∧ ((q.2 = 1 ∧ okP (σ.2.1 (m + 13)) f c) ∨ (q.2 = 0 ∧ ¬ okP (σ.2.1 (m + 13)) f c))) := by
    unfold f_X2_canPump
    rw [c1, c2, c3]
    refine st_Lt (st_Lt (st_Lt (st_Jn (st_Jn ?_))))
    have no : ¬ (0 < c / 9 ∧ c / 3 % 3 ≠ c % 3 ∧ c / 9 ≤ f (c / 3 % 3) ∧ f (c % 3) + c / 9 ≤ σ.2.1 (m + 13) (c % 3)) → ¬ okP (σ.2.1 (m + 13)) f c := fun q k => by
      rcases k with k | k
      · omega
      · exact q k
    refine ok_w0lt (by omega) (fun h1 => ?_) (fun h1 => ok_z0 (ok_some ⟨rfl, .inr ⟨rfl, no (by omega)⟩⟩))
    refine ok_weq (by omega) (by omega) (fun h2 => ok_z0 (ok_some ⟨rfl, .inr ⟨rfl, no (fun q => q.2.1 h2)⟩⟩)) (fun h2 => ok_z1 ?_)
    refine sx_gR hX rfl rfl rfl ?_
    refine sx_aI hX rfl rfl (by decide) (by omega) (by omega) ?_
    rw [h91 _ (by omega) (by omega)]
    refine ok_wlt (by omega) (by omega) (fun h3 => ok_some ⟨rfl, .inr ⟨rfl, no (fun q => by omega)⟩⟩) (fun h3 => ?_)
    refine sx_gR hX rfl rfl rfl ?_
    refine sx_aI hX rfl rfl (by decide) (by omega) (by omega) ?_
    rw [h91 _ (by omega) (by omega)]
    refine mx_gR hX hm rfl ?_
    refine mx_aI hX hm rfl (by decide) (by omega) (by omega) ?_
    rw [e13]
    exact ok_wlt (by omega) (by omega) (fun h4 => ok_some ⟨rfl, .inr ⟨rfl, no (fun q => by omega)⟩⟩) (fun h4 => ok_some ⟨rfl, .inl ⟨rfl, .inr ⟨h1, h2, h3, h4⟩⟩⟩)
  obtain ⟨⟨τ', r⟩, e, h1, h2⟩ := H
  dsimp only at h1 h2
  subst h1
  exact ⟨r, e, h2⟩
theorem pumped_eq (N : Nat) (τ : St) {s c : Int} (hc : 0 ≤ c ∧ c ≤ 100) : f_X2_pumpedState N τ s c = some (τ, s - c / 9 * wt (c / 3 % 3) + c / 9 * wt (c % 3)) := by
  obtain ⟨c1, c2, c3⟩ := code_eqs hc
  unfold f_X2_pumpedState
  rw [c1, c2, c3, wtZ_eq (by omega), wtZ_eq (by omega)]
  rfl
theorem pst {f : Int → Int} {s c : Int} (hs : s = 16 * f 0 + f 1) : s - c / 9 * wt (c / 3 % 3) + c / 9 * wt (c % 3) = 16 * gP f c 0 + gP f c 1 := by
  have a : c / 3 % 3 = 0 ∨ c / 3 % 3 = 1 ∨ c / 3 % 3 = 2 := by omega
  have b : c % 3 = 0 ∨ c % 3 = 1 ∨ c % 3 = 2 := by omega
  unfold gP wt
  generalize c / 9 = p
  rcases a with a | a | a <;> rcases b with b | b | b <;> rw [a, b] <;> simp <;> omega
theorem gst {f : Int → Int} {s u : Int} (hs : s = 16 * f 0 + f 1) (hu : 0 ≤ u ∧ u < 3) : s - wt u = 16 * gB f u 0 + gB f u 1 := by
  have : u = 0 ∨ u = 1 ∨ u = 2 := by omega
  unfold gB wt
  rcases this with rfl | rfl | rfl <;> simp <;> omega
/-- a valid state is one of the 256 -/
theorem st_rg {m : Nat} (hk : Tk m σ) {f : Int → Int} (hv : vld (σ.2.1 (m + 13)) f) : (0 ≤ f 1 ∧ f 1 < 16) ∧ 0 ≤ 16 * f 0 + f 1 ∧ 16 * f 0 + f 1 ≤ 255 := by
  have v := vld_iff.mp hv
  have k0 := hk 0 (by decide) (by decide)
  have k1 := hk 1 (by decide) (by decide)
  omega
theorem burnt_at {m : Nat} (hk : Tk m σ) (hf : FyOk σ) {pl dn : Int} (hd : dn < fI σ 73 0) {τ : St} (hX : WXr τ.1 τ.2.2) (hB : BtOk σ m pl dn τ) {f : Int → Int} (hv : vld (σ.2.1 (m + 13)) f) (hsum : sumF f = pl - dn) : f_X2_burntAt N τ 73 (16 * f 0 + f 1) = some (τ, τ.2.1 90 (16 * f 0 + f 1)) ∧ Mn (SBn σ m (fI σ 73 0 - (dn + 1)).toNat f 3) (τ.2.1 90 (16 * f 0 + f 1)) := by
  have sr := st_rg hk hv
  have ag := fv_of (pl := pl) (dn := dn) (f := f) rfl sr.1 hsum
  refine ⟨?_, ?_⟩
  · have H : Ok (f_X2_burntAt N τ 73 (16 * f 0 + f 1)) (fun q => q = (τ, τ.2.1 90 (16 * f 0 + f 1))) := by
      unfold f_X2_burntAt
      refine ok_within (by omega) (by omega) (by omega) (fun _ => ok_z1 ?_) (fun h => by exfalso; omega)
      refine sx_gR hX rfl rfl rfl ?_
      exact sx_aI hX rfl rfl (by decide) (by omega) (by omega) (ok_some rfl)
    obtain ⟨q, e, rfl⟩ := H
    exact e
  · have := (hB _ sr.2.1 sr.2.2).1 hd (vld_congr (ag_sym ag) hv)
    obtain ⟨m1, m2, m3⟩ := this
    have tr : ∀ f g : Int → Int, ag3 f g → ∀ v, SBn σ m (fI σ 73 0 - (dn + 1)).toNat f 3 v → SBn σ m (fI σ 73 0 - (dn + 1)).toNat g 3 v := fun f g h v hv => by
      obtain ⟨u, hu, k1, k2⟩ := hv
      exact ⟨u, hu, by rw [← h u hu.1 hu.2]; exact k1, by rw [k2]; exact WW_congr hf.2.1.1 _ (ag_gB h u)⟩
    exact ⟨m1, fun v hv' => m2 v (tr _ _ (ag_sym ag) v hv'), m3.imp id (tr _ _ ag _)⟩
theorem leastFrom_eq {m : Nat} (hm : isM m) (hk : Tk m σ) (hf : FyOk σ) {pl dn : Int} (hp : 0 ≤ pl ∧ pl ≤ 100) (hd : 0 ≤ dn ∧ dn ≤ fI σ 73 0) (hn1 : 1 ≤ fI σ 73 0) {τ0 : St} (hτ : FlX σ τ0 m pl) (hB : BtOk σ m pl dn τ0) {s : Int} (hs : 0 ≤ s ∧ s ≤ 255) (hN : 1000 < N) : ∃ τ r, f_X2_leastFrom N τ0 73 m dn s = some (τ, r) ∧ FX [91] τ0 τ ∧ (vld (σ.2.1 (m + 13)) (fv pl dn s) → r = if dn = 0 then vX σ m (fI σ 73 0).toNat (fv pl dn s) else wX σ m (fI σ 73 0 - dn).toNat (fv pl dn s)) ∧ (¬ vld (σ.2.1 (m + 13)) (fv pl dn s) → r = 1000) := by
  have hn := hf.1
  obtain ⟨υ, r, e, p1, p2, p3⟩ := fill2_eq (N := N) hm hk hτ.1 hτ.2.1.1 (dn := dn) (s := s) hτ.2.2.2.2 hp (by omega) hs
  have hτu := hτ.step hm p1 (by simp)
  have hX := hτu.1
  have H : Ok (f_X2_leastFrom N τ0 73 m dn s) (fun w => FX [91] τ0 w.1 ∧ (vld (σ.2.1 (m + 13)) (fv pl dn s) → w.2 = if dn = 0 then vX σ m (fI σ 73 0).toNat (fv pl dn s) else wX σ m (fI σ 73 0 - dn).toNat (fv pl dn s)) ∧ (¬ vld (σ.2.1 (m + 13)) (fv pl dn s) → w.2 = 1000)) := by
    unfold f_X2_leastFrom
    refine sx_rcv hτ.1 rfl rfl (ok_rw e ?_)
    dsimp only
    rcases p3 with ⟨rfl, hv⟩ | ⟨rfl, hv⟩
    · refine ok_z1 (st_Jn ?_)
      have es : s = 16 * (fv pl dn s 0) + fv pl dn s 1 := by unfold fv; simp; omega
      -- behind the balance
      have rest : Ok (Option.bind (gI shx υ 2 73 0) fun steps_3 => (if wr dn = wr steps_3 then some (υ, (0 : Int)) else Option.bind (gR shx υ 2 73 6) fun burnt_4 => Option.bind (aI shx υ 1 burnt_4 s) fun a5 => L_X2_leastFrom_51 N 73 m s (υ, 1) (a5, 9))) (fun w => w.1 = υ ∧ w.2 = vX σ m (fI σ 73 0 - dn).toNat (fv pl dn s)) := by
        refine sx_gI hX rfl rfl ?_
        rw [hτu.2.2.1]
        refine ok_weq (by omega) (by omega) (fun h1 => ok_some ⟨rfl, ?_⟩) (fun h1 => ?_)
        · rw [h1, Int.sub_self]; rfl
        · have e90 : υ.2.1 90 = τ0.2.1 90 := p1.2.2 90 (by decide)
          have hBu : BtOk σ m pl dn υ := fun s a b => by rw [e90]; exact hB s a b
          have hd1 : dn < fI σ 73 0 := by omega
          refine sx_gR hX rfl rfl rfl ?_
          refine sx_aI hX rfl rfl (by decide) (by omega) (by omega) ?_
          obtain ⟨b0, bm⟩ := burnt_at (N := N) hk hf hd1 hX hBu hv (fv_sum pl dn s)
          rw [← es] at b0 bm
          have kd : (fI σ 73 0 - dn).toNat = (fI σ 73 0 - (dn + 1)).toNat + 1 := by omega
          have hmn := VV_mn (H := σ.2.1 (m + 13)) (A := σ.2.1 (m + 12)) (lo := σ.2.1 74) (hi := σ.2.1 75) (n := fI σ 73 0) hf.2.1.1 (fI σ 73 0 - (dn + 1)).toNat (fv pl dn s)
          have brg : ∀ f' : Int → Int, Mn (SBn σ m (fI σ 73 0 - (dn + 1)).toNat f' 3) (υ.2.1 90 s) ∨ True := fun _ => .inr trivial
          have rgb : ∀ {x : Int} {f' : Int → Int}, Mn (SBn σ m (fI σ 73 0 - (dn + 1)).toNat f' 3) x → 0 ≤ x ∧ x ≤ 1000 := fun {x f'} h => by
            obtain ⟨m1, m2, m3⟩ := h
            refine ⟨?_, m1⟩
            rcases m3 with e | ⟨u, _, _, e⟩
            · omega
            · have := wX_rg hf m (fI σ 73 0 - (dn + 1)).toNat (gB f' u); omega
          -- a pumped state's worth
          have pv : ∀ c, 9 ≤ c → c ≤ 100 → okP (σ.2.1 (m + 13)) (fv pl dn s) c → f_X2_burntAt N υ 73 (s - c / 9 * wt (c / 3 % 3) + c / 9 * wt (c % 3)) = some (υ, υ.2.1 90 (16 * gP (fv pl dn s) c 0 + gP (fv pl dn s) c 1)) ∧ Mn (SBn σ m (fI σ 73 0 - (dn + 1)).toNat (gP (fv pl dn s) c) 3) (υ.2.1 90 (16 * gP (fv pl dn s) c 0 + gP (fv pl dn s) c 1)) := fun c c9 c100 hok => by
            rw [pst es]
            exact burnt_at hk hf hd1 hX hBu (vld_gP (by omega) hv hok) (by rw [sum_gP _ (by omega)]; exact fv_sum pl dn s)
          unfold L_X2_leastFrom_51
          refine ok_fix (fun w => (9 ≤ w.2 ∧ w.2 ≤ 36) ∧ (0 ≤ w.1 ∧ w.1 ≤ υ.2.1 90 s) ∧ (∀ c, 9 ≤ c → c < w.2 → okP (σ.2.1 (m + 13)) (fv pl dn s) c → w.1 ≤ c / 9 + υ.2.1 90 (16 * gP (fv pl dn s) c 0 + gP (fv pl dn s) c 1)) ∧ (w.1 = υ.2.1 90 s ∨ ∃ c, (9 ≤ c ∧ c < w.2) ∧ c < 9 * (fI σ 73 1 + 1) ∧ okP (σ.2.1 (m + 13)) (fv pl dn s) c ∧ w.1 = c / 9 + υ.2.1 90 (16 * gP (fv pl dn s) c 0 + gP (fv pl dn s) c 1))) (fun w => (36 - w.2).toNat) (fun back w hI hback => ?_) _ ⟨by dsimp only; omega, by dsimp only; exact ⟨(rgb bm).1, Int.le_refl _⟩, fun c a b => by dsimp only at b; omega, .inl rfl⟩ (by dsimp only; omega)
          obtain ⟨best, code⟩ := w
          obtain ⟨g1, g2, g3, g4⟩ := hI
          dsimp only at g1 g2 g3 g4 hback ⊢
          have rb := rgb bm
          have hP := hf.2.1
          refine sx_gI hX rfl rfl ?_
          rw [hτu.2.2.2.1, mnZ_eq (by omega) (by omega)]
          have lim : 0 ≤ (if best < fI σ 73 1 + 1 then best else fI σ 73 1 + 1) ∧ (if best < fI σ 73 1 + 1 then best else fI σ 73 1 + 1) ≤ 4 ∧ (if best < fI σ 73 1 + 1 then best else fI σ 73 1 + 1) ≤ best ∧ (if best < fI σ 73 1 + 1 then best else fI σ 73 1 + 1) ≤ fI σ 73 1 + 1 ∧ ((if best < fI σ 73 1 + 1 then best else fI σ 73 1 + 1) = best ∨ (if best < fI σ 73 1 + 1 then best else fI σ 73 1 + 1) = fI σ 73 1 + 1) := by split <;> omega
          generalize (if best < fI σ 73 1 + 1 then best else fI σ 73 1 + 1) = L at lim ⊢
          refine ok_wlt (by omega) (by omega) (fun h2 => ?_) (fun h2 => ok_some ⟨rfl, ?_⟩)
          · obtain ⟨r, ce, cr⟩ := canPump_eq (N := N) hm hk hτu p2 hv (c := code) (by omega)
            refine sx_rcv hX rfl rfl (ok_rw ce ?_)
            dsimp only
            refine st_Jn ?_
            rcases cr with ⟨rfl, hok⟩ | ⟨rfl, hok⟩
            · refine ok_z1 ?_
              obtain ⟨q1, q2⟩ := pv code g1.1 (by omega) hok
              have rq := rgb q2
              refine ok_rw (pumped_eq N υ (by omega)) ?_
              dsimp only
              refine sx_rcv hX rfl rfl (ok_rw q1 ?_)
              dsimp only
              rw [(code_eqs (c := code) (by omega)).1, mnZ_eq (by omega) (by omega)]
              refine st_Lt (st_Lt ?_)
              have il := imn_le best (code / 9 + υ.2.1 90 (16 * gP (fv pl dn s) code 0 + gP (fv pl dn s) code 1))
              show Ok (back (imn best (code / 9 + υ.2.1 90 (16 * gP (fv pl dn s) code 0 + gP (fv pl dn s) code 1)), code + 1)) _
              refine hback _ ⟨by dsimp only; omega, by dsimp only; omega, fun c a b k => ?_, ?_⟩ (by dsimp only; omega)
              · dsimp only at b ⊢
                by_cases hc : c = code
                · rw [hc]; exact il.2.1
                · exact Int.le_trans il.1 (g3 c a (by omega) k)
              · dsimp only
                rcases il.2.2 with e | e
                · rw [e]
                  rcases g4 with g4 | ⟨c, g5, g6, g7, g8⟩
                  · exact .inl g4
                  · exact .inr ⟨c, by omega, g6, g7, g8⟩
                · rw [e]
                  exact .inr ⟨code, by omega, by omega, hok, rfl⟩
            · refine ok_z0 (st_Lt ?_)
              refine hback _ ⟨by dsimp only; omega, by dsimp only; omega, fun c a b k => ?_, ?_⟩ (by dsimp only; omega)
              · dsimp only at b ⊢
                by_cases hc : c = code
                · rw [hc] at k; exact absurd k hok
                · exact g3 c a (by omega) k
              · rcases g4 with g4 | ⟨c, g5, g6, g7, g8⟩
                · exact .inl g4
                · exact .inr ⟨c, by dsimp only; omega, g6, g7, g8⟩
          · dsimp only
            unfold vX
            rw [kd]
            refine Mn.uniq (S := SV (σ.2.1 (m + 13)) (σ.2.1 (m + 12)) (σ.2.1 74) (σ.2.1 75) (fI σ 73 1) (fI σ 73 0) (fI σ 73 0 - (dn + 1)).toNat (fv pl dn s)) ⟨by omega, fun v hv' => ?_, ?_⟩ hmn
            · obtain ⟨u, c, ⟨hu, hc⟩, k1, k2, k3⟩ := hv'
              have wr0 := wX_rg hf m (fI σ 73 0 - (dn + 1)).toNat (gB (gP (fv pl dn s) c) u)
              unfold wX at wr0
              by_cases c0 : c = 0
              · subst c0
                rw [gP_0] at k2 k3
                have := bm.2.1 _ ⟨u, hu, k2, rfl⟩
                unfold wX at this
                have : (0 : Int) / 9 = 0 := rfl
                omega
              · have c9 : 9 ≤ c := by
                  rcases k1 with k1 | k1
                  · exact absurd k1 c0
                  · omega
                by_cases hc2 : c < code
                · have h5 := g3 c c9 hc2 k1
                  have h6 := (pv c c9 (by omega) k1).2.2.1 _ ⟨u, hu, k2, rfl⟩
                  unfold wX at h6
                  omega
                · omega
            · rcases g4 with g4 | ⟨c, g5, g6, g7, g8⟩
              · rcases bm.2.2 with e | ⟨u, hu, k1, k2⟩
                · exact .inl (by omega)
                · refine .inr ⟨u, 0, ⟨hu, by omega⟩, .inl rfl, by rw [gP_0]; exact k1, ?_⟩
                  rw [gP_0, g4, k2]
                  unfold wX
                  have : (0 : Int) / 9 = 0 := rfl
                  omega
              · rcases (pv c g5.1 (by omega) g7).2.2.2 with e | ⟨u, hu, k1, k2⟩
                · exact .inl (by omega)
                · refine .inr ⟨u, c, ⟨hu, by omega⟩, g7, k1, ?_⟩
                  rw [g8, k2]; rfl
      by_cases h0 : dn = 0
      · refine ok_w0lt (by omega) (fun h1 => by exfalso; omega) (fun _ => ?_)
        refine ok_mono rest (fun w hw => ⟨?_, fun _ => ?_, fun q => absurd hv q⟩)
        · rw [hw.1]; exact p1
        · rw [hw.2, if_pos h0, h0, Int.sub_zero]
      · refine ok_w0lt (by omega) (fun h1 => ?_) (fun h1 => by exfalso; omega)
        obtain ⟨r, be, br⟩ := balanced_eq (N := N) hm hk hf hτu p2 hv (i := dn - 1) (by omega) hN
        refine sx_rcv hX rfl rfl (ok_rw be ?_)
        dsimp only
        have ed : fI σ 73 0 - (((fI σ 73 0 - dn).toNat + 1 : Nat) : Int) = dn - 1 := by omega
        rcases br with ⟨rfl, hb⟩ | ⟨rfl, hb⟩
        · refine ok_z1 ?_
          refine ok_mono rest (fun w hw => ⟨?_, fun _ => ?_, fun q => absurd hv q⟩)
          · rw [hw.1]; exact p1
          · rw [hw.2, if_neg h0]
            unfold wX WW
            rw [ed, if_pos hb]; rfl
        · refine ok_z0 (ok_some ⟨p1, fun _ => ?_, fun q => absurd hv q⟩)
          rw [if_neg h0]
          unfold wX WW
          rw [ed, if_neg hb]
    · exact ok_z0 (ok_some ⟨p1, fun q => absurd q hv, fun _ => rfl⟩)
  obtain ⟨⟨τ, r⟩, e, h1, h2, h3⟩ := H
  exact ⟨τ, r, e, h1, h2, h3⟩
end F
