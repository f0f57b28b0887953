/-! the pure part: WORKS, the ops SHARED and MAKER -/
section F
variable {N : Nat} {σ σm : St}
theorem feaW_all {c : Int → Int} {n : Nat} {R : Int} (hR : 0 ≤ R) : feaW c n R (fun _ => 2) := by
  have z : ∀ d : Int, d ≠ 2 → ∀ k : Nat, Twk c (fun _ => 2) d k = 0 := fun d hd k => by
    induction k with
    | zero => rfl
    | succ k ih => unfold Twk; rw [ih, if_neg (fun q => hd q.symm)]; rfl
  exact ⟨fun _ _ _ => ⟨(by decide : (0 : Int) ≤ 2), Int.le_refl _⟩, by rw [z 0 (by decide)]; exact hR, by rw [z 1 (by decide)]; exact hR⟩
theorem shared_eq {m : Nat} {bk : Int} (hM : WMr σm.1 σm.2.2) (hI : IMach m bk σ σm) {p : Int} (hp : 0 ≤ p ∧ p ≤ 100) (hN : 4000000 < N) : ∃ φ v, f_X12_seekShared N σm 1 p = some (φ, v) ∧ FM [47, 48] [84, 85, 86, 87] σm φ ∧ ∃ g, BestW (cW σ m) (fI σ m 1).toNat (RmW σ m p) g ∧ fI φ 1 84 = Twk (cW σ m) g 2 (fI σ m 1).toNat ∧ ∀ j : Int, 0 ≤ j → j < fI σ m 1 → φ.2.1 48 j = g j := by
  have hP := hI.2.2.2.2.1.2.1
  have i4 := hI.2.2.2.1
  have i3 := hI.2.2.1
  have rr := RmW_rg hI hp
  obtain ⟨n, hn⟩ : ∃ n : Nat, n = (fI σ m 1).toNat := ⟨_, rfl⟩
  have hn' : (n : Int) = fI σ m 1 := by omega
  rw [← hn]
  have prt : ∀ {φ : St}, FM [47, 48] [84, 85, 86, 87] σm φ → f_X12_parts N φ 1 = some (φ, (n : Int)) := fun {φ} g => by
    rw [parts_eq (g.M hM) ((g.f (by decide)).trans i3) i4, g.2.2.1 5 (by decide) (by simp), hP.1, hn']
  have H : Ok (f_X12_seekShared N σm 1 p) (fun w => FM [47, 48] [84, 85, 86, 87] σm w.1 ∧ BsW (cW σ m) n (RmW σ m p) (fun _ => True) w.1) := by
    unfold f_X12_seekShared
    refine ok_JnC (fun x => x = Cw (cW σ m) n) (fun x hx => ?_) (fun J hJ => ?_)
    · subst hx
      refine sm_rcv hM (ok_rw (prt FM.refl) ?_)
      dsimp only
      refine ok_JnC (fun x => x = if n = 0 then 0 else -1) (fun x hx => ?_) (fun J hJ => ok_weqc (by omega) (fun q => hJ _ (by rw [if_pos (by omega)])) (fun q => hJ _ (by rw [if_neg (by omega)])))
      refine sm_pI hM ?_
      refine sm_pI (σ := uF σm 1 84 x) hM ?_
      refine sm_pI (σ := uF (uF σm 1 84 x) 1 85 0) hM ?_
      refine sm_pI (σ := uF (uF (uF σm 1 84 x) 1 85 0) 1 86 0) hM ?_
      have f7 : FM [47, 48] [84, 85, 86, 87] σm (uF (uF (uF (uF σm 1 84 x) 1 85 0) 1 86 0) 1 87 0) := (((FM.refl.uF (by simp)).uF (by simp)).uF (by simp)).uF (by simp)
      have e84 : fI (uF (uF (uF (uF σm 1 84 x) 1 85 0) 1 86 0) 1 87 0) 1 84 = x := (fI_j (by decide)).trans ((fI_j (by decide)).trans ((fI_j (by decide)).trans fI_eq))
      have e85 : fI (uF (uF (uF (uF σm 1 84 x) 1 85 0) 1 86 0) 1 87 0) 1 85 = 0 := (fI_j (by decide)).trans ((fI_j (by decide)).trans fI_eq)
      have e86 : fI (uF (uF (uF (uF σm 1 84 x) 1 85 0) 1 86 0) 1 87 0) 1 86 = 0 := (fI_j (by decide)).trans fI_eq
      have e87 : fI (uF (uF (uF (uF σm 1 84 x) 1 85 0) 1 86 0) 1 87 0) 1 87 = 0 := fI_eq
      generalize uF (uF (uF (uF σm 1 84 x) 1 85 0) 1 86 0) 1 87 0 = σ7 at f7 e84 e85 e86 e87 ⊢
      have h7 := f7.M hM
      refine sm_rcv h7 (ok_rw (prt f7) ?_)
      dsimp only
      refine ok_JnC (fun y => y = if n = 0 then -1 else 0) (fun y hy => ?_) (fun J hJ => ok_weqc (by omega) (fun q => hJ _ (by rw [if_pos (by omega)])) (fun q => hJ _ (by rw [if_neg (by omega)])))
      refine sm_gR h7 rfl ?_
      refine sm_sI h7 rfl rfl (by decide) (by decide) (by decide) ?_
      have f8 : FM [47, 48] [84, 85, 86, 87] σm (uI σ7 47 0 (-1)) := f7.uI (by decide) (by simp)
      have z0 : (uI σ7 47 0 (-1)).2.1 47 0 = -1 := uI_eq
      have zs : ∀ s : Nat, fI (uI σ7 47 0 (-1)) 1 s = fI σ7 1 s := fun s => fI_uk (by decide)
      generalize uI σ7 47 0 (-1) = σ8 at f8 z0 zs ⊢
      have Ts : ∀ (d : Int), Twk (cW σ m) (σ8.2.1 47) d (0 + 1) = 0 + (if σ8.2.1 47 ((0 : Nat) : Int) = d then cW σ m ((0 : Nat) : Int) else 0) := fun _ => rfl
      refine seek86_eq hI hM hn' hp f8 ?_ (by omega) ?_
      · by_cases q : n = 0
        · rw [if_pos q] at hx hy
          refine .inl ⟨hy, .inr ⟨fun _ => 2, ⟨feaW_all rr.2.1, trivial⟩, ?_, fun j a b => by omega, fun h _ _ => ?_⟩⟩
          · rw [zs, e84, hx, q]; rfl
          · rw [q]
            exact ⟨Int.le_refl _, fun _ => Int.le_refl _⟩
        · rw [if_neg q] at hx hy
          refine .inr ⟨0, hy, by omega, fun j a b => by omega, ?_, ?_, .inl ⟨by rw [zs, e84, hx], fun h hf k => ?_⟩⟩
          · rw [hy, z0]; decide
          · unfold ShW
            rw [Ts, Ts, Ts, if_neg (by rw [show ((0 : Nat) : Int) = 0 from rfl, z0]; decide), if_neg (by rw [show ((0 : Nat) : Int) = 0 from rfl, z0]; decide), if_neg (by rw [show ((0 : Nat) : Int) = 0 from rfl, z0]; decide), zs, zs, zs, e85, e86, e87]
            exact ⟨rfl, rfl, rfl⟩
          · unfold DnW at k
            have a := hf.1 0 (by omega) (by omega)
            have q1 : Qw h (0 + 1) = 3 * 0 + h ((0 : Nat) : Int) := rfl
            have q2 : Qw (σ8.2.1 47) 0 = 0 := rfl
            rw [hy, z0, q1, q2] at k
            have q4 : h ((0 : Nat) : Int) = h 0 := rfl
            omega
      · by_cases q : n = 0
        · rw [if_pos q] at hy
          rw [hy]
          have : Smw (σ8.2.1 47) n (-1 + 1 : Int).toNat = 0 := rfl
          omega
        · rw [if_neg q] at hy
          rw [hy]
          have : Smw (σ8.2.1 47) n (0 + 1 : Int).toNat = 0 + (2 - σ8.2.1 47 0) * ((Tkn (n - 1 - 0) : Int) + 1) + 1 := rfl
          rw [this, z0]
          have := Tkn_le (n - 1 - 0) (by omega)
          omega
    · unfold L_X12_seekShared_4
      refine ok_fix (fun q => (0 ≤ q.2 ∧ q.2 ≤ (n : Int)) ∧ q.1 = Cw (cW σ m) q.2.toNat) (fun q => ((n : Int) - q.2).toNat) (fun back q hq hback => ?_) _ ⟨by dsimp only; omega, rfl⟩ (by dsimp only; omega)
      obtain ⟨s, i⟩ := q
      obtain ⟨g1, g2⟩ := hq
      dsimp only at g1 g2 hback ⊢
      refine sm_rcv hM (ok_rw (prt FM.refl) ?_)
      dsimp only
      refine ok_wlt (by omega) (by omega) (fun h3 => ?_) (fun h3 => hJ _ (by rw [g2, show i.toNat = n by omega]))
      have hc := (hI.2.2.2.2.2.1 i (by omega) (by omega)).2.2.2
      refine sm_gR hM rfl ?_
      refine sm_gI hM ?_
      rw [i3]
      refine sm_aI hM rfl rfl (by decide) (by omega) (by omega) ?_
      rw [hc.1]
      refine st_Lt (st_Lt (hback _ ⟨by dsimp only; omega, ?_⟩ (by dsimp only; omega)))
      dsimp only
      have e : Cw (cW σ m) (i.toNat + 1) = Cw (cW σ m) i.toNat + cW σ m ((i.toNat : Nat) : Int) := rfl
      rw [show (i + 1).toNat = i.toNat + 1 by omega, e, show ((i.toNat : Nat) : Int) = i by omega, g2]
      rfl
  obtain ⟨⟨φ, v⟩, e, h1, h2⟩ := H
  refine ⟨φ, v, e, h1, ?_⟩
  rcases h2 with ⟨a, b⟩ | ⟨g, ⟨a, _⟩, b, c, d⟩
  · exact absurd trivial (b _ (feaW_all rr.2.1))
  · exact ⟨g, ⟨a, fun h hf => d h hf trivial⟩, b, fun j x y => c j x (by omega)⟩
theorem WkG.keep {m : Nat} (hm : isM m) {p : Int} {τ : St} (f : FX [104, 105, 106, 107] σ τ) (h : WkG σ m p τ) : WkG τ m p τ := by
  have hml := isM_le hm
  have e1 : cW τ m = cW σ m := by unfold cW; rw [f.2.2 (m + 5) (by simp; omega)]
  have e2 : fI τ m 1 = fI σ m 1 := f.f (by simp; omega)
  unfold WkG RmW at h ⊢
  rw [e1, e2]
  exact h
theorem op_shared (hX : WXr σ.1 σ.2.2) (hM : WMr σm.1 σm.2.2) {m : Nat} {bk : Int} (hI : IMach m bk σ σm) (hW : IWk σ m) {a : Int} (ha : wr a = a) (hN : 4000000 < N) : Ok (f_X11_shared N σ 1 a) (fun v => Ok (f_X12_shared N σm 1 a) (fun w => wr v.2 = wr w.2 ∧ FX [104, 105, 106, 107] σ v.1 ∧ FM [47, 48] [84, 85, 86, 87] σm w.1 ∧ IWk v.1 m)) := by
  have hr := wr_rg ha
  unfold f_X11_shared f_X12_shared
  refine ok_within (by omega) (by omega) (by omega) (fun h1 => ok_z1 ?_) (fun h1 => ok_z0 (ok_some ?_))
  rotate_left
  · exact ok_isIn (by omega) (by omega) (by omega) (fun h2 => by omega) (fun h2 => ok_z0 (ok_some ⟨rfl, FX.refl, FM.refl, hW⟩))
  obtain ⟨τ, e, p1, p2, p3⟩ := divide_eq (N := N) hX hI hW h1 (by omega)
  obtain ⟨φ, v, e2, q1, g, q2, q3, q4⟩ := shared_eq (N := N) hM hI h1 hN
  refine sx_gR hX rfl rfl rfl ?_
  refine sx_gR1 hX hI.2.1 ?_
  refine sx_rcv hX rfl rfl (ok_rw e ?_)
  dsimp only
  refine sx_gR (p1.X hX) rfl rfl rfl ?_
  refine sx_gI (p1.X hX) rfl rfl (ok_some ?_)
  refine ok_isIn (by omega) (by omega) (by omega) (fun h2 => ok_z1 ?_) (fun h2 => by omega)
  refine sm_rcv hM (ok_rw e2 ?_)
  dsimp only
  refine sm_gI (q1.M hM) (ok_some ⟨?_, p1, q1, .inr ⟨by rw [p2]; omega, ?_⟩⟩)
  · obtain ⟨h, k1, k2, k3⟩ := p3
    rw [k2, q3, (k1.uniq q2).2]
  · rw [p2]
    exact p3.keep hI.1 p1
theorem op_maker (hX : WXr σ.1 σ.2.2) (hM : WMr σm.1 σm.2.2) {m : Nat} {bk : Int} (hI : IMach m bk σ σm) (hW : IWk σ m) {a b : Int} (ha : wr a = a) (hb : wr b = b) (hN : 4000000 < N) : Ok (f_X11_maker N σ 1 a b) (fun v => Ok (f_X12_maker N σm 1 a b) (fun w => wr v.2 = wr w.2 ∧ FX [104, 105, 106, 107] σ v.1 ∧ FM [47, 48] [84, 85, 86, 87] σm w.1 ∧ IWk v.1 m)) := by
  have hr := wr_rg ha
  have hs := wr_rg hb
  have hP := hI.2.2.2.2.1.2.1
  unfold f_X11_maker f_X12_maker
  refine sx_rcv hX rfl rfl (ok_part hX hI.1 hI.2.1 hP.2 hr (fun h1 => ok_z1 ?_) (fun h1 => ok_z0 (ok_some ?_)))
  rotate_left
  · exact sm_rcv hM (om_part hM hI.2.2.1 hI.2.2.2.1 hP.1 hP.2 hr (fun h2 => by omega) (fun h2 => ok_z0 (ok_some ⟨rfl, FX.refl, FM.refl, hW⟩)))
  have ref : ∀ {Q : St × Int → Prop}, Ok (Option.bind (rcv shm σm 12 1 (f_X12_shared N σm 1 b)) fun q2 => (if wr q2.2 < 0 then some (q2.1, (-1)) else Option.bind (gR shm q2.1 12 1 83) fun bestMakes_3 => Option.bind (aI shm q2.1 1 bestMakes_3 a) fun a4 => some (q2.1, a4))) Q → Ok (f_X12_maker N σm 1 a b) Q := fun {Q} h => by
    unfold f_X12_maker
    exact sm_rcv hM (om_part hM hI.2.2.1 hI.2.2.2.1 hP.1 hP.2 hr (fun h2 => ok_z1 h) (fun h2 => by omega))
  unfold f_X12_maker at ref
  refine ok_within (by omega) (by omega) (by omega) (fun h2 => ok_z1 ?_) (fun h2 => ok_z0 (ok_some (ref ?_)))
  rotate_left
  · have e : f_X12_shared N σm 1 b = some (σm, -1) := by
      have H : Ok (f_X12_shared N σm 1 b) (fun q => q = (σm, -1)) := by
        unfold f_X12_shared
        exact ok_isIn (by omega) (by omega) (by omega) (fun h3 => by omega) (fun h3 => ok_z0 (ok_some rfl))
      obtain ⟨q, e, rfl⟩ := H
      exact e
    exact sm_rcv hM (ok_rw e (ok_wlt0 (by dsimp only; omega) (fun _ => ok_some ⟨rfl, FX.refl, FM.refl, hW⟩) (fun q => by dsimp only at q; omega)))
  obtain ⟨τ, e, p1, p2, p3⟩ := divide_eq (N := N) hX hI hW h2 (by omega)
  obtain ⟨φ, v, e2, q1, g, q2, q3, q4⟩ := shared_eq (N := N) hM hI h2 hN
  have hτ := p1.X hX
  have hφ := q1.M hM
  obtain ⟨h, k1, k2, k3⟩ := id p3
  have un := k1.uniq q2
  have hn : ((fI σ m 1).toNat : Int) = fI σ m 1 := by omega
  have ea : h a = g a := un.1 a h1.1 (by omega)
  refine sx_gR hX rfl rfl rfl ?_
  refine sx_gR1 hX hI.2.1 ?_
  refine sx_rcv hX rfl rfl (ok_rw e ?_)
  dsimp only
  refine sx_gR hτ rfl rfl rfl ?_
  refine sx_rcv hτ rfl rfl (ok_bind ?_)
  unfold f_X10_makerOf
  refine ok_within (by omega) (by omega) (by omega) (fun h3 => ok_z1 ?_) (fun h3 => by omega)
  refine sx_gR hτ rfl rfl rfl ?_
  refine sx_aI hτ rfl rfl (by decide) (by omega) (by omega) (ok_some (ok_some (ref ?_)))
  have e3 : f_X12_shared N σm 1 b = some (φ, fI φ 1 84) := by
    have H : Ok (f_X12_shared N σm 1 b) (fun q => q = (φ, fI φ 1 84)) := by
      unfold f_X12_shared
      refine ok_isIn (by omega) (by omega) (by omega) (fun h3 => ok_z1 ?_) (fun h3 => by omega)
      exact sm_rcv hM (ok_rw e2 (sm_gI hφ (ok_some rfl)))
    obtain ⟨q, e, rfl⟩ := H
    exact e
  have t2 := Twk_rg (c := cW σ m) (h := g) (d := 2) (fI σ m 1).toNat fun j a b => (hI.2.2.2.2.2.1 j a (by omega)).2.2.2.2
  refine sm_rcv hM (ok_rw e3 ?_)
  dsimp only
  refine ok_wlt0 (by omega) (fun q => by omega) (fun _ => ?_)
  refine sm_gR hφ rfl ?_
  refine sm_aI hφ rfl rfl (by decide) (by omega) (by omega) (ok_some ⟨?_, p1, q1, .inr ⟨by rw [p2]; omega, ?_⟩⟩)
  · rw [k3 a h1.1 h1.2, q4 a h1.1 h1.2, ea]
  · rw [p2]
    exact p3.keep hI.1 p1
end F
