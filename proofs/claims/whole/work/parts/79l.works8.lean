/-! the pure part: WORKS, the reference searches; SHARED and MAKER -/
section F
variable {N : Nat} {σ σm : St}
theorem give_eq {m : Nat} {bk : Int} (hI : IMach m bk σ σm) {φ : St} (hM : WMr φ.1 φ.2.2) (fφ : FM [47, 48] [84, 85, 86, 87] σm φ) {i s : Int} (hi : 0 ≤ i ∧ i < fI σ m 1) (h3 : 0 ≤ φ.2.1 47 i ∧ φ.2.1 47 i ≤ 2) : ∃ ψ, f_X12_give N φ 1 i s = some (ψ, 0) ∧ FM [] [85, 86, 87] φ ψ ∧ fI ψ 1 85 = fI φ 1 85 + (if φ.2.1 47 i = 1 then 0 else s * cW σ m i) ∧ fI ψ 1 86 = fI φ 1 86 + (if φ.2.1 47 i = 0 then 0 else s * cW σ m i) ∧ fI ψ 1 87 = fI φ 1 87 + (if φ.2.1 47 i = 2 then s * cW σ m i else 0) := by
  have hP := hI.2.2.2.2.1.2.1
  have i4 := hI.2.2.2.1
  have i3 : fI φ 1 31 = bk := (fφ.f (by decide)).trans hI.2.2.1
  have hc := (hI.2.2.2.2.2.1 i hi.1 hi.2).2.2.2
  have e12 : φ.2.1 12 = σm.2.1 12 := fφ.2.2.1 12 (by decide) (by decide)
  generalize hd : φ.2.1 47 i = d at h3 ⊢
  have H : Ok (f_X12_give N φ 1 i s) (fun w => w.2 = 0 ∧ FM [] [85, 86, 87] φ w.1 ∧ fI w.1 1 85 = fI φ 1 85 + (if d = 1 then 0 else s * cW σ m i) ∧ fI w.1 1 86 = fI φ 1 86 + (if d = 0 then 0 else s * cW σ m i) ∧ fI w.1 1 87 = fI φ 1 87 + (if d = 2 then s * cW σ m i else 0)) := by
    unfold f_X12_give
    refine sm_gR hM rfl ?_
    refine sm_gI hM ?_
    rw [i3]
    refine sm_aI hM rfl rfl (by decide) (by omega) (by omega) ?_
    rw [e12, hc.1]
    refine st_Lt ?_
    refine sm_gI hM ?_
    refine sm_gR hM rfl ?_
    refine sm_aI hM rfl rfl (by decide) (by omega) (by omega) ?_
    rw [hd]
    refine ok_JnC (fun x => x = if d = 1 then 0 else s * cW σ m i) (fun x hx => ?_) (fun J hJ => ok_weq (by omega) (by decide) (fun q => hJ _ (by rw [if_pos q])) (fun q => hJ _ (by rw [if_neg q]; rfl)))
    refine sm_pI hM ?_
    refine sm_gI (σ := uF φ 1 85 (fI φ 1 85 + x)) hM ?_
    refine sm_gR (σ := uF φ 1 85 (fI φ 1 85 + x)) hM rfl ?_
    refine sm_aI (σ := uF φ 1 85 (fI φ 1 85 + x)) hM rfl rfl (by decide) (by omega) (by omega) ?_
    rw [show (uF φ 1 85 (fI φ 1 85 + x)).2.1 47 i = d from (uF_k (by decide)).trans hd]
    refine ok_JnC (fun y => y = if d = 0 then 0 else s * cW σ m i) (fun y hy => ?_) (fun J hJ => ok_weqc (by omega) (fun q => hJ _ (by rw [if_pos q])) (fun q => hJ _ (by rw [if_neg q]; rfl)))
    refine sm_pI (σ := uF φ 1 85 (fI φ 1 85 + x)) hM ?_
    rw [show fI (uF φ 1 85 (fI φ 1 85 + x)) 1 86 = fI φ 1 86 from fI_j (by decide)]
    refine sm_gI (σ := uF (uF φ 1 85 (fI φ 1 85 + x)) 1 86 (fI φ 1 86 + y)) hM ?_
    refine sm_gR (σ := uF (uF φ 1 85 (fI φ 1 85 + x)) 1 86 (fI φ 1 86 + y)) hM rfl ?_
    refine sm_aI (σ := uF (uF φ 1 85 (fI φ 1 85 + x)) 1 86 (fI φ 1 86 + y)) hM rfl rfl (by decide) (by omega) (by omega) ?_
    rw [show (uF (uF φ 1 85 (fI φ 1 85 + x)) 1 86 (fI φ 1 86 + y)).2.1 47 i = d from (uF_k (by decide)).trans ((uF_k (by decide)).trans hd)]
    refine ok_JnC (fun z => z = if d = 2 then s * cW σ m i else 0) (fun z hz => ?_) (fun J hJ => ok_weq (by omega) (by decide) (fun q => hJ _ (by rw [if_pos q]; rfl)) (fun q => hJ _ (by rw [if_neg q])))
    refine sm_pI (σ := uF (uF φ 1 85 (fI φ 1 85 + x)) 1 86 (fI φ 1 86 + y)) hM (ok_some ?_)
    rw [show fI (uF (uF φ 1 85 (fI φ 1 85 + x)) 1 86 (fI φ 1 86 + y)) 1 87 = fI φ 1 87 from (fI_j (by decide)).trans (fI_j (by decide))]
    refine ⟨rfl, ((FM.refl.uF (by simp)).uF (by simp)).uF (by simp), ?_, ?_, ?_⟩
    · dsimp only
      rw [fI_j (by decide), fI_j (by decide), fI_eq, hx]
    · dsimp only
      rw [fI_j (by decide), fI_eq, hy]
    · dsimp only
      rw [fI_eq, hz]
  obtain ⟨⟨ψ, v⟩, e, h1, h2⟩ := H
  dsimp only at h1 h2
  subst h1
  exact ⟨ψ, e, h2⟩
def ShW (c mk : Int → Int) (k : Nat) (φ : St) : Prop := fI φ 1 85 = Twk c mk 0 k + Twk c mk 2 k ∧ fI φ 1 86 = Twk c mk 1 k + Twk c mk 2 k ∧ fI φ 1 87 = Twk c mk 2 k
theorem ShW.next {c mk : Int → Int} {k : Nat} {φ ψ : St} {s : Int} (h : ShW c mk k φ) (hd : 0 ≤ mk (k : Int) ∧ mk (k : Int) ≤ 2) (hs : s = 1) (e1 : fI ψ 1 85 = fI φ 1 85 + (if mk (k : Int) = 1 then 0 else s * c (k : Int))) (e2 : fI ψ 1 86 = fI φ 1 86 + (if mk (k : Int) = 0 then 0 else s * c (k : Int))) (e3 : fI ψ 1 87 = fI φ 1 87 + (if mk (k : Int) = 2 then s * c (k : Int) else 0)) : ShW c mk (k + 1) ψ := by
  obtain ⟨h1, h2, h3⟩ := h
  subst hs
  have q : ∀ d, Twk c mk d (k + 1) = Twk c mk d k + (if mk (k : Int) = d then c (k : Int) else 0) := fun _ => rfl
  unfold ShW
  rw [q, q, q, e1, e2, e3, h1, h2, h3]
  have : mk (k : Int) = 0 ∨ mk (k : Int) = 1 ∨ mk (k : Int) = 2 := by omega
  rcases this with x | x | x <;> rw [x] <;> simp <;> omega
theorem ShW.prev {c mk : Int → Int} {k : Nat} {φ ψ : St} {s : Int} (h : ShW c mk (k + 1) φ) (hd : 0 ≤ mk (k : Int) ∧ mk (k : Int) ≤ 2) (hs : s = -1) (e1 : fI ψ 1 85 = fI φ 1 85 + (if mk (k : Int) = 1 then 0 else s * c (k : Int))) (e2 : fI ψ 1 86 = fI φ 1 86 + (if mk (k : Int) = 0 then 0 else s * c (k : Int))) (e3 : fI ψ 1 87 = fI φ 1 87 + (if mk (k : Int) = 2 then s * c (k : Int) else 0)) : ShW c mk k ψ := by
  obtain ⟨h1, h2, h3⟩ := h
  subst hs
  have q : ∀ d, Twk c mk d (k + 1) = Twk c mk d k + (if mk (k : Int) = d then c (k : Int) else 0) := fun _ => rfl
  rw [q, q] at h1 h2
  rw [q] at h3
  unfold ShW
  rw [e1, e2, e3, h1, h2, h3]
  have : mk (k : Int) = 0 ∨ mk (k : Int) = 1 ∨ mk (k : Int) = 2 := by omega
  rcases this with x | x | x <;> rw [x] <;> simp <;> omega
theorem ShW.congr {c g h : Int → Int} {k : Nat} {φ ψ : St} (a : ShW c g k φ) (e : ∀ j : Int, 0 ≤ j → j < (k : Int) → h j = g j) (e1 : fI ψ 1 85 = fI φ 1 85) (e2 : fI ψ 1 86 = fI φ 1 86) (e3 : fI ψ 1 87 = fI φ 1 87) : ShW c h k ψ := by
  unfold ShW at a ⊢
  rw [e1, e2, e3, Tw_congr k e, Tw_congr k e, Tw_congr k e]
  exact a
def DnW (mk : Int → Int) (k : Nat) (d : Int) (h : Int → Int) : Prop := Qw h (k + 1) < 3 * Qw mk k + d + 1
/-- at a loop's head -/
def HdW (σ : St) (m n : Nat) (R : Int) (φ : St) (i : Int) : Prop := (i = -1 ∧ BsW (cW σ m) n R (fun _ => True) φ) ∨ (∃ k : Nat, i = (k : Int) ∧ k < n ∧ digW k (φ.2.1 47) ∧ (-1 ≤ φ.2.1 47 i ∧ φ.2.1 47 i ≤ 2) ∧ ShW (cW σ m) (φ.2.1 47) (k + 1) φ ∧ BsW (cW σ m) n R (DnW (φ.2.1 47) k (φ.2.1 47 i)) φ)
end F
