/-! the pure part: what follows from FACTS, the programs -/
def cls (v : Int) : Int := if v = 1000000 then -1 else v
def cn (σ : St) (f k : Int) : Int := if σ.2.1 70 f ≤ k ∧ (σ.2.1 71 f = -1 ∨ k < σ.2.1 71 f) then 1 else 0
def upE (E : Int → Int) (p v : Int) : Int → Int := fun q => if q = p ∧ v < E p then v else E q
def fcN (σ : St) (k : Int) : Nat → Int → (Int → Int) → (Int → Int)
  | 0, _, E => E
  | c + 1, f, E => fcN σ k c (f + 1) (if σ.2.1 67 f = 0 ∧ cn σ f k = 1 then upE E (σ.2.1 69 f) (σ.2.1 68 f) else E)
theorem Bd.up {E : Int → Int} {p v B : Int} (h : Bd B E) (hv : 0 ≤ v ∧ v ≤ B) : Bd B (upE E p v) := by
  intro q
  have h1 := h q
  unfold upE
  split <;> omega
theorem Bd.fcN {σ : St} {k : Int} : ∀ (c : Nat) (f : Int) (E : Int → Int), (∀ g, f ≤ g → g < f + (c : Int) → 0 ≤ σ.2.1 68 g ∧ σ.2.1 68 g ≤ 199) → Bd 199 E → Bd 199 (fcN σ k c f E)
  | 0, _, _, _, h => h
  | c + 1, f, E, hr, h => by
    refine Bd.fcN c (f + 1) _ (fun g a b => hr g (by omega) (by omega)) ?_
    split
    · exact h.up (hr f (by omega) (by omega))
    · exact h
def fcE (σ : St) (k : Int) : Int → Int := fcN σ k (fI σ 66 0).toNat 0 (fun _ => 1000000)
/-- the months in which PARTS MOVE -/
def moE (σ : St) (m : Nat) (k : Int) : Int → Int := rds (σ.2.1 (m + 9)) (σ.2.1 (m + 10)) (σ.2.1 (m + 11)) (fI σ m 11).toNat (fI σ m 1).toNat (fcE σ k)
section F
variable {N : Nat} {σ σm : St}
theorem counts_eq (hX : WXr σ.1 σ.2.2) (hF : IFacts σ σm) {f k : Int} (hf : 0 ≤ f ∧ f < fI σ 66 0) (hk : -2147483648 ≤ k ∧ k < 2147483648) : f_X1_counts N σ 66 f k = some (σ, cn σ f k) := by
  obtain ⟨⟨f1, f2, f3⟩, ⟨f4, f5, f6⟩, f7⟩ := hF
  obtain ⟨g1, g2, g3, g4⟩ := f7 f hf.1 hf.2
  have H : Ok (f_X1_counts N σ 66 f k) (fun q => q = (σ, cn σ f k)) := by
    unfold f_X1_counts cn
    repeat' first
      | with_reducible apply st_Lt
      | with_reducible apply st_Jn
      | ((with_reducible apply ok_some); try dsimp only)
      | with_reducible apply ok_z0
      | with_reducible apply ok_z1
      | ((with_reducible apply ok_gF_hit); exact hX; exact rfl; exact rfl)
      | ((with_reducible apply ok_gF_j); decide)
      | ((with_reducible apply ok_gF_k); (first | decide | omega))
      | ((with_reducible apply ok_gU_k); (first | decide | omega))
      | ((with_reducible apply ok_aF_k); (first | decide | omega))
      | ((with_reducible apply ok_aU_k); (first | decide | omega))
      | (with_reducible apply ok_rF)
      | (with_reducible apply ok_rU)
      | (with_reducible apply ok_qF)
      | (with_reducible apply ok_qU)
      | ((with_reducible apply sx_gI); exact hX; exact rfl; exact rfl)
      | ((with_reducible apply sx_gR); exact hX; exact rfl; exact rfl; exact rfl)
      | ((with_reducible apply sx_pI); exact hX; exact rfl; exact rfl)
      | ((with_reducible apply sx_rcv); exact hX; exact rfl; exact rfl)
      | ((with_reducible apply sx_aI); exact hX; exact rfl; exact rfl; exact (by decide); omega; omega)
      | ((with_reducible apply sx_sI); exact hX; exact rfl; exact rfl; exact (by decide); omega; omega)
      | ((with_reducible apply ok_rZ); (first | exact .inl rfl | exact .inr rfl))
      | ((with_reducible refine ok_within ?_ ?_ ?_ (fun hc => ?_) (fun hc => ?_)); omega; omega; omega)
      | ((with_reducible refine ok_month ?_ (fun hc => ?_) (fun hc => ?_)); omega)
      | ((with_reducible refine ok_tongue ?_ (fun hc => ?_) (fun hc => ?_)); omega)
      | ((with_reducible refine ok_money ?_ (fun hc => ?_) (fun hc => ?_)); omega)
      | ((with_reducible refine ok_isIn ?_ ?_ ?_ (fun hc => ?_) (fun hc => ?_)); omega; omega; omega)
      | ((with_reducible refine ok_wltp ?_ ?_ ?_ ?_); omega; omega; omega)
      | ((with_reducible refine ok_wltn ?_ ?_ ?_ ?_); omega; omega; omega)
      | ((with_reducible refine ok_wlt ?_ ?_ (fun hc => ?_) (fun hc => ?_)); omega; omega)
      | ((with_reducible refine ok_wlt0 ?_ (fun hc => ?_) (fun hc => ?_)); omega)
      | ((with_reducible refine ok_w0lt ?_ (fun hc => ?_) (fun hc => ?_)); omega)
      | ((with_reducible refine ok_weq ?_ ?_ (fun hc => ?_) (fun hc => ?_)); omega; omega)
      | ((with_reducible refine ok_weqc ?_ (fun hc => ?_) (fun hc => ?_)); omega)
    all_goals first | (exfalso; omega) | (rw [if_pos (by omega)]) | (rw [if_neg (by omega)])
  obtain ⟨q, e, rfl⟩ := H
  exact e
theorem cn_or (σ : St) (f k : Int) : (cn σ f k = 1 ∧ σ.2.1 70 f ≤ k ∧ (σ.2.1 71 f = -1 ∨ k < σ.2.1 71 f)) ∨ (cn σ f k = 0 ∧ ¬ (σ.2.1 70 f ≤ k ∧ (σ.2.1 71 f = -1 ∨ k < σ.2.1 71 f))) := by
  unfold cn
  split
  · exact .inl ⟨rfl, by assumption⟩
  · exact .inr ⟨rfl, by assumption⟩
theorem countsM_eq (hM : WMr σm.1 σm.2.2) (hF : IFacts σ σm) {f k kd : Int} (hf : 0 ≤ f ∧ f < fI σ 66 0) (hk : -2147483648 ≤ k ∧ k < 2147483648) (hd : 0 ≤ kd ∧ kd ≤ 2) : f_X12_counts N σm 1 f kd k = some (σm, if σ.2.1 67 f = kd ∧ cn σ f k = 1 then 1 else 0) := by
  obtain ⟨⟨f1, f2, f3⟩, ⟨f4, f5, f6⟩, f7⟩ := hF
  obtain ⟨g1, g2, g3, g4⟩ := f7 f hf.1 hf.2
  have hcn := cn_or σ f k
  have H : Ok (f_X12_counts N σm 1 f kd k) (fun q => q = (σm, if σ.2.1 67 f = kd ∧ cn σ f k = 1 then 1 else 0)) := by
    unfold f_X12_counts
    repeat' first
      | with_reducible apply st_Lt
      | with_reducible apply st_Jn
      | ((with_reducible apply ok_some); try dsimp only)
      | with_reducible apply ok_z0
      | with_reducible apply ok_z1
      | ((with_reducible apply om_gF_hit); exact hM)
      | ((with_reducible apply ok_gF_j); decide)
      | ((with_reducible apply ok_gF_k); (first | decide | omega))
      | ((with_reducible apply ok_gU_k); (first | decide | omega))
      | ((with_reducible apply ok_aF_k); (first | decide | omega))
      | ((with_reducible apply ok_aU_k); (first | decide | omega))
      | (with_reducible apply ok_rF)
      | (with_reducible apply ok_rU)
      | (with_reducible apply ok_qF)
      | (with_reducible apply ok_qU)
      | ((with_reducible apply sm_gI); exact hM)
      | ((with_reducible apply sm_gR); exact hM; exact rfl)
      | ((with_reducible apply sm_pI); exact hM)
      | ((with_reducible apply sm_rcv); exact hM)
      | ((with_reducible apply sm_aI); exact hM; exact rfl; exact rfl; exact (by decide); omega; omega)
      | ((with_reducible apply sm_sI); exact hM; exact rfl; exact rfl; exact (by decide); omega; omega)
      | ((with_reducible apply ok_rZ); (first | exact .inl rfl | exact .inr rfl))
      | ((with_reducible refine ok_within ?_ ?_ ?_ (fun hc => ?_) (fun hc => ?_)); omega; omega; omega)
      | ((with_reducible refine ok_month ?_ (fun hc => ?_) (fun hc => ?_)); omega)
      | ((with_reducible refine ok_tongue ?_ (fun hc => ?_) (fun hc => ?_)); omega)
      | ((with_reducible refine ok_money ?_ (fun hc => ?_) (fun hc => ?_)); omega)
      | ((with_reducible refine ok_isIn ?_ ?_ ?_ (fun hc => ?_) (fun hc => ?_)); omega; omega; omega)
      | ((with_reducible refine ok_wltp ?_ ?_ ?_ ?_); omega; omega; omega)
      | ((with_reducible refine ok_wltn ?_ ?_ ?_ ?_); omega; omega; omega)
      | ((with_reducible refine ok_wlt ?_ ?_ (fun hc => ?_) (fun hc => ?_)); omega; omega)
      | ((with_reducible refine ok_wlt0 ?_ (fun hc => ?_) (fun hc => ?_)); omega)
      | ((with_reducible refine ok_w0lt ?_ (fun hc => ?_) (fun hc => ?_)); omega)
      | ((with_reducible refine ok_weq ?_ ?_ (fun hc => ?_) (fun hc => ?_)); omega; omega)
      | ((with_reducible refine ok_weqc ?_ (fun hc => ?_) (fun hc => ?_)); omega)
    all_goals first | (exfalso; omega) | (rw [if_pos (by omega)]) | (rw [if_neg (by omega)])
  obtain ⟨q, e, rfl⟩ := H
  exact e
theorem moveBy_eq {τ : St} (hX : WXr τ.1 τ.2.2) {E : Int → Int} (hE : ∀ p : Int, 0 ≤ p → p < 12 → τ.2.1 72 p = cls (E p)) (hB : Bd 100000 E) {p v : Int} (hp : 0 ≤ p ∧ p < 12) (hv : 0 ≤ v ∧ v < 1000000) : ∃ υ, f_X1_moveBy N τ 66 p v = some (υ, 0) ∧ FX [72] τ υ ∧ ∀ q : Int, 0 ≤ q → q < 12 → υ.2.1 72 q = cls (upE E p v q) := by
  have H : Ok (f_X1_moveBy N τ 66 p v) (fun w => w.2 = 0 ∧ FX [72] τ w.1 ∧ ∀ q : Int, 0 ≤ q → q < 12 → w.1.2.1 72 q = cls (upE E p v q)) := by
    have h1 := hE p hp.1 hp.2
    have h2 := hB p
    unfold cls at h1
    have h3 : τ.2.1 72 p = -1 ∨ (0 ≤ τ.2.1 72 p ∧ τ.2.1 72 p ≤ 100000) := by split at h1 <;> omega
    unfold f_X1_moveBy
    repeat' first
      | with_reducible apply st_Lt
      | with_reducible apply st_Jn
      | ((with_reducible apply ok_some); try dsimp only)
      | with_reducible apply ok_z0
      | with_reducible apply ok_z1
      | ((with_reducible apply ok_gF_hit); exact hX; exact rfl; exact rfl)
      | ((with_reducible apply ok_gF_j); decide)
      | ((with_reducible apply ok_gF_k); (first | decide | omega))
      | ((with_reducible apply ok_gU_k); (first | decide | omega))
      | ((with_reducible apply ok_aF_k); (first | decide | omega))
      | ((with_reducible apply ok_aU_k); (first | decide | omega))
      | (with_reducible apply ok_rF)
      | (with_reducible apply ok_rU)
      | (with_reducible apply ok_qF)
      | (with_reducible apply ok_qU)
      | ((with_reducible apply sx_gI); exact hX; exact rfl; exact rfl)
      | ((with_reducible apply sx_gR); exact hX; exact rfl; exact rfl; exact rfl)
      | ((with_reducible apply sx_pI); exact hX; exact rfl; exact rfl)
      | ((with_reducible apply sx_rcv); exact hX; exact rfl; exact rfl)
      | ((with_reducible apply sx_aI); exact hX; exact rfl; exact rfl; exact (by decide); omega; omega)
      | ((with_reducible apply sx_sI); exact hX; exact rfl; exact rfl; exact (by decide); omega; omega)
      | ((with_reducible apply ok_rZ); (first | exact .inl rfl | exact .inr rfl))
      | ((with_reducible refine ok_within ?_ ?_ ?_ (fun hc => ?_) (fun hc => ?_)); omega; omega; omega)
      | ((with_reducible refine ok_month ?_ (fun hc => ?_) (fun hc => ?_)); omega)
      | ((with_reducible refine ok_tongue ?_ (fun hc => ?_) (fun hc => ?_)); omega)
      | ((with_reducible refine ok_money ?_ (fun hc => ?_) (fun hc => ?_)); omega)
      | ((with_reducible refine ok_isIn ?_ ?_ ?_ (fun hc => ?_) (fun hc => ?_)); omega; omega; omega)
      | ((with_reducible refine ok_wltp ?_ ?_ ?_ ?_); omega; omega; omega)
      | ((with_reducible refine ok_wltn ?_ ?_ ?_ ?_); omega; omega; omega)
      | ((with_reducible refine ok_wlt ?_ ?_ (fun hc => ?_) (fun hc => ?_)); omega; omega)
      | ((with_reducible refine ok_wlt0 ?_ (fun hc => ?_) (fun hc => ?_)); omega)
      | ((with_reducible refine ok_w0lt ?_ (fun hc => ?_) (fun hc => ?_)); omega)
      | ((with_reducible refine ok_weq ?_ ?_ (fun hc => ?_) (fun hc => ?_)); omega; omega)
      | ((with_reducible refine ok_weqc ?_ (fun hc => ?_) (fun hc => ?_)); omega)
    all_goals first | (exfalso; omega) | skip
    · refine ⟨rfl, FX.refl.uI (by decide), fun q q0 q1 => ?_⟩
      rw [uW_at]
      unfold upE
      by_cases hq : q = p
      · rw [if_pos hq, if_pos ⟨hq, by split at h1 <;> omega⟩]; unfold cls; rw [if_neg (by omega)]
      · rw [if_neg hq, if_neg (fun g => hq g.1)]; exact hE q q0 q1
    · refine ⟨rfl, FX.refl.uI (by decide), fun q q0 q1 => ?_⟩
      rw [uW_at]
      unfold upE
      by_cases hq : q = p
      · rw [if_pos hq, if_pos ⟨hq, by split at h1 <;> omega⟩]; unfold cls; rw [if_neg (by omega)]
      · rw [if_neg hq, if_neg (fun g => hq g.1)]; exact hE q q0 q1
    · refine ⟨rfl, FX.refl, fun q q0 q1 => ?_⟩
      unfold upE
      rw [if_neg (fun g => by split at h1 <;> omega)]; exact hE q q0 q1
  obtain ⟨⟨υ, v'⟩, e, h1, h2, h3⟩ := H
  dsimp only at h1 h2 h3
  subst h1
  exact ⟨υ, e, h2, h3⟩
end F
