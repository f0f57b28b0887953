/-! the pure part: the relation's plain parts -/
def ITape (σx σm : St) : Prop := fI σm 1 2 = fI σx 2 2 ∧ 0 ≤ fI σx 2 2 ∧ fI σx 2 2 ≤ 1300 ∧ (∀ j : Int, 0 ≤ j → j < fI σx 2 2 → σx.2.1 4 j = (σm.2.1 2 j) % 256) ∧ fI σm 1 4 = fI σx 2 12 ∧ fI σm 1 5 = fI σx 2 13 ∧ 0 ≤ fI σx 2 12 ∧ fI σx 2 12 ≤ 7 ∧ -1 ≤ fI σx 2 13 ∧ fI σx 2 13 ≤ 1300
def IFacts (σx σm : St) : Prop := (fI σm 1 67 = fI σx 66 0 ∧ 0 ≤ fI σx 66 0 ∧ fI σx 66 0 ≤ 200) ∧ (fI σm 1 68 = fI σx 66 1 ∧ 0 ≤ fI σx 66 1 ∧ fI σx 66 1 ≤ 100000) ∧
  ∀ f : Int, 0 ≤ f → f < fI σx 66 0 → (σm.2.1 33 f = σx.2.1 67 f ∧ 0 ≤ σx.2.1 67 f ∧ σx.2.1 67 f ≤ 2) ∧ (σm.2.1 36 f = σx.2.1 70 f ∧ 0 ≤ σx.2.1 70 f ∧ σx.2.1 70 f ≤ 100000) ∧ (σm.2.1 37 f = σx.2.1 71 f ∧ -1 ≤ σx.2.1 71 f ∧ σx.2.1 71 f ≤ 100000) ∧ (0 ≤ σx.2.1 68 f ∧ σx.2.1 68 f ≤ 199) ∧
    (σx.2.1 67 f = 0 → σm.2.1 34 f = σx.2.1 69 f ∧ σm.2.1 35 f = σx.2.1 68 f ∧ 0 ≤ σx.2.1 69 f ∧ σx.2.1 69 f ≤ 11) ∧
    (σx.2.1 67 f ≠ 0 → σm.2.1 34 f = σx.2.1 68 f ∧ σm.2.1 35 f = σx.2.1 69 f) ∧ (0 ≤ σx.2.1 69 f ∧ σx.2.1 69 f ≤ 99999) ∧ (σx.2.1 67 f = 2 → 1 ≤ σx.2.1 69 f ∧ σx.2.1 69 f ≤ 255)
def IAir (σx σm : St) : Prop := fI σm 1 81 = fI σx 100 0 ∧ 0 ≤ fI σx 100 0 ∧ fI σx 100 0 ≤ 10 ∧ ∀ a : Int, 0 ≤ a → a < fI σx 100 0 → σm.2.1 44 a = σx.2.1 101 a ∧ 0 ≤ σx.2.1 101 a ∧ σx.2.1 101 a ≤ 999 ∧ σm.2.1 45 a = σx.2.1 102 a ∧ 0 ≤ σx.2.1 102 a ∧ σx.2.1 102 a ≤ 199
def IFly (σx σm : St) : Prop := (fI σm 1 73 = fI σx 73 0 ∧ 0 ≤ fI σx 73 0 ∧ fI σx 73 0 ≤ 12) ∧ (fI σm 1 74 = fI σx 73 1 ∧ 0 ≤ fI σx 73 1 ∧ fI σx 73 1 ≤ 3) ∧ ∀ s : Int, 0 ≤ s → s < fI σx 73 0 → σm.2.1 39 s = σx.2.1 74 s ∧ 0 ≤ σx.2.1 74 s ∧ σx.2.1 74 s ≤ 99 ∧ σm.2.1 40 s = σx.2.1 75 s ∧ 0 ≤ σx.2.1 75 s ∧ σx.2.1 75 s ≤ 99
def IStg (σx σm : St) : Prop := (fI σm 1 91 = fI σx 108 0 ∧ 0 ≤ fI σx 108 0 ∧ fI σx 108 0 ≤ 8) ∧ (fI σm 1 92 = fI σx 108 1 ∧ 0 ≤ fI σx 108 1 ∧ fI σx 108 1 ≤ 9) ∧ (fI σm 1 93 = fI σx 108 2 ∧ 0 ≤ fI σx 108 2 ∧ fI σx 108 2 ≤ 4) ∧ ∀ s : Int, 0 ≤ s → s < fI σx 108 0 → σm.2.1 49 s = σx.2.1 109 s ∧ 0 ≤ σx.2.1 109 s ∧ σx.2.1 109 s ≤ 30 ∧ σm.2.1 50 s = σx.2.1 110 s ∧ 0 ≤ σx.2.1 110 s ∧ σx.2.1 110 s ≤ 10
/-- the machine: m its cell, bk the reference's bank -/
def RMc (m : Nat) (bk : Int) (σx σm : St) : Prop := (σm.2.1 4 bk = fI σx m 0 ∧ 0 ≤ fI σx m 0 ∧ fI σx m 0 ≤ 1300) ∧ (σm.2.1 5 bk = fI σx m 1 ∧ 0 ≤ fI σx m 1 ∧ fI σx m 1 ≤ 12) ∧ (σm.2.1 6 bk = fI σx m 7 ∧ 0 ≤ fI σx m 7 ∧ fI σx m 7 ≤ 16) ∧ (σm.2.1 7 bk = fI σx m 11 ∧ 0 ≤ fI σx m 11 ∧ fI σx m 11 ≤ 16) ∧ (σm.2.1 8 bk = fI σx m 15 ∧ 0 ≤ fI σx m 15 ∧ fI σx m 15 ≤ 3)
def RMp (m : Nat) (bk : Int) (σx σm : St) : Prop := ∀ i : Int, 0 ≤ i → i < fI σx m 1 → (σm.2.1 9 (12 * bk + i) = σx.2.1 (m + 2) i ∧ 0 ≤ σx.2.1 (m + 2) i ∧ σx.2.1 (m + 2) i ≤ 1) ∧ (σm.2.1 10 (12 * bk + i) = σx.2.1 (m + 3) i ∧ 10 ≤ σx.2.1 (m + 3) i ∧ σx.2.1 (m + 3) i ≤ 25374) ∧ (σm.2.1 11 (12 * bk + i) = σx.2.1 (m + 4) i ∧ 0 ≤ σx.2.1 (m + 4) i ∧ σx.2.1 (m + 4) i ≤ 99) ∧ (σm.2.1 12 (12 * bk + i) = σx.2.1 (m + 5) i ∧ 0 ≤ σx.2.1 (m + 5) i ∧ σx.2.1 (m + 5) i ≤ 999)
def RMj (m : Nat) (bk : Int) (σx σm : St) : Prop := ∀ j : Int, 0 ≤ j → j < fI σx m 7 → (σm.2.1 13 (16 * bk + j) = σx.2.1 (m + 6) j ∧ 0 ≤ σx.2.1 (m + 6) j ∧ σx.2.1 (m + 6) j < fI σx m 1) ∧ (σm.2.1 14 (16 * bk + j) = σx.2.1 (m + 7) j ∧ 0 ≤ σx.2.1 (m + 7) j ∧ σx.2.1 (m + 7) j < fI σx m 1) ∧ σx.2.1 (m + 6) j ≠ σx.2.1 (m + 7) j ∧ (σm.2.1 15 (16 * bk + j) = σx.2.1 (m + 8) j ∧ 0 ≤ σx.2.1 (m + 8) j ∧ σx.2.1 (m + 8) j ≤ 99)
def RMv (m : Nat) (bk : Int) (σx σm : St) : Prop := ∀ j : Int, 0 ≤ j → j < fI σx m 11 → (σm.2.1 16 (16 * bk + j) = σx.2.1 (m + 9) j ∧ 0 ≤ σx.2.1 (m + 9) j ∧ σx.2.1 (m + 9) j < fI σx m 1) ∧ (σm.2.1 17 (16 * bk + j) = σx.2.1 (m + 10) j ∧ 0 ≤ σx.2.1 (m + 10) j ∧ σx.2.1 (m + 10) j < fI σx m 1) ∧ σx.2.1 (m + 9) j ≠ σx.2.1 (m + 10) j ∧ (σm.2.1 18 (16 * bk + j) = σx.2.1 (m + 11) j ∧ 0 ≤ σx.2.1 (m + 11) j ∧ σx.2.1 (m + 11) j ≤ 24)
def RMt (m : Nat) (bk : Int) (σx σm : St) : Prop := ∀ t : Int, 0 ≤ t → t < 3 → (t < fI σx m 15 → σm.2.1 19 (3 * bk + t) = σx.2.1 (m + 12) t ∧ 0 ≤ σx.2.1 (m + 12) t ∧ σx.2.1 (m + 12) t ≤ 99 ∧ σm.2.1 20 (3 * bk + t) = σx.2.1 (m + 13) t ∧ 1 ≤ σx.2.1 (m + 13) t ∧ σx.2.1 (m + 13) t ≤ 15) ∧ (fI σx m 15 ≤ t → σx.2.1 (m + 12) t = 0 ∧ σx.2.1 (m + 13) t = 0)
def RMg (m : Nat) (bk : Int) (σx σm : St) : Prop := ∀ c : Int, 0 ≤ c → c < 64 → σm.2.1 21 (64 * bk + c) = σx.2.1 (m + 14) c ∧ 0 ≤ σx.2.1 (m + 14) c ∧ σx.2.1 (m + 14) c ≤ 7
def RMach (m : Nat) (bk : Int) (σx σm : St) : Prop := RMc m bk σx σm ∧ RMp m bk σx σm ∧ RMj m bk σx σm ∧ RMv m bk σx σm ∧ RMt m bk σx σm ∧ RMg m bk σx σm
def IMach (m : Nat) (bk : Int) (σx σm : St) : Prop := isM m ∧ σx.2.2 1 ((1 : Nat) : Int) = m ∧ fI σm 1 31 = bk ∧ (bk = 0 ∨ bk = 1) ∧ RMach m bk σx σm
/-- the treaties: the cell of each tongue, their lines -/
def ITrs (t : Int → Nat) (σx σm : St) : Prop := (∀ i : Int, 0 ≤ i → i < 3 → isT (t i) ∧ σx.2.2 39 i = t i) ∧ ∀ i : Int, 0 ≤ i → i < 3 → σm.2.1 24 i = fI σx (t i) 0 ∧ 0 ≤ fI σx (t i) 0 ∧ fI σx (t i) 0 ≤ 4
section Keep
variable {σx σm τx τm : St}
theorem IAir.keep (h : IAir σx σm) (x0 : τx.2.1 100 = σx.2.1 100) (x1 : τx.2.1 101 = σx.2.1 101) (x2 : τx.2.1 102 = σx.2.1 102) (y0 : fI τm 1 81 = fI σm 1 81) (y1 : τm.2.1 44 = σm.2.1 44) (y2 : τm.2.1 45 = σm.2.1 45) : IAir τx τm := by
  unfold IAir at h ⊢
  unfold fI at *
  rw [x0, x1, x2, y0, y1, y2]; exact h
theorem ITape.keep (h : ITape σx σm) (x0 : τx.2.1 2 = σx.2.1 2) (x1 : τx.2.1 4 = σx.2.1 4) (y0 : fI τm 1 2 = fI σm 1 2) (y1 : fI τm 1 4 = fI σm 1 4) (y2 : fI τm 1 5 = fI σm 1 5) (y3 : τm.2.1 2 = σm.2.1 2) : ITape τx τm := by
  unfold ITape at h ⊢
  unfold fI at *
  rw [x0, x1, y0, y1, y2, y3]; exact h
theorem IFacts.keep (h : IFacts σx σm) (x : ∀ k, 66 ≤ k → k ≤ 71 → τx.2.1 k = σx.2.1 k) (y0 : fI τm 1 67 = fI σm 1 67) (y1 : fI τm 1 68 = fI σm 1 68) (y : ∀ k, 33 ≤ k → k ≤ 37 → τm.2.1 k = σm.2.1 k) : IFacts τx τm := by
  unfold IFacts at h ⊢
  unfold fI at *
  rw [x 66 (by decide) (by decide), x 67 (by decide) (by decide), x 68 (by decide) (by decide), x 69 (by decide) (by decide), x 70 (by decide) (by decide), x 71 (by decide) (by decide), y0, y1, y 33 (by decide) (by decide), y 34 (by decide) (by decide), y 35 (by decide) (by decide), y 36 (by decide) (by decide), y 37 (by decide) (by decide)]
  exact h
theorem IFly.keep (h : IFly σx σm) (x0 : τx.2.1 73 = σx.2.1 73) (x1 : τx.2.1 74 = σx.2.1 74) (x2 : τx.2.1 75 = σx.2.1 75) (y0 : fI τm 1 73 = fI σm 1 73) (y1 : fI τm 1 74 = fI σm 1 74) (y2 : τm.2.1 39 = σm.2.1 39) (y3 : τm.2.1 40 = σm.2.1 40) : IFly τx τm := by
  unfold IFly at h ⊢
  unfold fI at *
  rw [x0, x1, x2, y0, y1, y2, y3]; exact h
theorem IStg.keep (h : IStg σx σm) (x0 : τx.2.1 108 = σx.2.1 108) (x1 : τx.2.1 109 = σx.2.1 109) (x2 : τx.2.1 110 = σx.2.1 110) (y0 : fI τm 1 91 = fI σm 1 91) (y1 : fI τm 1 92 = fI σm 1 92) (y2 : fI τm 1 93 = fI σm 1 93) (y3 : τm.2.1 49 = σm.2.1 49) (y4 : τm.2.1 50 = σm.2.1 50) : IStg τx τm := by
  unfold IStg at h ⊢
  unfold fI at *
  rw [x0, x1, x2, y0, y1, y2, y3, y4]; exact h
theorem RMach.keep {m : Nat} {bk : Int} (h : RMach m bk σx σm) (x0 : τx.2.1 m = σx.2.1 m) (x : ∀ d, 2 ≤ d → d ≤ 14 → τx.2.1 (m + d) = σx.2.1 (m + d)) (y : ∀ k, 4 ≤ k → k ≤ 21 → τm.2.1 k = σm.2.1 k) : RMach m bk τx τm := by
  unfold RMach RMc RMp RMj RMv RMt RMg at h ⊢
  unfold fI at *
  rw [x0, x 2 (by decide) (by decide), x 3 (by decide) (by decide), x 4 (by decide) (by decide), x 5 (by decide) (by decide), x 6 (by decide) (by decide), x 7 (by decide) (by decide), x 8 (by decide) (by decide), x 9 (by decide) (by decide), x 10 (by decide) (by decide), x 11 (by decide) (by decide), x 12 (by decide) (by decide), x 13 (by decide) (by decide), x 14 (by decide) (by decide),
    y 4 (by decide) (by decide), y 5 (by decide) (by decide), y 6 (by decide) (by decide), y 7 (by decide) (by decide), y 8 (by decide) (by decide), y 9 (by decide) (by decide), y 10 (by decide) (by decide), y 11 (by decide) (by decide), y 12 (by decide) (by decide), y 13 (by decide) (by decide), y 14 (by decide) (by decide), y 15 (by decide) (by decide), y 16 (by decide) (by decide), y 17 (by decide) (by decide), y 18 (by decide) (by decide), y 19 (by decide) (by decide), y 20 (by decide) (by decide), y 21 (by decide) (by decide)]
  exact h
theorem IMach.keep {m : Nat} {bk : Int} (h : IMach m bk σx σm) (r : τx.2.2 = σx.2.2) (x : ∀ k, 8 ≤ k → k ≤ 37 → τx.2.1 k = σx.2.1 k) (y0 : fI τm 1 31 = fI σm 1 31) (y : ∀ k, 4 ≤ k → k ≤ 21 → τm.2.1 k = σm.2.1 k) : IMach m bk τx τm := by
  obtain ⟨h1, h2, h3, h4, h5⟩ := h
  have hm := isM_le h1
  exact ⟨h1, by rw [r]; exact h2, by rw [y0]; exact h3, h4, h5.keep (x m (by omega) (by omega)) (fun d a b => x (m + d) (by omega) (by omega)) y⟩
end Keep
/-- is it a PART -/
theorem ok_part {N : Nat} {σ : St} {m : Nat} {v : Int} {α : Type} {f : St × Int → Option α} {Q : α → Prop} (hX : WXr σ.1 σ.2.2) (hm : isM m) (e : σ.2.2 1 ((1 : Nat) : Int) = m) (hp : 0 ≤ fI σ m 1 ∧ fI σ m 1 ≤ 12) (a : -2147483648 ≤ v ∧ v < 2147483648) (h1 : 0 ≤ v ∧ v < fI σ m 1 → Ok (f (σ, 1)) Q) (h2 : (v < 0 ∨ fI σ m 1 ≤ v) → Ok (f (σ, 0)) Q) : Ok (Option.bind (f_X11_isPart N σ 1 v) f) Q := by
  refine ok_bind ?_
  unfold f_X11_isPart
  refine sx_gR1 hX e ?_
  refine mx_gI hX hm ?_
  refine ok_within a (by omega) (by omega) (fun h => ?_) (fun h => ?_)
  · exact ok_rZ (.inr rfl) (h1 ⟨h.1, by omega⟩)
  · exact ok_rZ (.inl rfl) (h2 (by omega))
theorem parts_eq {N : Nat} {σ : St} {bk : Int} (hM : WMr σ.1 σ.2.2) (hb : fI σ 1 31 = bk) (h : bk = 0 ∨ bk = 1) : f_X12_parts N σ 1 = some (σ, σ.2.1 5 bk) := by
  subst hb
  have H : Ok (f_X12_parts N σ 1) (fun q => q = (σ, σ.2.1 5 (fI σ 1 31))) := by
    unfold f_X12_parts
    repeat' first
      | with_reducible apply st_Lt
      | with_reducible apply st_Jn
      | ((with_reducible apply ok_some); try dsimp only)
      | with_reducible apply ok_z0
      | with_reducible apply ok_z1
      | ((with_reducible apply om_gF_hit); exact hM)
      | ((with_reducible apply ok_gF_j); decide)
      | ((with_reducible apply ok_gF_k); (first | decide | omega))
      | ((with_reducible apply ok_gU_k); (first | decide | omega))
      | ((with_reducible apply ok_aF_k); (first | decide | omega))
      | ((with_reducible apply ok_aU_k); (first | decide | omega))
      | (with_reducible apply ok_rF)
      | (with_reducible apply ok_rU)
      | (with_reducible apply ok_qF)
      | (with_reducible apply ok_qU)
      | ((with_reducible apply sm_gI); exact hM)
      | ((with_reducible apply sm_gR); exact hM; exact rfl)
      | ((with_reducible apply sm_pI); exact hM)
      | ((with_reducible apply sm_rcv); exact hM)
      | ((with_reducible apply sm_aI); exact hM; exact rfl; exact rfl; exact (by decide); omega; omega)
      | ((with_reducible apply sm_sI); exact hM; exact rfl; exact rfl; exact (by decide); omega; omega)
      | ((with_reducible apply ok_rZ); (first | exact .inl rfl | exact .inr rfl))
      | ((with_reducible refine ok_within ?_ ?_ ?_ (fun hc => ?_) (fun hc => ?_)); omega; omega; omega)
      | ((with_reducible refine ok_month ?_ (fun hc => ?_) (fun hc => ?_)); omega)
      | ((with_reducible refine ok_tongue ?_ (fun hc => ?_) (fun hc => ?_)); omega)
      | ((with_reducible refine ok_money ?_ (fun hc => ?_) (fun hc => ?_)); omega)
      | ((with_reducible refine ok_isIn ?_ ?_ ?_ (fun hc => ?_) (fun hc => ?_)); omega; omega; omega)
      | ((with_reducible refine ok_wltp ?_ ?_ ?_ ?_); omega; omega; omega)
      | ((with_reducible refine ok_wltn ?_ ?_ ?_ ?_); omega; omega; omega)
      | ((with_reducible refine ok_wlt ?_ ?_ (fun hc => ?_) (fun hc => ?_)); omega; omega)
      | ((with_reducible refine ok_wlt0 ?_ (fun hc => ?_) (fun hc => ?_)); omega)
      | ((with_reducible refine ok_w0lt ?_ (fun hc => ?_) (fun hc => ?_)); omega)
      | ((with_reducible refine ok_weq ?_ ?_ (fun hc => ?_) (fun hc => ?_)); omega; omega)
      | ((with_reducible refine ok_weqc ?_ (fun hc => ?_) (fun hc => ?_)); omega)
    all_goals rfl
  obtain ⟨q, e, rfl⟩ := H
  exact e
theorem joins_eq {N : Nat} {σ : St} {bk : Int} (hM : WMr σ.1 σ.2.2) (hb : fI σ 1 31 = bk) (h : bk = 0 ∨ bk = 1) : f_X12_joins N σ 1 = some (σ, σ.2.1 6 bk) := by
  subst hb
  have H : Ok (f_X12_joins N σ 1) (fun q => q = (σ, σ.2.1 6 (fI σ 1 31))) := by
    unfold f_X12_joins
    repeat' first
      | with_reducible apply st_Lt
      | with_reducible apply st_Jn
      | ((with_reducible apply ok_some); try dsimp only)
      | with_reducible apply ok_z0
      | with_reducible apply ok_z1
      | ((with_reducible apply om_gF_hit); exact hM)
      | ((with_reducible apply ok_gF_j); decide)
      | ((with_reducible apply ok_gF_k); (first | decide | omega))
      | ((with_reducible apply ok_gU_k); (first | decide | omega))
      | ((with_reducible apply ok_aF_k); (first | decide | omega))
      | ((with_reducible apply ok_aU_k); (first | decide | omega))
      | (with_reducible apply ok_rF)
      | (with_reducible apply ok_rU)
      | (with_reducible apply ok_qF)
      | (with_reducible apply ok_qU)
      | ((with_reducible apply sm_gI); exact hM)
      | ((with_reducible apply sm_gR); exact hM; exact rfl)
      | ((with_reducible apply sm_pI); exact hM)
      | ((with_reducible apply sm_rcv); exact hM)
      | ((with_reducible apply sm_aI); exact hM; exact rfl; exact rfl; exact (by decide); omega; omega)
      | ((with_reducible apply sm_sI); exact hM; exact rfl; exact rfl; exact (by decide); omega; omega)
      | ((with_reducible apply ok_rZ); (first | exact .inl rfl | exact .inr rfl))
      | ((with_reducible refine ok_within ?_ ?_ ?_ (fun hc => ?_) (fun hc => ?_)); omega; omega; omega)
      | ((with_reducible refine ok_month ?_ (fun hc => ?_) (fun hc => ?_)); omega)
      | ((with_reducible refine ok_tongue ?_ (fun hc => ?_) (fun hc => ?_)); omega)
      | ((with_reducible refine ok_money ?_ (fun hc => ?_) (fun hc => ?_)); omega)
      | ((with_reducible refine ok_isIn ?_ ?_ ?_ (fun hc => ?_) (fun hc => ?_)); omega; omega; omega)
      | ((with_reducible refine ok_wltp ?_ ?_ ?_ ?_); omega; omega; omega)
      | ((with_reducible refine ok_wltn ?_ ?_ ?_ ?_); omega; omega; omega)
      | ((with_reducible refine ok_wlt ?_ ?_ (fun hc => ?_) (fun hc => ?_)); omega; omega)
      | ((with_reducible refine ok_wlt0 ?_ (fun hc => ?_) (fun hc => ?_)); omega)
      | ((with_reducible refine ok_w0lt ?_ (fun hc => ?_) (fun hc => ?_)); omega)
      | ((with_reducible refine ok_weq ?_ ?_ (fun hc => ?_) (fun hc => ?_)); omega; omega)
      | ((with_reducible refine ok_weqc ?_ (fun hc => ?_) (fun hc => ?_)); omega)
    all_goals rfl
  obtain ⟨q, e, rfl⟩ := H
  exact e
theorem tanks_eq {N : Nat} {σ : St} {bk : Int} (hM : WMr σ.1 σ.2.2) (hb : fI σ 1 31 = bk) (h : bk = 0 ∨ bk = 1) : f_X12_tanks N σ 1 = some (σ, σ.2.1 8 bk) := by
  subst hb
  have H : Ok (f_X12_tanks N σ 1) (fun q => q = (σ, σ.2.1 8 (fI σ 1 31))) := by
    unfold f_X12_tanks
    repeat' first
      | with_reducible apply st_Lt
      | with_reducible apply st_Jn
      | ((with_reducible apply ok_some); try dsimp only)
      | with_reducible apply ok_z0
      | with_reducible apply ok_z1
      | ((with_reducible apply om_gF_hit); exact hM)
      | ((with_reducible apply ok_gF_j); decide)
      | ((with_reducible apply ok_gF_k); (first | decide | omega))
      | ((with_reducible apply ok_gU_k); (first | decide | omega))
      | ((with_reducible apply ok_aF_k); (first | decide | omega))
      | ((with_reducible apply ok_aU_k); (first | decide | omega))
      | (with_reducible apply ok_rF)
      | (with_reducible apply ok_rU)
      | (with_reducible apply ok_qF)
      | (with_reducible apply ok_qU)
      | ((with_reducible apply sm_gI); exact hM)
      | ((with_reducible apply sm_gR); exact hM; exact rfl)
      | ((with_reducible apply sm_pI); exact hM)
      | ((with_reducible apply sm_rcv); exact hM)
      | ((with_reducible apply sm_aI); exact hM; exact rfl; exact rfl; exact (by decide); omega; omega)
      | ((with_reducible apply sm_sI); exact hM; exact rfl; exact rfl; exact (by decide); omega; omega)
      | ((with_reducible apply ok_rZ); (first | exact .inl rfl | exact .inr rfl))
      | ((with_reducible refine ok_within ?_ ?_ ?_ (fun hc => ?_) (fun hc => ?_)); omega; omega; omega)
      | ((with_reducible refine ok_month ?_ (fun hc => ?_) (fun hc => ?_)); omega)
      | ((with_reducible refine ok_tongue ?_ (fun hc => ?_) (fun hc => ?_)); omega)
      | ((with_reducible refine ok_money ?_ (fun hc => ?_) (fun hc => ?_)); omega)
      | ((with_reducible refine ok_isIn ?_ ?_ ?_ (fun hc => ?_) (fun hc => ?_)); omega; omega; omega)
      | ((with_reducible refine ok_wltp ?_ ?_ ?_ ?_); omega; omega; omega)
      | ((with_reducible refine ok_wltn ?_ ?_ ?_ ?_); omega; omega; omega)
      | ((with_reducible refine ok_wlt ?_ ?_ (fun hc => ?_) (fun hc => ?_)); omega; omega)
      | ((with_reducible refine ok_wlt0 ?_ (fun hc => ?_) (fun hc => ?_)); omega)
      | ((with_reducible refine ok_w0lt ?_ (fun hc => ?_) (fun hc => ?_)); omega)
      | ((with_reducible refine ok_weq ?_ ?_ (fun hc => ?_) (fun hc => ?_)); omega; omega)
      | ((with_reducible refine ok_weqc ?_ (fun hc => ?_) (fun hc => ?_)); omega)
    all_goals rfl
  obtain ⟨q, e, rfl⟩ := H
  exact e
theorem om_part {N : Nat} {σ : St} {bk n : Int} {v : Int} {α : Type} {f : St × Int → Option α} {Q : α → Prop} (hM : WMr σ.1 σ.2.2) (hb : fI σ 1 31 = bk) (h : bk = 0 ∨ bk = 1) (e : σ.2.1 5 bk = n) (hp : 0 ≤ n ∧ n ≤ 12) (a : -2147483648 ≤ v ∧ v < 2147483648) (h1 : 0 ≤ v ∧ v < n → Ok (f (σ, 1)) Q) (h2 : (v < 0 ∨ n ≤ v) → Ok (f (σ, 0)) Q) : Ok (Option.bind (f_X12_isPart N σ 1 v) f) Q := by
  refine ok_bind ?_
  unfold f_X12_isPart
  refine sm_rcv hM ?_
  refine ok_rw (parts_eq hM hb h) ?_
  dsimp only
  rw [e]
  refine ok_isIn a (by omega) (by omega) (fun h => ?_) (fun h => ?_)
  · exact ok_rZ (.inr rfl) (h1 ⟨h.1, by omega⟩)
  · exact ok_rZ (.inl rfl) (h2 (by omega))
theorem om_month {N : Nat} {σ : St} {v : Int} {α : Type} {f : St × Int → Option α} {Q : α → Prop} (a : -2147483648 ≤ v ∧ v < 2147483648) (h1 : 0 ≤ v ∧ v ≤ 199 → Ok (f (σ, 1)) Q) (h2 : (v < 0 ∨ 199 < v) → Ok (f (σ, 0)) Q) : Ok (Option.bind (f_X12_isMonth N σ v) f) Q := by
  refine ok_bind ?_
  unfold f_X12_isMonth
  refine ok_isIn a (by omega) (by omega) (fun h => ?_) (fun h => ?_)
  · exact ok_rZ (.inr rfl) (h1 h)
  · exact ok_rZ (.inl rfl) (h2 h)
theorem om_tongue {N : Nat} {σ : St} {v : Int} {α : Type} {f : St × Int → Option α} {Q : α → Prop} (a : -2147483648 ≤ v ∧ v < 2147483648) (h1 : 0 ≤ v ∧ v ≤ 2 → Ok (f (σ, 1)) Q) (h2 : (v < 0 ∨ 2 < v) → Ok (f (σ, 0)) Q) : Ok (Option.bind (f_X12_isTongue N σ v) f) Q := by
  refine ok_bind ?_
  unfold f_X12_isTongue
  refine ok_isIn a (by omega) (by omega) (fun h => ?_) (fun h => ?_)
  · exact ok_rZ (.inr rfl) (h1 h)
  · exact ok_rZ (.inl rfl) (h2 h)
