/-! rows of the heap, of returns, of calls and loops -/
theorem ty_all : ∀ (ci : Nat) (q : vw_C), classes[ci]? = some q → (∀ k, k < q.2.2 → parseFieldDescriptor (q.2.1 k).2.2.1 = some (tyC ci k)) ∧ (∀ a, a < q.2.2 → ∀ b, b < q.2.2 → a ≠ b → (q.2.1 a).2.1 ≠ (q.2.1 b).2.1) ∧ (∀ w ∈ u_ws q.1 q.2.1 q.2.2, w ∈ TB) := by
  intro ci q h
  match ci, h with
  | 0, h => cases h; exact ⟨tyX0_ok, nmX0, inT0⟩
  | 1, h => cases h; exact ⟨tyX1_ok, nmX1, inT1⟩
  | 2, h => cases h; exact ⟨tyX2_ok, nmX2, inT2⟩
  | 3, h => cases h; exact ⟨tyX3_ok, nmX3, inT3⟩
  | 4, h => cases h; exact ⟨tyX4_ok, nmX4, inT4⟩
  | 5, h => cases h; exact ⟨tyX5_ok, nmX5, inT5⟩
  | 6, h => cases h; exact ⟨tyX6_ok, nmX6, inT6⟩
  | 7, h => cases h; exact ⟨tyX7_ok, nmX7, inT7⟩
  | 8, h => cases h; exact ⟨tyX8_ok, nmX8, inT8⟩
  | 9, h => cases h; exact ⟨tyX9_ok, nmX9, inT9⟩
  | 10, h => cases h; exact ⟨tyX10_ok, nmX10, inT10⟩
  | 11, h => cases h; exact ⟨tyX11_ok, nmX11, inT11⟩
  | 12, h => cases h; exact ⟨tyX12_ok, nmX12, inT12⟩
  | k + 13, h => simp [classes] at h
/-- a field's link: of which class, which field -/
def FLk (own : String) (index ci j : Nat) : Prop := ∃ q : vw_C, classes[ci]? = some q ∧ j < q.2.2 ∧ Cond.fieldLink own index q.1 (q.2.1 j).2.1 (q.2.1 j).2.2.1 ∈ TB ∧ (q.2.1 j).1 = q.1
theorem nF_eq {ci : Nat} {q : vw_C} (h : classes[ci]? = some q) : nF ci = q.2.2 := by unfold nF; rw [h]
theorem adr_pos {b k : Nat} (h : k ≠ 0) : adr b k = some (b + k) := if_neg h
theorem cv_ar {b k : Nat} {ra : Nat → Nat} (h : k ≠ 0) : cv b ra (ar k) = .ref (b + k) := by
  show va_rf (adr b k) = _
  rw [adr_pos h]; rfl
theorem shp_ne {S : List Sp} (h0 : shp S 0 = (9, 9)) {k : Nat} (h : (shp S k).1 ≠ 9) : k ≠ 0 ∧ k < S.length := by
  refine ⟨fun e => h (by rw [e, h0]), ?_⟩
  rcases Nat.lt_or_ge k S.length with q | q
  · exact q
  · exact absurd (by unfold shp; rw [List.getD_eq_getElem?_getD, List.getElem?_eq_none q]; rfl) h
theorem va_one {D : va_G} {cl : List vw_C} {q : Nat × va_E} {H : Heap} (h : va_at D cl q H) : va_P D cl [q] H := by
  intro k x hx
  have hk : k < 1 := (List.getElem?_eq_some_iff.mp hx).1
  rw [show k = 0 by omega] at hx
  cases hx
  exact h
theorem ofl_at {b ci j : Nat} {I : Int → Int} {R : Int → Nat} (h : j < nF ci) : (ofl b ci I R)[j]? = some (fval b (tyC ci j) (I j) (R j)) := by
  unfold ofl
  rw [List.getElem?_map, List.getElem?_range h]; rfl
theorem ofl_len {b ci : Nat} {I : Int → Int} {R : Int → Nat} : (ofl b ci I R).length = nF ci := by unfold ofl; simp
theorem cell_obj {b ci : Nat} {ca : Nat → ClassId} {s : Sp} {I : Int → Int} {R : Int → Nat} (h : s = (0, ci)) : cellE b ca s I R = .inr (ci, ofl b ci I R) := by subst h; rfl
/-- the cells behind a change of one of them -/
theorem Rp.put {D : va_G} {ca : Nat → ClassId} {S : List Sp} {b hs : Nat} {σ τ : St} {H H1 : Heap} (h : Rp D ca S b hs σ H) {k : Nat} (h1 : τ.1 = σ.1) (hI : ∀ k', k' ≠ k → τ.2.1 k' = σ.2.1 k') (hRr : ∀ k', k' ≠ k → τ.2.2 k' = σ.2.2 k') (hz : H1.size = H.size) (hq : ∀ q : Nat, q ≠ b + k → H1[q]? = H[q]?) (hk : cAt D ca S b τ k H1) : Rp D ca S b hs τ H1 := by
  refine ⟨h.1, by rw [hz, h1]; exact h.2.1, fun k' a1 a2 => ?_⟩
  by_cases e : k' = k
  · rw [e]; exact hk
  · have h3 := h.2.2 k' a1 (by rw [← h1]; exact a2)
    unfold cAt at h3 ⊢
    rw [hI k' e, hRr k' e]
    exact va_at.kept h3 (hq _ (by simp only; omega))
theorem zA_in {S : List Sp} {b sz k : Nat} (h : k ≠ 0) (h2 : k < S.length) : zA S b sz (b + k) := Or.inl ⟨by omega, by omega⟩
theorem va_S.put1 {A : Nat → Prop} {H0 H H1 : Heap} {locs : List Loc} {a i : Nat} (h : va_S A H0 H locs) (hz : H1.size = H.size) (hq : ∀ q : Nat, q ≠ a → H1[q]? = H[q]?) (ha : A a) : va_S A H0 H1 (locs ++ [⟨a, i⟩]) := by
  refine ⟨by rw [hz]; exact h.1, fun q h1 h2 => ?_, fun l hl => ?_⟩
  · rw [hq q (fun e => h2 (by rw [e]; exact ha))]; exact h.2.1 q h1 h2
  · rcases List.mem_append.mp hl with g | g
    · exact h.2.2 l g
    · rw [List.mem_singleton.mp g]; exact ha
section Rows
variable {z : Zt} {l : Launch} {w : Vt} {y : MethodName} {cc : ByteArray} {nL : Nat} {ret : Option FieldType} {tg : Bool} {rm : Room} {cs ss pc : Nat} {σ : St} {lv : List (Nat × AV)} {st : List AV} {P : Option (St × Int)}
theorem x_get0 (C : Cx z l w y cc nL ret tg rm) {index ci j k : Nat} {v : AV} (hf : FLk y.cls index ci j) (hk1 : shp w.2.2.2 k = (0, ci)) (hk2 : k ≤ σ.1) (hv : ∀ (b : Nat) (ra : Nat → Nat), fval b (tyC ci j) (σ.2.1 k j) (σ.2.2 k j) = cv b ra v) (hd : decode cc pc = .ok (.getfield index, 3)) (kk : X z cs ss σ (pc + 3) lv (v :: st) P) : X z cs ss σ pc lv (ar k :: st) P := by
  obtain ⟨p, le, e, R, s, m, args, below, meth, c, ⟨D, ca, ra, S⟩, b, hs, nL1, rt⟩ := z
  obtain ⟨⟨hx, hb, hml, hown⟩, hts, ⟨hr, hlk, hnm⟩, ⟨hK, hN, hF⟩, ⟨rfl, rfl, rfl, rfl, rfl⟩, htg⟩ := C
  intro σ' r hP H locs ls hR hS hl
  obtain ⟨q, hq, hj, hlink, hsm⟩ := hf
  obtain ⟨-, -, hin⟩ := ty_all ci q hq
  have hk0 := shp_ne hR.1.2 (k := k) (by rw [hk1]; exact (by decide : (0 : Nat) ≠ 9))
  have hc := hR.2.2 k (by omega) hk2
  unfold cAt at hc
  rw [cell_obj hk1] at hc
  rw [List.map_cons, cv_ar hk0.1]
  have h9 := kk σ' r hP H locs ls hR hS hl
  rw [List.map_cons, ← hv b ra] at h9
  exact va_get hx hb hts hin hown hK (va_one hc) 0 rfl hq j hj (hts _ hlink) (fun x hx => by rw [hsm] at hx; exact hx) (ofl_at (by rw [nF_eq hq]; exact hj)) hd h9
theorem x_gI (C : Cx z l w y cc nL ret tg rm) {index ci j k : Nat} {f : Int → Option (St × Int)} (hf : FLk y.cls index ci j) (hty : ∀ b i r, fval b (tyC ci j) i r = .int (Int32.ofInt i)) (hd : decode cc pc = .ok (.getfield index, 3)) (kk : ∀ v, X z cs ss σ (pc + 3) lv (ai v :: st) (f v)) : X z cs ss σ pc lv (ar k :: st) (Option.bind (gI w.2.2.2 σ ci k j) f) := by
  unfold gI
  by_cases h : shp w.2.2.2 k = (0, ci) ∧ k ≤ σ.1
  · rw [if_pos h]
    exact x_get0 C (v := ai (σ.2.1 k j)) hf h.1 h.2 (fun b ra => hty b _ _) hd (kk _)
  · rw [if_neg h]
    obtain ⟨p, le, e, R, s, m, args, below, meth, c, ⟨D, ca, ra, S⟩, b, hs, nL1, rt⟩ := z
    intro σ' r hP
    cases hP
theorem x_gL (C : Cx z l w y cc nL ret tg rm) {index ci j k : Nat} {f : Int → Option (St × Int)} (hf : FLk y.cls index ci j) (hty : ∀ b i r, fval b (tyC ci j) i r = .long (Int64.ofInt i)) (hd : decode cc pc = .ok (.getfield index, 3)) (kk : ∀ v, X z cs ss σ (pc + 3) lv (al v :: st) (f v)) : X z cs ss σ pc lv (ar k :: st) (Option.bind (gI w.2.2.2 σ ci k j) f) := by
  unfold gI
  by_cases h : shp w.2.2.2 k = (0, ci) ∧ k ≤ σ.1
  · rw [if_pos h]
    exact x_get0 C (v := al (σ.2.1 k j)) hf h.1 h.2 (fun b ra => hty b _ _) hd (kk _)
  · rw [if_neg h]
    obtain ⟨p, le, e, R, s, m, args, below, meth, c, ⟨D, ca, ra, S⟩, b, hs, nL1, rt⟩ := z
    intro σ' r hP
    cases hP
theorem x_gR (C : Cx z l w y cc nL ret tg rm) {index ci j k : Nat} {f : Nat → Option (St × Int)} (hf : FLk y.cls index ci j) (hty : ∀ b i r, fval b (tyC ci j) i r = va_rf (adr b r)) (hd : decode cc pc = .ok (.getfield index, 3)) (kk : ∀ v, X z cs ss σ (pc + 3) lv (ar v :: st) (f v)) : X z cs ss σ pc lv (ar k :: st) (Option.bind (gR w.2.2.2 σ ci k j) f) := by
  unfold gR
  by_cases h : shp w.2.2.2 k = (0, ci) ∧ k ≤ σ.1
  · rw [if_pos h]
    exact x_get0 C (v := ar (σ.2.2 k j)) hf h.1 h.2 (fun b ra => hty b _ _) hd (kk _)
  · rw [if_neg h]
    obtain ⟨p, le, e, R, s, m, args, below, meth, c, ⟨D, ca, ra, S⟩, b, hs, nL1, rt⟩ := z
    intro σ' r hP
    cases hP
/-- a field is written: the list of its values -/
theorem ofl_set {b ci j : Nat} {I I' : Int → Int} {R R' : Int → Nat} (hj : j < nF ci) (hI : ∀ i : Int, i ≠ j → I' i = I i) (hR : ∀ i : Int, i ≠ j → R' i = R i) : (ofl b ci I R).set j (fval b (tyC ci j) (I' j) (R' j)) = ofl b ci I' R' := by
  apply List.ext_getElem?
  intro n
  rw [List.getElem?_set, ofl_len]
  by_cases e : j = n
  · subst e
    rw [if_pos rfl, if_pos hj, ofl_at hj]
  · rw [if_neg e]
    by_cases h : n < nF ci
    · rw [ofl_at h, ofl_at h, hI n (by omega), hR n (by omega)]
    · rw [List.getElem?_eq_none (by rw [ofl_len]; omega), List.getElem?_eq_none (by rw [ofl_len]; omega)]
theorem x_put0 (C : Cx z l w y cc nL ret tg rm) {index ci j k : Nat} {v : AV} {τ : St} (hf : FLk y.cls index ci j) (hk1 : shp w.2.2.2 k = (0, ci)) (hk2 : k ≤ σ.1) (h1 : τ.1 = σ.1) (hI : ∀ k' i', ¬ (k' = k ∧ i' = (j : Int)) → τ.2.1 k' i' = σ.2.1 k' i') (hRr : ∀ k' i', ¬ (k' = k ∧ i' = (j : Int)) → τ.2.2 k' i' = σ.2.2 k' i') (hv : ∀ (b : Nat) (ra : Nat → Nat), fval b (tyC ci j) (τ.2.1 k j) (τ.2.2 k j) = cv b ra v)
    (hnf : ∀ (b : Nat) (ra : Nat → Nat), narrow (tyC ci j) (cv b ra v) = cv b ra v ∧ fits (tyC ci j) (cv b ra v) = true) (hfin : (∀ q : vw_C, classes[ci]? = some q → (q.2.1 j).2.2.2 = false) ∨ (y.name = "<init>" ∧ ∀ q : vw_C, classes[ci]? = some q → (q.2.1 j).2.2.2 = true ∧ (q.2.1 j).1 = y.cls)) (hd : decode cc pc = .ok (.putfield index, 3)) (kk : X z cs ss τ (pc + 3) lv st P) : X z cs ss σ pc lv (v :: ar k :: st) P := by
  obtain ⟨p, le, e, R, s, m, args, below, meth, c, ⟨D, ca, ra, S⟩, b, hs, nL1, rt⟩ := z
  obtain ⟨⟨hx, hb, hml, hown⟩, hts, ⟨hr, hlk, hnm⟩, ⟨hK, hN, hF⟩, ⟨rfl, rfl, rfl, rfl, rfl⟩, htg⟩ := C
  intro σ' r hP H locs ls hR hS hl
  obtain ⟨q, hq, hj, hlink, hsm⟩ := hf
  obtain ⟨hty, hnmq, hin⟩ := ty_all ci q hq
  have hk0 := shp_ne hR.1.2 (k := k) (by rw [hk1]; exact (by decide : (0 : Nat) ≠ 9))
  have hc := hR.2.2 k (by omega) hk2
  unfold cAt at hc
  rw [cell_obj hk1] at hc
  rw [List.map_cons, List.map_cons, cv_ar hk0.1]
  have hap := va_apart (own := y.cls) hts hin (tyC ci) hty hnmq hK hq
  obtain ⟨q', g1, cell, q1, q2, q3, q4⟩ := hc
  have hqq : q' = q := Option.some.inj (g1.symm.trans hq)
  subst hqq
  obtain ⟨hSl, hfc, kC, hkC, hkind⟩ := hK.1 ci _ hq
  obtain ⟨cf, kf, fi, f, hi, hsl⟩ := hSl j hj
  have hlay := hts _ (hin _ (u_in_lay hj))
  have hst := (u_facts hfc hkC (u_lays hts hin hj) hi).1
  have hi2 : s.fieldFound? q'.1 (q'.2.1 j).2.1 (q'.2.1 j).2.2.1 = some (cf, kf, fi, f) := by rw [hsm] at hi; exact hi
  have hjn : j < nF ci := by rw [nF_eq hq]; exact hj
  have fin : ∀ (H' : Heap) (i : Nat), H'[b + k]? = some (cell.setSlot f.slot (cv b ra v)) → H'.size = H.size → (∀ q, q ≠ b + k → H'[q]? = H[q]?) → W p le e R s m args below meth c H' (locs ++ [⟨b + k, i⟩]) cs ss (MQ below (QcC D ca S b hs rt σ' r) args s R.cells R.slots (zA S b s.heap.size)) (F0 m (pc + 3) ls (st.map (cv b ra))) := by
    intro H' i e1 e2 e3
    rw [hsl] at e1
    refine kk σ' r hP H' _ ls (hR.put (k := k) h1 (fun k' e => funext fun i' => hI k' i' (fun q => e q.1)) (fun k' e => funext fun i' => hRr k' i' (fun q => e q.1)) e2 e3 ?_) (hS.put1 e2 e3 (zA_in hk0.1 hk0.2)) hl
    unfold cAt
    rw [cell_obj hk1, ← ofl_set (b := b) (I := σ.2.1 k) (R := σ.2.2 k) hjn (fun i e => hI k i (fun q => e q.2)) (fun i e => hRr k i (fun q => e q.2)), hv b ra]
    exact ⟨_, hq, t_OB.to (V := updV (vp_V (ofl b ci (σ.2.1 k) (σ.2.2 k))) j (cv b ra v)) ⟨_, e1, q2, q3, t_set q4 hap hj (cv b ra v)⟩ (fun n _ => vp_updV_set (by rw [ofl_len]; exact hjn) (cv b ra v) n)⟩
  rcases hfin with hfin | ⟨hin9, hfin⟩
  · have hfin := hfin _ hq
    unfold u_lay at hlay
    rw [if_neg (by rw [hfin]; decide)] at hlay
    have h6 := u_store hfc hkC hkind hlay hi (hty j hj) (hnf b ra).1 (hnf b ra).2
    exact W.putK hx hb (f := f) ⟨hown, hts _ hlink, ⟨_, _, _, hi2⟩, hst⟩ (by rw [q2]; exact h6) q1 q3 (by rw [hsl]; exact k2_hasslot (q4 j hj)) rfl rfl hd fun H' e1 e2 e3 => fin H' _ e1 e2 e3
  · have hfin := hfin _ hq
    unfold u_lay at hlay
    rw [if_pos hfin.1] at hlay
    have hcf : m.cls = cf := by
      obtain ⟨_, _, c', _, _, _, -, -, hf', -, -, -, hown2, -⟩ := Cond.laysFinal_spec hlay
      have e1 : c' = cf := by have := hi.symm.trans hf'; simp at this; exact this.1.symm
      rw [hfin.2] at hown2
      rw [← e1]; exact Option.some.inj (hown.symm.trans hown2)
    have h6 := u_fits hfc hkC hkind (Or.inr hlay) hi (hty j hj) (hnf b ra).1 (hnf b ra).2
    exact W.putFinK hx hb hown (hts _ hlink) hi2 hst hcf (by rw [hnm]; exact hin9) (by rw [q2]; exact h6) q1 q3 (by rw [hsl]; exact k2_hasslot (q4 j hj)) rfl rfl hd fun H' e1 e2 e3 => fin H' _ e1 e2 e3
theorem uI_at {σ : St} {k : Nat} {j v : Int} : (uI σ k j v).2.1 k j = v := if_pos ⟨rfl, rfl⟩
theorem uR_at {σ : St} {k : Nat} {j : Int} {v : Nat} : (uR σ k j v).2.2 k j = v := if_pos ⟨rfl, rfl⟩
theorem x_pI (C : Cx z l w y cc nL ret tg rm) {index ci j k : Nat} {v : Int} {f : St → Option (St × Int)} (hf : FLk y.cls index ci j) (hty : tyC ci j = .int) (hfin : ∀ q : vw_C, classes[ci]? = some q → (q.2.1 j).2.2.2 = false) (hd : decode cc pc = .ok (.putfield index, 3)) (kk : ∀ τ : St, X z cs ss τ (pc + 3) lv st (f τ)) : X z cs ss σ pc lv (ai v :: ar k :: st) (Option.bind (pI w.2.2.2 σ ci k j v) f) := by
  unfold pI
  by_cases h : shp w.2.2.2 k = (0, ci) ∧ k ≤ σ.1
  · rw [if_pos h]
    exact x_put0 C (τ := uI σ k j v) hf h.1 h.2 rfl (fun k' i' q => if_neg q) (fun _ _ _ => rfl) (fun b ra => by rw [hty, uI_at]; rfl) (fun b ra => by rw [hty]; exact ⟨rfl, rfl⟩) (Or.inl hfin) hd (kk _)
  · rw [if_neg h]
    obtain ⟨p, le, e, R, s, m, args, below, meth, c, ⟨D, ca, ra, S⟩, b, hs, nL1, rt⟩ := z
    intro σ' r hP
    cases hP
theorem x_pL (C : Cx z l w y cc nL ret tg rm) {index ci j k : Nat} {v : Int} {f : St → Option (St × Int)} (hf : FLk y.cls index ci j) (hty : tyC ci j = .long) (hfin : ∀ q : vw_C, classes[ci]? = some q → (q.2.1 j).2.2.2 = false) (hd : decode cc pc = .ok (.putfield index, 3)) (kk : ∀ τ : St, X z cs ss τ (pc + 3) lv st (f τ)) : X z cs ss σ pc lv (al v :: ar k :: st) (Option.bind (pI w.2.2.2 σ ci k j v) f) := by
  unfold pI
  by_cases h : shp w.2.2.2 k = (0, ci) ∧ k ≤ σ.1
  · rw [if_pos h]
    exact x_put0 C (τ := uI σ k j v) hf h.1 h.2 rfl (fun k' i' q => if_neg q) (fun _ _ _ => rfl) (fun b ra => by rw [hty, uI_at]; rfl) (fun b ra => by rw [hty]; exact ⟨rfl, rfl⟩) (Or.inl hfin) hd (kk _)
  · rw [if_neg h]
    obtain ⟨p, le, e, R, s, m, args, below, meth, c, ⟨D, ca, ra, S⟩, b, hs, nL1, rt⟩ := z
    intro σ' r hP
    cases hP
/-- a boolean field, by a number that is written -/
theorem x_pZ (C : Cx z l w y cc nL ret tg rm) {index ci j k : Nat} {v : Int} {f : St → Option (St × Int)} (hf : FLk y.cls index ci j) (hty : tyC ci j = .boolean) (hv : v = 0 ∨ v = 1) (hfin : ∀ q : vw_C, classes[ci]? = some q → (q.2.1 j).2.2.2 = false) (hd : decode cc pc = .ok (.putfield index, 3)) (kk : ∀ τ : St, X z cs ss τ (pc + 3) lv st (f τ)) : X z cs ss σ pc lv (ai v :: ar k :: st) (Option.bind (pI w.2.2.2 σ ci k j v) f) := by
  unfold pI
  by_cases h : shp w.2.2.2 k = (0, ci) ∧ k ≤ σ.1
  · rw [if_pos h]
    exact x_put0 C (τ := uI σ k j v) hf h.1 h.2 rfl (fun k' i' q => if_neg q) (fun _ _ _ => rfl) (fun b ra => by rw [hty, uI_at]; rfl) (fun b ra => by rw [hty]; rcases hv with rfl | rfl <;> exact ⟨rfl, rfl⟩) (Or.inl hfin) hd (kk _)
  · rw [if_neg h]
    obtain ⟨p, le, e, R, s, m, args, below, meth, c, ⟨D, ca, ra, S⟩, b, hs, nL1, rt⟩ := z
    intro σ' r hP
    cases hP
theorem rf_fits {t : FieldType} {r : Option Nat} (h : (∃ n, t = .object n) ∨ ∃ n, t = .array n) : narrow t (va_rf r) = va_rf r ∧ fits t (va_rf r) = true := by
  rcases h with ⟨n, rfl⟩ | ⟨n, rfl⟩ <;> cases r <;> exact ⟨rfl, rfl⟩
theorem x_pR (C : Cx z l w y cc nL ret tg rm) {index ci j k : Nat} {v : Nat} {f : St → Option (St × Int)} (hf : FLk y.cls index ci j) (hty : (∃ n, tyC ci j = .object n) ∨ ∃ n, tyC ci j = .array n) (hfin : (∀ q : vw_C, classes[ci]? = some q → (q.2.1 j).2.2.2 = false) ∨ (y.name = "<init>" ∧ ∀ q : vw_C, classes[ci]? = some q → (q.2.1 j).2.2.2 = true ∧ (q.2.1 j).1 = y.cls)) (hd : decode cc pc = .ok (.putfield index, 3)) (kk : ∀ τ : St, X z cs ss τ (pc + 3) lv st (f τ)) : X z cs ss σ pc lv (ar v :: ar k :: st) (Option.bind (pR w.2.2.2 σ ci k j v) f) := by
  unfold pR
  by_cases h : shp w.2.2.2 k = (0, ci) ∧ k ≤ σ.1
  · rw [if_pos h]
    exact x_put0 C (τ := uR σ k j v) hf h.1 h.2 rfl (fun _ _ _ => rfl) (fun k' i' q => if_neg q) (fun b ra => by rw [uR_at]; rcases hty with ⟨n, e⟩ | ⟨n, e⟩ <;> rw [e] <;> rfl) (fun b ra => rf_fits hty) hfin hd (kk _)
  · rw [if_neg h]
    obtain ⟨p, le, e, R, s, m, args, below, meth, c, ⟨D, ca, ra, S⟩, b, hs, nL1, rt⟩ := z
    intro σ' r hP
    cases hP
end Rows
