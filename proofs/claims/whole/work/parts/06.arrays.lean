/-! rows of arrays -/
def cA (t : Nat) (z : Int) : Value := match t with
  | 2 => .long (Int64.ofInt z)
  | 3 => .int (vp_nar .boolean (Int32.ofInt z))
  | 4 => .int (vp_nar .byte (Int32.ofInt z))
  | _ => .int (Int32.ofInt z)
theorem nar_b (z : Int) : vp_nar .byte (Int32.ofInt z) = Int32.ofInt (wb z) := by
  rw [vp_nar_byte]
  apply i_of
  rw [Int8.toInt_toInt32, Int32.toInt_toInt8, wr_i]
  unfold wb wr
  rw [Int.bmod_def, show ((2 ^ 8 : Nat) : Int) = 256 from rfl]
  split <;> omega
theorem and1 (z : Int) : (Int32.ofInt z &&& 1).toInt = z % 2 := by
  have h1 : (Int32.ofInt z &&& 1).toBitVec.toNat = (Int32.ofInt z).toBitVec.toNat % 2 := by
    rw [Int32.toBitVec_and, BitVec.toNat_and]
    show (Int32.ofInt z).toBitVec.toNat &&& 1 = _
    exact Nat.and_one_is_mod _
  have h2 : (Int32.ofInt z).toBitVec.toNat = (z % 4294967296).toNat := by
    show (BitVec.ofInt 32 z).toNat = _
    rw [BitVec.toNat_ofInt]; rfl
  have h3 : (Int32.ofInt z &&& 1).toInt = (Int32.ofInt z &&& 1).toBitVec.toInt := rfl
  rw [h3, BitVec.toInt_eq_toNat_cond, h1, h2]
  have h4 : ((z % 4294967296).toNat : Int) = z % 4294967296 := Int.toNat_of_nonneg (by omega)
  split <;> omega
theorem nar_z (z : Int) : vp_nar .boolean (Int32.ofInt z) = Int32.ofInt (wz z) := by
  show Int32.ofInt z &&& 1 = _
  apply i_of
  rw [and1]; rfl
theorem at_arr {D : va_G} {ca : Nat → ClassId} {S : List Sp} {b : Nat} {σ : St} {k t : Nat} {H : Heap} (h1 : (shp S k).1 = t) (ht : t = 1 ∨ t = 2 ∨ t = 3 ∨ t = 4) : cAt D ca S b σ k H ↔ H[b + k]? = some (arrV (ca t) (shp S k).2 (fun j => cA t (σ.2.1 k j))) := by
  unfold cAt
  generalize shp S k = q at h1 ⊢
  obtain ⟨t', n⟩ := q
  have h1 : t' = t := h1
  subst h1
  rcases ht with rfl | rfl | rfl | rfl <;> exact Iff.rfl
theorem upd_arr {t k jn : Nat} {σ : St} {i v : Int} (h : (jn : Int) = wr i) : updV (fun j => cA t (σ.2.1 k j)) jn (cA t v) = fun j : Nat => cA t ((uI σ k (wr i) v).2.1 k j) := by
  funext j
  unfold updV
  by_cases e : j = jn
  · rw [if_pos e]
    show _ = cA t (if k = k ∧ (j : Int) = wr i then v else σ.2.1 k j)
    rw [if_pos ⟨rfl, by rw [e]; exact h⟩]
  · rw [if_neg e]
    show _ = cA t (if k = k ∧ (j : Int) = wr i then v else σ.2.1 k j)
    rw [if_neg (fun q => e (by have := q.2; omega))]
section Rows
variable {z : Zt} {l : Launch} {w : Vt} {y : MethodName} {cc : ByteArray} {nL : Nat} {ret : Option FieldType} {tg : Bool} {rm : Room} {cs ss pc : Nat} {σ : St} {lv : List (Nat × AV)} {st : List AV} {P : Option (St × Int)}
theorem x_no {cs ss pc : Nat} {σ : St} {lv : List (Nat × AV)} {st : List AV} : X z cs ss σ pc lv st none := by
  obtain ⟨p, le, e, R, s, m, args, below, meth, c, ⟨D, ca, ra, S⟩, b, hs, nL1, rt⟩ := z
  intro σ' r hP
  cases hP
theorem x_aldI (C : Cx z l w y cc nL ret tg rm) {k : Nat} {i : Int} {f : Int → Option (St × Int)} (hd : decode cc pc = .ok (.iaload, 1)) (kk : ∀ v, X z cs ss σ (pc + 1) lv (ai (v) :: st) (f v)) : X z cs ss σ pc lv (ai i :: ar k :: st) (Option.bind (aI w.2.2.2 σ 1 k i) f) := by
  unfold aI
  by_cases h : (shp w.2.2.2 k).1 = 1 ∧ k ≤ σ.1 ∧ 0 ≤ wr i ∧ wr i < (shp w.2.2.2 k).2
  · rw [if_pos h]
    obtain ⟨p, le, e, R, s, m, args, below, meth, c, ⟨D, ca, ra, S⟩, b, hs, nL1, rt⟩ := z
    obtain ⟨⟨hx, hb, hml, hown⟩, hts, ⟨hr, hlk, hnm⟩, ⟨hK, hN, hF⟩, ⟨rfl, rfl, rfl, rfl, rfl⟩, htg⟩ := C
    intro σ' r hP H locs ls hR hS hl
    have hk0 := shp_ne hR.1.2 (k := k) (by rw [h.1]; exact (by decide : (1 : Nat) ≠ 9))
    have hc := (at_arr h.1 (by decide)).mp (hR.2.2 k (by omega) h.2.1)
    have h9 := kk _ σ' r hP H locs ls hR hS hl
    rw [List.map_cons, List.map_cons, cv_ar hk0.1]
    have hn := nat_wr h.2.2.1
    have hlt : (Int32.ofInt i).toNatClampNeg < (shp S k).2 := by
      have := h.2.2.2
      simp only at this
      omega
    have e9 : cv b ra (ai ((σ.2.1 k (wr i)))) = cA 1 (σ.2.1 k ((Int32.ofInt i).toNatClampNeg : Int)) := by
      rw [hn]
      exact (rfl).symm
    rw [List.map_cons, e9] at h9
    exact W.iald hx hb hc ((hK.2 0 _ rfl).1 _ _) (fun q => by cases q) (by show ¬ (_ ∨ (arrV _ _ _).slots.size ≤ _); rw [arrV_size]; exact vp_in_wr h.2.2.1 h.2.2.2) (arrV_read _ _ hlt) rfl rfl hd h9
  · rw [if_neg h]
    exact x_no
theorem x_astI (C : Cx z l w y cc nL ret tg rm) {k : Nat} {i v : Int} {f : St → Option (St × Int)} (hd : decode cc pc = .ok (.iastore, 1)) (kk : ∀ τ, X z cs ss τ (pc + 1) lv st (f τ)) : X z cs ss σ pc lv (ai v :: ai i :: ar k :: st) (Option.bind (sI w.2.2.2 σ 1 k i v) f) := by
  unfold sI
  by_cases h : (shp w.2.2.2 k).1 = 1 ∧ k ≤ σ.1 ∧ 0 ≤ wr i ∧ wr i < (shp w.2.2.2 k).2
  · rw [if_pos h]
    obtain ⟨p, le, e, R, s, m, args, below, meth, c, ⟨D, ca, ra, S⟩, b, hs, nL1, rt⟩ := z
    obtain ⟨⟨hx, hb, hml, hown⟩, hts, ⟨hr, hlk, hnm⟩, ⟨hK, hN, hF⟩, ⟨rfl, rfl, rfl, rfl, rfl⟩, htg⟩ := C
    intro σ' r hP H locs ls hR hS hl
    have hk0 := shp_ne hR.1.2 (k := k) (by rw [h.1]; exact (by decide : (1 : Nat) ≠ 9))
    have hc := (at_arr h.1 (by decide)).mp (hR.2.2 k (by omega) h.2.1)
    rw [List.map_cons, List.map_cons, List.map_cons, cv_ar hk0.1]
    have hn := nat_wr h.2.2.1
    refine W.iast hx hb hc ((hK.2 0 _ rfl).1 _ _) (fun q => by cases q) (by show ¬ (_ ∨ (arrV _ _ _).slots.size ≤ _); rw [arrV_size]; exact vp_in_wr h.2.2.1 h.2.2.2) rfl rfl hd fun H' e1 e2 e3 => ?_
    refine kk (uI σ k (wr i) v) σ' r hP H' _ ls (hR.put (k := k) rfl (fun k' e => funext fun i' => if_neg (fun q => e q.1)) (fun _ _ => rfl) e2 e3 ((at_arr h.1 (by decide)).mpr ?_)) (hS.put1 e2 e3 (zA_in hk0.1 hk0.2)) hl
    rw [e1, arrV_store, ← upd_arr hn]
    rfl
  · rw [if_neg h]
    exact x_no
theorem x_aldL (C : Cx z l w y cc nL ret tg rm) {k : Nat} {i : Int} {f : Int → Option (St × Int)} (hd : decode cc pc = .ok (.laload, 1)) (kk : ∀ v, X z cs ss σ (pc + 1) lv (al (v) :: st) (f v)) : X z cs ss σ pc lv (ai i :: ar k :: st) (Option.bind (aI w.2.2.2 σ 2 k i) f) := by
  unfold aI
  by_cases h : (shp w.2.2.2 k).1 = 2 ∧ k ≤ σ.1 ∧ 0 ≤ wr i ∧ wr i < (shp w.2.2.2 k).2
  · rw [if_pos h]
    obtain ⟨p, le, e, R, s, m, args, below, meth, c, ⟨D, ca, ra, S⟩, b, hs, nL1, rt⟩ := z
    obtain ⟨⟨hx, hb, hml, hown⟩, hts, ⟨hr, hlk, hnm⟩, ⟨hK, hN, hF⟩, ⟨rfl, rfl, rfl, rfl, rfl⟩, htg⟩ := C
    intro σ' r hP H locs ls hR hS hl
    have hk0 := shp_ne hR.1.2 (k := k) (by rw [h.1]; exact (by decide : (2 : Nat) ≠ 9))
    have hc := (at_arr h.1 (by decide)).mp (hR.2.2 k (by omega) h.2.1)
    have h9 := kk _ σ' r hP H locs ls hR hS hl
    rw [List.map_cons, List.map_cons, cv_ar hk0.1]
    have hn := nat_wr h.2.2.1
    have hlt : (Int32.ofInt i).toNatClampNeg < (shp S k).2 := by
      have := h.2.2.2
      simp only at this
      omega
    have e9 : cv b ra (al ((σ.2.1 k (wr i)))) = cA 2 (σ.2.1 k ((Int32.ofInt i).toNatClampNeg : Int)) := by
      rw [hn]
      exact (rfl).symm
    rw [List.map_cons, e9] at h9
    exact W.lald hx hb hc ((hK.2 1 _ rfl).1 _ _) (fun q => by cases q) (by show ¬ (_ ∨ (arrV _ _ _).slots.size ≤ _); rw [arrV_size]; exact vp_in_wr h.2.2.1 h.2.2.2) (arrV_read _ _ hlt) rfl rfl hd h9
  · rw [if_neg h]
    exact x_no
theorem x_astL (C : Cx z l w y cc nL ret tg rm) {k : Nat} {i v : Int} {f : St → Option (St × Int)} (hd : decode cc pc = .ok (.lastore, 1)) (kk : ∀ τ, X z cs ss τ (pc + 1) lv st (f τ)) : X z cs ss σ pc lv (al v :: ai i :: ar k :: st) (Option.bind (sI w.2.2.2 σ 2 k i v) f) := by
  unfold sI
  by_cases h : (shp w.2.2.2 k).1 = 2 ∧ k ≤ σ.1 ∧ 0 ≤ wr i ∧ wr i < (shp w.2.2.2 k).2
  · rw [if_pos h]
    obtain ⟨p, le, e, R, s, m, args, below, meth, c, ⟨D, ca, ra, S⟩, b, hs, nL1, rt⟩ := z
    obtain ⟨⟨hx, hb, hml, hown⟩, hts, ⟨hr, hlk, hnm⟩, ⟨hK, hN, hF⟩, ⟨rfl, rfl, rfl, rfl, rfl⟩, htg⟩ := C
    intro σ' r hP H locs ls hR hS hl
    have hk0 := shp_ne hR.1.2 (k := k) (by rw [h.1]; exact (by decide : (2 : Nat) ≠ 9))
    have hc := (at_arr h.1 (by decide)).mp (hR.2.2 k (by omega) h.2.1)
    rw [List.map_cons, List.map_cons, List.map_cons, cv_ar hk0.1]
    have hn := nat_wr h.2.2.1
    refine W.last hx hb hc ((hK.2 1 _ rfl).1 _ _) (fun q => by cases q) (by show ¬ (_ ∨ (arrV _ _ _).slots.size ≤ _); rw [arrV_size]; exact vp_in_wr h.2.2.1 h.2.2.2) rfl rfl hd fun H' e1 e2 e3 => ?_
    refine kk (uI σ k (wr i) v) σ' r hP H' _ ls (hR.put (k := k) rfl (fun k' e => funext fun i' => if_neg (fun q => e q.1)) (fun _ _ => rfl) e2 e3 ((at_arr h.1 (by decide)).mpr ?_)) (hS.put1 e2 e3 (zA_in hk0.1 hk0.2)) hl
    rw [e1, arrV_store, ← upd_arr hn]
    rfl
  · rw [if_neg h]
    exact x_no
theorem x_aldZ (C : Cx z l w y cc nL ret tg rm) {k : Nat} {i : Int} {f : Int → Option (St × Int)} (hd : decode cc pc = .ok (.baload, 1)) (kk : ∀ v, X z cs ss σ (pc + 1) lv (ai (wz v) :: st) (f v)) : X z cs ss σ pc lv (ai i :: ar k :: st) (Option.bind (aI w.2.2.2 σ 3 k i) f) := by
  unfold aI
  by_cases h : (shp w.2.2.2 k).1 = 3 ∧ k ≤ σ.1 ∧ 0 ≤ wr i ∧ wr i < (shp w.2.2.2 k).2
  · rw [if_pos h]
    obtain ⟨p, le, e, R, s, m, args, below, meth, c, ⟨D, ca, ra, S⟩, b, hs, nL1, rt⟩ := z
    obtain ⟨⟨hx, hb, hml, hown⟩, hts, ⟨hr, hlk, hnm⟩, ⟨hK, hN, hF⟩, ⟨rfl, rfl, rfl, rfl, rfl⟩, htg⟩ := C
    intro σ' r hP H locs ls hR hS hl
    have hk0 := shp_ne hR.1.2 (k := k) (by rw [h.1]; exact (by decide : (3 : Nat) ≠ 9))
    have hc := (at_arr h.1 (by decide)).mp (hR.2.2 k (by omega) h.2.1)
    have h9 := kk _ σ' r hP H locs ls hR hS hl
    rw [List.map_cons, List.map_cons, cv_ar hk0.1]
    have hn := nat_wr h.2.2.1
    have hlt : (Int32.ofInt i).toNatClampNeg < (shp S k).2 := by
      have := h.2.2.2
      simp only at this
      omega
    have e9 : cv b ra (ai (wz (σ.2.1 k (wr i)))) = cA 3 (σ.2.1 k ((Int32.ofInt i).toNatClampNeg : Int)) := by
      rw [hn]
      exact (congrArg Value.int (nar_z _)).symm
    rw [List.map_cons, e9] at h9
    exact W.zald hx hb hc ((hK.2 2 _ rfl).1 _ _) (fun q => by cases q) (by show ¬ (_ ∨ (arrV _ _ _).slots.size ≤ _); rw [arrV_size]; exact vp_in_wr h.2.2.1 h.2.2.2) (arrV_read _ _ hlt) rfl rfl hd h9
  · rw [if_neg h]
    exact x_no
theorem x_astZ (C : Cx z l w y cc nL ret tg rm) {k : Nat} {i v : Int} {f : St → Option (St × Int)} (hd : decode cc pc = .ok (.bastore, 1)) (kk : ∀ τ, X z cs ss τ (pc + 1) lv st (f τ)) : X z cs ss σ pc lv (ai v :: ai i :: ar k :: st) (Option.bind (sI w.2.2.2 σ 3 k i v) f) := by
  unfold sI
  by_cases h : (shp w.2.2.2 k).1 = 3 ∧ k ≤ σ.1 ∧ 0 ≤ wr i ∧ wr i < (shp w.2.2.2 k).2
  · rw [if_pos h]
    obtain ⟨p, le, e, R, s, m, args, below, meth, c, ⟨D, ca, ra, S⟩, b, hs, nL1, rt⟩ := z
    obtain ⟨⟨hx, hb, hml, hown⟩, hts, ⟨hr, hlk, hnm⟩, ⟨hK, hN, hF⟩, ⟨rfl, rfl, rfl, rfl, rfl⟩, htg⟩ := C
    intro σ' r hP H locs ls hR hS hl
    have hk0 := shp_ne hR.1.2 (k := k) (by rw [h.1]; exact (by decide : (3 : Nat) ≠ 9))
    have hc := (at_arr h.1 (by decide)).mp (hR.2.2 k (by omega) h.2.1)
    rw [List.map_cons, List.map_cons, List.map_cons, cv_ar hk0.1]
    have hn := nat_wr h.2.2.1
    refine W.zast hx hb hc ((hK.2 2 _ rfl).1 _ _) (fun q => by cases q) (by show ¬ (_ ∨ (arrV _ _ _).slots.size ≤ _); rw [arrV_size]; exact vp_in_wr h.2.2.1 h.2.2.2) rfl rfl hd fun H' e1 e2 e3 => ?_
    refine kk (uI σ k (wr i) v) σ' r hP H' _ ls (hR.put (k := k) rfl (fun k' e => funext fun i' => if_neg (fun q => e q.1)) (fun _ _ => rfl) e2 e3 ((at_arr h.1 (by decide)).mpr ?_)) (hS.put1 e2 e3 (zA_in hk0.1 hk0.2)) hl
    rw [e1, arrV_store, ← upd_arr hn]
    rfl
  · rw [if_neg h]
    exact x_no
theorem x_aldB (C : Cx z l w y cc nL ret tg rm) {k : Nat} {i : Int} {f : Int → Option (St × Int)} (hd : decode cc pc = .ok (.baload, 1)) (kk : ∀ v, X z cs ss σ (pc + 1) lv (ai (wb v) :: st) (f v)) : X z cs ss σ pc lv (ai i :: ar k :: st) (Option.bind (aI w.2.2.2 σ 4 k i) f) := by
  unfold aI
  by_cases h : (shp w.2.2.2 k).1 = 4 ∧ k ≤ σ.1 ∧ 0 ≤ wr i ∧ wr i < (shp w.2.2.2 k).2
  · rw [if_pos h]
    obtain ⟨p, le, e, R, s, m, args, below, meth, c, ⟨D, ca, ra, S⟩, b, hs, nL1, rt⟩ := z
    obtain ⟨⟨hx, hb, hml, hown⟩, hts, ⟨hr, hlk, hnm⟩, ⟨hK, hN, hF⟩, ⟨rfl, rfl, rfl, rfl, rfl⟩, htg⟩ := C
    intro σ' r hP H locs ls hR hS hl
    have hk0 := shp_ne hR.1.2 (k := k) (by rw [h.1]; exact (by decide : (4 : Nat) ≠ 9))
    have hc := (at_arr h.1 (by decide)).mp (hR.2.2 k (by omega) h.2.1)
    have h9 := kk _ σ' r hP H locs ls hR hS hl
    rw [List.map_cons, List.map_cons, cv_ar hk0.1]
    have hn := nat_wr h.2.2.1
    have hlt : (Int32.ofInt i).toNatClampNeg < (shp S k).2 := by
      have := h.2.2.2
      simp only at this
      omega
    have e9 : cv b ra (ai (wb (σ.2.1 k (wr i)))) = cA 4 (σ.2.1 k ((Int32.ofInt i).toNatClampNeg : Int)) := by
      rw [hn]
      exact (congrArg Value.int (nar_b _)).symm
    rw [List.map_cons, e9] at h9
    exact W.bald hx hb hc ((hK.2 3 _ rfl).1 _ _) (fun q => by cases q) (by show ¬ (_ ∨ (arrV _ _ _).slots.size ≤ _); rw [arrV_size]; exact vp_in_wr h.2.2.1 h.2.2.2) (arrV_read _ _ hlt) rfl rfl hd h9
  · rw [if_neg h]
    exact x_no
theorem x_astB (C : Cx z l w y cc nL ret tg rm) {k : Nat} {i v : Int} {f : St → Option (St × Int)} (hd : decode cc pc = .ok (.bastore, 1)) (kk : ∀ τ, X z cs ss τ (pc + 1) lv st (f τ)) : X z cs ss σ pc lv (ai v :: ai i :: ar k :: st) (Option.bind (sI w.2.2.2 σ 4 k i v) f) := by
  unfold sI
  by_cases h : (shp w.2.2.2 k).1 = 4 ∧ k ≤ σ.1 ∧ 0 ≤ wr i ∧ wr i < (shp w.2.2.2 k).2
  · rw [if_pos h]
    obtain ⟨p, le, e, R, s, m, args, below, meth, c, ⟨D, ca, ra, S⟩, b, hs, nL1, rt⟩ := z
    obtain ⟨⟨hx, hb, hml, hown⟩, hts, ⟨hr, hlk, hnm⟩, ⟨hK, hN, hF⟩, ⟨rfl, rfl, rfl, rfl, rfl⟩, htg⟩ := C
    intro σ' r hP H locs ls hR hS hl
    have hk0 := shp_ne hR.1.2 (k := k) (by rw [h.1]; exact (by decide : (4 : Nat) ≠ 9))
    have hc := (at_arr h.1 (by decide)).mp (hR.2.2 k (by omega) h.2.1)
    rw [List.map_cons, List.map_cons, List.map_cons, cv_ar hk0.1]
    have hn := nat_wr h.2.2.1
    refine W.bast hx hb hc ((hK.2 3 _ rfl).1 _ _) (fun q => by cases q) (by show ¬ (_ ∨ (arrV _ _ _).slots.size ≤ _); rw [arrV_size]; exact vp_in_wr h.2.2.1 h.2.2.2) rfl rfl hd fun H' e1 e2 e3 => ?_
    refine kk (uI σ k (wr i) v) σ' r hP H' _ ls (hR.put (k := k) rfl (fun k' e => funext fun i' => if_neg (fun q => e q.1)) (fun _ _ => rfl) e2 e3 ((at_arr h.1 (by decide)).mpr ?_)) (hS.put1 e2 e3 (zA_in hk0.1 hk0.2)) hl
    rw [e1, arrV_store, ← upd_arr hn]
    rfl
  · rw [if_neg h]
    exact x_no
theorem at_arrR {D : va_G} {ca : Nat → ClassId} {S : List Sp} {b : Nat} {σ : St} {k t : Nat} {H : Heap} (h1 : (shp S k).1 = t) (ht : t = 5 ∨ t = 6) : cAt D ca S b σ k H ↔ H[b + k]? = some (arrV (ca t) (shp S k).2 (fun j => va_rf (adr b (σ.2.2 k j)))) := by
  unfold cAt
  generalize shp S k = q at h1 ⊢
  obtain ⟨t', n⟩ := q
  have h1 : t' = t := h1
  subst h1
  rcases ht with rfl | rfl <;> exact Iff.rfl
def sR (S : List Sp) (σ : St) (t k : Nat) (i : Int) (v : Nat) : Option St := if ((shp S k).1 = t ∧ k ≤ σ.1 ∧ 0 ≤ wr i ∧ wr i < (shp S k).2) ∧ shp S v = (0, 7) ∧ v ≤ σ.1 then some (uR σ k (wr i) v) else none
theorem x_aldR5 (C : Cx z l w y cc nL ret tg rm) {k : Nat} {i : Int} {f : Nat → Option (St × Int)} (hd : decode cc pc = .ok (.aaload, 1)) (kk : ∀ v, X z cs ss σ (pc + 1) lv (ar v :: st) (f v)) : X z cs ss σ pc lv (ai i :: ar k :: st) (Option.bind (aR w.2.2.2 σ 5 k i) f) := by
  unfold aR
  by_cases h : (shp w.2.2.2 k).1 = 5 ∧ k ≤ σ.1 ∧ 0 ≤ wr i ∧ wr i < (shp w.2.2.2 k).2
  · rw [if_pos h]
    obtain ⟨p, le, e, R, s, m, args, below, meth, c, ⟨D, ca, ra, S⟩, b, hs, nL1, rt⟩ := z
    obtain ⟨⟨hx, hb, hml, hown⟩, hts, ⟨hr, hlk, hnm⟩, ⟨hK, hN, hF⟩, ⟨rfl, rfl, rfl, rfl, rfl⟩, htg⟩ := C
    intro σ' r hP H locs ls hR hS hl
    have hk0 := shp_ne hR.1.2 (k := k) (by rw [h.1]; exact (by decide : (5 : Nat) ≠ 9))
    have hc := (at_arrR h.1 (by decide)).mp (hR.2.2 k (by omega) h.2.1)
    have h9 := kk _ σ' r hP H locs ls hR hS hl
    rw [List.map_cons, List.map_cons, cv_ar hk0.1]
    have hn := nat_wr h.2.2.1
    have hlt : (Int32.ofInt i).toNatClampNeg < (shp S k).2 := by
      have := h.2.2.2
      simp only at this
      omega
    have e9 : cv b ra (ar (σ.2.2 k (wr i))) = va_rf (adr b (σ.2.2 k ((Int32.ofInt i).toNatClampNeg : Int))) := by
      rw [hn]; rfl
    rw [List.map_cons, e9] at h9
    exact W.aald (ty := .object "FastPlane$Treaty") hx hb hc ((hK.2 4 _ rfl).1 _ _) rfl (fun q => by cases q) (by show ¬ (_ ∨ (arrV _ _ _).slots.size ≤ _); rw [arrV_size]; exact vp_in_wr h.2.2.1 h.2.2.2) (arrV_read _ _ hlt) rfl rfl hd h9
  · rw [if_neg h]
    exact x_no
theorem x_aldR6 (C : Cx z l w y cc nL ret tg rm) {k : Nat} {i : Int} {f : Nat → Option (St × Int)} (hd : decode cc pc = .ok (.aaload, 1)) (kk : ∀ v, X z cs ss σ (pc + 1) lv (ar v :: st) (f v)) : X z cs ss σ pc lv (ai i :: ar k :: st) (Option.bind (aR w.2.2.2 σ 6 k i) f) := by
  unfold aR
  by_cases h : (shp w.2.2.2 k).1 = 6 ∧ k ≤ σ.1 ∧ 0 ≤ wr i ∧ wr i < (shp w.2.2.2 k).2
  · rw [if_pos h]
    obtain ⟨p, le, e, R, s, m, args, below, meth, c, ⟨D, ca, ra, S⟩, b, hs, nL1, rt⟩ := z
    obtain ⟨⟨hx, hb, hml, hown⟩, hts, ⟨hr, hlk, hnm⟩, ⟨hK, hN, hF⟩, ⟨rfl, rfl, rfl, rfl, rfl⟩, htg⟩ := C
    intro σ' r hP H locs ls hR hS hl
    have hk0 := shp_ne hR.1.2 (k := k) (by rw [h.1]; exact (by decide : (6 : Nat) ≠ 9))
    have hc := (at_arrR h.1 (by decide)).mp (hR.2.2 k (by omega) h.2.1)
    have h9 := kk _ σ' r hP H locs ls hR hS hl
    rw [List.map_cons, List.map_cons, cv_ar hk0.1]
    have hn := nat_wr h.2.2.1
    have hlt : (Int32.ofInt i).toNatClampNeg < (shp S k).2 := by
      have := h.2.2.2
      simp only at this
      omega
    have e9 : cv b ra (ar (σ.2.2 k (wr i))) = va_rf (adr b (σ.2.2 k ((Int32.ofInt i).toNatClampNeg : Int))) := by
      rw [hn]; rfl
    rw [List.map_cons, e9] at h9
    exact W.aald (ty := .array .int) hx hb hc ((hK.2 5 _ rfl).1 _ _) rfl (fun q => by cases q) (by show ¬ (_ ∨ (arrV _ _ _).slots.size ≤ _); rw [arrV_size]; exact vp_in_wr h.2.2.1 h.2.2.2) (arrV_read _ _ hlt) rfl rfl hd h9
  · rw [if_neg h]
    exact x_no
theorem x_astR (C : Cx z l w y cc nL ret tg rm) {k v : Nat} {i : Int} {f : St → Option (St × Int)} (hd : decode cc pc = .ok (.aastore, 1)) (kk : ∀ τ, X z cs ss τ (pc + 1) lv st (f τ)) : X z cs ss σ pc lv (ar v :: ai i :: ar k :: st) (Option.bind (sR w.2.2.2 σ 5 k i v) f) := by
  unfold sR
  by_cases h : ((shp w.2.2.2 k).1 = 5 ∧ k ≤ σ.1 ∧ 0 ≤ wr i ∧ wr i < (shp w.2.2.2 k).2) ∧ shp w.2.2.2 v = (0, 7) ∧ v ≤ σ.1
  · rw [if_pos h]
    obtain ⟨h, hv1, hv2⟩ := h
    obtain ⟨p, le, e, R, s, m, args, below, meth, c, ⟨D, ca, ra, S⟩, b, hs, nL1, rt⟩ := z
    obtain ⟨⟨hx, hb, hml, hown⟩, hts, ⟨hr, hlk, hnm⟩, ⟨hK, hN, hF⟩, ⟨rfl, rfl, rfl, rfl, rfl⟩, htg⟩ := C
    intro σ' r hP H locs ls hR hS hl
    have hk0 := shp_ne hR.1.2 (k := k) (by rw [h.1]; exact (by decide : (5 : Nat) ≠ 9))
    have hv0 := shp_ne hR.1.2 (k := v) (by rw [hv1]; exact (by decide : (0 : Nat) ≠ 9))
    have hc := (at_arrR h.1 (by decide)).mp (hR.2.2 k (by omega) h.2.1)
    have hcv := hR.2.2 v (by omega) hv2
    unfold cAt at hcv
    rw [cell_obj hv1] at hcv
    rw [List.map_cons, List.map_cons, List.map_cons, cv_ar hk0.1, cv_ar hv0.1]
    have hn := nat_wr h.2.2.1
    have hin := vp_in_wr h.2.2.1 h.2.2.2
    have hlt : (Int32.ofInt i).toNatClampNeg < (shp S k).2 := by
      have := h.2.2.2
      simp only at this
      omega
    have h0 : ¬ Int32.ofInt i < 0 := fun q => hin (Or.inl q)
    obtain ⟨r', hr', cellV, g1, g2, g3, -⟩ := hcv
    have hcl7 : classes[7]? = some (RX7, TX7, 8) := rfl
    have hr7 : r' = (RX7, TX7, 8) := Option.some.inj (hr'.symm.trans hcl7)
    subst hr7
    have hcls := (hK.1 7 _ hcl7).2
    obtain ⟨kA, comp, k1, k2, k3, -⟩ := (hK.2 4 _ rfl).2
    have hcomp : comp = D.1 7 := Option.some.inj (k3.symm.trans hcls.1)
    subst hcomp
    obtain ⟨kC, hkC, -⟩ := id hcls.2
    refine W.aast hx hb hc (fun q h => by cases h) (fun h => by cases h) k1 k2 rfl hkC ⟨h0, by show _ < (arrV _ _ _).slots.size; rw [arrV_size]; exact hlt⟩ g1 (fun q h => by rw [g3] at h; cases h) (by rw [g2]; exact hkC) (by rw [g2]; exact va_assign hcls) rfl rfl hd fun H' e1 e2 e3 => ?_
    refine kk (uR σ k (wr i) v) σ' r hP H' _ ls (hR.put (k := k) rfl (fun _ _ => rfl) (fun k' e => funext fun i' => if_neg (fun q => e q.1)) e2 e3 ((at_arrR h.1 (by decide)).mpr ?_)) (hS.put1 e2 e3 (zA_in hk0.1 hk0.2)) hl
    rw [e1, arrV_store]
    congr 2
    funext j
    unfold updV
    by_cases e : j = (Int32.ofInt i).toNatClampNeg
    · rw [if_pos e]
      show _ = va_rf (adr b (if k = k ∧ (j : Int) = wr i then v else σ.2.2 k j))
      rw [if_pos ⟨rfl, by rw [e]; exact hn⟩, adr_pos hv0.1]; rfl
    · rw [if_neg e]
      show _ = va_rf (adr b (if k = k ∧ (j : Int) = wr i then v else σ.2.2 k j))
      rw [if_neg (fun q => e (by have := q.2; omega))]
  · rw [if_neg h]
    exact x_no
theorem x_alen (C : Cx z l w y cc nL ret tg rm) {k : Nat} {f : Int → Option (St × Int)} (hd : decode cc pc = .ok (.arraylength, 1)) (kk : ∀ v, X z cs ss σ (pc + 1) lv (ai v :: st) (f v)) : X z cs ss σ pc lv (ar k :: st) (Option.bind (aL w.2.2.2 σ k) f) := by
  unfold aL
  by_cases h : 1 ≤ (shp w.2.2.2 k).1 ∧ (shp w.2.2.2 k).1 ≤ 1 ∧ k ≤ σ.1
  · rw [if_pos h]
    obtain ⟨p, le, e, R, s, m, args, below, meth, c, ⟨D, ca, ra, S⟩, b, hs, nL1, rt⟩ := z
    obtain ⟨⟨hx, hb, hml, hown⟩, hts, ⟨hr, hlk, hnm⟩, ⟨hK, hN, hF⟩, ⟨rfl, rfl, rfl, rfl, rfl⟩, htg⟩ := C
    intro σ' r hP H locs ls hR hS hl
    have h1 : (shp S k).1 = 1 := by
      have a1 := h.1
      have a2 := h.2.1
      simp only at a1 a2
      omega
    have hk0 := shp_ne hR.1.2 (k := k) (by rw [h1]; exact (by decide : (1 : Nat) ≠ 9))
    have hc := (at_arr h1 (by decide)).mp (hR.2.2 k (by omega) h.2.2)
    have h9 := kk _ σ' r hP H locs ls hR hS hl
    rw [List.map_cons, cv_ar hk0.1]
    rw [List.map_cons] at h9
    exact W.alen hx hb hc ((hK.2 0 _ rfl).1 _ _) (by rw [arrV_size]; exact (Int32.ofInt_eq_ofNat ..).symm) rfl rfl hd h9
  · rw [if_neg h]
    exact x_no
end Rows
