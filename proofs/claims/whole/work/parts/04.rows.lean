/-! one instruction, a row: over the pure machine -/
theorem i_eq {x y : Int} : Int32.ofInt x = Int32.ofInt y ↔ wr x = wr y := by
  rw [← Int32.toInt_inj, wr_i, wr_i]
theorem i_eq0 {x : Int} : Int32.ofInt x = 0 ↔ wr x = 0 := by
  rw [← Int32.toInt_inj, wr_i]; rfl
theorem i_lt {x y : Int} : Int32.ofInt x < Int32.ofInt y ↔ wr x < wr y := by
  rw [Int32.lt_iff_toInt_lt, wr_i, wr_i]
theorem i_le {x y : Int} : Int32.ofInt x ≤ Int32.ofInt y ↔ wr x ≤ wr y := by
  rw [Int32.le_iff_toInt_le, wr_i, wr_i]
theorem l_eq {x y : Int} : Int64.ofInt x = Int64.ofInt y ↔ wl x = wl y := by
  rw [← Int64.toInt_inj, wl_l, wl_l]
theorem i_of {v : Int32} {z : Int} (h : v.toInt = z) : v = Int32.ofInt z := by rw [← h]; exact (Int32.ofInt_toInt v).symm
theorem l_of {v : Int64} {z : Int} (h : v.toInt = z) : v = Int64.ofInt z := by rw [← h]; exact (Int64.ofInt_toInt v).symm
def andZ (a b : Int) : Int := (Int32.ofInt a &&& Int32.ofInt b).toInt
def orZ (a b : Int) : Int := (Int32.ofInt a ||| Int32.ofInt b).toInt
def shlZ (a b : Int) : Int := (Int32.ofInt a <<< (Int32.ofInt b &&& 31)).toInt
def shrZ (a b : Int) : Int := (Int32.ofInt a >>> (Int32.ofInt b &&& 31)).toInt
def ushrZ (a b : Int) : Int := ((Int32.ofInt a).toUInt32 >>> ((Int32.ofInt b).toUInt32 &&& Int32.toUInt32 31)).toInt32.toInt
def landZ (a b : Int) : Int := (Int64.ofInt a &&& Int64.ofInt b).toInt
def lorZ (a b : Int) : Int := (Int64.ofInt a ||| Int64.ofInt b).toInt
def lshlZ (a b : Int) : Int := (Int64.ofInt a <<< ((Int32.ofInt b).toInt64 &&& 63)).toInt
def lshrZ (a b : Int) : Int := (Int64.ofInt a >>> ((Int32.ofInt b).toInt64 &&& 63)).toInt
def i2bZ (a : Int) : Int := (Int32.ofInt a).toInt8.toInt32.toInt
def i2cZ (a : Int) : Int := ((Int32.ofInt a).toUInt32 % 65536).toInt32.toInt
def dvO (a b : Int) : Option Int := if wr b = 0 then none else some (Int.tdiv (wr a) (wr b))
/-- a name for what is worked out, and a place where ways meet -/
def Lt {α β : Type} (a : α) (f : α → β) : β := f a
def Jn {T α : Type} (rest : T → α) (body : (T → α) → α) : α := body rest
def fixN {T α : Type} : Nat → ((T → Option α) → T → Option α) → T → Option α
  | 0, _, _ => none
  | n + 1, F, t => F (fixN n F) t
def gI (S : List Sp) (σ : St) (ci k j : Nat) : Option Int := if shp S k = (0, ci) ∧ k ≤ σ.1 then some (σ.2.1 k j) else none
def gR (S : List Sp) (σ : St) (ci k j : Nat) : Option Nat := if shp S k = (0, ci) ∧ k ≤ σ.1 then some (σ.2.2 k j) else none
def uI (σ : St) (k : Nat) (j v : Int) : St := (σ.1, fun k' j' => if k' = k ∧ j' = j then v else σ.2.1 k' j', σ.2.2)
def uR (σ : St) (k : Nat) (j : Int) (v : Nat) : St := (σ.1, σ.2.1, fun k' j' => if k' = k ∧ j' = j then v else σ.2.2 k' j')
def pI (S : List Sp) (σ : St) (ci k j : Nat) (v : Int) : Option St := if shp S k = (0, ci) ∧ k ≤ σ.1 then some (uI σ k j v) else none
def pR (S : List Sp) (σ : St) (ci k j : Nat) (v : Nat) : Option St := if shp S k = (0, ci) ∧ k ≤ σ.1 then some (uR σ k j v) else none
def okA (S : List Sp) (σ : St) (t k : Nat) (i : Int) : Prop := (shp S k).1 = t ∧ k ≤ σ.1 ∧ 0 ≤ wr i ∧ wr i < (shp S k).2
theorem okA_dec (S : List Sp) (σ : St) (t k : Nat) (i : Int) : okA S σ t k i = ((shp S k).1 = t ∧ k ≤ σ.1 ∧ 0 ≤ wr i ∧ wr i < (shp S k).2) := rfl
def aI (S : List Sp) (σ : St) (t k : Nat) (i : Int) : Option Int := if (shp S k).1 = t ∧ k ≤ σ.1 ∧ 0 ≤ wr i ∧ wr i < (shp S k).2 then some (σ.2.1 k (wr i)) else none
def aR (S : List Sp) (σ : St) (t k : Nat) (i : Int) : Option Nat := if (shp S k).1 = t ∧ k ≤ σ.1 ∧ 0 ≤ wr i ∧ wr i < (shp S k).2 then some (σ.2.2 k (wr i)) else none
def aL (S : List Sp) (σ : St) (k : Nat) : Option Int := if 1 ≤ (shp S k).1 ∧ (shp S k).1 ≤ 1 ∧ k ≤ σ.1 then some (shp S k).2 else none
def sI (S : List Sp) (σ : St) (t k : Nat) (i v : Int) : Option St := if (shp S k).1 = t ∧ k ≤ σ.1 ∧ 0 ≤ wr i ∧ wr i < (shp S k).2 then some (uI σ k (wr i) v) else none
def pick {α : Type} (l : List α) (ks : List Nat) : List α := ks.filterMap (fun k => l[k]?)
def set1 (i : Nat) (v : AV) (l : List (Nat × AV)) : List (Nat × AV) := (i, v) :: l.filter (fun q => !(q.1 == i) && !(q.1 + 1 == i && cat q.2 == 2))
def set2 (i : Nat) (v : AV) (l : List (Nat × AV)) : List (Nat × AV) := (i, v) :: l.filter (fun q => !(q.1 == i) && (!(q.1 == i + 1) && !(q.1 + 1 == i && cat q.2 == 2)))
theorem lcv_at {b : Nat} {ra : Nat → Nat} {lv : List (Nat × AV)} {j i : Nat} {v : AV} (h : lv[j]? = some (i, v)) : (lcv b ra lv)[j]? = some (i, cv b ra v) := by
  unfold lcv
  rw [List.getElem?_map, h]; rfl
theorem lcv_pick {b : Nat} {ra : Nat → Nat} {lv : List (Nat × AV)} (ks : List Nat) : lv_pick (lcv b ra lv) ks = lcv b ra (pick lv ks) := by
  unfold lv_pick pick lcv
  rw [List.map_filterMap]
  congr 1
  funext k
  rw [List.getElem?_map]
theorem lcv_set1 {b : Nat} {ra : Nat → Nat} {i : Nat} {v : AV} {lv : List (Nat × AV)} : (i, cv b ra v) :: (lcv b ra lv).filter (fun q => !(q.1 == i) && !(q.1 + 1 == i && q.2.category == 2)) = lcv b ra (set1 i v lv) := by
  unfold set1 lcv
  rw [List.map_cons, List.filter_map]
  congr 3
  funext q
  simp [Function.comp, cv_cat]
theorem lcv_set2 {b : Nat} {ra : Nat → Nat} {i : Nat} {v : AV} {lv : List (Nat × AV)} : (i, cv b ra v) :: (lcv b ra lv).filter (fun q => !(q.1 == i) && (!(q.1 == i + 1) && !(q.1 + 1 == i && q.2.category == 2))) = lcv b ra (set2 i v lv) := by
  unfold set2 lcv
  rw [List.map_cons, List.filter_map]
  congr 3
  funext q
  simp [Function.comp, cv_cat]
section Rows
variable {z : Zt} {l : Launch} {w : Vt} {y : MethodName} {cc : ByteArray} {nL : Nat} {ret : Option FieldType} {tg : Bool} {rm : Room} {cs ss pc : Nat} {σ : St} {lv : List (Nat × AV)} {st : List AV} {P : Option (St × Int)}
theorem x_iconst (C : Cx z l w y cc nL ret tg rm) {n : Int} (hd : decode cc pc = .ok (.iconst n, 1)) (k : X z cs ss σ (pc + 1) lv (ai n :: st) P) : X z cs ss σ pc lv st P := by
  obtain ⟨p, le, e, R, s, m, args, below, meth, c, ⟨D, ca, ra, S⟩, b, hs, nL1, rt⟩ := z
  obtain ⟨⟨hx, hb, hml, hown⟩, hts, ⟨hr, hlk, hnm⟩, ⟨hK, hN, hF⟩, ⟨rfl, rfl, rfl, rfl, rfl⟩, htg⟩ := C
  intro σ' r hP H locs ls hR hS hl
  exact lv_iconst hx hb hd rfl (k σ' r hP H locs ls hR hS hl)
theorem x_bipush (C : Cx z l w y cc nL ret tg rm) {n : Int} (hv : (Int8.ofInt n).toInt32 = Int32.ofInt n) (hd : decode cc pc = .ok (.bipush n, 2)) (k : X z cs ss σ (pc + 2) lv (ai n :: st) P) : X z cs ss σ pc lv st P := by
  obtain ⟨p, le, e, R, s, m, args, below, meth, c, ⟨D, ca, ra, S⟩, b, hs, nL1, rt⟩ := z
  obtain ⟨⟨hx, hb, hml, hown⟩, hts, ⟨hr, hlk, hnm⟩, ⟨hK, hN, hF⟩, ⟨rfl, rfl, rfl, rfl, rfl⟩, htg⟩ := C
  intro σ' r hP H locs ls hR hS hl
  exact lv_bipush hx hb hd hv (k σ' r hP H locs ls hR hS hl)
theorem x_sipush (C : Cx z l w y cc nL ret tg rm) {n : Int} (hv : (Int16.ofInt n).toInt32 = Int32.ofInt n) (hd : decode cc pc = .ok (.sipush n, 3)) (k : X z cs ss σ (pc + 3) lv (ai n :: st) P) : X z cs ss σ pc lv st P := by
  obtain ⟨p, le, e, R, s, m, args, below, meth, c, ⟨D, ca, ra, S⟩, b, hs, nL1, rt⟩ := z
  obtain ⟨⟨hx, hb, hml, hown⟩, hts, ⟨hr, hlk, hnm⟩, ⟨hK, hN, hF⟩, ⟨rfl, rfl, rfl, rfl, rfl⟩, htg⟩ := C
  intro σ' r hP H locs ls hR hS hl
  exact lv_sipush hx hb hd hv (k σ' r hP H locs ls hR hS hl)
theorem x_ldc (C : Cx z l w y cc nL ret tg rm) {n : Int} {index : Nat} {v : Int32} (hw : Cond.constant y.cls index v ∈ TB) (hv : v = Int32.ofInt n) (hd : decode cc pc = .ok (.ldc index, 2)) (k : X z cs ss σ (pc + 2) lv (ai n :: st) P) : X z cs ss σ pc lv st P := by
  obtain ⟨p, le, e, R, s, m, args, below, meth, c, ⟨D, ca, ra, S⟩, b, hs, nL1, rt⟩ := z
  obtain ⟨⟨hx, hb, hml, hown⟩, hts, ⟨hr, hlk, hnm⟩, ⟨hK, hN, hF⟩, ⟨rfl, rfl, rfl, rfl, rfl⟩, htg⟩ := C
  intro σ' r hP H locs ls hR hS hl
  subst hv
  exact lv_ldc hx hb hown (hts _ hw) hd (k σ' r hP H locs ls hR hS hl)
theorem x_ldcw (C : Cx z l w y cc nL ret tg rm) {n : Int} {index : Nat} {v : Int32} (hw : Cond.constant y.cls index v ∈ TB) (hv : v = Int32.ofInt n) (hd : decode cc pc = .ok (.ldc_w index, 3)) (k : X z cs ss σ (pc + 3) lv (ai n :: st) P) : X z cs ss σ pc lv st P := by
  obtain ⟨p, le, e, R, s, m, args, below, meth, c, ⟨D, ca, ra, S⟩, b, hs, nL1, rt⟩ := z
  obtain ⟨⟨hx, hb, hml, hown⟩, hts, ⟨hr, hlk, hnm⟩, ⟨hK, hN, hF⟩, ⟨rfl, rfl, rfl, rfl, rfl⟩, htg⟩ := C
  intro σ' r hP H locs ls hR hS hl
  subst hv
  exact lv_ldcw hx hb hown (hts _ hw) hd (k σ' r hP H locs ls hR hS hl)
theorem x_ldc2 (C : Cx z l w y cc nL ret tg rm) {n : Int} {index : Nat} {v : Int64} (hw : Cond.constantLong y.cls index v ∈ TB) (hv : v = Int64.ofInt n) (hd : decode cc pc = .ok (.ldc2_w index, 3)) (k : X z cs ss σ (pc + 3) lv (al n :: st) P) : X z cs ss σ pc lv st P := by
  obtain ⟨p, le, e, R, s, m, args, below, meth, c, ⟨D, ca, ra, S⟩, b, hs, nL1, rt⟩ := z
  obtain ⟨⟨hx, hb, hml, hown⟩, hts, ⟨hr, hlk, hnm⟩, ⟨hK, hN, hF⟩, ⟨rfl, rfl, rfl, rfl, rfl⟩, htg⟩ := C
  intro σ' r hP H locs ls hR hS hl
  subst hv
  exact lv_ldc2 hx hb hown (hts _ hw) hd (k σ' r hP H locs ls hR hS hl)
theorem x_lconst (C : Cx z l w y cc nL ret tg rm) {n : Fin 2} {v : Int} (hv : Int64.ofNat (n : Nat) = Int64.ofInt v) (hd : decode cc pc = .ok (.lconst n, 1)) (k : X z cs ss σ (pc + 1) lv (al v :: st) P) : X z cs ss σ pc lv st P := by
  obtain ⟨p, le, e, R, s, m, args, below, meth, c, ⟨D, ca, ra, S⟩, b, hs, nL1, rt⟩ := z
  obtain ⟨⟨hx, hb, hml, hown⟩, hts, ⟨hr, hlk, hnm⟩, ⟨hK, hN, hF⟩, ⟨rfl, rfl, rfl, rfl, rfl⟩, htg⟩ := C
  intro σ' r hP H locs ls hR hS hl
  exact lv_lconst hx hb hd hv (k σ' r hP H locs ls hR hS hl)
theorem x_iload_n (C : Cx z l w y cc nL ret tg rm) (j : Nat) {k0 : Fin 4} {i : Nat} {x : Int} (hi : (k0 : Nat) = i) (hj : lv[j]? = some (i, ai x)) (hd : decode cc pc = .ok (.iload_n k0, 1)) (k : X z cs ss σ (pc + 1) lv (ai x :: st) P) : X z cs ss σ pc lv st P := by
  obtain ⟨p, le, e, R, s, m, args, below, meth, c, ⟨D, ca, ra, S⟩, b, hs, nL1, rt⟩ := z
  obtain ⟨⟨hx, hb, hml, hown⟩, hts, ⟨hr, hlk, hnm⟩, ⟨hK, hN, hF⟩, ⟨rfl, rfl, rfl, rfl, rfl⟩, htg⟩ := C
  intro σ' r hP H locs ls hR hS hl
  exact lv_iload_n hx hb hd hi (lv_at hl j (lcv_at hj)) (k σ' r hP H locs ls hR hS hl)
theorem x_iload (C : Cx z l w y cc nL ret tg rm) (j : Nat) {i : Nat} {x : Int} (hj : lv[j]? = some (i, ai x)) (hd : decode cc pc = .ok (.iload i, 2)) (k : X z cs ss σ (pc + 2) lv (ai x :: st) P) : X z cs ss σ pc lv st P := by
  obtain ⟨p, le, e, R, s, m, args, below, meth, c, ⟨D, ca, ra, S⟩, b, hs, nL1, rt⟩ := z
  obtain ⟨⟨hx, hb, hml, hown⟩, hts, ⟨hr, hlk, hnm⟩, ⟨hK, hN, hF⟩, ⟨rfl, rfl, rfl, rfl, rfl⟩, htg⟩ := C
  intro σ' r hP H locs ls hR hS hl
  exact lv_iload hx hb hd (lv_at hl j (lcv_at hj)) (k σ' r hP H locs ls hR hS hl)
theorem x_lload_n (C : Cx z l w y cc nL ret tg rm) (j : Nat) {k0 : Fin 4} {i : Nat} {x : Int} (hi : (k0 : Nat) = i) (hj : lv[j]? = some (i, al x)) (hd : decode cc pc = .ok (.lload_n k0, 1)) (k : X z cs ss σ (pc + 1) lv (al x :: st) P) : X z cs ss σ pc lv st P := by
  obtain ⟨p, le, e, R, s, m, args, below, meth, c, ⟨D, ca, ra, S⟩, b, hs, nL1, rt⟩ := z
  obtain ⟨⟨hx, hb, hml, hown⟩, hts, ⟨hr, hlk, hnm⟩, ⟨hK, hN, hF⟩, ⟨rfl, rfl, rfl, rfl, rfl⟩, htg⟩ := C
  intro σ' r hP H locs ls hR hS hl
  exact lv_lload_n hx hb hd hi (lv_at hl j (lcv_at hj)) (k σ' r hP H locs ls hR hS hl)
theorem x_lload (C : Cx z l w y cc nL ret tg rm) (j : Nat) {i : Nat} {x : Int} (hj : lv[j]? = some (i, al x)) (hd : decode cc pc = .ok (.lload i, 2)) (k : X z cs ss σ (pc + 2) lv (al x :: st) P) : X z cs ss σ pc lv st P := by
  obtain ⟨p, le, e, R, s, m, args, below, meth, c, ⟨D, ca, ra, S⟩, b, hs, nL1, rt⟩ := z
  obtain ⟨⟨hx, hb, hml, hown⟩, hts, ⟨hr, hlk, hnm⟩, ⟨hK, hN, hF⟩, ⟨rfl, rfl, rfl, rfl, rfl⟩, htg⟩ := C
  intro σ' r hP H locs ls hR hS hl
  exact lv_lload hx hb hd (lv_at hl j (lcv_at hj)) (k σ' r hP H locs ls hR hS hl)
theorem x_aload_n (C : Cx z l w y cc nL ret tg rm) (j : Nat) {k0 : Fin 4} {i : Nat} {x : Nat} (hi : (k0 : Nat) = i) (hj : lv[j]? = some (i, ar x)) (hd : decode cc pc = .ok (.aload_n k0, 1)) (k : X z cs ss σ (pc + 1) lv (ar x :: st) P) : X z cs ss σ pc lv st P := by
  obtain ⟨p, le, e, R, s, m, args, below, meth, c, ⟨D, ca, ra, S⟩, b, hs, nL1, rt⟩ := z
  obtain ⟨⟨hx, hb, hml, hown⟩, hts, ⟨hr, hlk, hnm⟩, ⟨hK, hN, hF⟩, ⟨rfl, rfl, rfl, rfl, rfl⟩, htg⟩ := C
  intro σ' r hP H locs ls hR hS hl
  have h := lv_at hl j (lcv_at (b := b) (ra := ra) hj)
  have kk := k σ' r hP H locs ls hR hS hl
  rcases Nat.eq_zero_or_pos x with h0 | h0
  · have e : cv b ra (ar x) = .null := by show va_rf (adr b x) = _; rw [show adr b x = none from if_pos h0]; rfl
    rw [List.map_cons, e] at kk
    rw [e] at h
    exact lv_aload_nN hx hb hd hi h kk
  · have e : cv b ra (ar x) = .ref (b + x) := by show va_rf (adr b x) = _; rw [show adr b x = some (b + x) from if_neg (by omega)]; rfl
    rw [List.map_cons, e] at kk
    rw [e] at h
    exact lv_aload_n hx hb hd hi h kk
theorem x_aload (C : Cx z l w y cc nL ret tg rm) (j : Nat) {i : Nat} {x : Nat} (hj : lv[j]? = some (i, ar x)) (hd : decode cc pc = .ok (.aload i, 2)) (k : X z cs ss σ (pc + 2) lv (ar x :: st) P) : X z cs ss σ pc lv st P := by
  obtain ⟨p, le, e, R, s, m, args, below, meth, c, ⟨D, ca, ra, S⟩, b, hs, nL1, rt⟩ := z
  obtain ⟨⟨hx, hb, hml, hown⟩, hts, ⟨hr, hlk, hnm⟩, ⟨hK, hN, hF⟩, ⟨rfl, rfl, rfl, rfl, rfl⟩, htg⟩ := C
  intro σ' r hP H locs ls hR hS hl
  have h := lv_at hl j (lcv_at (b := b) (ra := ra) hj)
  have kk := k σ' r hP H locs ls hR hS hl
  rcases Nat.eq_zero_or_pos x with h0 | h0
  · have e : cv b ra (ar x) = .null := by show va_rf (adr b x) = _; rw [show adr b x = none from if_pos h0]; rfl
    rw [List.map_cons, e] at kk
    rw [e] at h
    exact lv_aloadN hx hb hd h kk
  · have e : cv b ra (ar x) = .ref (b + x) := by show va_rf (adr b x) = _; rw [show adr b x = some (b + x) from if_neg (by omega)]; rfl
    rw [List.map_cons, e] at kk
    rw [e] at h
    exact lv_aload hx hb hd h kk
theorem x_aload_nO (C : Cx z l w y cc nL ret tg rm) (j : Nat) {k0 : Fin 4} {i : Nat} {x : Nat} (hi : (k0 : Nat) = i) (hj : lv[j]? = some (i, ao x)) (hd : decode cc pc = .ok (.aload_n k0, 1)) (k : X z cs ss σ (pc + 1) lv (ao x :: st) P) : X z cs ss σ pc lv st P := by
  obtain ⟨p, le, e, R, s, m, args, below, meth, c, ⟨D, ca, ra, S⟩, b, hs, nL1, rt⟩ := z
  obtain ⟨⟨hx, hb, hml, hown⟩, hts, ⟨hr, hlk, hnm⟩, ⟨hK, hN, hF⟩, ⟨rfl, rfl, rfl, rfl, rfl⟩, htg⟩ := C
  intro σ' r hP H locs ls hR hS hl
  exact lv_aload_n hx hb hd hi (lv_at hl j (lcv_at hj)) (k σ' r hP H locs ls hR hS hl)
theorem x_aloadO (C : Cx z l w y cc nL ret tg rm) (j : Nat) {i : Nat} {x : Nat} (hj : lv[j]? = some (i, ao x)) (hd : decode cc pc = .ok (.aload i, 2)) (k : X z cs ss σ (pc + 2) lv (ao x :: st) P) : X z cs ss σ pc lv st P := by
  obtain ⟨p, le, e, R, s, m, args, below, meth, c, ⟨D, ca, ra, S⟩, b, hs, nL1, rt⟩ := z
  obtain ⟨⟨hx, hb, hml, hown⟩, hts, ⟨hr, hlk, hnm⟩, ⟨hK, hN, hF⟩, ⟨rfl, rfl, rfl, rfl, rfl⟩, htg⟩ := C
  intro σ' r hP H locs ls hR hS hl
  exact lv_aload hx hb hd (lv_at hl j (lcv_at hj)) (k σ' r hP H locs ls hR hS hl)
theorem x_istore_n (C : Cx z l w y cc nL ret tg rm) {x : Int} {lv2 : List (Nat × AV)} {k0 : Fin 4} {i : Nat} (hi : (k0 : Nat) = i) (hn : i < nL) (hd : decode cc pc = .ok (.istore_n k0, 1)) (hq : set1 i (ai x) lv = lv2) (k : X z cs ss σ (pc + 1) lv2 st P) : X z cs ss σ pc lv (ai x :: st) P := by
  obtain ⟨p, le, e, R, s, m, args, below, meth, c, ⟨D, ca, ra, S⟩, b, hs, nL1, rt⟩ := z
  obtain ⟨⟨hx, hb, hml, hown⟩, hts, ⟨hr, hlk, hnm⟩, ⟨hK, hN, hF⟩, ⟨rfl, rfl, rfl, rfl, rfl⟩, htg⟩ := C
  intro σ' r hP H locs ls hR hS hl
  subst hq
  exact lv_istore_n hx hb hd hi hl hn (lcv_set1 (v := ai x)) (fun ls hl => k σ' r hP H locs ls hR hS hl)
theorem x_istore_nL (C : Cx z l w y cc nL ret tg rm) {a : Int} {f : Int → Option (St × Int)} {lv2 : Int → List (Nat × AV)} {k0 : Fin 4} {i : Nat} (hi : (k0 : Nat) = i) (hn : i < nL) (hd : decode cc pc = .ok (.istore_n k0, 1)) (hq : ∀ x, set1 i (ai x) lv = lv2 x) (k : ∀ x, X z cs ss σ (pc + 1) (lv2 x) st (f x)) : X z cs ss σ pc lv (ai a :: st) (Lt a f) := by
  obtain ⟨p, le, e, R, s, m, args, below, meth, c, ⟨D, ca, ra, S⟩, b, hs, nL1, rt⟩ := z
  obtain ⟨⟨hx, hb, hml, hown⟩, hts, ⟨hr, hlk, hnm⟩, ⟨hK, hN, hF⟩, ⟨rfl, rfl, rfl, rfl, rfl⟩, htg⟩ := C
  intro σ' r hP H locs ls hR hS hl
  have hq := hq a
  exact lv_istore_n hx hb hd hi hl hn (lcv_set1 (v := ai a)) (fun ls hl => k a σ' r hP H locs ls hR hS (by rw [← hq]; exact hl))
theorem x_istore (C : Cx z l w y cc nL ret tg rm) {x : Int} {lv2 : List (Nat × AV)} {i : Nat} (hn : i < nL) (hd : decode cc pc = .ok (.istore i, 2)) (hq : set1 i (ai x) lv = lv2) (k : X z cs ss σ (pc + 2) lv2 st P) : X z cs ss σ pc lv (ai x :: st) P := by
  obtain ⟨p, le, e, R, s, m, args, below, meth, c, ⟨D, ca, ra, S⟩, b, hs, nL1, rt⟩ := z
  obtain ⟨⟨hx, hb, hml, hown⟩, hts, ⟨hr, hlk, hnm⟩, ⟨hK, hN, hF⟩, ⟨rfl, rfl, rfl, rfl, rfl⟩, htg⟩ := C
  intro σ' r hP H locs ls hR hS hl
  subst hq
  exact lv_istore hx hb hd  hl hn (lcv_set1 (v := ai x)) (fun ls hl => k σ' r hP H locs ls hR hS hl)
theorem x_istoreL (C : Cx z l w y cc nL ret tg rm) {a : Int} {f : Int → Option (St × Int)} {lv2 : Int → List (Nat × AV)} {i : Nat} (hn : i < nL) (hd : decode cc pc = .ok (.istore i, 2)) (hq : ∀ x, set1 i (ai x) lv = lv2 x) (k : ∀ x, X z cs ss σ (pc + 2) (lv2 x) st (f x)) : X z cs ss σ pc lv (ai a :: st) (Lt a f) := by
  obtain ⟨p, le, e, R, s, m, args, below, meth, c, ⟨D, ca, ra, S⟩, b, hs, nL1, rt⟩ := z
  obtain ⟨⟨hx, hb, hml, hown⟩, hts, ⟨hr, hlk, hnm⟩, ⟨hK, hN, hF⟩, ⟨rfl, rfl, rfl, rfl, rfl⟩, htg⟩ := C
  intro σ' r hP H locs ls hR hS hl
  have hq := hq a
  exact lv_istore hx hb hd  hl hn (lcv_set1 (v := ai a)) (fun ls hl => k a σ' r hP H locs ls hR hS (by rw [← hq]; exact hl))
theorem x_lstore_n (C : Cx z l w y cc nL ret tg rm) {x : Int} {lv2 : List (Nat × AV)} {k0 : Fin 4} {i : Nat} (hi : (k0 : Nat) = i) (hn : i + 1 < nL) (hd : decode cc pc = .ok (.lstore_n k0, 1)) (hq : set2 i (al x) lv = lv2) (k : X z cs ss σ (pc + 1) lv2 st P) : X z cs ss σ pc lv (al x :: st) P := by
  obtain ⟨p, le, e, R, s, m, args, below, meth, c, ⟨D, ca, ra, S⟩, b, hs, nL1, rt⟩ := z
  obtain ⟨⟨hx, hb, hml, hown⟩, hts, ⟨hr, hlk, hnm⟩, ⟨hK, hN, hF⟩, ⟨rfl, rfl, rfl, rfl, rfl⟩, htg⟩ := C
  intro σ' r hP H locs ls hR hS hl
  subst hq
  exact lv_lstore_n hx hb hd hi hl hn (lcv_set2 (v := al x)) (fun ls hl => k σ' r hP H locs ls hR hS hl)
theorem x_lstore_nL (C : Cx z l w y cc nL ret tg rm) {a : Int} {f : Int → Option (St × Int)} {lv2 : Int → List (Nat × AV)} {k0 : Fin 4} {i : Nat} (hi : (k0 : Nat) = i) (hn : i + 1 < nL) (hd : decode cc pc = .ok (.lstore_n k0, 1)) (hq : ∀ x, set2 i (al x) lv = lv2 x) (k : ∀ x, X z cs ss σ (pc + 1) (lv2 x) st (f x)) : X z cs ss σ pc lv (al a :: st) (Lt a f) := by
  obtain ⟨p, le, e, R, s, m, args, below, meth, c, ⟨D, ca, ra, S⟩, b, hs, nL1, rt⟩ := z
  obtain ⟨⟨hx, hb, hml, hown⟩, hts, ⟨hr, hlk, hnm⟩, ⟨hK, hN, hF⟩, ⟨rfl, rfl, rfl, rfl, rfl⟩, htg⟩ := C
  intro σ' r hP H locs ls hR hS hl
  have hq := hq a
  exact lv_lstore_n hx hb hd hi hl hn (lcv_set2 (v := al a)) (fun ls hl => k a σ' r hP H locs ls hR hS (by rw [← hq]; exact hl))
theorem x_lstore (C : Cx z l w y cc nL ret tg rm) {x : Int} {lv2 : List (Nat × AV)} {i : Nat} (hn : i + 1 < nL) (hd : decode cc pc = .ok (.lstore i, 2)) (hq : set2 i (al x) lv = lv2) (k : X z cs ss σ (pc + 2) lv2 st P) : X z cs ss σ pc lv (al x :: st) P := by
  obtain ⟨p, le, e, R, s, m, args, below, meth, c, ⟨D, ca, ra, S⟩, b, hs, nL1, rt⟩ := z
  obtain ⟨⟨hx, hb, hml, hown⟩, hts, ⟨hr, hlk, hnm⟩, ⟨hK, hN, hF⟩, ⟨rfl, rfl, rfl, rfl, rfl⟩, htg⟩ := C
  intro σ' r hP H locs ls hR hS hl
  subst hq
  exact lv_lstore hx hb hd  hl hn (lcv_set2 (v := al x)) (fun ls hl => k σ' r hP H locs ls hR hS hl)
theorem x_lstoreL (C : Cx z l w y cc nL ret tg rm) {a : Int} {f : Int → Option (St × Int)} {lv2 : Int → List (Nat × AV)} {i : Nat} (hn : i + 1 < nL) (hd : decode cc pc = .ok (.lstore i, 2)) (hq : ∀ x, set2 i (al x) lv = lv2 x) (k : ∀ x, X z cs ss σ (pc + 2) (lv2 x) st (f x)) : X z cs ss σ pc lv (al a :: st) (Lt a f) := by
  obtain ⟨p, le, e, R, s, m, args, below, meth, c, ⟨D, ca, ra, S⟩, b, hs, nL1, rt⟩ := z
  obtain ⟨⟨hx, hb, hml, hown⟩, hts, ⟨hr, hlk, hnm⟩, ⟨hK, hN, hF⟩, ⟨rfl, rfl, rfl, rfl, rfl⟩, htg⟩ := C
  intro σ' r hP H locs ls hR hS hl
  have hq := hq a
  exact lv_lstore hx hb hd  hl hn (lcv_set2 (v := al a)) (fun ls hl => k a σ' r hP H locs ls hR hS (by rw [← hq]; exact hl))
theorem x_astore_n (C : Cx z l w y cc nL ret tg rm) {x : Nat} {lv2 : List (Nat × AV)} {k0 : Fin 4} {i : Nat} (hi : (k0 : Nat) = i) (hn : i < nL) (hd : decode cc pc = .ok (.astore_n k0, 1)) (hq : set1 i (ar x) lv = lv2) (k : X z cs ss σ (pc + 1) lv2 st P) : X z cs ss σ pc lv (ar x :: st) P := by
  obtain ⟨p, le, e, R, s, m, args, below, meth, c, ⟨D, ca, ra, S⟩, b, hs, nL1, rt⟩ := z
  obtain ⟨⟨hx, hb, hml, hown⟩, hts, ⟨hr, hlk, hnm⟩, ⟨hK, hN, hF⟩, ⟨rfl, rfl, rfl, rfl, rfl⟩, htg⟩ := C
  intro σ' r hP H locs ls hR hS hl
  subst hq
  rw [List.map_cons]
  rcases Nat.eq_zero_or_pos x with h0 | h0
  · have e : cv b ra (ar x) = .null := by show va_rf (adr b x) = _; rw [show adr b x = none from if_pos h0]; rfl
    rw [e]
    exact lv_astore_nN hx hb hd hi hl hn (by rw [← e]; exact lcv_set1) (fun ls hl => k σ' r hP H locs ls hR hS hl)
  · have e : cv b ra (ar x) = .ref (b + x) := by show va_rf (adr b x) = _; rw [show adr b x = some (b + x) from if_neg (by omega)]; rfl
    rw [e]
    exact lv_astore_n hx hb hd hi hl hn (by rw [← e]; exact lcv_set1) (fun ls hl => k σ' r hP H locs ls hR hS hl)
theorem x_astore_nO (C : Cx z l w y cc nL ret tg rm) {x : Nat} {lv2 : List (Nat × AV)} {k0 : Fin 4} {i : Nat} (hi : (k0 : Nat) = i) (hn : i < nL) (hd : decode cc pc = .ok (.astore_n k0, 1)) (hq : set1 i (ao x) lv = lv2) (k : X z cs ss σ (pc + 1) lv2 st P) : X z cs ss σ pc lv (ao x :: st) P := by
  obtain ⟨p, le, e, R, s, m, args, below, meth, c, ⟨D, ca, ra, S⟩, b, hs, nL1, rt⟩ := z
  obtain ⟨⟨hx, hb, hml, hown⟩, hts, ⟨hr, hlk, hnm⟩, ⟨hK, hN, hF⟩, ⟨rfl, rfl, rfl, rfl, rfl⟩, htg⟩ := C
  intro σ' r hP H locs ls hR hS hl
  subst hq
  exact lv_astore_n hx hb hd hi hl hn (lcv_set1 (v := ao x)) (fun ls hl => k σ' r hP H locs ls hR hS hl)
theorem x_astore (C : Cx z l w y cc nL ret tg rm) {x : Nat} {lv2 : List (Nat × AV)} {i : Nat} (hn : i < nL) (hd : decode cc pc = .ok (.astore i, 2)) (hq : set1 i (ar x) lv = lv2) (k : X z cs ss σ (pc + 2) lv2 st P) : X z cs ss σ pc lv (ar x :: st) P := by
  obtain ⟨p, le, e, R, s, m, args, below, meth, c, ⟨D, ca, ra, S⟩, b, hs, nL1, rt⟩ := z
  obtain ⟨⟨hx, hb, hml, hown⟩, hts, ⟨hr, hlk, hnm⟩, ⟨hK, hN, hF⟩, ⟨rfl, rfl, rfl, rfl, rfl⟩, htg⟩ := C
  intro σ' r hP H locs ls hR hS hl
  subst hq
  rw [List.map_cons]
  rcases Nat.eq_zero_or_pos x with h0 | h0
  · have e : cv b ra (ar x) = .null := by show va_rf (adr b x) = _; rw [show adr b x = none from if_pos h0]; rfl
    rw [e]
    exact lv_astoreN hx hb hd  hl hn (by rw [← e]; exact lcv_set1) (fun ls hl => k σ' r hP H locs ls hR hS hl)
  · have e : cv b ra (ar x) = .ref (b + x) := by show va_rf (adr b x) = _; rw [show adr b x = some (b + x) from if_neg (by omega)]; rfl
    rw [e]
    exact lv_astore hx hb hd  hl hn (by rw [← e]; exact lcv_set1) (fun ls hl => k σ' r hP H locs ls hR hS hl)
theorem x_astoreO (C : Cx z l w y cc nL ret tg rm) {x : Nat} {lv2 : List (Nat × AV)} {i : Nat} (hn : i < nL) (hd : decode cc pc = .ok (.astore i, 2)) (hq : set1 i (ao x) lv = lv2) (k : X z cs ss σ (pc + 2) lv2 st P) : X z cs ss σ pc lv (ao x :: st) P := by
  obtain ⟨p, le, e, R, s, m, args, below, meth, c, ⟨D, ca, ra, S⟩, b, hs, nL1, rt⟩ := z
  obtain ⟨⟨hx, hb, hml, hown⟩, hts, ⟨hr, hlk, hnm⟩, ⟨hK, hN, hF⟩, ⟨rfl, rfl, rfl, rfl, rfl⟩, htg⟩ := C
  intro σ' r hP H locs ls hR hS hl
  subst hq
  exact lv_astore hx hb hd  hl hn (lcv_set1 (v := ao x)) (fun ls hl => k σ' r hP H locs ls hR hS hl)
theorem x_iinc (C : Cx z l w y cc nL ret tg rm) (j : Nat) {i : Nat} {x n : Int} {f : Int → Option (St × Int)} {lv2 : Int → List (Nat × AV)} (hn : i < nL) (hj : lv[j]? = some (i, ai x)) (hd : decode cc pc = .ok (.iinc i n, 3)) (hq : ∀ v, set1 i (ai v) lv = lv2 v) (k : ∀ v, X z cs ss σ (pc + 3) (lv2 v) st (f v)) : X z cs ss σ pc lv st (Lt (x + n) f) := by
  obtain ⟨p, le, e, R, s, m, args, below, meth, c, ⟨D, ca, ra, S⟩, b, hs, nL1, rt⟩ := z
  obtain ⟨⟨hx, hb, hml, hown⟩, hts, ⟨hr, hlk, hnm⟩, ⟨hK, hN, hF⟩, ⟨rfl, rfl, rfl, rfl, rfl⟩, htg⟩ := C
  intro σ' r hP H locs ls hR hS hl
  have hq := hq (x + n)
  exact lv_iinc (v := Int32.ofInt (x + n)) hx hb hd hl (k := j) (lcv_at hj) (Int32.ofInt_add _ _).symm hn (lcv_set1 (v := ai (x + n))) (fun ls hl => k (x + n) σ' r hP H locs ls hR hS (by rw [← hq]; exact hl))
theorem x_iadd (C : Cx z l w y cc nL ret tg rm) {a b0 : Int} (hd : decode cc pc = .ok (.iadd, 1)) (k : X z cs ss σ (pc + 1) lv (ai (a + b0) :: st) P) : X z cs ss σ pc lv (ai b0 :: ai a :: st) P := by
  obtain ⟨p, le, e, R, s, m, args, below, meth, c, ⟨D, ca, ra, S⟩, b, hs, nL1, rt⟩ := z
  obtain ⟨⟨hx, hb, hml, hown⟩, hts, ⟨hr, hlk, hnm⟩, ⟨hK, hN, hF⟩, ⟨rfl, rfl, rfl, rfl, rfl⟩, htg⟩ := C
  intro σ' r hP H locs ls hR hS hl
  have kk := k σ' r hP H locs ls hR hS hl
  rw [List.map_cons, show cv b ra (ai (a + b0)) = .int (Int32.ofInt a + Int32.ofInt b0) from congrArg Value.int (Int32.ofInt_add _ _)] at kk
  exact lv_iadd hx hb hd kk
theorem x_isub (C : Cx z l w y cc nL ret tg rm) {a b0 : Int} (hd : decode cc pc = .ok (.isub, 1)) (k : X z cs ss σ (pc + 1) lv (ai (a - b0) :: st) P) : X z cs ss σ pc lv (ai b0 :: ai a :: st) P := by
  obtain ⟨p, le, e, R, s, m, args, below, meth, c, ⟨D, ca, ra, S⟩, b, hs, nL1, rt⟩ := z
  obtain ⟨⟨hx, hb, hml, hown⟩, hts, ⟨hr, hlk, hnm⟩, ⟨hK, hN, hF⟩, ⟨rfl, rfl, rfl, rfl, rfl⟩, htg⟩ := C
  intro σ' r hP H locs ls hR hS hl
  have kk := k σ' r hP H locs ls hR hS hl
  rw [List.map_cons, show cv b ra (ai (a - b0)) = .int (Int32.ofInt a - Int32.ofInt b0) from congrArg Value.int (Int32.ofInt_sub _ _)] at kk
  exact lv_isub hx hb hd kk
theorem x_imul (C : Cx z l w y cc nL ret tg rm) {a b0 : Int} (hd : decode cc pc = .ok (.imul, 1)) (k : X z cs ss σ (pc + 1) lv (ai (a * b0) :: st) P) : X z cs ss σ pc lv (ai b0 :: ai a :: st) P := by
  obtain ⟨p, le, e, R, s, m, args, below, meth, c, ⟨D, ca, ra, S⟩, b, hs, nL1, rt⟩ := z
  obtain ⟨⟨hx, hb, hml, hown⟩, hts, ⟨hr, hlk, hnm⟩, ⟨hK, hN, hF⟩, ⟨rfl, rfl, rfl, rfl, rfl⟩, htg⟩ := C
  intro σ' r hP H locs ls hR hS hl
  have kk := k σ' r hP H locs ls hR hS hl
  rw [List.map_cons, show cv b ra (ai (a * b0)) = .int (Int32.ofInt a * Int32.ofInt b0) from congrArg Value.int (Int32.ofInt_mul _ _)] at kk
  exact lv_imul hx hb hd kk
theorem x_ladd (C : Cx z l w y cc nL ret tg rm) {a b0 : Int} (hd : decode cc pc = .ok (.ladd, 1)) (k : X z cs ss σ (pc + 1) lv (al (a + b0) :: st) P) : X z cs ss σ pc lv (al b0 :: al a :: st) P := by
  obtain ⟨p, le, e, R, s, m, args, below, meth, c, ⟨D, ca, ra, S⟩, b, hs, nL1, rt⟩ := z
  obtain ⟨⟨hx, hb, hml, hown⟩, hts, ⟨hr, hlk, hnm⟩, ⟨hK, hN, hF⟩, ⟨rfl, rfl, rfl, rfl, rfl⟩, htg⟩ := C
  intro σ' r hP H locs ls hR hS hl
  have kk := k σ' r hP H locs ls hR hS hl
  rw [List.map_cons, show cv b ra (al (a + b0)) = .long (Int64.ofInt a + Int64.ofInt b0) from congrArg Value.long (Int64.ofInt_add _ _)] at kk
  exact lv_ladd hx hb hd kk
theorem x_lsub (C : Cx z l w y cc nL ret tg rm) {a b0 : Int} (hd : decode cc pc = .ok (.lsub, 1)) (k : X z cs ss σ (pc + 1) lv (al (a - b0) :: st) P) : X z cs ss σ pc lv (al b0 :: al a :: st) P := by
  obtain ⟨p, le, e, R, s, m, args, below, meth, c, ⟨D, ca, ra, S⟩, b, hs, nL1, rt⟩ := z
  obtain ⟨⟨hx, hb, hml, hown⟩, hts, ⟨hr, hlk, hnm⟩, ⟨hK, hN, hF⟩, ⟨rfl, rfl, rfl, rfl, rfl⟩, htg⟩ := C
  intro σ' r hP H locs ls hR hS hl
  have kk := k σ' r hP H locs ls hR hS hl
  rw [List.map_cons, show cv b ra (al (a - b0)) = .long (Int64.ofInt a - Int64.ofInt b0) from congrArg Value.long (Int64.ofInt_sub _ _)] at kk
  exact lv_lsub hx hb hd kk
theorem x_lmul (C : Cx z l w y cc nL ret tg rm) {a b0 : Int} (hd : decode cc pc = .ok (.lmul, 1)) (k : X z cs ss σ (pc + 1) lv (al (a * b0) :: st) P) : X z cs ss σ pc lv (al b0 :: al a :: st) P := by
  obtain ⟨p, le, e, R, s, m, args, below, meth, c, ⟨D, ca, ra, S⟩, b, hs, nL1, rt⟩ := z
  obtain ⟨⟨hx, hb, hml, hown⟩, hts, ⟨hr, hlk, hnm⟩, ⟨hK, hN, hF⟩, ⟨rfl, rfl, rfl, rfl, rfl⟩, htg⟩ := C
  intro σ' r hP H locs ls hR hS hl
  have kk := k σ' r hP H locs ls hR hS hl
  rw [List.map_cons, show cv b ra (al (a * b0)) = .long (Int64.ofInt a * Int64.ofInt b0) from congrArg Value.long (Int64.ofInt_mul _ _)] at kk
  exact lv_lmul hx hb hd kk
theorem x_iand (C : Cx z l w y cc nL ret tg rm) {a b0 : Int} (hd : decode cc pc = .ok (.iand, 1)) (k : X z cs ss σ (pc + 1) lv (ai (andZ a b0) :: st) P) : X z cs ss σ pc lv (ai b0 :: ai a :: st) P := by
  obtain ⟨p, le, e, R, s, m, args, below, meth, c, ⟨D, ca, ra, S⟩, b, hs, nL1, rt⟩ := z
  obtain ⟨⟨hx, hb, hml, hown⟩, hts, ⟨hr, hlk, hnm⟩, ⟨hK, hN, hF⟩, ⟨rfl, rfl, rfl, rfl, rfl⟩, htg⟩ := C
  intro σ' r hP H locs ls hR hS hl
  have kk := k σ' r hP H locs ls hR hS hl
  rw [List.map_cons, show cv b ra (ai (andZ a b0)) = .int (Int32.ofInt a &&& Int32.ofInt b0) from congrArg Value.int (Int32.ofInt_toInt _)] at kk
  exact lv_iand hx hb hd kk
theorem x_ior (C : Cx z l w y cc nL ret tg rm) {a b0 : Int} (hd : decode cc pc = .ok (.ior, 1)) (k : X z cs ss σ (pc + 1) lv (ai (orZ a b0) :: st) P) : X z cs ss σ pc lv (ai b0 :: ai a :: st) P := by
  obtain ⟨p, le, e, R, s, m, args, below, meth, c, ⟨D, ca, ra, S⟩, b, hs, nL1, rt⟩ := z
  obtain ⟨⟨hx, hb, hml, hown⟩, hts, ⟨hr, hlk, hnm⟩, ⟨hK, hN, hF⟩, ⟨rfl, rfl, rfl, rfl, rfl⟩, htg⟩ := C
  intro σ' r hP H locs ls hR hS hl
  have kk := k σ' r hP H locs ls hR hS hl
  rw [List.map_cons, show cv b ra (ai (orZ a b0)) = .int (Int32.ofInt a ||| Int32.ofInt b0) from congrArg Value.int (Int32.ofInt_toInt _)] at kk
  exact lv_ior hx hb hd kk
theorem x_ishl (C : Cx z l w y cc nL ret tg rm) {a b0 : Int} (hd : decode cc pc = .ok (.ishl, 1)) (k : X z cs ss σ (pc + 1) lv (ai (shlZ a b0) :: st) P) : X z cs ss σ pc lv (ai b0 :: ai a :: st) P := by
  obtain ⟨p, le, e, R, s, m, args, below, meth, c, ⟨D, ca, ra, S⟩, b, hs, nL1, rt⟩ := z
  obtain ⟨⟨hx, hb, hml, hown⟩, hts, ⟨hr, hlk, hnm⟩, ⟨hK, hN, hF⟩, ⟨rfl, rfl, rfl, rfl, rfl⟩, htg⟩ := C
  intro σ' r hP H locs ls hR hS hl
  have kk := k σ' r hP H locs ls hR hS hl
  rw [List.map_cons, show cv b ra (ai (shlZ a b0)) = .int (Int32.ofInt a <<< (Int32.ofInt b0 &&& 31)) from congrArg Value.int (Int32.ofInt_toInt _)] at kk
  exact lv_ishl hx hb hd kk
theorem x_ishr (C : Cx z l w y cc nL ret tg rm) {a b0 : Int} (hd : decode cc pc = .ok (.ishr, 1)) (k : X z cs ss σ (pc + 1) lv (ai (shrZ a b0) :: st) P) : X z cs ss σ pc lv (ai b0 :: ai a :: st) P := by
  obtain ⟨p, le, e, R, s, m, args, below, meth, c, ⟨D, ca, ra, S⟩, b, hs, nL1, rt⟩ := z
  obtain ⟨⟨hx, hb, hml, hown⟩, hts, ⟨hr, hlk, hnm⟩, ⟨hK, hN, hF⟩, ⟨rfl, rfl, rfl, rfl, rfl⟩, htg⟩ := C
  intro σ' r hP H locs ls hR hS hl
  have kk := k σ' r hP H locs ls hR hS hl
  rw [List.map_cons, show cv b ra (ai (shrZ a b0)) = .int (Int32.ofInt a >>> (Int32.ofInt b0 &&& 31)) from congrArg Value.int (Int32.ofInt_toInt _)] at kk
  exact lv_ishr hx hb hd kk
theorem x_iushr (C : Cx z l w y cc nL ret tg rm) {a b0 : Int} (hd : decode cc pc = .ok (.iushr, 1)) (k : X z cs ss σ (pc + 1) lv (ai (ushrZ a b0) :: st) P) : X z cs ss σ pc lv (ai b0 :: ai a :: st) P := by
  obtain ⟨p, le, e, R, s, m, args, below, meth, c, ⟨D, ca, ra, S⟩, b, hs, nL1, rt⟩ := z
  obtain ⟨⟨hx, hb, hml, hown⟩, hts, ⟨hr, hlk, hnm⟩, ⟨hK, hN, hF⟩, ⟨rfl, rfl, rfl, rfl, rfl⟩, htg⟩ := C
  intro σ' r hP H locs ls hR hS hl
  exact lv_iushr hx hb hd (Int32.ofInt_toInt _).symm (k σ' r hP H locs ls hR hS hl)
theorem x_land (C : Cx z l w y cc nL ret tg rm) {a b0 : Int} (hd : decode cc pc = .ok (.land, 1)) (k : X z cs ss σ (pc + 1) lv (al (landZ a b0) :: st) P) : X z cs ss σ pc lv (al b0 :: al a :: st) P := by
  obtain ⟨p, le, e, R, s, m, args, below, meth, c, ⟨D, ca, ra, S⟩, b, hs, nL1, rt⟩ := z
  obtain ⟨⟨hx, hb, hml, hown⟩, hts, ⟨hr, hlk, hnm⟩, ⟨hK, hN, hF⟩, ⟨rfl, rfl, rfl, rfl, rfl⟩, htg⟩ := C
  intro σ' r hP H locs ls hR hS hl
  have kk := k σ' r hP H locs ls hR hS hl
  rw [List.map_cons, show cv b ra (al (landZ a b0)) = .long (Int64.ofInt a &&& Int64.ofInt b0) from congrArg Value.long (Int64.ofInt_toInt _)] at kk
  exact lv_land hx hb hd kk
theorem x_lor (C : Cx z l w y cc nL ret tg rm) {a b0 : Int} (hd : decode cc pc = .ok (.lor, 1)) (k : X z cs ss σ (pc + 1) lv (al (lorZ a b0) :: st) P) : X z cs ss σ pc lv (al b0 :: al a :: st) P := by
  obtain ⟨p, le, e, R, s, m, args, below, meth, c, ⟨D, ca, ra, S⟩, b, hs, nL1, rt⟩ := z
  obtain ⟨⟨hx, hb, hml, hown⟩, hts, ⟨hr, hlk, hnm⟩, ⟨hK, hN, hF⟩, ⟨rfl, rfl, rfl, rfl, rfl⟩, htg⟩ := C
  intro σ' r hP H locs ls hR hS hl
  have kk := k σ' r hP H locs ls hR hS hl
  rw [List.map_cons, show cv b ra (al (lorZ a b0)) = .long (Int64.ofInt a ||| Int64.ofInt b0) from congrArg Value.long (Int64.ofInt_toInt _)] at kk
  exact lv_lor hx hb hd kk
theorem x_lshl (C : Cx z l w y cc nL ret tg rm) {a b0 : Int} (hd : decode cc pc = .ok (.lshl, 1)) (k : X z cs ss σ (pc + 1) lv (al (lshlZ a b0) :: st) P) : X z cs ss σ pc lv (ai b0 :: al a :: st) P := by
  obtain ⟨p, le, e, R, s, m, args, below, meth, c, ⟨D, ca, ra, S⟩, b, hs, nL1, rt⟩ := z
  obtain ⟨⟨hx, hb, hml, hown⟩, hts, ⟨hr, hlk, hnm⟩, ⟨hK, hN, hF⟩, ⟨rfl, rfl, rfl, rfl, rfl⟩, htg⟩ := C
  intro σ' r hP H locs ls hR hS hl
  exact lv_lshl hx hb hd (Int64.ofInt_toInt _).symm (k σ' r hP H locs ls hR hS hl)
theorem x_lshr (C : Cx z l w y cc nL ret tg rm) {a b0 : Int} (hd : decode cc pc = .ok (.lshr, 1)) (k : X z cs ss σ (pc + 1) lv (al (lshrZ a b0) :: st) P) : X z cs ss σ pc lv (ai b0 :: al a :: st) P := by
  obtain ⟨p, le, e, R, s, m, args, below, meth, c, ⟨D, ca, ra, S⟩, b, hs, nL1, rt⟩ := z
  obtain ⟨⟨hx, hb, hml, hown⟩, hts, ⟨hr, hlk, hnm⟩, ⟨hK, hN, hF⟩, ⟨rfl, rfl, rfl, rfl, rfl⟩, htg⟩ := C
  intro σ' r hP H locs ls hR hS hl
  exact lv_lshr hx hb hd (Int64.ofInt_toInt _).symm (k σ' r hP H locs ls hR hS hl)
theorem x_ineg (C : Cx z l w y cc nL ret tg rm) {a : Int} (hd : decode cc pc = .ok (.ineg, 1)) (k : X z cs ss σ (pc + 1) lv (ai (-a) :: st) P) : X z cs ss σ pc lv (ai a :: st) P := by
  obtain ⟨p, le, e, R, s, m, args, below, meth, c, ⟨D, ca, ra, S⟩, b, hs, nL1, rt⟩ := z
  obtain ⟨⟨hx, hb, hml, hown⟩, hts, ⟨hr, hlk, hnm⟩, ⟨hK, hN, hF⟩, ⟨rfl, rfl, rfl, rfl, rfl⟩, htg⟩ := C
  intro σ' r hP H locs ls hR hS hl
  have kk := k σ' r hP H locs ls hR hS hl
  rw [List.map_cons, show cv b ra (ai (-a)) = .int (-(Int32.ofInt a)) from congrArg Value.int (Int32.ofInt_neg _)] at kk
  exact lv_ineg hx hb hd kk
theorem x_i2l (C : Cx z l w y cc nL ret tg rm) {a : Int} (hd : decode cc pc = .ok (.i2l, 1)) (k : X z cs ss σ (pc + 1) lv (al (wr a) :: st) P) : X z cs ss σ pc lv (ai a :: st) P := by
  obtain ⟨p, le, e, R, s, m, args, below, meth, c, ⟨D, ca, ra, S⟩, b, hs, nL1, rt⟩ := z
  obtain ⟨⟨hx, hb, hml, hown⟩, hts, ⟨hr, hlk, hnm⟩, ⟨hK, hN, hF⟩, ⟨rfl, rfl, rfl, rfl, rfl⟩, htg⟩ := C
  intro σ' r hP H locs ls hR hS hl
  exact lv_i2l hx hb hd (l_of (by rw [Int32.toInt_toInt64, wr_i])) (k σ' r hP H locs ls hR hS hl)
theorem x_l2i (C : Cx z l w y cc nL ret tg rm) {a : Int} (hd : decode cc pc = .ok (.l2i, 1)) (k : X z cs ss σ (pc + 1) lv (ai a :: st) P) : X z cs ss σ pc lv (al a :: st) P := by
  obtain ⟨p, le, e, R, s, m, args, below, meth, c, ⟨D, ca, ra, S⟩, b, hs, nL1, rt⟩ := z
  obtain ⟨⟨hx, hb, hml, hown⟩, hts, ⟨hr, hlk, hnm⟩, ⟨hK, hN, hF⟩, ⟨rfl, rfl, rfl, rfl, rfl⟩, htg⟩ := C
  intro σ' r hP H locs ls hR hS hl
  exact lv_l2i hx hb hd (Int64.toInt32_ofInt) (k σ' r hP H locs ls hR hS hl)
theorem x_i2b (C : Cx z l w y cc nL ret tg rm) {a : Int} (hd : decode cc pc = .ok (.i2b, 1)) (k : X z cs ss σ (pc + 1) lv (ai (i2bZ a) :: st) P) : X z cs ss σ pc lv (ai a :: st) P := by
  obtain ⟨p, le, e, R, s, m, args, below, meth, c, ⟨D, ca, ra, S⟩, b, hs, nL1, rt⟩ := z
  obtain ⟨⟨hx, hb, hml, hown⟩, hts, ⟨hr, hlk, hnm⟩, ⟨hK, hN, hF⟩, ⟨rfl, rfl, rfl, rfl, rfl⟩, htg⟩ := C
  intro σ' r hP H locs ls hR hS hl
  exact lv_i2b hx hb hd (Int32.ofInt_toInt _).symm (k σ' r hP H locs ls hR hS hl)
theorem x_i2c (C : Cx z l w y cc nL ret tg rm) {a : Int} (hd : decode cc pc = .ok (.i2c, 1)) (k : X z cs ss σ (pc + 1) lv (ai (i2cZ a) :: st) P) : X z cs ss σ pc lv (ai a :: st) P := by
  obtain ⟨p, le, e, R, s, m, args, below, meth, c, ⟨D, ca, ra, S⟩, b, hs, nL1, rt⟩ := z
  obtain ⟨⟨hx, hb, hml, hown⟩, hts, ⟨hr, hlk, hnm⟩, ⟨hK, hN, hF⟩, ⟨rfl, rfl, rfl, rfl, rfl⟩, htg⟩ := C
  intro σ' r hP H locs ls hR hS hl
  exact lv_i2c hx hb hd (Int32.ofInt_toInt _).symm (k σ' r hP H locs ls hR hS hl)
theorem i_div {a b0 : Int} : Int32.ofInt a / Int32.ofInt b0 = Int32.ofInt (Int.tdiv (wr a) (wr b0)) := by
  rw [← Int32.toInt_inj, Int32.toInt_div, wr_i, wr_i, wr_i]
  generalize (wr a).tdiv (wr b0) = q
  unfold wr
  rw [Int.bmod_def, show ((2 ^ 32 : Nat) : Int) = 4294967296 from rfl]
  split <;> omega
theorem i_rem {a b0 : Int} : Int32.ofInt a - Int32.ofInt a / Int32.ofInt b0 * Int32.ofInt b0 = Int32.ofInt (Int.tmod (wr a) (wr b0)) := by
  apply i_of
  rw [rem_toInt, wr_i, wr_i]
theorem l_eq0 {x : Int} : Int64.ofInt x = 0 ↔ wl x = 0 := by
  rw [← Int64.toInt_inj, wl_l]; rfl
theorem l_div {a b0 : Int} : Int64.ofInt a / Int64.ofInt b0 = Int64.ofInt (Int.tdiv (wl a) (wl b0)) := by
  rw [← Int64.toInt_inj, Int64.toInt_div, wl_l, wl_l, wl_l]
  generalize (wl a).tdiv (wl b0) = q
  unfold wl
  rw [Int.bmod_def, show ((2 ^ 64 : Nat) : Int) = 18446744073709551616 from rfl]
  split <;> omega
theorem lg_cmp0 {a u : Int} : lg_cmp (Int64.ofInt a) (Int64.ofInt u) = 0 ↔ wl a = wl u := by
  unfold lg_cmp
  rw [← l_eq]
  by_cases h1 : Int64.ofInt a > Int64.ofInt u
  · rw [if_pos h1]
    refine ⟨fun h => absurd h (by decide), fun h => ?_⟩
    rw [h] at h1
    exact (Int64.lt_irrefl h1).elim
  · rw [if_neg h1]
    by_cases h2 : Int64.ofInt a = Int64.ofInt u
    · rw [if_pos h2]; exact ⟨fun _ => h2, fun _ => rfl⟩
    · rw [if_neg h2]; exact ⟨fun h => absurd h (by decide), fun h => absurd h h2⟩
theorem x_idivC (C : Cx z l w y cc nL ret tg rm) {a b0 : Int} (hb0 : wr b0 = b0) (hne : b0 ≠ 0) (hd : decode cc pc = .ok (.idiv, 1)) (k : X z cs ss σ (pc + 1) lv (ai (Int.tdiv (wr a) b0) :: st) P) : X z cs ss σ pc lv (ai b0 :: ai a :: st) P := by
  obtain ⟨p, le, e, R, s, m, args, below, meth, c, ⟨D, ca, ra, S⟩, b, hs, nL1, rt⟩ := z
  obtain ⟨⟨hx, hb, hml, hown⟩, hts, ⟨hr, hlk, hnm⟩, ⟨hK, hN, hF⟩, ⟨rfl, rfl, rfl, rfl, rfl⟩, htg⟩ := C
  intro σ' r hP H locs ls hR hS hl
  have kk := k σ' r hP H locs ls hR hS hl
  rw [List.map_cons, show cv b ra (ai (Int.tdiv (wr a) b0)) = .int (Int32.ofInt a / Int32.ofInt b0) from congrArg Value.int (by rw [i_div, hb0])] at kk
  exact lv_idiv hx hb hd (fun h => hne (by rw [i_eq0, hb0] at h; exact h)) kk
theorem x_iremC (C : Cx z l w y cc nL ret tg rm) {a b0 : Int} (hb0 : wr b0 = b0) (hne : b0 ≠ 0) (hd : decode cc pc = .ok (.irem, 1)) (k : X z cs ss σ (pc + 1) lv (ai (Int.tmod (wr a) b0) :: st) P) : X z cs ss σ pc lv (ai b0 :: ai a :: st) P := by
  obtain ⟨p, le, e, R, s, m, args, below, meth, c, ⟨D, ca, ra, S⟩, b, hs, nL1, rt⟩ := z
  obtain ⟨⟨hx, hb, hml, hown⟩, hts, ⟨hr, hlk, hnm⟩, ⟨hK, hN, hF⟩, ⟨rfl, rfl, rfl, rfl, rfl⟩, htg⟩ := C
  intro σ' r hP H locs ls hR hS hl
  have kk := k σ' r hP H locs ls hR hS hl
  rw [List.map_cons, show cv b ra (ai (Int.tmod (wr a) b0)) = .int (Int32.ofInt a - Int32.ofInt a / Int32.ofInt b0 * Int32.ofInt b0) from congrArg Value.int (by rw [i_rem, hb0])] at kk
  exact lv_irem hx hb hd (fun h => hne (by rw [i_eq0, hb0] at h; exact h)) kk
theorem x_ldivC (C : Cx z l w y cc nL ret tg rm) {a b0 : Int} (hb0 : wl b0 = b0) (hne : b0 ≠ 0) (hd : decode cc pc = .ok (.ldiv, 1)) (k : X z cs ss σ (pc + 1) lv (al (Int.tdiv (wl a) b0) :: st) P) : X z cs ss σ pc lv (al b0 :: al a :: st) P := by
  obtain ⟨p, le, e, R, s, m, args, below, meth, c, ⟨D, ca, ra, S⟩, b, hs, nL1, rt⟩ := z
  obtain ⟨⟨hx, hb, hml, hown⟩, hts, ⟨hr, hlk, hnm⟩, ⟨hK, hN, hF⟩, ⟨rfl, rfl, rfl, rfl, rfl⟩, htg⟩ := C
  intro σ' r hP H locs ls hR hS hl
  have kk := k σ' r hP H locs ls hR hS hl
  rw [List.map_cons, show cv b ra (al (Int.tdiv (wl a) b0)) = .long (Int64.ofInt a / Int64.ofInt b0) from congrArg Value.long (by rw [l_div, hb0])] at kk
  exact lv_ldiv hx hb hd (fun h => hne (by rw [l_eq0, hb0] at h; exact h)) kk
theorem x_idiv (C : Cx z l w y cc nL ret tg rm) {a b0 : Int} {f : Int → Option (St × Int)} (hd : decode cc pc = .ok (.idiv, 1)) (k : ∀ v, X z cs ss σ (pc + 1) lv (ai v :: st) (f v)) : X z cs ss σ pc lv (ai b0 :: ai a :: st) (Option.bind (dvO a b0) f) := by
  obtain ⟨p, le, e, R, s, m, args, below, meth, c, ⟨D, ca, ra, S⟩, b, hs, nL1, rt⟩ := z
  obtain ⟨⟨hx, hb, hml, hown⟩, hts, ⟨hr, hlk, hnm⟩, ⟨hK, hN, hF⟩, ⟨rfl, rfl, rfl, rfl, rfl⟩, htg⟩ := C
  intro σ' r hP H locs ls hR hS hl
  unfold dvO at hP
  by_cases h0 : wr b0 = 0
  · rw [if_pos h0] at hP; cases hP
  rw [if_neg h0] at hP
  have kk := k _ σ' r hP H locs ls hR hS hl
  rw [List.map_cons, show cv b ra (ai (Int.tdiv (wr a) (wr b0))) = .int (Int32.ofInt a / Int32.ofInt b0) from congrArg Value.int (by rw [i_div])] at kk
  exact lv_idiv hx hb hd (fun h => h0 (i_eq0.mp h)) kk
theorem x_if_eq (C : Cx z l w y cc nL ret tg rm) {x off : Int} {tgt : Nat} {PT PF : Option (St × Int)} (ht : (pc : Int) + off = (tgt : Int)) (hd : decode cc pc = .ok (.ifCond .eq off, 3)) (kt : wr x = 0 → X z cs ss σ tgt lv st PT) (kf : ¬ wr x = 0 → X z cs ss σ (pc + 3) lv st PF) : X z cs ss σ pc lv (ai x :: st) (if wr x = 0 then PT else PF) := by
  obtain ⟨p, le, e, R, s, m, args, below, meth, c, ⟨D, ca, ra, S⟩, b, hs, nL1, rt⟩ := z
  obtain ⟨⟨hx, hb, hml, hown⟩, hts, ⟨hr, hlk, hnm⟩, ⟨hK, hN, hF⟩, ⟨rfl, rfl, rfl, rfl, rfl⟩, htg⟩ := C
  intro σ' r hP H locs ls hR hS hl
  have e0 : (0 : Int32) = Int32.ofInt 0 := rfl
  have w0 : wr 0 = 0 := rfl
  refine lv_if_eq hx hb hd ht (fun h => ?_) (fun h => ?_)
  · have h : wr x = 0 := by
      first | (rw [e0, i_eq0, w0] at h; omega) | (rw [i_eq0] at h; omega) | (rw [i_eq0] at h; exact h)
    first | (rw [if_pos h] at hP; exact kt h σ' r hP H locs ls hR hS hl) | (rw [if_neg h] at hP; exact kt h σ' r hP H locs ls hR hS hl)
  · have h : ¬ wr x = 0 := by
      first | (rw [e0, i_eq0, w0] at h; omega) | (rw [i_eq0] at h; omega) | (rw [i_eq0] at h; exact h)
    first | (rw [if_pos h] at hP; exact kf h σ' r hP H locs ls hR hS hl) | (rw [if_neg h] at hP; exact kf h σ' r hP H locs ls hR hS hl)
theorem x_if_ne (C : Cx z l w y cc nL ret tg rm) {x off : Int} {tgt : Nat} {PT PF : Option (St × Int)} (ht : (pc : Int) + off = (tgt : Int)) (hd : decode cc pc = .ok (.ifCond .ne off, 3)) (kt : ¬ wr x = 0 → X z cs ss σ tgt lv st PF) (kf : wr x = 0 → X z cs ss σ (pc + 3) lv st PT) : X z cs ss σ pc lv (ai x :: st) (if wr x = 0 then PT else PF) := by
  obtain ⟨p, le, e, R, s, m, args, below, meth, c, ⟨D, ca, ra, S⟩, b, hs, nL1, rt⟩ := z
  obtain ⟨⟨hx, hb, hml, hown⟩, hts, ⟨hr, hlk, hnm⟩, ⟨hK, hN, hF⟩, ⟨rfl, rfl, rfl, rfl, rfl⟩, htg⟩ := C
  intro σ' r hP H locs ls hR hS hl
  have e0 : (0 : Int32) = Int32.ofInt 0 := rfl
  have w0 : wr 0 = 0 := rfl
  refine lv_if_ne hx hb hd ht (fun h => ?_) (fun h => ?_)
  · have h : ¬ wr x = 0 := by
      first | (rw [e0, i_eq0, w0] at h; omega) | (rw [i_eq0] at h; omega) | (rw [i_eq0] at h; exact h)
    first | (rw [if_pos h] at hP; exact kt h σ' r hP H locs ls hR hS hl) | (rw [if_neg h] at hP; exact kt h σ' r hP H locs ls hR hS hl)
  · have h : wr x = 0 := by
      first | (rw [e0, i_eq0, w0] at h; omega) | (rw [i_eq0] at h; omega) | (rw [i_eq0] at h; exact h)
    first | (rw [if_pos h] at hP; exact kf h σ' r hP H locs ls hR hS hl) | (rw [if_neg h] at hP; exact kf h σ' r hP H locs ls hR hS hl)
theorem x_if_lt (C : Cx z l w y cc nL ret tg rm) {x off : Int} {tgt : Nat} {PT PF : Option (St × Int)} (ht : (pc : Int) + off = (tgt : Int)) (hd : decode cc pc = .ok (.ifCond .lt off, 3)) (kt : wr x < 0 → X z cs ss σ tgt lv st PT) (kf : ¬ wr x < 0 → X z cs ss σ (pc + 3) lv st PF) : X z cs ss σ pc lv (ai x :: st) (if wr x < 0 then PT else PF) := by
  obtain ⟨p, le, e, R, s, m, args, below, meth, c, ⟨D, ca, ra, S⟩, b, hs, nL1, rt⟩ := z
  obtain ⟨⟨hx, hb, hml, hown⟩, hts, ⟨hr, hlk, hnm⟩, ⟨hK, hN, hF⟩, ⟨rfl, rfl, rfl, rfl, rfl⟩, htg⟩ := C
  intro σ' r hP H locs ls hR hS hl
  have e0 : (0 : Int32) = Int32.ofInt 0 := rfl
  have w0 : wr 0 = 0 := rfl
  refine lv_if_lt hx hb hd ht (fun h => ?_) (fun h => ?_)
  · have h : wr x < 0 := by
      first | (rw [e0, i_lt, w0] at h; omega) | (rw [i_lt] at h; omega) | (rw [i_lt] at h; exact h)
    first | (rw [if_pos h] at hP; exact kt h σ' r hP H locs ls hR hS hl) | (rw [if_neg h] at hP; exact kt h σ' r hP H locs ls hR hS hl)
  · have h : ¬ wr x < 0 := by
      first | (rw [e0, i_lt, w0] at h; omega) | (rw [i_lt] at h; omega) | (rw [i_lt] at h; exact h)
    first | (rw [if_pos h] at hP; exact kf h σ' r hP H locs ls hR hS hl) | (rw [if_neg h] at hP; exact kf h σ' r hP H locs ls hR hS hl)
theorem x_if_ge (C : Cx z l w y cc nL ret tg rm) {x off : Int} {tgt : Nat} {PT PF : Option (St × Int)} (ht : (pc : Int) + off = (tgt : Int)) (hd : decode cc pc = .ok (.ifCond .ge off, 3)) (kt : ¬ wr x < 0 → X z cs ss σ tgt lv st PF) (kf : wr x < 0 → X z cs ss σ (pc + 3) lv st PT) : X z cs ss σ pc lv (ai x :: st) (if wr x < 0 then PT else PF) := by
  obtain ⟨p, le, e, R, s, m, args, below, meth, c, ⟨D, ca, ra, S⟩, b, hs, nL1, rt⟩ := z
  obtain ⟨⟨hx, hb, hml, hown⟩, hts, ⟨hr, hlk, hnm⟩, ⟨hK, hN, hF⟩, ⟨rfl, rfl, rfl, rfl, rfl⟩, htg⟩ := C
  intro σ' r hP H locs ls hR hS hl
  have e0 : (0 : Int32) = Int32.ofInt 0 := rfl
  have w0 : wr 0 = 0 := rfl
  refine lv_if_ge hx hb hd ht (fun h => ?_) (fun h => ?_)
  · have h : ¬ wr x < 0 := by
      first | (rw [e0, i_le, w0] at h; omega) | (rw [i_le] at h; omega) | (rw [i_le] at h; exact h)
    first | (rw [if_pos h] at hP; exact kt h σ' r hP H locs ls hR hS hl) | (rw [if_neg h] at hP; exact kt h σ' r hP H locs ls hR hS hl)
  · have h : wr x < 0 := by
      first | (rw [e0, i_le, w0] at h; omega) | (rw [i_le] at h; omega) | (rw [i_le] at h; exact h)
    first | (rw [if_pos h] at hP; exact kf h σ' r hP H locs ls hR hS hl) | (rw [if_neg h] at hP; exact kf h σ' r hP H locs ls hR hS hl)
theorem x_if_gt (C : Cx z l w y cc nL ret tg rm) {x off : Int} {tgt : Nat} {PT PF : Option (St × Int)} (ht : (pc : Int) + off = (tgt : Int)) (hd : decode cc pc = .ok (.ifCond .gt off, 3)) (kt : 0 < wr x → X z cs ss σ tgt lv st PT) (kf : ¬ 0 < wr x → X z cs ss σ (pc + 3) lv st PF) : X z cs ss σ pc lv (ai x :: st) (if 0 < wr x then PT else PF) := by
  obtain ⟨p, le, e, R, s, m, args, below, meth, c, ⟨D, ca, ra, S⟩, b, hs, nL1, rt⟩ := z
  obtain ⟨⟨hx, hb, hml, hown⟩, hts, ⟨hr, hlk, hnm⟩, ⟨hK, hN, hF⟩, ⟨rfl, rfl, rfl, rfl, rfl⟩, htg⟩ := C
  intro σ' r hP H locs ls hR hS hl
  have e0 : (0 : Int32) = Int32.ofInt 0 := rfl
  have w0 : wr 0 = 0 := rfl
  refine lv_if_gt hx hb hd ht (fun h => ?_) (fun h => ?_)
  · have h : 0 < wr x := by
      first | (rw [e0, i_lt, w0] at h; omega) | (rw [i_lt] at h; omega) | (rw [i_lt] at h; exact h)
    first | (rw [if_pos h] at hP; exact kt h σ' r hP H locs ls hR hS hl) | (rw [if_neg h] at hP; exact kt h σ' r hP H locs ls hR hS hl)
  · have h : ¬ 0 < wr x := by
      first | (rw [e0, i_lt, w0] at h; omega) | (rw [i_lt] at h; omega) | (rw [i_lt] at h; exact h)
    first | (rw [if_pos h] at hP; exact kf h σ' r hP H locs ls hR hS hl) | (rw [if_neg h] at hP; exact kf h σ' r hP H locs ls hR hS hl)
theorem x_if_le (C : Cx z l w y cc nL ret tg rm) {x off : Int} {tgt : Nat} {PT PF : Option (St × Int)} (ht : (pc : Int) + off = (tgt : Int)) (hd : decode cc pc = .ok (.ifCond .le off, 3)) (kt : ¬ 0 < wr x → X z cs ss σ tgt lv st PF) (kf : 0 < wr x → X z cs ss σ (pc + 3) lv st PT) : X z cs ss σ pc lv (ai x :: st) (if 0 < wr x then PT else PF) := by
  obtain ⟨p, le, e, R, s, m, args, below, meth, c, ⟨D, ca, ra, S⟩, b, hs, nL1, rt⟩ := z
  obtain ⟨⟨hx, hb, hml, hown⟩, hts, ⟨hr, hlk, hnm⟩, ⟨hK, hN, hF⟩, ⟨rfl, rfl, rfl, rfl, rfl⟩, htg⟩ := C
  intro σ' r hP H locs ls hR hS hl
  have e0 : (0 : Int32) = Int32.ofInt 0 := rfl
  have w0 : wr 0 = 0 := rfl
  refine lv_if_le hx hb hd ht (fun h => ?_) (fun h => ?_)
  · have h : ¬ 0 < wr x := by
      first | (rw [e0, i_le, w0] at h; omega) | (rw [i_le] at h; omega) | (rw [i_le] at h; exact h)
    first | (rw [if_pos h] at hP; exact kt h σ' r hP H locs ls hR hS hl) | (rw [if_neg h] at hP; exact kt h σ' r hP H locs ls hR hS hl)
  · have h : 0 < wr x := by
      first | (rw [e0, i_le, w0] at h; omega) | (rw [i_le] at h; omega) | (rw [i_le] at h; exact h)
    first | (rw [if_pos h] at hP; exact kf h σ' r hP H locs ls hR hS hl) | (rw [if_neg h] at hP; exact kf h σ' r hP H locs ls hR hS hl)
theorem x_ic_eq (C : Cx z l w y cc nL ret tg rm) {x u off : Int} {tgt : Nat} {PT PF : Option (St × Int)} (ht : (pc : Int) + off = (tgt : Int)) (hd : decode cc pc = .ok (.if_icmp .eq off, 3)) (kt : wr x = wr u → X z cs ss σ tgt lv st PT) (kf : ¬ wr x = wr u → X z cs ss σ (pc + 3) lv st PF) : X z cs ss σ pc lv (ai u :: ai x :: st) (if wr x = wr u then PT else PF) := by
  obtain ⟨p, le, e, R, s, m, args, below, meth, c, ⟨D, ca, ra, S⟩, b, hs, nL1, rt⟩ := z
  obtain ⟨⟨hx, hb, hml, hown⟩, hts, ⟨hr, hlk, hnm⟩, ⟨hK, hN, hF⟩, ⟨rfl, rfl, rfl, rfl, rfl⟩, htg⟩ := C
  intro σ' r hP H locs ls hR hS hl
  refine lv_icmp_eq hx hb hd ht (fun h => ?_) (fun h => ?_)
  · have h : wr x = wr u := by
      rw [i_eq] at h; omega
    first | (rw [if_pos h] at hP; exact kt h σ' r hP H locs ls hR hS hl) | (rw [if_neg h] at hP; exact kt h σ' r hP H locs ls hR hS hl)
  · have h : ¬ wr x = wr u := by
      rw [i_eq] at h; omega
    first | (rw [if_pos h] at hP; exact kf h σ' r hP H locs ls hR hS hl) | (rw [if_neg h] at hP; exact kf h σ' r hP H locs ls hR hS hl)
theorem x_ic_ne (C : Cx z l w y cc nL ret tg rm) {x u off : Int} {tgt : Nat} {PT PF : Option (St × Int)} (ht : (pc : Int) + off = (tgt : Int)) (hd : decode cc pc = .ok (.if_icmp .ne off, 3)) (kt : ¬ wr x = wr u → X z cs ss σ tgt lv st PF) (kf : wr x = wr u → X z cs ss σ (pc + 3) lv st PT) : X z cs ss σ pc lv (ai u :: ai x :: st) (if wr x = wr u then PT else PF) := by
  obtain ⟨p, le, e, R, s, m, args, below, meth, c, ⟨D, ca, ra, S⟩, b, hs, nL1, rt⟩ := z
  obtain ⟨⟨hx, hb, hml, hown⟩, hts, ⟨hr, hlk, hnm⟩, ⟨hK, hN, hF⟩, ⟨rfl, rfl, rfl, rfl, rfl⟩, htg⟩ := C
  intro σ' r hP H locs ls hR hS hl
  refine lv_icmp_ne hx hb hd ht (fun h => ?_) (fun h => ?_)
  · have h : ¬ wr x = wr u := by
      rw [i_eq] at h; omega
    first | (rw [if_pos h] at hP; exact kt h σ' r hP H locs ls hR hS hl) | (rw [if_neg h] at hP; exact kt h σ' r hP H locs ls hR hS hl)
  · have h : wr x = wr u := by
      rw [i_eq] at h; omega
    first | (rw [if_pos h] at hP; exact kf h σ' r hP H locs ls hR hS hl) | (rw [if_neg h] at hP; exact kf h σ' r hP H locs ls hR hS hl)
theorem x_ic_lt (C : Cx z l w y cc nL ret tg rm) {x u off : Int} {tgt : Nat} {PT PF : Option (St × Int)} (ht : (pc : Int) + off = (tgt : Int)) (hd : decode cc pc = .ok (.if_icmp .lt off, 3)) (kt : wr x < wr u → X z cs ss σ tgt lv st PT) (kf : ¬ wr x < wr u → X z cs ss σ (pc + 3) lv st PF) : X z cs ss σ pc lv (ai u :: ai x :: st) (if wr x < wr u then PT else PF) := by
  obtain ⟨p, le, e, R, s, m, args, below, meth, c, ⟨D, ca, ra, S⟩, b, hs, nL1, rt⟩ := z
  obtain ⟨⟨hx, hb, hml, hown⟩, hts, ⟨hr, hlk, hnm⟩, ⟨hK, hN, hF⟩, ⟨rfl, rfl, rfl, rfl, rfl⟩, htg⟩ := C
  intro σ' r hP H locs ls hR hS hl
  refine lv_icmp_lt hx hb hd ht (fun h => ?_) (fun h => ?_)
  · have h : wr x < wr u := by
      rw [i_lt] at h; omega
    first | (rw [if_pos h] at hP; exact kt h σ' r hP H locs ls hR hS hl) | (rw [if_neg h] at hP; exact kt h σ' r hP H locs ls hR hS hl)
  · have h : ¬ wr x < wr u := by
      rw [i_lt] at h; omega
    first | (rw [if_pos h] at hP; exact kf h σ' r hP H locs ls hR hS hl) | (rw [if_neg h] at hP; exact kf h σ' r hP H locs ls hR hS hl)
theorem x_ic_ge (C : Cx z l w y cc nL ret tg rm) {x u off : Int} {tgt : Nat} {PT PF : Option (St × Int)} (ht : (pc : Int) + off = (tgt : Int)) (hd : decode cc pc = .ok (.if_icmp .ge off, 3)) (kt : ¬ wr x < wr u → X z cs ss σ tgt lv st PF) (kf : wr x < wr u → X z cs ss σ (pc + 3) lv st PT) : X z cs ss σ pc lv (ai u :: ai x :: st) (if wr x < wr u then PT else PF) := by
  obtain ⟨p, le, e, R, s, m, args, below, meth, c, ⟨D, ca, ra, S⟩, b, hs, nL1, rt⟩ := z
  obtain ⟨⟨hx, hb, hml, hown⟩, hts, ⟨hr, hlk, hnm⟩, ⟨hK, hN, hF⟩, ⟨rfl, rfl, rfl, rfl, rfl⟩, htg⟩ := C
  intro σ' r hP H locs ls hR hS hl
  refine lv_icmp_ge hx hb hd ht (fun h => ?_) (fun h => ?_)
  · have h : ¬ wr x < wr u := by
      rw [i_le] at h; omega
    first | (rw [if_pos h] at hP; exact kt h σ' r hP H locs ls hR hS hl) | (rw [if_neg h] at hP; exact kt h σ' r hP H locs ls hR hS hl)
  · have h : wr x < wr u := by
      rw [i_le] at h; omega
    first | (rw [if_pos h] at hP; exact kf h σ' r hP H locs ls hR hS hl) | (rw [if_neg h] at hP; exact kf h σ' r hP H locs ls hR hS hl)
theorem x_ic_gt (C : Cx z l w y cc nL ret tg rm) {x u off : Int} {tgt : Nat} {PT PF : Option (St × Int)} (ht : (pc : Int) + off = (tgt : Int)) (hd : decode cc pc = .ok (.if_icmp .gt off, 3)) (kt : wr u < wr x → X z cs ss σ tgt lv st PT) (kf : ¬ wr u < wr x → X z cs ss σ (pc + 3) lv st PF) : X z cs ss σ pc lv (ai u :: ai x :: st) (if wr u < wr x then PT else PF) := by
  obtain ⟨p, le, e, R, s, m, args, below, meth, c, ⟨D, ca, ra, S⟩, b, hs, nL1, rt⟩ := z
  obtain ⟨⟨hx, hb, hml, hown⟩, hts, ⟨hr, hlk, hnm⟩, ⟨hK, hN, hF⟩, ⟨rfl, rfl, rfl, rfl, rfl⟩, htg⟩ := C
  intro σ' r hP H locs ls hR hS hl
  refine lv_icmp_gt hx hb hd ht (fun h => ?_) (fun h => ?_)
  · have h : wr u < wr x := by
      rw [i_lt] at h; omega
    first | (rw [if_pos h] at hP; exact kt h σ' r hP H locs ls hR hS hl) | (rw [if_neg h] at hP; exact kt h σ' r hP H locs ls hR hS hl)
  · have h : ¬ wr u < wr x := by
      rw [i_lt] at h; omega
    first | (rw [if_pos h] at hP; exact kf h σ' r hP H locs ls hR hS hl) | (rw [if_neg h] at hP; exact kf h σ' r hP H locs ls hR hS hl)
theorem x_ic_le (C : Cx z l w y cc nL ret tg rm) {x u off : Int} {tgt : Nat} {PT PF : Option (St × Int)} (ht : (pc : Int) + off = (tgt : Int)) (hd : decode cc pc = .ok (.if_icmp .le off, 3)) (kt : ¬ wr u < wr x → X z cs ss σ tgt lv st PF) (kf : wr u < wr x → X z cs ss σ (pc + 3) lv st PT) : X z cs ss σ pc lv (ai u :: ai x :: st) (if wr u < wr x then PT else PF) := by
  obtain ⟨p, le, e, R, s, m, args, below, meth, c, ⟨D, ca, ra, S⟩, b, hs, nL1, rt⟩ := z
  obtain ⟨⟨hx, hb, hml, hown⟩, hts, ⟨hr, hlk, hnm⟩, ⟨hK, hN, hF⟩, ⟨rfl, rfl, rfl, rfl, rfl⟩, htg⟩ := C
  intro σ' r hP H locs ls hR hS hl
  refine lv_icmp_le hx hb hd ht (fun h => ?_) (fun h => ?_)
  · have h : ¬ wr u < wr x := by
      rw [i_le] at h; omega
    first | (rw [if_pos h] at hP; exact kt h σ' r hP H locs ls hR hS hl) | (rw [if_neg h] at hP; exact kt h σ' r hP H locs ls hR hS hl)
  · have h : wr u < wr x := by
      rw [i_le] at h; omega
    first | (rw [if_pos h] at hP; exact kf h σ' r hP H locs ls hR hS hl) | (rw [if_neg h] at hP; exact kf h σ' r hP H locs ls hR hS hl)
theorem x_goto (C : Cx z l w y cc nL ret tg rm) {off : Int} {tgt : Nat} (ht : (pc : Int) + off = (tgt : Int)) (hd : decode cc pc = .ok (.goto off, 3)) (k : X z cs ss σ tgt lv st P) : X z cs ss σ pc lv st P := by
  obtain ⟨p, le, e, R, s, m, args, below, meth, c, ⟨D, ca, ra, S⟩, b, hs, nL1, rt⟩ := z
  obtain ⟨⟨hx, hb, hml, hown⟩, hts, ⟨hr, hlk, hnm⟩, ⟨hK, hN, hF⟩, ⟨rfl, rfl, rfl, rfl, rfl⟩, htg⟩ := C
  intro σ' r hP H locs ls hR hS hl
  exact lv_goto hx hb hd ht (k σ' r hP H locs ls hR hS hl)
theorem x_dup (C : Cx z l w y cc nL ret tg rm) {v : AV} (hc : cat v = 1) (hd : decode cc pc = .ok (.dup, 1)) (k : X z cs ss σ (pc + 1) lv (v :: v :: st) P) : X z cs ss σ pc lv (v :: st) P := by
  obtain ⟨p, le, e, R, s, m, args, below, meth, c, ⟨D, ca, ra, S⟩, b, hs, nL1, rt⟩ := z
  obtain ⟨⟨hx, hb, hml, hown⟩, hts, ⟨hr, hlk, hnm⟩, ⟨hK, hN, hF⟩, ⟨rfl, rfl, rfl, rfl, rfl⟩, htg⟩ := C
  intro σ' r hP H locs ls hR hS hl
  exact lv_dup hx hb hd (by rw [cv_cat]; exact hc) (k σ' r hP H locs ls hR hS hl)
theorem x_pop (C : Cx z l w y cc nL ret tg rm) {v : AV} (hc : cat v = 1) (hd : decode cc pc = .ok (.pop, 1)) (k : X z cs ss σ (pc + 1) lv st P) : X z cs ss σ pc lv (v :: st) P := by
  obtain ⟨p, le, e, R, s, m, args, below, meth, c, ⟨D, ca, ra, S⟩, b, hs, nL1, rt⟩ := z
  obtain ⟨⟨hx, hb, hml, hown⟩, hts, ⟨hr, hlk, hnm⟩, ⟨hK, hN, hF⟩, ⟨rfl, rfl, rfl, rfl, rfl⟩, htg⟩ := C
  intro σ' r hP H locs ls hR hS hl
  exact lv_pop hx hb hd (by rw [cv_cat]; exact hc) (k σ' r hP H locs ls hR hS hl)
theorem x_dup_x1 (C : Cx z l w y cc nL ret tg rm) {v u : AV} (hc : cat v = 1) (hc2 : cat u = 1) (hd : decode cc pc = .ok (.dup_x1, 1)) (k : X z cs ss σ (pc + 1) lv (v :: u :: v :: st) P) : X z cs ss σ pc lv (v :: u :: st) P := by
  obtain ⟨p, le, e, R, s, m, args, below, meth, c, ⟨D, ca, ra, S⟩, b, hs, nL1, rt⟩ := z
  obtain ⟨⟨hx, hb, hml, hown⟩, hts, ⟨hr, hlk, hnm⟩, ⟨hK, hN, hF⟩, ⟨rfl, rfl, rfl, rfl, rfl⟩, htg⟩ := C
  intro σ' r hP H locs ls hR hS hl
  exact lv_dup_x1 hx hb hd (by rw [cv_cat]; exact hc) (by rw [cv_cat]; exact hc2) (k σ' r hP H locs ls hR hS hl)
theorem x_dup2 (C : Cx z l w y cc nL ret tg rm) {v u : AV} (hc : cat v = 1) (hc2 : cat u = 1) (hd : decode cc pc = .ok (.dup2, 1)) (k : X z cs ss σ (pc + 1) lv (v :: u :: v :: u :: st) P) : X z cs ss σ pc lv (v :: u :: st) P := by
  obtain ⟨p, le, e, R, s, m, args, below, meth, c, ⟨D, ca, ra, S⟩, b, hs, nL1, rt⟩ := z
  obtain ⟨⟨hx, hb, hml, hown⟩, hts, ⟨hr, hlk, hnm⟩, ⟨hK, hN, hF⟩, ⟨rfl, rfl, rfl, rfl, rfl⟩, htg⟩ := C
  intro σ' r hP H locs ls hR hS hl
  exact lv_dup2_11 hx hb hd (by rw [cv_cat]; exact hc) (by rw [cv_cat]; exact hc2) (k σ' r hP H locs ls hR hS hl)
theorem x_lcmp_eq (C : Cx z l w y cc nL ret tg rm) {a u off : Int} {tgt : Nat} {PT PF : Option (St × Int)} (ht : (pc : Int) + 1 + off = (tgt : Int)) (hd0 : decode cc pc = .ok (.lcmp, 1)) (hd : decode cc (pc + 1) = .ok (.ifCond .eq off, 3)) (kt : wl a = wl u → X z cs ss σ tgt lv st PT) (kf : ¬ wl a = wl u → X z cs ss σ (pc + 4) lv st PF) : X z cs ss σ pc lv (al u :: al a :: st) (if wl a = wl u then PT else PF) := by
  obtain ⟨p, le, e, R, s, m, args, below, meth, c, ⟨D, ca, ra, S⟩, b, hs, nL1, rt⟩ := z
  obtain ⟨⟨hx, hb, hml, hown⟩, hts, ⟨hr, hlk, hnm⟩, ⟨hK, hN, hF⟩, ⟨rfl, rfl, rfl, rfl, rfl⟩, htg⟩ := C
  intro σ' r hP H locs ls hR hS hl
  have ht2 : ((pc + 1 : Nat) : Int) + off = (tgt : Int) := by rw [← ht]; simp
  refine W.lcmp hx hb hd0 (lv_if_eq hx hb hd ht2 (fun h => ?_) (fun h => ?_))
  · have h : wl a = wl u := by
      rw [lg_cmp0] at h; first | exact h | exact fun q => h q
    first | (rw [if_pos h] at hP; exact kt h σ' r hP H locs ls hR hS hl) | (rw [if_neg h] at hP; exact kt h σ' r hP H locs ls hR hS hl)
  · have h : ¬ wl a = wl u := by
      rw [lg_cmp0] at h; first | exact h | exact Decidable.not_not.mp h
    first | (rw [if_pos h] at hP; exact kf h σ' r hP H locs ls hR hS hl) | (rw [if_neg h] at hP; exact kf h σ' r hP H locs ls hR hS hl)
theorem x_lcmp_ne (C : Cx z l w y cc nL ret tg rm) {a u off : Int} {tgt : Nat} {PT PF : Option (St × Int)} (ht : (pc : Int) + 1 + off = (tgt : Int)) (hd0 : decode cc pc = .ok (.lcmp, 1)) (hd : decode cc (pc + 1) = .ok (.ifCond .ne off, 3)) (kt : ¬ wl a = wl u → X z cs ss σ tgt lv st PF) (kf : wl a = wl u → X z cs ss σ (pc + 4) lv st PT) : X z cs ss σ pc lv (al u :: al a :: st) (if wl a = wl u then PT else PF) := by
  obtain ⟨p, le, e, R, s, m, args, below, meth, c, ⟨D, ca, ra, S⟩, b, hs, nL1, rt⟩ := z
  obtain ⟨⟨hx, hb, hml, hown⟩, hts, ⟨hr, hlk, hnm⟩, ⟨hK, hN, hF⟩, ⟨rfl, rfl, rfl, rfl, rfl⟩, htg⟩ := C
  intro σ' r hP H locs ls hR hS hl
  have ht2 : ((pc + 1 : Nat) : Int) + off = (tgt : Int) := by rw [← ht]; simp
  refine W.lcmp hx hb hd0 (lv_if_ne hx hb hd ht2 (fun h => ?_) (fun h => ?_))
  · have h : ¬ wl a = wl u := by
      rw [lg_cmp0] at h; first | exact h | exact fun q => h q
    first | (rw [if_pos h] at hP; exact kt h σ' r hP H locs ls hR hS hl) | (rw [if_neg h] at hP; exact kt h σ' r hP H locs ls hR hS hl)
  · have h : wl a = wl u := by
      rw [lg_cmp0] at h; first | exact h | exact Decidable.not_not.mp h
    first | (rw [if_pos h] at hP; exact kf h σ' r hP H locs ls hR hS hl) | (rw [if_neg h] at hP; exact kf h σ' r hP H locs ls hR hS hl)
end Rows
