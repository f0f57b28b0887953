/-! rows of switches, of Math, of the weights -/
def mnZ (a b : Int) : Int := if wr b < wr a then b else a
def mxZ (a b : Int) : Int := if wr a < wr b then b else a
def abZ (a : Int) : Int := if 0 ≤ wr a then a else 0 - a
def MthT (y : MethodName) (cc : ByteArray) (n : Nat) : Prop := Cond.static y ∈ TB ∧ Cond.initialized "java/lang/Math" ∈ TB ∧ Cond.code y cc n (some .int) ∈ TB
def wtZ (j : Int) : Option Int := if wr j = 0 then some 16 else if wr j = 1 then some 1 else if wr j = 2 then some 0 else none
section Rows
variable {z : Zt} {l : Launch} {w : Vt} {y : MethodName} {cc : ByteArray} {nL : Nat} {ret : Option FieldType} {tg : Bool} {rm : Room} {cs ss pc : Nat} {σ : St} {lv : List (Nat × AV)} {st : List AV} {P : Option (St × Int)}
theorem x_ts (C : Cx z l w y cc nL ret tg rm) {dflt lo hi : Int} {offs : Array Int} {len : Nat} {x v off : Int} {tgt : Nat} (h : wr x = v) (h1 : ¬ v < lo) (h2 : ¬ hi < v) (ho : offs[(v - lo).toNat]? = some off) (ht : (pc : Int) + off = (tgt : Int)) (hd : decode cc pc = .ok (.tableswitch dflt lo hi offs, len)) (k : X z cs ss σ tgt lv st P) : X z cs ss σ pc lv (ai x :: st) P := by
  obtain ⟨p, le, e, R, s, m, args, below, meth, c, ⟨D, ca, ra, S⟩, b, hs, nL1, rt⟩ := z
  obtain ⟨⟨hx, hb, hml, hown⟩, hts, ⟨hr, hlk, hnm⟩, ⟨hK, hN, hF⟩, ⟨rfl, rfl, rfl, rfl, rfl⟩, htg⟩ := C
  intro σ' r hP H locs ls hR hS hl
  subst h
  exact lv_tableIn hx hb hd (by rw [wr_i]; exact h1) (by rw [wr_i]; exact h2) (by rw [wr_i]; exact ho) ht (k σ' r hP H locs ls hR hS hl)
theorem x_tsD (C : Cx z l w y cc nL ret tg rm) {dflt lo hi : Int} {offs : Array Int} {len : Nat} {x : Int} {tgt : Nat} (vs : List Int) (h : ∀ v ∈ vs, ¬ wr x = v) (hsz : (offs.size : Int) = hi - lo + 1) (hall : (List.range offs.size).all (fun j => decide ((lo + j : Int) ∈ vs) || decide (offs[j]? = some dflt)) = true) (ht : (pc : Int) + dflt = (tgt : Int)) (hd : decode cc pc = .ok (.tableswitch dflt lo hi offs, len)) (k : X z cs ss σ tgt lv st P) : X z cs ss σ pc lv (ai x :: st) P := by
  obtain ⟨p, le, e, R, s, m, args, below, meth, c, ⟨D, ca, ra, S⟩, b, hs, nL1, rt⟩ := z
  obtain ⟨⟨hx, hb, hml, hown⟩, hts, ⟨hr, hlk, hnm⟩, ⟨hK, hN, hF⟩, ⟨rfl, rfl, rfl, rfl, rfl⟩, htg⟩ := C
  intro σ' r hP H locs ls hR hS hl
  have kk := k σ' r hP H locs ls hR hS hl
  by_cases ho : wr x < lo ∨ hi < wr x
  · exact lv_tableOut hx hb hd (by rw [wr_i]; exact ho) ht kk
  · have hj : (wr x - lo).toNat < offs.size := by omega
    have h9 := List.all_eq_true.mp hall _ (List.mem_range.mpr hj)
    have e9 : lo + ((wr x - lo).toNat : Int) = wr x := by omega
    rw [e9] at h9
    simp only [Bool.or_eq_true, decide_eq_true_eq] at h9
    rcases h9 with q | q
    · exact absurd rfl (h _ q)
    · exact lv_tableIn hx hb hd (by rw [wr_i]; omega) (by rw [wr_i]; omega) (by rw [wr_i]; exact q) ht kk
theorem x_lsw (C : Cx z l w y cc nL ret tg rm) {dflt : Int} {ps : Array (Int × Int)} {len : Nat} {x off : Int} {tgt : Nat} (hp : (ps.toList.zip (ps.toList.drop 1)).all (fun (a, next) => a.1 < next.1) = true) (ho : Op.lookupswitch.offset ps.toList dflt (wr x) = off) (ht : (pc : Int) + off = (tgt : Int)) (hd : decode cc pc = .ok (.lookupswitch dflt ps, len)) (k : X z cs ss σ tgt lv st P) : X z cs ss σ pc lv (ai x :: st) P := by
  obtain ⟨p, le, e, R, s, m, args, below, meth, c, ⟨D, ca, ra, S⟩, b, hs, nL1, rt⟩ := z
  obtain ⟨⟨hx, hb, hml, hown⟩, hts, ⟨hr, hlk, hnm⟩, ⟨hK, hN, hF⟩, ⟨rfl, rfl, rfl, rfl, rfl⟩, htg⟩ := C
  intro σ' r hP H locs ls hR hS hl
  exact lv_lookup hx hb hd hp (by rw [wr_i]; exact ho) ht (k σ' r hP H locs ls hR hS hl)
theorem x_min (C : Cx z l w y cc nL ret tg rm) {index : Nat} {a u : Int} (hm : MthT Lib.Math.min.name Lib.Math.min.code 2) (hl9 : Cond.methodLink y.cls index Lib.Math.min.name ∈ TB) (hRm : 1 ≤ rm.frames ∧ (st.map cat).sum + 13 ≤ rm.locals) (hcs : cs ≤ rm.cells ∧ ss ≤ rm.slots) (hd : decode cc pc = .ok (.invokestatic index, 3)) (k : X z cs ss σ (pc + 3) lv (ai (mnZ a u) :: st) P) : X z cs ss σ pc lv (ai u :: ai a :: st) P := by
  obtain ⟨p, le, e, R, s, m, args, below, meth, c, ⟨D, ca, ra, S⟩, b, hs, nL1, rt⟩ := z
  obtain ⟨⟨hx, hb, hml, hown⟩, hts, ⟨hr, hlk, hnm⟩, ⟨hK, hN, hF⟩, ⟨rfl, rfl, rfl, rfl, rfl⟩, htg⟩ := C
  intro σ' r hP H locs ls hR hS hl
  have kk := k σ' r hP H locs ls hR hS hl
  have e0 : (if Int32.ofInt u < Int32.ofInt a then Int32.ofInt u else Int32.ofInt a) = Int32.ofInt (mnZ a u) := by
    unfold mnZ
    by_cases h : wr u < wr a
    · rw [if_pos h, if_pos (i_lt.mpr h)]
    · rw [if_neg h, if_neg (fun q => h (i_lt.mp q))]
  refine va_mmin hx hb (by rw [hml]; exact hl.1.symm) hown (hts _ hl9) (hts _ hm.1) (hts _ hm.2.1) (hts _ hm.2.2) hRm.1 (by rw [List.map_map]; rw [show ((fun v : Value => v.category) ∘ cv b ra) = cat from funext (cv_cat b ra)]; exact hRm.2) hcs.1 hcs.2 hd ?_
  rw [e0]
  exact kk
theorem x_max (C : Cx z l w y cc nL ret tg rm) {index : Nat} {a u : Int} (hm : MthT Lib.Math.max.name Lib.Math.max.code 2) (hl9 : Cond.methodLink y.cls index Lib.Math.max.name ∈ TB) (hRm : 1 ≤ rm.frames ∧ (st.map cat).sum + 13 ≤ rm.locals) (hcs : cs ≤ rm.cells ∧ ss ≤ rm.slots) (hd : decode cc pc = .ok (.invokestatic index, 3)) (k : X z cs ss σ (pc + 3) lv (ai (mxZ a u) :: st) P) : X z cs ss σ pc lv (ai u :: ai a :: st) P := by
  obtain ⟨p, le, e, R, s, m, args, below, meth, c, ⟨D, ca, ra, S⟩, b, hs, nL1, rt⟩ := z
  obtain ⟨⟨hx, hb, hml, hown⟩, hts, ⟨hr, hlk, hnm⟩, ⟨hK, hN, hF⟩, ⟨rfl, rfl, rfl, rfl, rfl⟩, htg⟩ := C
  intro σ' r hP H locs ls hR hS hl
  have kk := k σ' r hP H locs ls hR hS hl
  have e0 : (if Int32.ofInt a < Int32.ofInt u then Int32.ofInt u else Int32.ofInt a) = Int32.ofInt (mxZ a u) := by
    unfold mxZ
    by_cases h : wr a < wr u
    · rw [if_pos h, if_pos (i_lt.mpr h)]
    · rw [if_neg h, if_neg (fun q => h (i_lt.mp q))]
  refine va_mmax hx hb (by rw [hml]; exact hl.1.symm) hown (hts _ hl9) (hts _ hm.1) (hts _ hm.2.1) (hts _ hm.2.2) hRm.1 (by rw [List.map_map]; rw [show ((fun v : Value => v.category) ∘ cv b ra) = cat from funext (cv_cat b ra)]; exact hRm.2) hcs.1 hcs.2 hd ?_
  rw [e0]
  exact kk
theorem x_abs (C : Cx z l w y cc nL ret tg rm) {index : Nat} {a : Int} (hm : MthT Lib.Math.abs.name Lib.Math.abs.code 1) (hl9 : Cond.methodLink y.cls index Lib.Math.abs.name ∈ TB) (hRm : 1 ≤ rm.frames ∧ (st.map cat).sum + 13 ≤ rm.locals) (hcs : cs ≤ rm.cells ∧ ss ≤ rm.slots) (hd : decode cc pc = .ok (.invokestatic index, 3)) (k : X z cs ss σ (pc + 3) lv (ai (abZ a) :: st) P) : X z cs ss σ pc lv (ai a :: st) P := by
  obtain ⟨p, le, e, R, s, m, args, below, meth, c, ⟨D, ca, ra, S⟩, b, hs, nL1, rt⟩ := z
  obtain ⟨⟨hx, hb, hml, hown⟩, hts, ⟨hr, hlk, hnm⟩, ⟨hK, hN, hF⟩, ⟨rfl, rfl, rfl, rfl, rfl⟩, htg⟩ := C
  intro σ' r hP H locs ls hR hS hl
  have kk := k σ' r hP H locs ls hR hS hl
  have e0 : (if 0 ≤ Int32.ofInt a then Int32.ofInt a else 0 - Int32.ofInt a) = Int32.ofInt (abZ a) := by
    have w0 : 0 ≤ Int32.ofInt a ↔ 0 ≤ wr a := by rw [Int32.le_iff_toInt_le, wr_i]; exact Iff.rfl
    unfold abZ
    by_cases h : 0 ≤ wr a
    · rw [if_pos h, if_pos (w0.mpr h)]
    · rw [if_neg h, if_neg (fun q => h (w0.mp q)), Int32.ofInt_sub]; rfl
  refine va_mabs hx hb (by rw [hml]; exact hl.1.symm) hown (hts _ hl9) (hts _ hm.1) (hts _ hm.2.1) (hts _ hm.2.2) hRm.1 (by rw [List.map_map]; rw [show ((fun v : Value => v.category) ∘ cv b ra) = cat from funext (cv_cat b ra)]; exact hRm.2) hcs.1 hcs.2 hd ?_
  rw [e0]
  exact kk
theorem x_getW (C : Cx z l w y cc nL ret tg rm) {index : Nat} (hw : Cond.fieldLink y.cls index "FastPlane$Flight" "WEIGHT" "[I" ∈ TB) (hd : decode cc pc = .ok (.getstatic index, 3)) (k : X z cs ss σ (pc + 3) lv (ao 20 :: st) P) : X z cs ss σ pc lv st P := by
  obtain ⟨p, le, e, R, s, m, args, below, meth, c, ⟨D, ca, ra, S⟩, b, hs, nL1, rt⟩ := z
  obtain ⟨⟨hx, hb, hml, hown⟩, hts, ⟨hr, hlk, hnm⟩, ⟨hK, hN, hF⟩, ⟨rfl, rfl, rfl, rfl, rfl⟩, htg⟩ := C
  intro σ' r hP H locs ls hR hS hl
  obtain ⟨-, -, ⟨h5, -⟩, -⟩ := hF
  exact va_gets hx hb h5 hS hown (hts _ hw) (fun x h => h) hd (k σ' r hP H locs ls hR hS hl)
theorem x_aldW (C : Cx z l w y cc nL ret tg rm) {i : Int} {f : Int → Option (St × Int)} (hd : decode cc pc = .ok (.iaload, 1)) (k : ∀ v, X z cs ss σ (pc + 1) lv (ai v :: st) (f v)) : X z cs ss σ pc lv (ai i :: ao 20 :: st) (Option.bind (wtZ i) f) := by
  obtain ⟨p, le, e, R, s, m, args, below, meth, c, ⟨D, ca, ra, S⟩, b, hs, nL1, rt⟩ := z
  obtain ⟨⟨hx, hb, hml, hown⟩, hts, ⟨hr, hlk, hnm⟩, ⟨hK, hN, hF⟩, ⟨rfl, rfl, rfl, rfl, rfl⟩, htg⟩ := C
  intro σ' r hP H locs ls hR hS hl
  obtain ⟨-, -, ⟨-, h6⟩, -⟩ := hF
  have key : ∀ v : Int, f v = some (σ', r) → 0 ≤ wr i → wr i < 3 → wtT (Int32.ofInt i).toNatClampNeg = .int (Int32.ofInt v) → W p le e R s m args below meth c H locs cs ss (MQ below (QcC D ca S b hs rt σ' r) args s R.cells R.slots (zA S b s.heap.size)) (F0 m pc ls ((ai i :: ao 20 :: st).map (cv b ra))) := by
    intro v hv h0 h1 h2
    exact va_ti hx hb h6 hS (vp_in_wr (n := 3) h0 h1) h2 hd (k v σ' r hv H locs ls hR hS hl)
  have hn : 0 ≤ wr i → ((Int32.ofInt i).toNatClampNeg : Int) = wr i := nat_wr
  unfold wtZ at hP
  by_cases a0 : wr i = 0
  · rw [if_pos a0] at hP
    refine key 16 hP (by omega) (by omega) ?_
    rw [show (Int32.ofInt i).toNatClampNeg = 0 by have := hn (by omega); omega]; rfl
  rw [if_neg a0] at hP
  by_cases a1 : wr i = 1
  · rw [if_pos a1] at hP
    refine key 1 hP (by omega) (by omega) ?_
    rw [show (Int32.ofInt i).toNatClampNeg = 1 by have := hn (by omega); omega]; rfl
  rw [if_neg a1] at hP
  by_cases a2 : wr i = 2
  · rw [if_pos a2] at hP
    refine key 0 hP (by omega) (by omega) ?_
    rw [show (Int32.ofInt i).toNatClampNeg = 2 by have := hn (by omega); omega]; rfl
  rw [if_neg a2] at hP
  cases hP
end Rows
