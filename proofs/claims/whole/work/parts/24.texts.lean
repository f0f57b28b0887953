/-! rows of texts that never change, of new cells, of constructors -/
def stC (i : Nat) : Option Int := if i < 3 then some 0 else none
def stV (i : Nat) : Option Nat := if i < 3 then some (10 + i) else none
def stL (k : Nat) : Option Int := if 10 ≤ k ∧ k < 13 then some (lenT.getD (k - 10) 0 : Nat) else none
def stB (k : Nat) (i : Int) : Option Int := if 10 ≤ k ∧ k < 13 ∧ 0 ≤ wr i ∧ wr i < (lenT.getD (k - 10) 0 : Nat) then some ((bytT.getD (k - 10) []).getD (wr i).toNat 0).toInt else none
def rcvO (k : Nat) (P : Option (St × Int)) : Option (St × Int) := if k < 3 then P else none
theorem pu_rcvO {σ : St} {k : Nat} {P : Option (St × Int)} (h : Pu σ P) : Pu σ (rcvO k P) := by
  unfold rcvO
  split
  · exact h
  · exact pu_none
def no21 (v : AV) : Bool := match v with
  | .inr (.inr (.inr k)) => k != 21
  | _ => true
theorem cv_no21 {b : Nat} {ra rb : Nat → Nat} (h : ∀ k, k ≠ 21 → rb k = ra k) {v : AV} (hv : no21 v = true) : cv b rb v = cv b ra v := by
  rcases v with z | z | k | k
  · rfl
  · rfl
  · rfl
  · have hk : k ≠ 21 := by simpa [no21] using hv
    exact congrArg Value.ref (h k hk)
theorem SF.ra {A : Nat → Prop} {ra rb : Nat → Nat} {U : State} {H : Heap} (h : ∀ k, k ≠ 21 → rb k = ra k) (hF : SF A ra U H) : SF A rb U H := by
  obtain ⟨⟨h1, h1b⟩, ⟨h2, h3, h4⟩, ⟨h5, h6⟩, h7, h8⟩ := hF
  refine ⟨⟨fun i hi => ?_, fun i j hi hj e => h1b i j hi hj (by rw [← h i (by omega), ← h j (by omega)]; exact e)⟩, ⟨by rw [h 0 (by omega)]; exact h2, by rw [h 1 (by omega)]; exact h3, by rw [h 2 (by omega)]; exact h4⟩, ⟨by rw [h 20 (by omega)]; exact h5, by rw [h 20 (by omega)]; exact h6⟩, h7, h8⟩
  have q := h1 i hi
  dsimp only at q ⊢
  rw [h i (by omega), h (10 + i) (by omega)]
  exact q
section Rows
variable {z : Zt} {l : Launch} {w : Vt} {y : MethodName} {cc : ByteArray} {nL : Nat} {ret : Option FieldType} {tg : Bool} {rm : Room} {cs ss pc : Nat} {σ : St} {lv : List (Nat × AV)} {st : List AV} {P : Option (St × Int)}
theorem x_getCS (C : Cx z l w y cc nL ret tg rm) {index : Nat} (hw : Cond.fieldLink y.cls index "java/lang/String" "COMPACT_STRINGS" "Z" ∈ TB) (hd : decode cc pc = .ok (.getstatic index, 3)) (k : X z cs ss σ (pc + 3) lv (ai 1 :: st) P) : X z cs ss σ pc lv st P := by
  obtain ⟨p, le, e, R, s, m, args, below, meth, c, ⟨D, ca, ra, S⟩, b, hs, nL1, rt⟩ := z
  obtain ⟨⟨hx, hb, hml, hown⟩, hts, ⟨hr, hlk, hnm⟩, ⟨hK, hN, hF⟩, ⟨rfl, rfl, rfl, rfl, rfl⟩, htg⟩ := C
  intro σ' r hP H locs ls hR hS hl
  obtain ⟨-, -, -, h7, -⟩ := hF
  exact va_gets hx hb h7 hS hown (hts _ hw) (fun x h => h) hd (k σ' r hP H locs ls hR hS hl)
theorem x_strC (C : Cx z l w y cc nL ret tg rm) {index i : Nat} {f : Int → Option (St × Int)} (hw : Cond.fieldLink y.cls index "java/lang/String" "coder" "B" ∈ TB) (hd : decode cc pc = .ok (.getfield index, 3)) (k : ∀ v, X z cs ss σ (pc + 3) lv (ai v :: st) (f v)) : X z cs ss σ pc lv (ao i :: st) (Option.bind (stC i) f) := by
  unfold stC
  by_cases h : i < 3
  · rw [if_pos h]
    have kk := k 0
    obtain ⟨p, le, e, R, s, m, args, below, meth, c, ⟨D, ca, ra, S⟩, b, hs, nL1, rt⟩ := z
    obtain ⟨⟨hx, hb, hml, hown⟩, hts, ⟨hr, hlk, hnm⟩, ⟨hK, hN, hF⟩, ⟨rfl, rfl, rfl, rfl, rfl⟩, htg⟩ := C
    intro σ' r hP H locs ls hR hS hl
    exact vk_getf hx hb (hF.1.1 i h).2.1 hS hown (hts _ hw) (fun x h => h) hd (kk σ' r hP H locs ls hR hS hl)
  · rw [if_neg h]; exact x_no
theorem x_strV (C : Cx z l w y cc nL ret tg rm) {index i : Nat} {f : Nat → Option (St × Int)} (hw : Cond.fieldLink y.cls index "java/lang/String" "value" "[B" ∈ TB) (hd : decode cc pc = .ok (.getfield index, 3)) (k : ∀ v, X z cs ss σ (pc + 3) lv (ao v :: st) (f v)) : X z cs ss σ pc lv (ao i :: st) (Option.bind (stV i) f) := by
  unfold stV
  by_cases h : i < 3
  · rw [if_pos h]
    have kk := k (10 + i)
    obtain ⟨p, le, e, R, s, m, args, below, meth, c, ⟨D, ca, ra, S⟩, b, hs, nL1, rt⟩ := z
    obtain ⟨⟨hx, hb, hml, hown⟩, hts, ⟨hr, hlk, hnm⟩, ⟨hK, hN, hF⟩, ⟨rfl, rfl, rfl, rfl, rfl⟩, htg⟩ := C
    intro σ' r hP H locs ls hR hS hl
    exact vk_getf hx hb (hF.1.1 i h).2.2.1 hS hown (hts _ hw) (fun x h => h) hd (kk σ' r hP H locs ls hR hS hl)
  · rw [if_neg h]; exact x_no
theorem x_alenO (C : Cx z l w y cc nL ret tg rm) {i : Nat} {f : Int → Option (St × Int)} (hd : decode cc pc = .ok (.arraylength, 1)) (k : ∀ v, X z cs ss σ (pc + 1) lv (ai v :: st) (f v)) : X z cs ss σ pc lv (ao i :: st) (Option.bind (stL i) f) := by
  unfold stL
  by_cases h : 10 ≤ i ∧ i < 13
  · rw [if_pos h]
    have kk := k (lenT.getD (i - 10) 0 : Nat)
    obtain ⟨p, le, e, R, s, m, args, below, meth, c, ⟨D, ca, ra, S⟩, b, hs, nL1, rt⟩ := z
    obtain ⟨⟨hx, hb, hml, hown⟩, hts, ⟨hr, hlk, hnm⟩, ⟨hK, hN, hF⟩, ⟨rfl, rfl, rfl, rfl, rfl⟩, htg⟩ := C
    intro σ' r hP H locs ls hR hS hl
    have h9 := (hF.1.1 (i - 10) (by omega)).2.2.2
    dsimp only at h9
    rw [show 10 + (i - 10) = i by omega] at h9
    exact va_tlen hx hb h9 hS rfl hd (kk σ' r hP H locs ls hR hS hl)
  · rw [if_neg h]; exact x_no
theorem x_baldO (C : Cx z l w y cc nL ret tg rm) {i : Nat} {j : Int} {f : Int → Option (St × Int)} (hd : decode cc pc = .ok (.baload, 1)) (k : ∀ v, X z cs ss σ (pc + 1) lv (ai v :: st) (f v)) : X z cs ss σ pc lv (ai j :: ao i :: st) (Option.bind (stB i j) f) := by
  unfold stB
  by_cases h : 10 ≤ i ∧ i < 13 ∧ 0 ≤ wr j ∧ wr j < (lenT.getD (i - 10) 0 : Nat)
  · rw [if_pos h]
    have kk := k ((bytT.getD (i - 10) []).getD (wr j).toNat 0).toInt
    obtain ⟨p, le, e, R, s, m, args, below, meth, c, ⟨D, ca, ra, S⟩, b, hs, nL1, rt⟩ := z
    obtain ⟨⟨hx, hb, hml, hown⟩, hts, ⟨hr, hlk, hnm⟩, ⟨hK, hN, hF⟩, ⟨rfl, rfl, rfl, rfl, rfl⟩, htg⟩ := C
    intro σ' r hP H locs ls hR hS hl
    have h9 := (hF.1.1 (i - 10) (by omega)).2.2.2
    dsimp only at h9
    rw [show 10 + (i - 10) = i by omega] at h9
    have hn := nat_wr h.2.2.1
    have k9 := kk σ' r hP H locs ls hR hS hl
    refine va_tb hx hb h9 hS (vp_in_wr h.2.2.1 h.2.2.2) (v := .int (Int32.ofInt (((bytT.getD (i - 10) []).getD (wr j).toNat 0).toInt))) ?_ hd k9
    rw [Int32.ofInt_toInt]
    congr 2
    omega
  · rw [if_neg h]; exact x_no
theorem x_ldcS (C : Cx z l w y cc nL ret tg rm) {index i : Nat} (hi : (index = 32 ∧ i = 0) ∨ (index = 38 ∧ i = 1) ∨ (index = 125 ∧ i = 2)) (hy : y.cls = "FastPlane$Tape") (hd : decode cc pc = .ok (.ldc index, 2)) (k : X z cs ss σ (pc + 2) lv (ao i :: st) P) : X z cs ss σ pc lv st P := by
  obtain ⟨p, le, e, R, s, m, args, below, meth, c, ⟨D, ca, ra, S⟩, b, hs, nL1, rt⟩ := z
  obtain ⟨⟨hx, hb, hml, hown⟩, hts, ⟨hr, hlk, hnm⟩, ⟨hK, hN, hF⟩, ⟨rfl, rfl, rfl, rfl, rfl⟩, htg⟩ := C
  intro σ' r hP H locs ls hR hS hl
  obtain ⟨-, ⟨h2, h3, h4⟩, -⟩ := hF
  rw [hy] at hown
  rcases hi with ⟨rfl, rfl⟩ | ⟨rfl, rfl⟩ | ⟨rfl, rfl⟩
  · exact va_ldcS hx hb hown h2 hd (k σ' r hP H locs ls hR hS hl)
  · exact va_ldcS hx hb hown h3 hd (k σ' r hP H locs ls hR hS hl)
  · exact va_ldcS hx hb hown h4 hd (k σ' r hP H locs ls hR hS hl)
theorem x_getFmt {D : va_G} {ca : Nat → ClassId} {ra : Nat → Nat} {S : List Sp} (C : Cx z l (D, ca, ra, S) y cc nL ret tg rm) {index : Nat} (hw : Cond.fieldLink y.cls index "jdk/internal/util/Preconditions" "SIOOBE_FORMATTER" "Ljava/util/function/BiFunction;" ∈ TB) (hlv : ∀ q ∈ lv, no21 q.2 = true) (hst : ∀ q ∈ st, no21 q = true) (hd : decode cc pc = .ok (.getstatic index, 3)) (k : ∀ (z2 : Zt) (rb : Nat → Nat), Cx z2 l (D, ca, rb, S) y cc nL ret tg rm → ∀ v : AV, (v = ar 0 ∨ v = ao 21) → X z2 cs ss σ (pc + 3) lv (v :: st) P) : X z cs ss σ pc lv st P := by
  obtain ⟨p, le, e, R, s, m, args, below, meth, c, ⟨D1, ca1, ra1, S1⟩, b, hs, nL1, rt⟩ := z
  obtain ⟨⟨hx, hb, hml, hown⟩, hts, ⟨hr, hlk, hnm⟩, ⟨hK, hN, hF⟩, ⟨rfl, rfl, rfl, rfl, hw9⟩, htg⟩ := C
  cases hw9
  intro σ' r hP H locs ls hR hS hl
  have h8 := hF.2.2.2.2
  have key : ∀ (rb : Nat → Nat) (v : AV), (∀ k, k ≠ 21 → rb k = ra k) → (v = ar 0 ∨ v = ao 21) → va_Z "jdk/internal/util/Preconditions" "SIOOBE_FORMATTER" "Ljava/util/function/BiFunction;" (cv b rb v) (zA S b s.heap.size) s s.heap → W p le e R s m args below meth c H locs cs ss (MQ below (QcC D ca S b hs rt σ' r) args s R.cells R.slots (zA S b s.heap.size)) (F0 m pc ls (st.map (cv b ra))) := by
    intro rb v hrb hv hz
    have e1 : lcv b rb lv = lcv b ra lv := List.map_congr_left (fun q hq => by rw [cv_no21 hrb (hlv q hq)])
    have e2 : st.map (cv b rb) = st.map (cv b ra) := List.map_congr_left (fun q hq => cv_no21 hrb (hst q hq))
    have k9 := k (p, le, e, R, s, m, args, below, meth, c, (D, ca, rb, S), b, hs, nL1, rt) rb ⟨⟨hx, hb, hml, hown⟩, hts, ⟨hr, hlk, hnm⟩, ⟨hK, hN, hF.ra hrb⟩, ⟨rfl, rfl, rfl, rfl, rfl⟩, htg⟩ v hv σ' r hP H locs ls hR hS (by rw [e1]; exact hl)
    rw [List.map_cons, e2] at k9
    exact va_gets hx hb hz hS hown (hts _ hw) (fun x h => h) hd k9
  rcases h8 with h8 | ⟨t, h8⟩
  · exact key ra (ar 0) (fun _ _ => rfl) (Or.inl rfl) h8
  · refine key (fun k => if k = 21 then t else ra k) (ao 21) (fun k hk => if_neg hk) (Or.inr rfl) ?_
    exact h8
variable {y2 : MethodName} {cc2 : ByteArray} {maxL2 n2 index ci : Nat} {ret2 : Option FieldType} {rm2 : Room} {tg2 : Bool} {k : Nat} {As : List AV} {P2 : Option (St × Int)} {f : St × Int → Option (St × Int)}
theorem x_callVO (C : Cx z l w y cc nL ret tg rm) (hC : Ctr l w tg2 y2 cc2 maxL2 ret2 rm2 σ (ao k :: As) P2) (hp : Pu σ P2) (hm : MtB y2 cc2 maxL2 ret2 n2) (hv : MtV y2) (hci : y2.cls = "java/lang/String") (hl : Cond.methodLink y.cls index y2 ∈ TB) (hn : As.length = n2) (htt : tg2 = true → tg = true) (hRm : rm2.frames + 1 ≤ rm.frames ∧ 8 + (maxL2 + 11) + rm2.locals ≤ rm.locals) (hst : (st.map cat).sum ≤ 8) (cs2 ss2 : Nat) (hcs2 : cs + rm2.cells = cs2 ∧ ss + rm2.slots = ss2) (hcs3 : cs2 ≤ rm.cells ∧ ss2 ≤ rm.slots) (hd : decode cc pc = .ok (.invokevirtual index, 3)) (args' : List AV) (hargs : args' = As.reverse ++ ao k :: st) (st3 : St × Int → List AV) (hst3 : ∀ q : St × Int, resA ret2 q.2 ++ st = st3 q)
    (kk : ∀ q : St × Int, X z cs2 ss2 σ (pc + 3) lv (st3 q) (f q)) : X z cs ss σ pc lv args' (Option.bind (rcvO k P2) f) := by
  subst hargs
  obtain ⟨rfl, rfl⟩ := hcs2
  have hcs := hcs3
  unfold rcvO
  by_cases hg : k < 3
  · rw [if_pos hg]
    obtain ⟨p, le, e, R, s, m, args, below, meth, c, ⟨D, ca, ra, S⟩, b, hs, nL1, rt⟩ := z
    obtain ⟨⟨hx, hb, hml, hown⟩, hts, ⟨hr, hlk, hnm⟩, ⟨hK, hN, hF⟩, ⟨rfl, rfl, rfl, rfl, rfl⟩, htg⟩ := C
    intro σ' r hP H locs ls hR hS hl1
    cases hP2 : P2 with
    | none => rw [hP2] at hP; cases hP
    | some q =>
      obtain ⟨τ, r0⟩ := q
      rw [hP2] at hP
      have hrv := vk_recv hF.1 hg hS
      rw [← hci] at hrv
      have hM := hC b hs (fun e => htg (htt e)) τ r0 hP2
      have e0 : (As.reverse ++ ao k :: st).map (cv b ra) = (As.map (cv b ra)).reverse ++ .ref (ra k) :: st.map (cv b ra) := by
        rw [List.map_append, List.map_cons, List.map_reverse]; rfl
      rw [e0]
      refine run_W hR hS (va_runV (C := y2.cls) (As := As.map (cv b ra)) (rest := st.map (cv b ra)) ⟨hx, hb, hml, hown, hts⟩ hM ⟨call_B hts hm hl hRm, hts _ hv.1, hts _ hv.2⟩ ⟨PcC.blind, hrv, fun U hU hW => PcC.at rfl hR hK hN hF hS hU hW⟩ rfl (by rw [List.length_map]; exact hn) hl1.1 rfl (lv_room (by rw [List.map_map]; rw [show ((fun v : Value => v.category) ∘ cv b ra) = cat from funext (cv_cat b ra)]; exact hst)) hd hcs) (fun H1 locs1 hR1 hS1 => ?_)
      rw [hst3 (τ, r0)]
      have e9 : τ = σ := hp (τ, r0) hP2
      subst e9
      exact kk (τ, r0) σ' r hP H1 locs1 ls hR1 hS1 hl1
  · rw [if_neg hg]
    exact x_no
end Rows
