/-! what holds at the start -/
theorem inst_all : ∀ (ci : Nat) (q : vw_C), classes[ci]? = some q → Cond.instantiable q.1 q.2.2 ∈ TB := by
  intro ci q h
  match ci, h with
  | 0, h => cases h; exact tb1 (i := 391) (by decide +kernel) rfl
  | 1, h => cases h; exact tb1 (i := 306) (by decide +kernel) rfl
  | 2, h => cases h; exact tb1 (i := 339) (by decide +kernel) rfl
  | 3, h => cases h; exact tb1 (i := 149) (by decide +kernel) rfl
  | 4, h => cases h; exact tb1 (i := 237) (by decide +kernel) rfl
  | 5, h => cases h; exact tb1 (i := 434) (by decide +kernel) rfl
  | 6, h => cases h; exact tb1 (i := 30) (by decide +kernel) rfl
  | 7, h => cases h; exact tb1 (i := 260) (by decide +kernel) rfl
  | 8, h => cases h; exact tb1 (i := 295) (by decide +kernel) rfl
  | 9, h => cases h; exact tb1 (i := 373) (by decide +kernel) rfl
  | 10, h => cases h; exact tb1 (i := 411) (by decide +kernel) rfl
  | 11, h => cases h; exact tb1 (i := 22) (by decide +kernel) rfl
  | 12, h => cases h; exact tb1 (i := 1257) (by decide +kernel) rfl
  | k + 13, h => simp [classes] at h
theorem nest_in : ∀ q ∈ nestL, Cond.methodLinkNest q.1 q.2.1 q.2.2.1 q.2.2.2 ∈ lw_tbl := (List.forall_mem_cons.mpr ⟨List.mem_append_right _ (List.mem_of_getElem? (i := 150) (by decide +kernel)), (List.forall_mem_cons.mpr ⟨List.mem_append_right _ (List.mem_of_getElem? (i := 238) (by decide +kernel)), (List.forall_mem_cons.mpr ⟨List.mem_append_right _ (List.mem_of_getElem? (i := 307) (by decide +kernel)), (List.forall_mem_cons.mpr ⟨List.mem_append_right _ (List.mem_of_getElem? (i := 340) (by decide +kernel)), (List.forall_mem_cons.mpr ⟨List.mem_append_right _ (List.mem_of_getElem? (i := 374) (by decide +kernel)), (List.forall_mem_cons.mpr ⟨List.mem_append_right _ (List.mem_of_getElem? (i := 392) (by decide +kernel)), (List.forall_mem_cons.mpr ⟨List.mem_append_right _ (List.mem_of_getElem? (i := 412) (by decide +kernel)), (List.forall_mem_cons.mpr ⟨List.mem_append_right _ (List.mem_of_getElem? (i := 435) (by decide +kernel)), (List.forall_mem_cons.mpr ⟨List.mem_append_right _ (List.mem_of_getElem? (i := 547) (by decide +kernel)), (List.forall_mem_cons.mpr ⟨List.mem_append_right _ (List.mem_of_getElem? (i := 697) (by decide +kernel)), (List.forall_mem_cons.mpr ⟨List.mem_append_right _ (List.mem_of_getElem? (i := 741) (by decide +kernel)), (List.forall_mem_cons.mpr ⟨List.mem_append_right _ (List.mem_of_getElem? (i := 833) (by decide +kernel)), (List.forall_mem_cons.mpr ⟨List.mem_append_right _ (List.mem_of_getElem? (i := 846) (by decide +kernel)), (List.forall_mem_cons.mpr ⟨List.mem_append_right _ (List.mem_of_getElem? (i := 918) (by decide +kernel)), (List.forall_mem_cons.mpr ⟨List.mem_append_right _ (List.mem_of_getElem? (i := 1005) (by decide +kernel)), (List.forall_mem_cons.mpr ⟨List.mem_append_right _ (List.mem_of_getElem? (i := 1105) (by decide +kernel)), (List.forall_mem_cons.mpr ⟨List.mem_append_right _ (List.mem_of_getElem? (i := 1159) (by decide +kernel)), (List.forall_mem_cons.mpr ⟨List.mem_append_right _ (List.mem_of_getElem? (i := 1189) (by decide +kernel)), (List.forall_mem_cons.mpr ⟨List.mem_append_right _ (List.mem_of_getElem? (i := 1198) (by decide +kernel)), (List.forall_mem_nil _)⟩)⟩)⟩)⟩)⟩)⟩)⟩)⟩)⟩)⟩)⟩)⟩)⟩)⟩)⟩)⟩)⟩)⟩)⟩)
def tmT (i : Nat) : Term := match i with
  | 0 => .string "FastPlane$Tape" 32
  | 1 => .string "FastPlane$Tape" 38
  | _ => .string "FastPlane$Tape" 125
def flN : List Cond := flatC (Jvm.Cond.and given_1 narrow_1)
theorem tx_ex : ∀ i : Nat, i < 3 → Cond.exactly (tmT i) "java/lang/String" ∈ flN := by decide +kernel
theorem tx_co : ∀ i : Nat, i < 3 → Cond.eq (.field (tmT i) "java/lang/String" "coder" "B") (.int 0) ∈ flN := by decide +kernel
theorem tx_ar : ∀ i : Nat, i < 3 → Cond.arrayOf (.field (tmT i) "java/lang/String" "value" "[B") .byte ∈ flN := by decide +kernel
theorem tx_le : ∀ i : Nat, i < 3 → Cond.eq (.length (.field (tmT i) "java/lang/String" "value" "[B")) (.int (Int32.ofNat (lenT.getD i 0))) ∈ flN := by decide +kernel
def elW (i j : Nat) : Cond := Cond.eq (.elem (.field (tmT i) "java/lang/String" "value" "[B") (.int (Int32.ofNat j))) (.int ((bytT.getD i []).getD j 0))
theorem tx_e0 : ∀ j : Nat, j < 72 → flN[19 + j]? = some (elW 0 j) := by decide +kernel
theorem tx_e1 : ∀ j : Nat, j < 103 → flN[95 + j]? = some (elW 1 j) := by decide +kernel
theorem tx_e2 : ∀ j : Nat, j < 9 → flN[203 + j]? = some (elW 2 j) := by decide +kernel
theorem tx_el : ∀ i : Nat, i < 3 → ∀ j : Nat, j < lenT.getD i 0 → Cond.eq (.elem (.field (tmT i) "java/lang/String" "value" "[B") (.int (Int32.ofNat j))) (.int ((bytT.getD i []).getD j 0)) ∈ flN := by
  intro i hi j hj
  match i, hi, hj with
  | 0, _, hj => exact List.mem_of_getElem? (tx_e0 j hj)
  | 1, _, hj => exact List.mem_of_getElem? (tx_e1 j (Nat.lt_of_lt_of_le hj (by decide)))
  | 2, _, hj => exact List.mem_of_getElem? (tx_e2 j hj)
  | k + 3, h, _ => omega
theorem tx_ne : ∀ i : Nat, i < 3 → ∀ j : Nat, j < 3 → i ≠ j → Cond.not (Cond.eq (tmT i) (tmT j)) ∈ flN ∨ Cond.not (Cond.eq (tmT j) (tmT i)) ∈ flN := by decide +kernel
theorem tx_w0 : Cond.arrayOf (.static "FastPlane$Flight" "WEIGHT" "[I") .int ∈ flN := by decide +kernel
theorem tx_w1 : Cond.eq (.length (.static "FastPlane$Flight" "WEIGHT" "[I")) (.int 3) ∈ flN := by decide +kernel
theorem tx_w2 : ∀ j : Nat, j < 3 → Cond.eq (.elem (.static "FastPlane$Flight" "WEIGHT" "[I") (.int (Int32.ofNat j))) (.int (match j with | 0 => 16 | 1 => 1 | _ => 0)) ∈ flN := by decide +kernel
theorem tx_cs : Cond.eq (.static "java/lang/String" "COMPACT_STRINGS" "Z") (.int 1) ∈ flN := by decide +kernel
theorem tx_si : Cond.isRef (.static "jdk/internal/util/Preconditions" "SIOOBE_FORMATTER" "Ljava/util/function/BiFunction;") ∈ flN := by decide +kernel
theorem start_SF {s : State} {args : Array Value} (hts : ∀ w ∈ lw_tbl, w.before args s = true) (hg : (Jvm.Cond.and given_1 narrow_1).before args s = true) : ∃ ra : Nat → Nat, SF (fun q => s.heap.size ≤ q) ra s s.heap := by
  have hA : ∀ a : Nat, a < s.heap.size → ¬ s.heap.size ≤ a := fun a h => Nat.not_le.mpr h
  have fl : ∀ w ∈ flN, w.before args s = true := flat_of_before _ hg
  obtain ⟨adK, adV, hS, hev⟩ := vk_Sof (N := 3) (tm := tmT) (len := lenT) (byt := bytT) (A := fun q => s.heap.size ≤ q) (by decide) (fun i hi => fl _ (tx_ex i hi)) (fun i hi => fl _ (tx_co i hi)) (fun i hi => fl _ (tx_ar i hi)) (fun i hi => fl _ (tx_le i hi)) (fun i hi j hj => fl _ (tx_el i hi j hj)) (fun i j hi hj hij => (tx_ne i hi j hj hij).elim (fun h => Or.inl (fl _ h)) (fun h => Or.inr (fl _ h))) hA
  obtain ⟨t, ht, hT⟩ := va_Tof (tm := .static "FastPlane$Flight" "WEIGHT" "[I") (N := 3) (f := wtT) (A := fun q => s.heap.size ≤ q) (by decide) (fl _ tx_w0) (va_eqt (fl _ tx_w1)) (fun j hj => va_eqt (fl _ (tx_w2 j hj))) hA
  refine ⟨fun k => if k < 10 then adK k else if k < 20 then adV (k - 10) else t, ⟨fun i hi => ?_, fun i j hi hj e => ?_⟩, ⟨?_, ?_, ?_⟩, ⟨?_, ?_⟩, ?_, ?_⟩
  · have q := hS.1 i hi
    dsimp only at q ⊢
    rw [if_pos (by omega), if_neg (by omega), if_pos (by omega), show 10 + i - 10 = i by omega]
    exact q
  · dsimp only at e
    rw [if_pos (by omega), if_pos (by omega)] at e
    exact hS.2 i j hi hj e
  · exact vk_R.of (hts _ (List.mem_append_right _ (List.mem_of_getElem? (i := 35) (by decide +kernel)))) (hev 0 (by decide))
  · exact vk_R.of (hts _ (List.mem_append_right _ (List.mem_of_getElem? (i := 93) (by decide +kernel)))) (hev 1 (by decide))
  · exact vk_R.of (hts _ (List.mem_append_right _ (List.mem_of_getElem? (i := 572) (by decide +kernel)))) (hev 2 (by decide))
  · exact va_Zof (hts _ (List.mem_append_right _ (List.mem_of_getElem? (i := 1043) (by decide +kernel)))) (hts _ (List.mem_append_right _ (List.mem_of_getElem? (i := 13) (by decide +kernel)))) ht hA
  · exact hT
  · exact va_Zof (hts _ (List.mem_append_right _ (List.mem_of_getElem? (i := 49) (by decide +kernel)))) (hts _ (List.mem_append_right _ (List.mem_of_getElem? (i := 3) (by decide +kernel)))) (va_eqi (fl _ tx_cs)) hA
  · exact va_Zqof (hts _ (List.mem_append_right _ (List.mem_of_getElem? (i := 65) (by decide +kernel)))) (hts _ (List.mem_append_right _ (List.mem_of_getElem? (i := 5) (by decide +kernel)))) (fl _ tx_si) hA
theorem start_AO {s : State} {args : Array Value} (hts : ∀ w ∈ lw_tbl, w.before args s = true) : AOs s := ⟨va_AO.of (hts _ (List.mem_append_right _ (List.mem_of_getElem? (i := 259) (by decide +kernel)))), (show (Cond.arrayOver (.array .int)).before args s = true from (hts _ (List.mem_append_right _ (List.mem_of_getElem? (i := 345) (by decide +kernel)))))⟩
theorem start_N {s : State} {args : Array Value} (hts : ∀ w ∈ lw_tbl, w.before args s = true) : NWs s := fun q hq => va_Nw.of rfl (hts _ (nest_in q hq))
theorem ao_int {U : State} (h : (Cond.arrayOver (.array .int)).before #[] U = true) : ∃ comp c k, U.vm.classes[c]? = some k ∧ k.kind = .array comp (.array .int) ∧ U.vm.findClass ("[" ++ (FieldType.array .int).toString) = some c := by
  simp only [Cond.before, Cond.holds, Cond.value, beq_iff_eq] at h
  cases hc : U.vm.findClass (FieldType.array .int).toString with
  | none => rw [hc] at h; cases h
  | some comp =>
    rw [hc] at h
    simp only [Option.bind_some, Option.bind_eq_some_iff, Option.map_eq_some_iff] at h
    obtain ⟨c, hi, k, hk, hb⟩ := h
    cases hkind : k.kind with
    | array component ty =>
      rw [hkind] at hb
      simp at hb
      exact ⟨component, c, k, hk, by rw [hkind, hb.1], hb.2⟩
    | _ => rw [hkind] at hb; simp at hb
theorem start_K {s : State} {args : Array Value} (hts : ∀ w ∈ TB, w.before args s = true) (hAO : AOs s) : ∃ (D : va_G) (ca : Nat → ClassId), va_K D classes (TYS ca) s := by
  have key : ∀ k : Nat, ∃ (cC : ClassId) (iS : Nat → Nat), ∀ q : vw_C, classes[k]? = some q → u_Kn s q.1 q.2.1 q.2.2 cC iS := by
    intro k
    cases h : classes[k]? with
    | none => exact ⟨0, fun _ => 0, fun q hq => by cases hq⟩
    | some q =>
      obtain ⟨cC, iS, hk⟩ := u_known (C := q.1) (T := q.2.1) (N := q.2.2) (n := q.2.2) hts (ty_all k q h).2.2 (hts _ (inst_all k q h))
      exact ⟨cC, iS, fun q2 h2 => by cases h2; exact hk⟩
  have prim : ∀ ty : FieldType, Cond.arrayClass ty ∈ TB → ∃ cA : ClassId, ArrOfT s cA ty ∧ s.vm.findClass ("[" ++ ty.toString) = some cA := by
    intro ty h
    obtain ⟨cA, k, comp, h1, h2, h3⟩ := Cond.arrayClass_spec (hts _ h)
    exact ⟨cA, fun n z => ⟨fun q h => (by cases h), k, h2, comp, h3⟩, h1⟩
  obtain ⟨c1, a1, f1⟩ := prim .int ac_int
  obtain ⟨c2, a2, f2⟩ := prim .long ac_long
  obtain ⟨c3, a3, f3⟩ := prim .boolean ac_boolean
  obtain ⟨c4, a4, f4⟩ := prim .byte ac_byte
  obtain ⟨p5, c5, k5, g1, -, g3, g4, g5⟩ := Cond.arrayOver_spec hAO.1
  obtain ⟨p6, c6, k6, e3, e4, e5⟩ := ao_int hAO.2
  refine ⟨(fun k => Classical.choose (key k), fun k => Classical.choose (Classical.choose_spec (key k))), fun k => if k = 1 then c1 else if k = 2 then c2 else if k = 3 then c3 else if k = 4 then c4 else if k = 5 then c5 else c6, fun k q hq => Classical.choose_spec (Classical.choose_spec (key k)) q hq, fun k q hq => ?_⟩
  match k, hq with
  | 0, hq => cases hq; exact ⟨a1, f1⟩
  | 1, hq => cases hq; exact ⟨a2, f2⟩
  | 2, hq => cases hq; exact ⟨a3, f3⟩
  | 3, hq => cases hq; exact ⟨a4, f4⟩
  | 4, hq => cases hq; exact ⟨fun n z => ⟨fun q h => (by cases h), k5, g3, p5, g4⟩, k5, p5, g3, g4, g1, g5⟩
  | 5, hq => cases hq; exact ⟨fun n z => ⟨fun q h => (by cases h), k6, e3, p6, e4⟩, e5⟩
  | k + 6, hq => simp [TYS] at hq
