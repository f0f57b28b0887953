/-! returns, calls, loops, meeting ways -/
def rZ (σ : St) (v : Int) : Option (St × Int) := if wr v = 0 ∨ wr v = 1 then some (σ, v) else none
def rC (σ : St) (v : Int) : Option (St × Int) := if 0 ≤ wr v ∧ wr v < 65536 then some (σ, v) else none
def rB (σ : St) (v : Int) : Option (St × Int) := if -128 ≤ wr v ∧ wr v < 128 then some (σ, v) else none
def rcv (S : List Sp) (σ : St) (ci k : Nat) (P : Option (St × Int)) : Option (St × Int) := if shp S k = (0, ci) ∧ k ≤ σ.1 then P else none
def resA (ret : Option FieldType) (r : Int) : List AV := match ret with
  | none => []
  | some .long => [al r]
  | some _ => [ai r]
theorem resA_cR (b : Nat) (ra : Nat → Nat) (ret : Option FieldType) (r : Int) (st : List AV) : (resA ret r ++ st).map (cv b ra) = (cR ret r).toList ++ st.map (cv b ra) := by
  rw [List.map_append]
  congr 1
  rcases ret with _ | t
  · rfl
  · cases t <;> rfl
theorem nar_char {v : Int} (h0 : 0 ≤ wr v) (h1 : wr v < 65536) : narrow .char (.int (Int32.ofInt v)) = .int (Int32.ofInt v) := by
  show Value.int (vp_nar .char (Int32.ofInt v)) = _
  rw [vp_nar_char]
  congr 1
  rw [← Int32.toInt_inj, wr_i]
  have e : (Int32.ofInt v).toUInt32.toNat = (wr v).toNat := by
    have h2 : ((Int32.ofInt v).toUInt32.toNat : Int) % 4294967296 = (Int32.ofInt v).toInt % 4294967296 := by
      show ((Int32.ofInt v).toBitVec.toNat : Int) % 4294967296 = (Int32.ofInt v).toBitVec.toInt % 4294967296
      rw [BitVec.toInt_eq_toNat_bmod]
      have := (Int32.ofInt v).toBitVec.isLt
      rw [Int.bmod_def, show ((2 ^ 32 : Nat) : Int) = 4294967296 from rfl]
      split <;> omega
    rw [wr_i] at h2
    have h3 : (Int32.ofInt v).toUInt32.toNat < 4294967296 := (Int32.ofInt v).toUInt32.toNat_lt
    omega
  have e2 : ((Int32.ofInt v).toUInt32.toUInt16.toUInt32).toNat = (wr v).toNat := by
    show (Int32.ofInt v).toUInt32.toNat % 65536 = _
    rw [e]
    omega
  show (((Int32.ofInt v).toUInt32.toUInt16.toUInt32).toBitVec).toInt = wr v
  rw [BitVec.toInt_eq_toNat_cond]
  show (if 2 * ((Int32.ofInt v).toUInt32.toUInt16.toUInt32).toNat < 2 ^ 32 then (((Int32.ofInt v).toUInt32.toUInt16.toUInt32).toNat : Int) else _) = _
  rw [e2, if_pos (by omega)]
  omega
theorem nar_byte {v : Int} (h0 : -128 ≤ wr v) (h1 : wr v < 128) : narrow .byte (.int (Int32.ofInt v)) = .int (Int32.ofInt v) := by
  show Value.int (vp_nar .byte (Int32.ofInt v)) = _
  rw [nar_b]
  congr 1
  rw [i_eq]
  unfold wb wr at *
  omega
/-- a method of the tables -/
def MtB (y : MethodName) (cc : ByteArray) (maxL : Nat) (ret : Option FieldType) (n : Nat) : Prop := Cond.code y cc maxL ret ∈ TB ∧ Cond.initialized y.cls ∈ TB ∧ (y.cls ≠ "java/lang/invoke/MethodHandle" ∧ y.cls ≠ "java/lang/invoke/VarHandle") ∧ (parseMethodDescriptor y.desc).map (fun d => d.parameters.length) = some n
def MtV (y : MethodName) : Prop := Cond.instanceMethod y ∈ TB ∧ Cond.selects y.cls y y ∈ TB
theorem TB_good {w : Cond} (h : w ∈ TB) : (w.onTables && w.keeps) = true ∨ ∃ ty, w = .arrayClass ty := good_of_word (List.mem_filter.mp h).2
theorem call_words {s : State} {args : Array Value} {y : MethodName} {cc : ByteArray} {maxL : Nat} {ret : Option FieldType} (hts : ∀ w ∈ TB, w.before args s = true) (hc : Cond.code y cc maxL ret ∈ TB) : ∀ w ∈ wsM y cc maxL ret, ∀ (a' : Array Value) (U : State), s.WarmedH U.vm → w.before a' U = true := by
  intro w hw a' U hW
  have h : w ∈ TB := by
    rcases List.mem_cons.mp hw with e | e
    · rw [e]; exact hc
    · exact e
  exact word_at hW (TB_good h) (hts w h)
theorem call_B {s : State} {args : Array Value} {own : String} {index : Nat} {R : Room} {y : MethodName} {cc : ByteArray} {maxL n : Nat} {ret : Option FieldType} {rm : Room} (hts : ∀ w ∈ TB, w.before args s = true) (hm : MtB y cc maxL ret n) (hl : Cond.methodLink own index y ∈ TB) (hR : rm.frames + 1 ≤ R.frames ∧ 8 + (maxL + 11) + rm.locals ≤ R.locals) : CallB R s args own index y cc maxL ret (wsM y cc maxL ret) rm rm.cells rm.slots n := by
  obtain ⟨h1, h2, h3, h4⟩ := hm
  refine ⟨rfl, rfl, hR.1, hR.2, call_words hts h1, List.mem_cons_self, hts _ h1, hts _ h2, h3, fun sig h => ?_, hts _ hl⟩
  rw [h] at h4
  exact (Option.some.inj h4).symm
theorem call_N {s : State} {args : Array Value} {own host : String} {index : Nat} {R : Room} {y : MethodName} {cc : ByteArray} {maxL n : Nat} {ret : Option FieldType} {rm : Room} (hts : ∀ w ∈ TB, w.before args s = true) (hm : MtB y cc maxL ret n) (hN : NWs s) (hl : (own, index, y, host) ∈ nestL) (hR : rm.frames + 1 ≤ R.frames ∧ 8 + (maxL + 11) + rm.locals ≤ R.locals) : va_CN R s args own index y host cc maxL ret (wsM y cc maxL ret) rm rm.cells rm.slots n := by
  obtain ⟨h1, h2, h3, h4⟩ := hm
  refine ⟨⟨rfl, rfl, hR.1, hR.2, call_words hts h1, List.mem_cons_self⟩, hts _ h1, hts _ h2, h3, fun sig h => ?_, va_Nw.use rfl (hN _ hl)⟩
  rw [h] at h4
  exact (Option.some.inj h4).symm
theorem zA_call {S : List Sp} {b sz sz1 : Nat} (h : sz ≤ sz1) {q : Nat} (hq : zA S b sz1 q) : zA S b sz q := by
  rcases hq with h1 | h1
  · exact Or.inl h1
  · exact Or.inr (by omega)
theorem PcC.blind {D : va_G} {ca : Nat → ClassId} {ra : Nat → Nat} {S : List Sp} {b hs : Nat} {σ : St} {av : List AV} : FrameBlind (PcC D ca ra S b hs σ av) := by
  intro a U g mk q
  obtain ⟨q1, q2, q3, q4, q5⟩ := q
  exact ⟨q1, q2, va_K.moved (u := U) (U := U.calling g mk a) (Vm.Alike.refl U.vm) q3, NWs.same (u := U) (U := U.calling g mk a) rfl q4, SF.same (u := U) (U := U.calling g mk a) rfl q5⟩
theorem PcC.at {D : va_G} {ca : Nat → ClassId} {ra : Nat → Nat} {S : List Sp} {b hs : Nat} {σ : St} {s U : State} {H : Heap} {locs : List Loc} {av : List AV} {a : List Value} (ha : a = av.map (cv b ra)) (hR : Rp D ca S b hs σ H) (hK : va_K D classes (TYS ca) s) (hN : NWs s) (hF : SF (zA S b s.heap.size) ra s s.heap) (hS : va_S (zA S b s.heap.size) s.heap H locs) (hU : U.heap = H) (hW : s.WarmedH U.vm) : PcC D ca ra S b hs σ av a.toArray U := by
  refine ⟨by rw [ha], by rw [hU]; exact hR, va_K.moved hW.alike hK, hN.warm hW, hF.go hW (fun q h1 h2 => by rw [hU]; exact hS.2.1 q h1 h2) (fun q hq => zA_call (by rw [hU]; exact hS.1) hq)⟩
section Calls
variable {p : Program} {le : Launch} {e : Env} {R : Room} {s : State} {m : MethodId} {args : Array Value} {below : List Frame} {meth : Method} {c : Code} {D : va_G} {ca : Nat → ClassId} {ra : Nat → Nat} {S : List Sp} {b hs : Nat}
/-- behind a call -/
theorem run_W {H : Heap} {locs : List Loc} {ls : Array Slot} {cs ss mc ms pc : Nat} {st0 : List Value} {st : List AV} {Q : State → Prop} {ret : Option FieldType} {σ τ : St} {r : Int} {a : Array Value} (hR : Rp D ca S b hs σ H) (hS : va_S (zA S b s.heap.size) s.heap H locs)
    (run : va_Run p le e R s m args below meth c H locs cs ss mc ms (F0 m pc ls st0) (st.map (cv b ra)) (QcC D ca S b hs ret τ r a) (zA S b (hs + σ.1)))
    (kk : ∀ (H1 : Heap) (locs1 : List Loc), Rp D ca S b hs τ H1 → va_S (zA S b s.heap.size) s.heap H1 locs1 → W p le e R s m args below meth c H1 locs1 (cs + mc) (ss + ms) Q (F0 m (pc + 3) ls ((resA ret r ++ st).map (cv b ra)))) : W p le e R s m args below meth c H locs cs ss Q (F0 m pc ls st0) := by
  intro T hT Xs
  obtain ⟨v, s0, t, T', L, h0, X', hL, e1, e2, ⟨q1, q2, q3, q4⟩, st9⟩ := run T hT Xs
  rw [h0] at q3 q4
  have hv : v = cR ret r := by cases q1; rfl
  obtain ⟨t2, a1, b1⟩ := kk T'.heap (locs ++ L) (by rw [e1]; exact q2) ⟨Nat.le_trans hS.1 (by rw [e1]; exact q3), fun q h1 h2 => by
      rw [e1, q4 q (Nat.lt_of_lt_of_le h1 hS.1) (fun z => h2 (zA_call hS.1 z))]; exact hS.2.1 q h1 h2, fun q hq => by
      rcases List.mem_append.mp hq with h | h
      · exact hS.2.2 q h
      · exact zA_call (sz1 := hs + σ.1) (by rw [← hR.2.1]; exact hS.1) (hL q h)⟩ T' rfl X'
  refine ⟨t2, st9 t2 ?_, b1⟩
  rw [hv, ← resA_cR]
  exact a1
end Calls
section Rows
variable {z : Zt} {l : Launch} {w : Vt} {y : MethodName} {cc : ByteArray} {nL : Nat} {ret : Option FieldType} {tg : Bool} {rm : Room} {cs ss pc : Nat} {σ : St} {lv : List (Nat × AV)} {st : List AV} {P : Option (St × Int)}
theorem x_sub (ks : List Nat) {lv2 : List (Nat × AV)} (hq : pick lv ks = lv2) (k : X z cs ss σ pc lv2 st P) : X z cs ss σ pc lv st P := by
  obtain ⟨p, le, e, R, s, m, args, below, meth, c, ⟨D, ca, ra, S⟩, b, hs, nL1, rt⟩ := z
  intro σ' r hP H locs ls hR hS hl
  subst hq
  exact k σ' r hP H locs ls hR hS (lv_sub hl ks (lcv_pick ks))
theorem x_split {c : Prop} {_ : Decidable c} {PT PF : Option (St × Int)} (kt : c → X z cs ss σ pc lv st PT) (kf : ¬ c → X z cs ss σ pc lv st PF) : X z cs ss σ pc lv st (if c then PT else PF) := by
  by_cases h : c
  · rw [if_pos h]; exact kt h
  · rw [if_neg h]; exact kf h
theorem x_join {T : Type} {rest : T → Option (St × Int)} {body : (T → Option (St × Int)) → Option (St × Int)} (sg : T → St) (pcJ : Nat) (lvJ : T → List (Nat × AV)) (stJ : T → List AV) (hr : ∀ t, X z cs ss (sg t) pcJ (lvJ t) (stJ t) (rest t)) (k : ∀ J : T → Option (St × Int), (∀ t, X z cs ss (sg t) pcJ (lvJ t) (stJ t) (J t)) → X z cs ss σ pc lv st (body J)) : X z cs ss σ pc lv st (Jn rest body) := k rest hr
theorem x_loop {T : Type} {N : Nat} {F : (T → Option (St × Int)) → T → Option (St × Int)} (sg : T → St) (lv : T → List (Nat × AV)) (t : T) (hP : P = fixN N F t) (h : ∀ (back : T → Option (St × Int)), (∀ t, X z cs ss (sg t) pc (lv t) [] (back t)) → ∀ t, X z cs ss (sg t) pc (lv t) [] (F back t)) : X z cs ss (sg t) pc (lv t) [] P := by
  subst hP
  induction N generalizing t with
  | zero => exact x_no
  | succ n ih => exact h _ (fun t => ih t) t
theorem x_vret (C : Cx z l w y cc nL none tg rm) {r : Int} (hcs : cs ≤ rm.cells ∧ ss ≤ rm.slots) (hd : decode cc pc = .ok (.return_, 1)) : X z cs ss σ pc lv [] (some (σ, r)) := by
  obtain ⟨p, le, e, R, s, m, args, below, meth, c, ⟨D, ca, ra, S⟩, b, hs, nL1, rt⟩ := z
  obtain ⟨⟨hx, hb, hml, hown⟩, hts, ⟨hr, hlk, hnm⟩, ⟨hK, hN, hF⟩, ⟨rfl, rfl, rfl, rfl, rfl⟩, htg⟩ := C
  intro σ' r' hP H locs ls hR hS hl
  cases hP
  refine W.widen (k := R.cells) (n := R.slots) hcs.1 hcs.2 ?_
  exact W.vret hx hb hr (fun t ht hW => ⟨rfl, by rw [ht]; exact hR, hS.F ht⟩) hS.2.2 hd hlk
theorem x_iret (C : Cx z l w y cc nL (some .int) tg rm) {r : Int} (hcs : cs ≤ rm.cells ∧ ss ≤ rm.slots) (hd : decode cc pc = .ok (.ireturn, 1)) : X z cs ss σ pc lv [ai r] (some (σ, r)) := by
  obtain ⟨p, le, e, R, s, m, args, below, meth, c, ⟨D, ca, ra, S⟩, b, hs, nL1, rt⟩ := z
  obtain ⟨⟨hx, hb, hml, hown⟩, hts, ⟨hr, hlk, hnm⟩, ⟨hK, hN, hF⟩, ⟨rfl, rfl, rfl, rfl, rfl⟩, htg⟩ := C
  intro σ' r' hP H locs ls hR hS hl
  cases hP
  refine W.widen (k := R.cells) (n := R.slots) hcs.1 hcs.2 ?_
  exact W.iret hx hb hr (fun t ht hW => ⟨rfl, by rw [ht]; exact hR, hS.F ht⟩) hS.2.2 hd hlk
theorem x_lret (C : Cx z l w y cc nL (some .long) tg rm) {r : Int} (hcs : cs ≤ rm.cells ∧ ss ≤ rm.slots) (hd : decode cc pc = .ok (.lreturn, 1)) : X z cs ss σ pc lv [al r] (some (σ, r)) := by
  obtain ⟨p, le, e, R, s, m, args, below, meth, c, ⟨D, ca, ra, S⟩, b, hs, nL1, rt⟩ := z
  obtain ⟨⟨hx, hb, hml, hown⟩, hts, ⟨hr, hlk, hnm⟩, ⟨hK, hN, hF⟩, ⟨rfl, rfl, rfl, rfl, rfl⟩, htg⟩ := C
  intro σ' r' hP H locs ls hR hS hl
  cases hP
  refine W.widen (k := R.cells) (n := R.slots) hcs.1 hcs.2 ?_
  exact W.lret hx hb hr (fun t ht hW => ⟨rfl, by rw [ht]; exact hR, hS.F ht⟩) hS.2.2 hd hlk
theorem x_nret {ty : FieldType} (C : Cx z l w y cc nL (some ty) tg rm) {r : Int} (hn : narrow ty (.int (Int32.ofInt r)) = .int (Int32.ofInt r)) (hty : ∀ q, cR (some ty) q = some (.int (Int32.ofInt q))) (hcs : cs ≤ rm.cells ∧ ss ≤ rm.slots) (hd : decode cc pc = .ok (.ireturn, 1)) : X z cs ss σ pc lv [ai r] (some (σ, r)) := by
  obtain ⟨p, le, e, R, s, m, args, below, meth, c, ⟨D, ca, ra, S⟩, b, hs, nL1, rt⟩ := z
  obtain ⟨⟨hx, hb, hml, hown⟩, hts, ⟨hr, hlk, hnm⟩, ⟨hK, hN, hF⟩, ⟨rfl, rfl, rfl, rfl, rfl⟩, htg⟩ := C
  intro σ' r' hP H locs ls hR hS hl
  cases hP
  refine W.widen (k := R.cells) (n := R.slots) hcs.1 hcs.2 ?_
  exact W.zret hx hb hr hn (fun t ht hW => ⟨by rw [hty], by rw [ht]; exact hR, hS.F ht⟩) hS.2.2 hd hlk
theorem x_zret (C : Cx z l w y cc nL (some .boolean) tg rm) {r : Int} (hv : wr r = 0 ∨ wr r = 1) (hcs : cs ≤ rm.cells ∧ ss ≤ rm.slots) (hd : decode cc pc = .ok (.ireturn, 1)) : X z cs ss σ pc lv [ai r] (some (σ, r)) := by
  refine x_nret C ?_ (fun _ => rfl) hcs hd
  have : Int32.ofInt r = Int32.ofInt 0 ∨ Int32.ofInt r = Int32.ofInt 1 := by
    rcases hv with h | h
    · exact Or.inl (i_eq.mpr h)
    · exact Or.inr (i_eq.mpr h)
  rcases this with h | h <;> rw [h] <;> rfl
theorem x_rZ (C : Cx z l w y cc nL (some .boolean) tg rm) {r : Int} (hcs : cs ≤ rm.cells ∧ ss ≤ rm.slots) (hd : decode cc pc = .ok (.ireturn, 1)) : X z cs ss σ pc lv [ai r] (rZ σ r) := by
  unfold rZ
  by_cases h : wr r = 0 ∨ wr r = 1
  · rw [if_pos h]; exact x_zret C h hcs hd
  · rw [if_neg h]; exact x_no
theorem x_rC (C : Cx z l w y cc nL (some .char) tg rm) {r : Int} (hcs : cs ≤ rm.cells ∧ ss ≤ rm.slots) (hd : decode cc pc = .ok (.ireturn, 1)) : X z cs ss σ pc lv [ai r] (rC σ r) := by
  unfold rC
  by_cases h : 0 ≤ wr r ∧ wr r < 65536
  · rw [if_pos h]; exact x_nret C (nar_char h.1 h.2) (fun _ => rfl) hcs hd
  · rw [if_neg h]; exact x_no
theorem x_rB (C : Cx z l w y cc nL (some .byte) tg rm) {r : Int} (hcs : cs ≤ rm.cells ∧ ss ≤ rm.slots) (hd : decode cc pc = .ok (.ireturn, 1)) : X z cs ss σ pc lv [ai r] (rB σ r) := by
  unfold rB
  by_cases h : -128 ≤ wr r ∧ wr r < 128
  · rw [if_pos h]; exact x_nret C (nar_byte h.1 h.2) (fun _ => rfl) hcs hd
  · rw [if_neg h]; exact x_no
variable {y2 : MethodName} {cc2 : ByteArray} {maxL2 n2 index ci : Nat} {ret2 : Option FieldType} {rm2 : Room} {tg2 : Bool} {k : Nat} {As : List AV} {P2 : Option (St × Int)} {f : St × Int → Option (St × Int)}
theorem q_recv {D : va_G} {ca : Nat → ClassId} {S : List Sp} {b hs : Nat} {σ : St} {H : Heap} {s : State} {ci k : Nat} {C : String} (hK : va_K D classes (TYS ca) s) (hR : Rp D ca S b hs σ H) (h1 : shp S k = (0, ci)) (h2 : k ≤ σ.1) (hC : (classes[ci]?).map (·.1) = some C) : k ≠ 0 ∧ ∃ cell : Cell, H[b + k]? = some cell ∧ cell.vm.isStatics = false ∧ s.vm.findClass C = some cell.cls := by
  have hk0 := shp_ne hR.1.2 (k := k) (by rw [h1]; exact (by decide : (0 : Nat) ≠ 9))
  have hc := hR.2.2 k (by omega) h2
  unfold cAt at hc
  rw [cell_obj h1] at hc
  cases hq : classes[ci]? with
  | none => rw [hq] at hC; cases hC
  | some q =>
    rw [hq] at hC
    cases hC
    exact ⟨hk0.1, va_recv hK (va_one hc) hq (q0 := 0) rfl⟩
/-- invokevirtual of a method of one of the classes -/
theorem x_callV (C : Cx z l w y cc nL ret tg rm) (hC : Ctr l w tg2 y2 cc2 maxL2 ret2 rm2 σ (ar k :: As) P2) (hm : MtB y2 cc2 maxL2 ret2 n2) (hv : MtV y2) (hci : (classes[ci]?).map (·.1) = some y2.cls) (hl : Cond.methodLink y.cls index y2 ∈ TB) (hn : As.length = n2) (htt : tg2 = true → tg = true) (hRm : rm2.frames + 1 ≤ rm.frames ∧ 8 + (maxL2 + 11) + rm2.locals ≤ rm.locals) (hst : (st.map cat).sum ≤ 8) (cs2 ss2 : Nat) (hcs2 : cs + rm2.cells = cs2 ∧ ss + rm2.slots = ss2) (hcs3 : cs2 ≤ rm.cells ∧ ss2 ≤ rm.slots) (hd : decode cc pc = .ok (.invokevirtual index, 3)) (args' : List AV) (hargs : args' = As.reverse ++ ar k :: st) (st3 : St × Int → List AV) (hst3 : ∀ q : St × Int, resA ret2 q.2 ++ st = st3 q)
    (kk : ∀ q : St × Int, X z cs2 ss2 q.1 (pc + 3) lv (st3 q) (f q)) : X z cs ss σ pc lv args' (Option.bind (rcv w.2.2.2 σ ci k P2) f) := by
  subst hargs
  obtain ⟨rfl, rfl⟩ := hcs2
  have hcs := hcs3
  unfold rcv
  by_cases hg : shp w.2.2.2 k = (0, ci) ∧ k ≤ σ.1
  · rw [if_pos hg]
    obtain ⟨p, le, e, R, s, m, args, below, meth, c, ⟨D, ca, ra, S⟩, b, hs, nL1, rt⟩ := z
    obtain ⟨⟨hx, hb, hml, hown⟩, hts, ⟨hr, hlk, hnm⟩, ⟨hK, hN, hF⟩, ⟨rfl, rfl, rfl, rfl, rfl⟩, htg⟩ := C
    intro σ' r hP H locs ls hR hS hl1
    cases hP2 : P2 with
    | none => rw [hP2] at hP; cases hP
    | some q =>
      obtain ⟨τ, r0⟩ := q
      rw [hP2] at hP
      obtain ⟨hk0, hrv⟩ := q_recv hK hR hg.1 hg.2 hci
      have hM := hC b hs (fun e => htg (htt e)) τ r0 hP2
      have e0 : (As.reverse ++ ar k :: st).map (cv b ra) = (As.map (cv b ra)).reverse ++ .ref (b + k) :: st.map (cv b ra) := by
        rw [List.map_append, List.map_cons, List.map_reverse, cv_ar hk0]
      rw [e0]
      refine run_W hR hS (va_runV (C := y2.cls) (As := As.map (cv b ra)) (rest := st.map (cv b ra)) ⟨hx, hb, hml, hown, hts⟩ hM ⟨call_B hts hm hl hRm, hts _ hv.1, hts _ hv.2⟩ ⟨PcC.blind, hrv, fun U hU hW => PcC.at (by rw [List.map_cons, cv_ar hk0]) hR hK hN hF hS hU hW⟩ rfl (by rw [List.length_map]; exact hn) hl1.1 rfl (lv_room (by rw [List.map_map]; rw [show ((fun v : Value => v.category) ∘ cv b ra) = cat from funext (cv_cat b ra)]; exact hst)) hd hcs) (fun H1 locs1 hR1 hS1 => ?_)
      rw [hst3 (τ, r0)]
      exact kk (τ, r0) σ' r hP H1 locs1 ls hR1 hS1 hl1
  · rw [if_neg hg]
    exact x_no
theorem x_callS (C : Cx z l w y cc nL ret tg rm) (hC : Ctr l w tg2 y2 cc2 maxL2 ret2 rm2 σ As P2) (hm : MtB y2 cc2 maxL2 ret2 n2) (hv : Cond.static y2 ∈ TB) (hl : Cond.methodLink y.cls index y2 ∈ TB) (hn : As.length = n2) (htt : tg2 = true → tg = true) (hRm : rm2.frames + 1 ≤ rm.frames ∧ 8 + (maxL2 + 11) + rm2.locals ≤ rm.locals) (hst : (st.map cat).sum ≤ 8) (cs2 ss2 : Nat) (hcs2 : cs + rm2.cells = cs2 ∧ ss + rm2.slots = ss2) (hcs3 : cs2 ≤ rm.cells ∧ ss2 ≤ rm.slots) (hd : decode cc pc = .ok (.invokestatic index, 3)) (args' : List AV) (hargs : args' = As.reverse ++ st) (st3 : St × Int → List AV) (hst3 : ∀ q : St × Int, resA ret2 q.2 ++ st = st3 q)
    (kk : ∀ q : St × Int, X z cs2 ss2 q.1 (pc + 3) lv (st3 q) (f q)) : X z cs ss σ pc lv args' (Option.bind P2 f) := by
  subst hargs
  obtain ⟨rfl, rfl⟩ := hcs2
  have hcs := hcs3
  obtain ⟨p, le, e, R, s, m, args, below, meth, c, ⟨D, ca, ra, S⟩, b, hs, nL1, rt⟩ := z
  obtain ⟨⟨hx, hb, hml, hown⟩, hts, ⟨hr, hlk, hnm⟩, ⟨hK, hN, hF⟩, ⟨rfl, rfl, rfl, rfl, rfl⟩, htg⟩ := C
  intro σ' r hP H locs ls hR hS hl1
  cases hP2 : P2 with
  | none => rw [hP2] at hP; cases hP
  | some q =>
    obtain ⟨τ, r0⟩ := q
    rw [hP2] at hP
    have hM := hC b hs (fun e => htg (htt e)) τ r0 hP2
    have e0 : (As.reverse ++ st).map (cv b ra) = (As.map (cv b ra)).reverse ++ st.map (cv b ra) := by
      rw [List.map_append, List.map_reverse]
    rw [e0]
    refine run_W hR hS (va_runS (As := As.map (cv b ra)) (rest := st.map (cv b ra)) ⟨hx, hb, hml, hown, hts⟩ hM ⟨call_B hts hm hl hRm, hts _ hv⟩ ⟨PcC.blind, fun U hU hW => PcC.at rfl hR hK hN hF hS hU hW⟩ rfl (by rw [List.length_map]; exact hn) hl1.1 rfl (lv_room (by rw [List.map_map]; rw [show ((fun v : Value => v.category) ∘ cv b ra) = cat from funext (cv_cat b ra)]; exact hst)) hd hcs) (fun H1 locs1 hR1 hS1 => ?_)
    rw [hst3 (τ, r0)]
    exact kk (τ, r0) σ' r hP H1 locs1 ls hR1 hS1 hl1
theorem x_callSN {host : String} (C : Cx z l w y cc nL ret tg rm) (hC : Ctr l w tg2 y2 cc2 maxL2 ret2 rm2 σ As P2) (hm : MtB y2 cc2 maxL2 ret2 n2) (hv : Cond.static y2 ∈ TB) (hl : (y.cls, index, y2, host) ∈ nestL) (hn : As.length = n2) (htt : tg2 = true → tg = true) (hRm : rm2.frames + 1 ≤ rm.frames ∧ 8 + (maxL2 + 11) + rm2.locals ≤ rm.locals) (hst : (st.map cat).sum ≤ 8) (cs2 ss2 : Nat) (hcs2 : cs + rm2.cells = cs2 ∧ ss + rm2.slots = ss2) (hcs3 : cs2 ≤ rm.cells ∧ ss2 ≤ rm.slots) (hd : decode cc pc = .ok (.invokestatic index, 3)) (args' : List AV) (hargs : args' = As.reverse ++ st) (st3 : St × Int → List AV) (hst3 : ∀ q : St × Int, resA ret2 q.2 ++ st = st3 q)
    (kk : ∀ q : St × Int, X z cs2 ss2 q.1 (pc + 3) lv (st3 q) (f q)) : X z cs ss σ pc lv args' (Option.bind P2 f) := by
  subst hargs
  obtain ⟨rfl, rfl⟩ := hcs2
  have hcs := hcs3
  obtain ⟨p, le, e, R, s, m, args, below, meth, c, ⟨D, ca, ra, S⟩, b, hs, nL1, rt⟩ := z
  obtain ⟨⟨hx, hb, hml, hown⟩, hts, ⟨hr, hlk, hnm⟩, ⟨hK, hN, hF⟩, ⟨rfl, rfl, rfl, rfl, rfl⟩, htg⟩ := C
  intro σ' r hP H locs ls hR hS hl1
  cases hP2 : P2 with
  | none => rw [hP2] at hP; cases hP
  | some q =>
    obtain ⟨τ, r0⟩ := q
    rw [hP2] at hP
    have hM := hC b hs (fun e => htg (htt e)) τ r0 hP2
    have e0 : (As.reverse ++ st).map (cv b ra) = (As.map (cv b ra)).reverse ++ st.map (cv b ra) := by
      rw [List.map_append, List.map_reverse]
    rw [e0]
    refine run_W hR hS (va_runSN (As := As.map (cv b ra)) (rest := st.map (cv b ra)) ⟨hx, hb, hml, hown, hts⟩ hM ⟨call_N hts hm hN hl hRm, hts _ hv, trivial⟩ ⟨PcC.blind, fun U hU hW => PcC.at rfl hR hK hN hF hS hU hW⟩ rfl (by rw [List.length_map]; exact hn) hl1.1 rfl (lv_room (by rw [List.map_map]; rw [show ((fun v : Value => v.category) ∘ cv b ra) = cat from funext (cv_cat b ra)]; exact hst)) hd hcs) (fun H1 locs1 hR1 hS1 => ?_)
    rw [hst3 (τ, r0)]
    exact kk (τ, r0) σ' r hP H1 locs1 ls hR1 hS1 hl1
/-! the same of methods that change nothing -/
def Pu (σ : St) (P : Option (St × Int)) : Prop := ∀ q, P = some q → q.1 = σ
theorem pu_none {σ : St} : Pu σ none := fun q h => by cases h
theorem pu_some {σ : St} {v : Int} : Pu σ (some (σ, v)) := fun q h => by cases h; rfl
theorem pu_rZ {σ : St} {v : Int} : Pu σ (rZ σ v) := by
  unfold rZ
  split
  · exact pu_some
  · exact pu_none
theorem pu_rC {σ : St} {v : Int} : Pu σ (rC σ v) := by
  unfold rC
  split
  · exact pu_some
  · exact pu_none
theorem pu_rB {σ : St} {v : Int} : Pu σ (rB σ v) := by
  unfold rB
  split
  · exact pu_some
  · exact pu_none
theorem pu_bind {σ : St} {α : Type} {a : Option α} {g : α → Option (St × Int)} (h : ∀ v, Pu σ (g v)) : Pu σ (Option.bind a g) := by
  intro q hq
  cases a with
  | none => cases hq
  | some v => exact h v q hq
theorem pu_if {σ : St} {c : Prop} {_ : Decidable c} {A B : Option (St × Int)} (ha : Pu σ A) (hb : Pu σ B) : Pu σ (if c then A else B) := by
  split
  · exact ha
  · exact hb
theorem pu_ifs {σ : St} {c : Prop} {_ : Decidable c} {A B : Option (St × Int)} (hb : Pu σ B) (ha : Pu σ A) : Pu σ (if c then A else B) := pu_if ha hb
theorem pu_Lt {σ : St} {α : Type} {a : α} {g : α → Option (St × Int)} (h : ∀ v, Pu σ (g v)) : Pu σ (Lt a g) := h a
theorem pu_Jn {σ : St} {T : Type} {rest : T → Option (St × Int)} {body : (T → Option (St × Int)) → Option (St × Int)} (hr : ∀ t, Pu σ (rest t)) (k : ∀ J : T → Option (St × Int), (∀ t, Pu σ (J t)) → Pu σ (body J)) : Pu σ (Jn rest body) := k rest hr
theorem pu_fix {σ : St} {T : Type} {N : Nat} {F : (T → Option (St × Int)) → T → Option (St × Int)} (h : ∀ back : T → Option (St × Int), (∀ t, Pu σ (back t)) → ∀ t, Pu σ (F back t)) (t : T) : Pu σ (fixN N F t) := by
  induction N generalizing t with
  | zero => exact pu_none
  | succ n ih => exact h _ (fun t => ih t) t
theorem pu_rcv {σ : St} {S : List Sp} {ci k : Nat} {P : Option (St × Int)} (h : Pu σ P) : Pu σ (rcv S σ ci k P) := by
  unfold rcv
  split
  · exact h
  · exact pu_none
theorem x_callVp (C : Cx z l w y cc nL ret tg rm) (hC : Ctr l w tg2 y2 cc2 maxL2 ret2 rm2 σ (ar k :: As) P2) (hp : Pu σ P2) (hm : MtB y2 cc2 maxL2 ret2 n2) (hv : MtV y2) (hci : (classes[ci]?).map (·.1) = some y2.cls) (hl : Cond.methodLink y.cls index y2 ∈ TB) (hn : As.length = n2) (htt : tg2 = true → tg = true) (hRm : rm2.frames + 1 ≤ rm.frames ∧ 8 + (maxL2 + 11) + rm2.locals ≤ rm.locals) (hst : (st.map cat).sum ≤ 8) (cs2 ss2 : Nat) (hcs2 : cs + rm2.cells = cs2 ∧ ss + rm2.slots = ss2) (hcs3 : cs2 ≤ rm.cells ∧ ss2 ≤ rm.slots) (hd : decode cc pc = .ok (.invokevirtual index, 3)) (args' : List AV) (hargs : args' = As.reverse ++ ar k :: st) (st3 : St × Int → List AV) (hst3 : ∀ q : St × Int, resA ret2 q.2 ++ st = st3 q)
    (kk : ∀ q : St × Int, X z cs2 ss2 σ (pc + 3) lv (st3 q) (f q)) : X z cs ss σ pc lv args' (Option.bind (rcv w.2.2.2 σ ci k P2) f) := by
  have e : Option.bind (rcv w.2.2.2 σ ci k P2) f = Option.bind (rcv w.2.2.2 σ ci k P2) (fun q => @ite _ (q.1 = σ) (Classical.propDecidable _) (f q) none) := by
    cases h : rcv w.2.2.2 σ ci k P2 with
    | none => rfl
    | some q => exact (if_pos (pu_rcv hp q h)).symm
  rw [e]
  refine x_callV C hC hm hv hci hl hn htt hRm hst cs2 ss2 hcs2 hcs3 hd args' hargs st3 hst3 (fun q => ?_)
  by_cases h : q.1 = σ
  · rw [if_pos h, h]; exact kk q
  · rw [if_neg h]; exact x_no
theorem x_callSp (C : Cx z l w y cc nL ret tg rm) (hC : Ctr l w tg2 y2 cc2 maxL2 ret2 rm2 σ As P2) (hp : Pu σ P2) (hm : MtB y2 cc2 maxL2 ret2 n2) (hv : Cond.static y2 ∈ TB) (hl : Cond.methodLink y.cls index y2 ∈ TB) (hn : As.length = n2) (htt : tg2 = true → tg = true) (hRm : rm2.frames + 1 ≤ rm.frames ∧ 8 + (maxL2 + 11) + rm2.locals ≤ rm.locals) (hst : (st.map cat).sum ≤ 8) (cs2 ss2 : Nat) (hcs2 : cs + rm2.cells = cs2 ∧ ss + rm2.slots = ss2) (hcs3 : cs2 ≤ rm.cells ∧ ss2 ≤ rm.slots) (hd : decode cc pc = .ok (.invokestatic index, 3)) (args' : List AV) (hargs : args' = As.reverse ++ st) (st3 : St × Int → List AV) (hst3 : ∀ q : St × Int, resA ret2 q.2 ++ st = st3 q)
    (kk : ∀ q : St × Int, X z cs2 ss2 σ (pc + 3) lv (st3 q) (f q)) : X z cs ss σ pc lv args' (Option.bind P2 f) := by
  have e : Option.bind P2 f = Option.bind P2 (fun q => @ite _ (q.1 = σ) (Classical.propDecidable _) (f q) none) := by
    cases h : P2 with
    | none => rfl
    | some q => exact (if_pos (hp q h)).symm
  rw [e]
  refine x_callS C hC hm hv hl hn htt hRm hst cs2 ss2 hcs2 hcs3 hd args' hargs st3 hst3 (fun q => ?_)
  by_cases h : q.1 = σ
  · rw [if_pos h, h]; exact kk q
  · rw [if_neg h]; exact x_no
theorem x_callSNp {host : String} (C : Cx z l w y cc nL ret tg rm) (hC : Ctr l w tg2 y2 cc2 maxL2 ret2 rm2 σ As P2) (hp : Pu σ P2) (hm : MtB y2 cc2 maxL2 ret2 n2) (hv : Cond.static y2 ∈ TB) (hl : (y.cls, index, y2, host) ∈ nestL) (hn : As.length = n2) (htt : tg2 = true → tg = true) (hRm : rm2.frames + 1 ≤ rm.frames ∧ 8 + (maxL2 + 11) + rm2.locals ≤ rm.locals) (hst : (st.map cat).sum ≤ 8) (cs2 ss2 : Nat) (hcs2 : cs + rm2.cells = cs2 ∧ ss + rm2.slots = ss2) (hcs3 : cs2 ≤ rm.cells ∧ ss2 ≤ rm.slots) (hd : decode cc pc = .ok (.invokestatic index, 3)) (args' : List AV) (hargs : args' = As.reverse ++ st) (st3 : St × Int → List AV) (hst3 : ∀ q : St × Int, resA ret2 q.2 ++ st = st3 q)
    (kk : ∀ q : St × Int, X z cs2 ss2 σ (pc + 3) lv (st3 q) (f q)) : X z cs ss σ pc lv args' (Option.bind P2 f) := by
  have e : Option.bind P2 f = Option.bind P2 (fun q => @ite _ (q.1 = σ) (Classical.propDecidable _) (f q) none) := by
    cases h : P2 with
    | none => rfl
    | some q => exact (if_pos (hp q h)).symm
  rw [e]
  refine x_callSN C hC hm hv hl hn htt hRm hst cs2 ss2 hcs2 hcs3 hd args' hargs st3 hst3 (fun q => ?_)
  by_cases h : q.1 = σ
  · rw [if_pos h, h]; exact kk q
  · rw [if_neg h]; exact x_no
end Rows
