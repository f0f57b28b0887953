/-! the law: two worlds and a script -/
def RLaw : String := "FastPlaneLaw"
/-- the class's world ends where the reference's begins -/
def bX (sz : Nat) : Nat := sz - 1
def bM (sz : Nat) : Nat := sz + 112
section Law
variable {p : Program} {l : Launch} {e : Env} {s : State} {m : MethodId} {args : Array Value} {below : List Frame} {meth : Method} {c : Code} {H : Heap} {locs : List Loc} {cs ss pc : Nat} {Q : State → Prop}
variable {cc : ByteArray} {ls : Array Slot} {rest : List Value} {D : va_G} {ca : Nat → ClassId} {ra : Nat → Nat} {R : Room}
theorem ly_iconst (hexec : p.tables.exec = Jvm.exec) (hb : c.code = cc) {n : Int} (hdg : decode cc pc = .ok (.iconst n, 1)) (k : W p l e R s m args below meth c H locs cs ss Q (F0 m (pc + 1) ls (.int (Int32.ofInt n) :: rest))) : W p l e R s m args below meth c H locs cs ss Q (F0 m pc ls rest) := lv_iconst hexec hb hdg rfl k
/-- script[i + j] -/
theorem ly_arg (hexec : p.tables.exec = Jvm.exec) (hb : c.code = cc) {b L : Nat} {xs : Nat → Int32} (hX : va_X b L xs s s.heap) (hbl : b < s.heap.size) (hS : va_S (fun q => s.heap.size ≤ q) s.heap H locs) {lv : List (Nat × Value)} (hl : lv_has ls 4 lv) {i : Nat} (j : Nat) {pc2 pc3 : Nat} (h0 : ls[0]? = some (.val (.ref b))) (h3 : ls[3]? = some (.val (.int (Int32.ofInt (i : Int))))) (hin : i + j < L) (hL : L ≤ 3584)
    (d0 : decode cc pc = .ok (.aload_n 0, 1)) (d1 : decode cc (pc + 1) = .ok (.iload_n 3, 1)) (d2 : (pc2 = pc + 3 ∧ decode cc (pc + 2) = .ok (.iconst j, 1)) ∨ (pc2 = pc + 4 ∧ decode cc (pc + 2) = .ok (.bipush j, 2) ∧ (Int8.ofInt (j : Int)).toInt32 = Int32.ofInt j)) (d3 : decode cc pc2 = .ok (.iadd, 1)) (d4 : decode cc (pc2 + 1) = .ok (.iaload, 1)) (hp : pc2 + 2 = pc3)
    (k : W p l e R s m args below meth c H locs cs ss Q (F0 m pc3 ls (.int (xs (i + j)) :: rest))) : W p l e R s m args below meth c H locs cs ss Q (F0 m pc ls rest) := by
  subst hp
  have fin : W p l e R s m args below meth c H locs cs ss Q (F0 m pc2 ls (.int (Int32.ofInt (j : Int)) :: .int (Int32.ofInt (i : Int)) :: .ref b :: rest)) := by
    refine lv_iadd hexec hb d3 ?_
    have e : Int32.ofInt (i : Int) + Int32.ofInt (j : Int) = Int32.ofInt ((i + j : Nat) : Int) := by rw [← Int32.ofInt_add]; rfl
    have hw : wr ((i + j : Nat) : Int) = ((i + j : Nat) : Int) := wr_id (by omega) (by omega)
    rw [e]
    refine va_sld hexec hb hX hbl (fun q => absurd hbl (Nat.not_lt.mpr q)) hS (vp_in_wr (by omega) (by omega)) d4 ?_
    rw [show (Int32.ofInt ((i + j : Nat) : Int)).toNatClampNeg = i + j by have := nat_wr (z := ((i + j : Nat) : Int)) (by omega); omega]
    exact k
  refine lv_aload_n hexec hb d0 rfl h0 ?_
  refine lv_iload_n hexec hb d1 rfl h3 ?_
  rcases d2 with ⟨rfl, d2⟩ | ⟨rfl, d2, h9⟩
  · exact lv_iconst hexec hb d2 rfl fin
  · exact lv_bipush hexec hb d2 h9 fin
/-- a call of one of the two objects -/
theorem ly_call {S : List Sp} {bw hw ci index maxL2 n2 : Nat} {y2 : MethodName} {cc2 : ByteArray} {ret2 : Option FieldType} {rm2 : Room} {σ τ : St} {r : Int} {As : List AV} {st : List Value} {P : Option (St × Int)} (hexec : p.tables.exec = Jvm.exec) (hb : c.code = cc) (hml : c.maxLocals = 4) (hown : s.vm.findClass RLaw = some m.cls) (hts : ∀ w ∈ TB, w.before args s = true) (hK : va_K D classes (TYS ca) s) (hN : NWs s) (hF : SF (fun q => s.heap.size ≤ q) ra s s.heap)
    (hbw : s.heap.size ≤ bw + 1) (hR : Rp D ca S bw hw σ H) (hS : va_S (fun q => s.heap.size ≤ q) s.heap H locs) (hls : ls.size = 4)
    (hC : Ctr l (D, ca, ra, S) false y2 cc2 maxL2 ret2 rm2 σ (ar 1 :: As) P) (hP : P = some (τ, r)) (hg : shp S 1 = (0, ci) ∧ 1 ≤ σ.1) (hm : MtB y2 cc2 maxL2 ret2 n2) (hv : MtV y2) (hci : (classes[ci]?).map (·.1) = some y2.cls) (hl : Cond.methodLink RLaw index y2 ∈ TB) (hn : As.length = n2) (hRm : rm2.frames + 1 ≤ R.frames ∧ 8 + (maxL2 + 11) + rm2.locals ≤ R.locals) (hst : (st.map fun v => v.category).sum ≤ 8) (hz : rm2.cells = 0 ∧ rm2.slots = 0) (hcs : cs ≤ R.cells ∧ ss ≤ R.slots) (hd : decode cc pc = .ok (.invokevirtual index, 3)) {st0 : List Value} (hst0 : st0 = (As.map (cv bw ra)).reverse ++ .ref (bw + 1) :: st)
    (kk : ∀ (H1 : Heap) (locs1 : List Loc), Rp D ca S bw hw τ H1 → (∀ q : Nat, q < H.size → ¬ zA S bw H.size q → H1[q]? = H[q]?) → va_S (fun q => s.heap.size ≤ q) s.heap H1 locs1 → W p l e R s m args below meth c H1 locs1 cs ss Q (F0 m (pc + 3) ls ((cR ret2 r).toList ++ st))) : W p l e R s m args below meth c H locs cs ss Q (F0 m pc ls st0) := by
  subst hst0
  obtain ⟨hk0, hrv⟩ := q_recv hK hR hg.1 hg.2 hci
  have hzA : ∀ (sz q : Nat), s.heap.size ≤ sz → zA S bw sz q → s.heap.size ≤ q := fun sz q h1 h2 => by
    rcases h2 with h2 | h2 <;> omega
  have hPc : ∀ U : State, U.heap = H → s.WarmedH U.vm → PcC D ca ra S bw hw σ (ar 1 :: As) (Value.ref (bw + 1) :: As.map (cv bw ra)).toArray U := fun U hU hW =>
    ⟨by rw [List.map_cons, cv_ar hk0], by rw [hU]; exact hR, va_K.moved hW.alike hK, hN.warm hW, hF.go hW (fun q h1 h2 => by rw [hU]; exact hS.2.1 q h1 h2) (fun q hq => hzA _ q (by rw [hU]; exact hS.1) hq)⟩
  have hM := hC bw hw (fun h => Bool.noConfusion h) τ r hP
  have run := va_runV (C := y2.cls) (As := As.map (cv bw ra)) (rest := st) (p := p) (e := e) (below := below) (meth := meth) (locs := locs) (cells := cs) (slots := ss) (g := F0 m pc ls ((As.map (cv bw ra)).reverse ++ .ref (bw + 1) :: st)) ⟨hexec, hb, hml, hown, hts⟩ hM ⟨call_B (R := R) hts hm hl hRm, hts _ hv.1, hts _ hv.2⟩ ⟨PcC.blind, hrv, hPc⟩ rfl (by rw [List.length_map]; exact hn) hls rfl (lv_room hst) hd (by rw [hz.1, hz.2]; exact hcs)
  intro T hT Xs
  obtain ⟨v, s0, t, T', L, h0, X', hL, e1, e2, ⟨q1, q2, q3, q4⟩, st9⟩ := run T hT Xs
  rw [h0] at q3 q4
  rw [hz.1, hz.2] at X'
  have hv : v = cR ret2 r := by cases q1; rfl
  obtain ⟨t2, a1, b1⟩ := kk T'.heap (locs ++ L) (by rw [e1]; exact q2) (fun q h1 h2 => by rw [e1]; exact q4 q h1 h2) ⟨Nat.le_trans hS.1 (by rw [e1]; exact q3), fun q h1 h2 => by
      rw [e1, q4 q (Nat.lt_of_lt_of_le h1 hS.1) (fun z => h2 (hzA _ q hS.1 z))]; exact hS.2.1 q h1 h2, fun q hq => by
      rcases List.mem_append.mp hq with h | h
      · exact hS.2.2 q h
      · exact hzA (hw + σ.1) _ (by rw [← hR.2.1]; exact hS.1) (hL q h)⟩ T' rfl X'
  refine ⟨t2, st9 t2 ?_, b1⟩
  rw [hv]
  exact a1
/-- the other world stays -/
theorem Rp.other {S S2 : List Sp} {bw hw b2 : Nat} {σ : St} {H H1 : Heap} (h : Rp D ca S bw hw σ H) (hz : H1.size = H.size) (hq : ∀ q : Nat, q < H.size → ¬ zA S2 b2 H.size q → H1[q]? = H[q]?) (hs : ∀ k, 1 ≤ k → k ≤ σ.1 → ¬ (b2 < bw + k ∧ bw + k < b2 + S2.length)) : Rp D ca S bw hw σ H1 := by
  refine ⟨h.1, by rw [hz]; exact h.2.1, fun k a1 a2 => ?_⟩
  have h3 := h.2.2 k a1 a2
  have hlt := va_at.lt h3
  refine va_at.kept h3 (hq _ hlt ?_)
  intro q
  rcases q with q | q
  · exact hs k a1 a2 q
  · exact absurd hlt (Nat.not_lt.mpr q)
end Law
/-- both answer alike, and stand alike behind it -/
def OK2 (Inv : St → St → Prop) (px pm : Option (St × Int)) : Prop := ∃ (τx τm : St) (r r' : Int), px = some (τx, r) ∧ pm = some (τm, r') ∧ wr r = wr r' ∧ Inv τx τm
