/-! the law from its entry, over any relation of the two -/
def z0 : St := (0, fun _ _ => 0, fun _ _ => 0)
def z1 : St := (1, fun _ _ => 0, fun _ _ => 0)
section Law
variable {p : Program} {l : Launch} {e : Env} {s : State} {m : MethodId} {args : Array Value} {below : List Frame} {meth : Method} {c : Code} {H : Heap} {locs : List Loc} {cs ss pc : Nat} {Q : State → Prop}
variable {cc : ByteArray} {ls : Array Slot} {rest : List Value} {D : va_G} {ca : Nat → ClassId} {ra : Nat → Nat} {R : Room}
theorem Rp.regrow {S : List Sp} {bw hw hw2 : Nat} {σ : St} {H H1 : Heap} (h : Rp D ca S bw hw σ H) (h2 : bw < hw2) (hz : H1.size = hw2 + σ.1) (hq : ∀ k, 1 ≤ k → k ≤ σ.1 → H1[bw + k]? = H[bw + k]?) : Rp D ca S bw hw2 σ H1 :=
  ⟨⟨h2, h.1.2⟩, hz, fun k a1 a2 => va_at.kept (h.2.2 k a1 a2) (hq k a1 a2)⟩
theorem Rp.none {S : List Sp} {bw : Nat} (h0 : shp S 0 = (9, 9)) (hz : H.size = bw + 1) : Rp D ca S bw (bw + 1) z0 H :=
  ⟨⟨Nat.lt_succ_self _, h0⟩, by rw [hz]; rfl, fun k a1 a2 => absurd (Nat.le_trans a1 a2) (by show ¬ 1 ≤ 0; omega)⟩
/-- new C() of the law: the first cell of a world -/
theorem ly_new {S : List Sp} {bw ci index N : Nat} (hexec : p.tables.exec = Jvm.exec) (hb : c.code = cc) (hown : s.vm.findClass RLaw = some m.cls) (hts : ∀ w ∈ TB, w.before args s = true) (hK : va_K D classes (TYS ca) s) (hS : va_S (fun q => s.heap.size ≤ q) s.heap H locs) (hq : NWk RLaw index ci N) (h0 : shp S 0 = (9, 9)) (h1 : shp S 1 = (0, ci)) (hz : H.size = bw + 1) (hcs : cs + 1 ≤ R.cells ∧ ss + N ≤ R.slots) (hd : decode cc pc = .ok (.new index, 3))
    (kk : ∀ H1 : Heap, Rp D ca S bw (bw + 1) z1 H1 → (∀ q : Nat, q < H.size → H1[q]? = H[q]?) → va_S (fun q => s.heap.size ≤ q) s.heap H1 locs → W p l e R s m args below meth c H1 locs (cs + 1) (ss + N) Q (F0 m (pc + 3) ls (.ref (bw + 1) :: rest))) : W p l e R s m args below meth c H locs cs ss Q (F0 m pc ls rest) := by
  obtain ⟨q, hq1, hq2, hq3, hq4, hq5, hq6⟩ := hq
  subst hq2
  obtain ⟨hty, -, hin⟩ := ty_all ci q hq1
  have hKn := hK.1 ci _ hq1
  have hR0 : Rp D ca S bw (bw + 1) z0 H := Rp.none h0 hz
  refine W.newcK hexec hb hown (hts _ hq3) (hts _ hq4) (hts _ hq5) rfl hd hcs.1 hcs.2 hKn.2.1 rfl fun H1 kC hkC e1 y1 o1 => ?_
  have k9 := kk H1 (hR0.new (τ := z1) rfl (fun _ _ => rfl) (fun _ _ => rfl) y1 o1 ?_) o1 (hS.new1 (by omega) o1)
  · rw [← hz] at k9; exact k9
  · show va_at D classes (bw + 1, cellE bw ca (shp S 1) (z1.2.1 1) (z1.2.2 1)) H1
    rw [cell_obj h1, ← hz]
    refine ⟨_, hq1, (u_born (tyC ci) hts hin hKn hkC e1 hty).to (fun j hj => ?_)⟩
    have hjn : j < nF ci := by rw [nF_eq hq1]; exact hj
    show _ = (ofl bw ci _ _).getD j .null
    rw [List.getD_eq_getElem?_getD, ofl_at hjn]
    show defaultValue (tyC ci j) = fval bw (tyC ci j) 0 0
    rw [fval_def (hq6 j hj)]
theorem ly_init {S : List Sp} {bw index maxL2 : Nat} {y2 : MethodName} {cc2 : ByteArray} {rm2 : Room} {σ τ : St} {r : Int} {st : List Value} {P : Option (St × Int)} (hexec : p.tables.exec = Jvm.exec) (hb : c.code = cc) (hml : c.maxLocals = 4) (hown : s.vm.findClass RLaw = some m.cls) (hts : ∀ w ∈ TB, w.before args s = true) (hK : va_K D classes (TYS ca) s) (hN : NWs s) (hF : SF (fun q => s.heap.size ≤ q) ra s s.heap) (hO : AOs s)
    (hbw : s.heap.size ≤ bw + 1) (hR : Rp D ca S bw (bw + 1) σ H) (hS : va_S (fun q => s.heap.size ≤ q) s.heap H locs) (hls : ls.size = 4)
    (hC : CtrN l (D, ca, ra, S) y2 cc2 maxL2 none rm2 σ [ar 1] P) (hP : P = some (τ, r)) (hm : MtB y2 cc2 maxL2 none 0) (hv : Cond.instanceMethod y2 ∈ TB ∧ y2.name = "<init>") (hl : Cond.methodLink RLaw index y2 ∈ TB) (hRm : rm2.frames + 1 ≤ R.frames ∧ 8 + (maxL2 + 11) + rm2.locals ≤ R.locals) (hst : (st.map fun v => v.category).sum ≤ 8) (hcs : cs + rm2.cells ≤ R.cells ∧ ss + rm2.slots ≤ R.slots) (hd : decode cc pc = .ok (.invokespecial index, 3))
    (kk : ∀ (H1 : Heap) (locs1 : List Loc), Rp D ca S bw (bw + 1) τ H1 → (∀ q : Nat, q < H.size → ¬ zA S bw H.size q → H1[q]? = H[q]?) → va_S (fun q => s.heap.size ≤ q) s.heap H1 locs1 → W p l e R s m args below meth c H1 locs1 (cs + rm2.cells) (ss + rm2.slots) Q (F0 m (pc + 3) ls st)) : W p l e R s m args below meth c H locs cs ss Q (F0 m pc ls (.ref (bw + 1) :: st)) := by
  have hzA : ∀ (sz q : Nat), s.heap.size ≤ sz → zA S bw sz q → s.heap.size ≤ q := fun sz q h1 h2 => by
    rcases h2 with h2 | h2 <;> omega
  have hPc : ∀ U : State, U.heap = H → s.WarmedH U.vm → PcN D ca ra S bw (bw + 1) σ [ar 1] (Value.ref (bw + 1) :: []).toArray U := fun U hU hW =>
    ⟨⟨by rw [List.map_cons, cv_ar (by decide)]; rfl, by rw [hU]; exact hR, va_K.moved hW.alike hK, hN.warm hW, hF.go hW (fun q h1 h2 => by rw [hU]; exact hS.2.1 q h1 h2) (fun q hq => hzA _ q (by rw [hU]; exact hS.1) hq)⟩, AOs.moved hW.alike hO⟩
  have hM := hC bw (bw + 1) rfl τ r hP
  have run := va_runI (As := []) (rest := st) (p := p) (e := e) (below := below) (meth := meth) (locs := locs) (cells := cs) (slots := ss) (g := F0 m pc ls (.ref (bw + 1) :: st)) ⟨hexec, hb, hml, hown, hts⟩ hM ⟨call_B (R := R) hts hm hl hRm, hv.2, hts _ hv.1⟩ ⟨PcN.blind, hPc⟩ rfl rfl hls rfl (lv_room hst) hd hcs
  intro T hT Xs
  obtain ⟨v, s0, t, T', L, h0, X', hL, e1, e2, ⟨q1, q2, q3, q4⟩, st9⟩ := run T hT Xs
  rw [h0] at q3 q4
  have hv : v = none := by cases q1; rfl
  obtain ⟨t2, a1, b1⟩ := kk T'.heap (locs ++ L) (by rw [e1]; exact q2) (fun q h1 h2 => by rw [e1]; exact q4 q h1 h2) ⟨Nat.le_trans hS.1 (by rw [e1]; exact q3), fun q h1 h2 => by
      rw [e1, q4 q (Nat.lt_of_lt_of_le h1 hS.1) (fun z => h2 (hzA _ q hS.1 z))]; exact hS.2.1 q h1 h2, fun q hq => by
      rcases List.mem_append.mp hq with h | h
      · exact hS.2.2 q h
      · exact hzA (bw + 1 + σ.1) _ (by rw [← hR.2.1]; exact hS.1) (hL q h)⟩ T' rfl X'
  refine ⟨t2, st9 t2 ?_, b1⟩
  rw [hv]
  exact a1
end Law
/-- the law's entry: with the class's constructor as it is (fX, rmX), the relation at the start, and every call alike -/
theorem whole_open {p : Program} {e : Env} {s : State} {m : MethodId} {below : List Frame} {meth : Method} {c : Code} (l : Launch) {b L : Nat} {xs : Nat → Int32} (hL : L ≤ 3584) (C0 : lw_At p s m meth c b L xs) (N : Nat) (Inv : St → St → Prop) (fX : Option (St × Int)) (rmX : Room) (hrm : rmX.cells = 112 ∧ rmX.slots ≤ 100000 ∧ rmX.frames ≤ 100 ∧ rmX.locals ≤ 10000)
    (hcX : ∀ (D : va_G) (ca : Nat → ClassId) (ra : Nat → Nat), CtrN l (D, ca, ra, shx) yX11_init cX11_init 2 none rmX z1 [ar 1] fX) (hmX : MtB yX11_init cX11_init 2 none 0) (hvX : Cond.instanceMethod yX11_init ∈ TB ∧ yX11_init.name = "<init>") (hlX : Cond.methodLink RLaw 9 yX11_init ∈ TB) (hnX : NWk RLaw 7 11 13)
    (hmM : MtB yX12_init cX12_init 1 none 0) (hvM : Cond.instanceMethod yX12_init ∈ TB ∧ yX12_init.name = "<init>") (hlM : Cond.methodLink RLaw 12 yX12_init ∈ TB) (hnM : NWk RLaw 10 12 94)
    (hn : ∀ σx σm : St, Inv σx σm → σx.1 = 113 ∧ σm.1 = 51) (sim : Sims Inv N) (hi : ∃ (σx σm : St) (r r2 : Int), fX = some (σx, r) ∧ f_X12_init N z1 1 = some (σm, r2) ∧ Inv σx σm) :
    W p l e room_1 s m #[Value.ref b] below meth c s.heap [] 0 0 (lw_Z below #[Value.ref b] s) (entryFrame m ([Value.ref b] : List Value).toArray 4) := by
  obtain ⟨hx, hb, hr, hml, hown, hts0, hX, hbl, hlocks, hgv⟩ := C0
  have hts : ∀ w ∈ TB, w.before #[Value.ref b] s = true := fun w hw => hts0 w (List.mem_filter.mp hw).1
  obtain ⟨ra, hF⟩ := start_SF hts0 hgv
  have hO := start_AO hts0
  have hN := start_N hts0
  obtain ⟨D, ca, hK⟩ := start_K hts hO
  have K : LK p l e s m below meth c b L xs D ca ra := ⟨⟨hx, hb, hml, hown⟩, hts, ⟨hK, hN, hF⟩, hX, hbl, hL⟩
  obtain ⟨σx, σm, r, r2, hpX, hpM, hI⟩ := hi
  obtain ⟨n1, n2⟩ := hn σx σm hI
  have hl := lv_entry ([.ref b]) (n := 4) (Nat.le_of_ble_eq_true rfl)
  rw [lg_entry_eq]
  generalize (lg_sl ([.ref b]) ++ List.replicate (4 - (lg_sl ([.ref b])).length) Slot.unset).toArray = ls at hl ⊢
  have hl : lv_has ls 4 [(0, .ref b)] := hl
  have hsz : s.heap.size = bX s.heap.size + 1 := by unfold bX; omega
  have bx : bX s.heap.size = s.heap.size - 1 := rfl
  have bm : bM s.heap.size = s.heap.size + 112 := rfl
  refine ly_new (pc := 0) (S := shx) (bw := bX s.heap.size) hx hb hown hts hK va_S.rf hnX rfl rfl hsz ⟨Nat.le_of_ble_eq_true rfl, Nat.le_of_ble_eq_true rfl⟩ (by decide +kernel) (fun H1 hR1 hq1 hS1 => ?_)
  refine lv_dup (pc := 3) hx hb (by decide +kernel) rfl ?_
  refine ly_init (pc := 4) (S := shx) (bw := bX s.heap.size) hx hb hml hown hts hK hN hF hO (by omega) hR1 hS1 hl.1 (hcX D ca ra) hpX hmX hvX hlX ⟨by have := hrm.2.2.1; show _ ≤ 2048; omega, by have := hrm.2.2.2; show _ ≤ 84000; omega⟩ (Nat.le_of_ble_eq_true rfl) ⟨by rw [hrm.1]; exact Nat.le_of_ble_eq_true rfl, by have := hrm.2.1; show _ ≤ 7302250; omega⟩ (by decide +kernel) (fun H2 locs2 hR2 hq2 hS2 => ?_)
  refine W.widen (k := 113) (n := 100013) (by rw [hrm.1]; exact Nat.le_refl _) (by have := hrm.2.1; omega) ?_
  refine lv_astore_n (pc := 7) (k := 1) (i := 1) (lv' := [(1, .ref (bX s.heap.size + 1)), (0, .ref b)]) hx hb (by decide +kernel) rfl hl (by decide) rfl (fun ls hl => ?_)
  have z2 : H2.size = bM s.heap.size + 1 := by rw [hR2.2.1, n1]; omega
  refine ly_new (pc := 8) (S := shm) (bw := bM s.heap.size) hx hb hown hts hK hS2 hnM rfl rfl z2 ⟨Nat.le_of_ble_eq_true rfl, Nat.le_of_ble_eq_true rfl⟩ (by decide +kernel) (fun H3 hR3 hq3 hS3 => ?_)
  refine lv_dup (pc := 11) hx hb (by decide +kernel) rfl ?_
  refine ly_init (pc := 12) (S := shm) (bw := bM s.heap.size) hx hb hml hown hts hK hN hF hO (by omega) hR3 hS3 hl.1 (c_X12_init l D ca ra N z1 1) hpM hmM hvM hlM ⟨Nat.le_of_ble_eq_true rfl, Nat.le_of_ble_eq_true rfl⟩ (Nat.le_of_ble_eq_true rfl) ⟨Nat.le_of_ble_eq_true rfl, Nat.le_of_ble_eq_true rfl⟩ (by decide +kernel) (fun H4 locs4 hR4 hq4 hS4 => ?_)
  refine W.widen (k := CSL) (n := SSL) (Nat.le_of_ble_eq_true rfl) (Nat.le_of_ble_eq_true rfl) ?_
  refine lv_astore_n (pc := 15) (k := 2) (i := 2) (lv' := [(2, .ref (bM s.heap.size + 1)), (1, .ref (bX s.heap.size + 1)), (0, .ref b)]) hx hb (by decide +kernel) rfl hl (by decide) rfl (fun ls hl => ?_)
  refine ly_iconst (pc := 16) (n := 0) hx hb (by decide +kernel) ?_
  refine lv_istore_n (pc := 17) (k := 3) (i := 3) (lv' := [(3, .int (Int32.ofInt ((0 : Nat) : Int))), (2, .ref (bM s.heap.size + 1)), (1, .ref (bX s.heap.size + 1)), (0, .ref b)]) hx hb (by decide +kernel) rfl hl (by decide) rfl (fun ls hl => ?_)
  have z3 : H3.size = bM s.heap.size + 2 := by rw [hR3.2.1]; rfl
  have z4 : H4.size = s.heap.size + 164 := by rw [hR4.2.1, n2]; omega
  refine law_loop N K hr hlocks hn sim (L + 1) 0 (by omega) (Nat.zero_le _) σx σm H4 locs4 ls hI (hR2.regrow (by omega) (by rw [z4, n1]) (fun k a1 a2 => ?_)) (hR4.regrow (by omega) (by rw [z4, n2]) (fun _ _ _ => rfl)) hS4 (lv_sub hl [3, 2, 1, 0] rfl)
  have hk : bX s.heap.size + k < H2.size := by rw [z2]; omega
  rw [hq4 _ (by rw [z3]; omega) ?_, hq3 _ hk]
  intro q
  rcases q with q | q
  · have := q.1; omega
  · rw [z3] at q; omega
