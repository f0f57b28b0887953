theorem wr_ti (v : Int32) : wr v.toInt = v.toInt := by
  have h := wr_i v.toInt
  rw [Int32.ofInt_toInt] at h
  exact h.symm
def CSL : Nat := 170
def SSL : Nat := 800000
def LK (p : Program) (l : Launch) (e : Env) (s : State) (m : MethodId) (below : List Frame) (meth : Method) (c : Code) (b L : Nat) (xs : Nat → Int32) (D : va_G) (ca : Nat → ClassId) (ra : Nat → Nat) : Prop :=
  (p.tables.exec = Jvm.exec ∧ c.code = code ∧ c.maxLocals = 4 ∧ s.vm.findClass RLaw = some m.cls) ∧ (∀ w ∈ TB, w.before #[Value.ref b] s = true) ∧ (va_K D classes (TYS ca) s ∧ NWs s ∧ SF (fun q => s.heap.size ≤ q) ra s s.heap) ∧ va_X b L xs s s.heap ∧ b < s.heap.size ∧ L ≤ 3584
/-- from here, in any state of the two that are alike, the law comes to its end -/
def GO (p : Program) (l : Launch) (e : Env) (s : State) (m : MethodId) (below : List Frame) (meth : Method) (c : Code) (b : Nat) (D : va_G) (ca : Nat → ClassId) (Inv : St → St → Prop) (pc i : Nat) : Prop :=
  ∀ (σx σm : St) (H : Heap) (locs : List Loc) (ls : Array Slot), Inv σx σm → Rp D ca shx (bX s.heap.size) (s.heap.size + 51) σx H → Rp D ca shm (bM s.heap.size) (s.heap.size + 113) σm H → va_S (fun q => s.heap.size ≤ q) s.heap H locs →
    lv_has ls 4 [(0, .ref b), (1, .ref (bX s.heap.size + 1)), (2, .ref (bM s.heap.size + 1)), (3, .int (Int32.ofInt (i : Int)))] → W p l e room_1 s m #[Value.ref b] below meth c H locs CSL SSL (lw_Z below #[Value.ref b] s) (F0 m pc ls [])
set_option maxRecDepth 100000 in
set_option maxHeartbeats 4000000 in
theorem lc_0 {p : Program} {l : Launch} {e : Env} {s : State} {m : MethodId} {below : List Frame} {meth : Method} {c : Code} {b L : Nat} {xs : Nat → Int32} {D : va_G} {ca : Nat → ClassId} {ra : Nat → Nat} {Inv : St → St → Prop} (N : Nat) (K : LK p l e s m below meth c b L xs D ca ra) (hn : ∀ σx σm : St, Inv σx σm → σx.1 = 113 ∧ σm.1 = 51) (sim : ∀ σx σm : St, Inv σx σm → ∀ (a0 : Int) (a1 : Int) (a2 : Int) (a3 : Int) (a4 : Int), wr a0 = a0 → wr a1 = a1 → wr a2 = a2 → wr a3 = a3 → wr a4 = a4 → OK2 Inv (f_X11_feed N σx 1 a0 a1 a2 a3 a4) (f_X12_feed N σm 1 a0 a1 a2 a3 a4)) {i : Nat} (hi : i + 7 ≤ L) (kend : GO p l e s m below meth c b D ca Inv 1465 i) : GO p l e s m below meth c b D ca Inv 196 i := by
  obtain ⟨⟨hx, hb, hml, hown⟩, hts, ⟨hK, hN, hF⟩, hX, hbl, hL⟩ := K
  intro σx σm H locs ls hI hRx hRm hS hl
  obtain ⟨τx, τm, r, r2, hpx, hpm, hw, hI2⟩ := sim σx σm hI ((xs (i + 1)).toInt) ((xs (i + 2)).toInt) ((xs (i + 3)).toInt) ((xs (i + 4)).toInt) ((xs (i + 5)).toInt) (wr_ti _) (wr_ti _) (wr_ti _) (wr_ti _) (wr_ti _)
  obtain ⟨n1, n2⟩ := hn σx σm hI
  obtain ⟨n3, n4⟩ := hn τx τm hI2
  refine lv_aload_n (k := 1) (i := 1) hx hb (by decide +kernel) rfl (lv_at hl 1 rfl) ?_
  refine ly_arg (pc := 197) hx hb hX hbl hS hl 1 (pc2 := 200) (pc3 := 202) (lv_at hl 0 rfl) (lv_at hl 3 rfl) (by omega) hL (by decide +kernel) (by decide +kernel) (Or.inl ⟨rfl, (by decide +kernel)⟩) (by decide +kernel) (by decide +kernel) rfl ?_
  refine ly_arg (pc := 202) hx hb hX hbl hS hl 2 (pc2 := 205) (pc3 := 207) (lv_at hl 0 rfl) (lv_at hl 3 rfl) (by omega) hL (by decide +kernel) (by decide +kernel) (Or.inl ⟨rfl, (by decide +kernel)⟩) (by decide +kernel) (by decide +kernel) rfl ?_
  refine ly_arg (pc := 207) hx hb hX hbl hS hl 3 (pc2 := 210) (pc3 := 212) (lv_at hl 0 rfl) (lv_at hl 3 rfl) (by omega) hL (by decide +kernel) (by decide +kernel) (Or.inl ⟨rfl, (by decide +kernel)⟩) (by decide +kernel) (by decide +kernel) rfl ?_
  refine ly_arg (pc := 212) hx hb hX hbl hS hl 4 (pc2 := 215) (pc3 := 217) (lv_at hl 0 rfl) (lv_at hl 3 rfl) (by omega) hL (by decide +kernel) (by decide +kernel) (Or.inl ⟨rfl, (by decide +kernel)⟩) (by decide +kernel) (by decide +kernel) rfl ?_
  refine ly_arg (pc := 217) hx hb hX hbl hS hl 5 (pc2 := 220) (pc3 := 222) (lv_at hl 0 rfl) (lv_at hl 3 rfl) (by omega) hL (by decide +kernel) (by decide +kernel) (Or.inl ⟨rfl, (by decide +kernel)⟩) (by decide +kernel) (by decide +kernel) rfl ?_
  refine ly_call (pc := 222) (As := [ai ((xs (i + 1)).toInt), ai ((xs (i + 2)).toInt), ai ((xs (i + 3)).toInt), ai ((xs (i + 4)).toInt), ai ((xs (i + 5)).toInt)]) (ci := 11) (st := []) hx hb hml hown hts hK hN hF (by unfold bX; omega) hRx hS hl.1 (c_X11_feed l D ca ra N σx 1 ((xs (i + 1)).toInt) ((xs (i + 2)).toInt) ((xs (i + 3)).toInt) ((xs (i + 4)).toInt) ((xs (i + 5)).toInt)) hpx ⟨rfl, by omega⟩ mt_X11_feed mv_X11_feed rfl ml_RL_13 rfl ⟨Nat.le_of_ble_eq_true rfl, Nat.le_of_ble_eq_true rfl⟩ (Nat.le_of_ble_eq_true rfl) ⟨rfl, rfl⟩ ⟨Nat.le_of_ble_eq_true rfl, Nat.le_of_ble_eq_true rfl⟩ (by decide +kernel) (by simp only [List.map_cons, List.map_nil, List.reverse_cons, List.reverse_nil, List.nil_append, List.cons_append, List.append_nil, cv, Int32.ofInt_toInt]) (fun H1 locs1 hRx1 hq1 hS1 => ?_)
  have z1 : H1.size = H.size := by rw [hRx1.2.1, hRx.2.1, n1, n3]
  have hRm1 := hRm.other z1 hq1 (fun k a1 a2 => by unfold bX bM; show ¬ (_ ∧ _ < _ + 114); omega)
  clear hS hRm
  have hS := hS1
  show W p l e room_1 s m #[Value.ref b] below meth c H1 locs1 CSL SSL (lw_Z below #[Value.ref b] s) (F0 m 225 ls [.int (Int32.ofInt r)])
  refine lv_aload_n (k := 2) (i := 2) hx hb (by decide +kernel) rfl (lv_at hl 2 rfl) ?_
  refine ly_arg (pc := 226) hx hb hX hbl hS hl 1 (pc2 := 229) (pc3 := 231) (lv_at hl 0 rfl) (lv_at hl 3 rfl) (by omega) hL (by decide +kernel) (by decide +kernel) (Or.inl ⟨rfl, (by decide +kernel)⟩) (by decide +kernel) (by decide +kernel) rfl ?_
  refine ly_arg (pc := 231) hx hb hX hbl hS hl 2 (pc2 := 234) (pc3 := 236) (lv_at hl 0 rfl) (lv_at hl 3 rfl) (by omega) hL (by decide +kernel) (by decide +kernel) (Or.inl ⟨rfl, (by decide +kernel)⟩) (by decide +kernel) (by decide +kernel) rfl ?_
  refine ly_arg (pc := 236) hx hb hX hbl hS hl 3 (pc2 := 239) (pc3 := 241) (lv_at hl 0 rfl) (lv_at hl 3 rfl) (by omega) hL (by decide +kernel) (by decide +kernel) (Or.inl ⟨rfl, (by decide +kernel)⟩) (by decide +kernel) (by decide +kernel) rfl ?_
  refine ly_arg (pc := 241) hx hb hX hbl hS hl 4 (pc2 := 244) (pc3 := 246) (lv_at hl 0 rfl) (lv_at hl 3 rfl) (by omega) hL (by decide +kernel) (by decide +kernel) (Or.inl ⟨rfl, (by decide +kernel)⟩) (by decide +kernel) (by decide +kernel) rfl ?_
  refine ly_arg (pc := 246) hx hb hX hbl hS hl 5 (pc2 := 249) (pc3 := 251) (lv_at hl 0 rfl) (lv_at hl 3 rfl) (by omega) hL (by decide +kernel) (by decide +kernel) (Or.inl ⟨rfl, (by decide +kernel)⟩) (by decide +kernel) (by decide +kernel) rfl ?_
  refine ly_call (pc := 251) (As := [ai ((xs (i + 1)).toInt), ai ((xs (i + 2)).toInt), ai ((xs (i + 3)).toInt), ai ((xs (i + 4)).toInt), ai ((xs (i + 5)).toInt)]) (ci := 12) (st := [.int (Int32.ofInt r)]) hx hb hml hown hts hK hN hF (by unfold bM; omega) hRm1 hS hl.1 (c_X12_feed l D ca ra N σm 1 ((xs (i + 1)).toInt) ((xs (i + 2)).toInt) ((xs (i + 3)).toInt) ((xs (i + 4)).toInt) ((xs (i + 5)).toInt)) hpm ⟨rfl, by omega⟩ mt_X12_feed mv_X12_feed rfl ml_RL_17 rfl ⟨Nat.le_of_ble_eq_true rfl, Nat.le_of_ble_eq_true rfl⟩ (Nat.le_of_ble_eq_true rfl) ⟨rfl, rfl⟩ ⟨Nat.le_of_ble_eq_true rfl, Nat.le_of_ble_eq_true rfl⟩ (by decide +kernel) (by simp only [List.map_cons, List.map_nil, List.reverse_cons, List.reverse_nil, List.nil_append, List.cons_append, List.append_nil, cv, Int32.ofInt_toInt]) (fun H2 locs2 hRm2 hq2 hS2 => ?_)
  have z2 : H2.size = H1.size := by rw [hRm2.2.1, hRm1.2.1, n2, n4]
  have hRx2 := hRx1.other z2 hq2 (fun k a1 a2 => by unfold bX bM; show ¬ (_ ∧ _ < _ + 52); omega)
  show W p l e room_1 s m #[Value.ref b] below meth c H2 locs2 CSL SSL (lw_Z below #[Value.ref b] s) (F0 m 254 ls [.int (Int32.ofInt r2), .int (Int32.ofInt r)])
  refine lv_icmp_eq (pc := 254) (off := 1211) (tgt := 1465) (x := Int32.ofInt r) (y := Int32.ofInt r2) hx hb (by decide +kernel) (by decide) (fun _ => ?_) (fun hc => absurd (i_eq.mpr hw) hc)
  exact kend τx τm H2 locs2 ls hI2 hRx2 hRm2 hS2 hl
set_option maxRecDepth 100000 in
set_option maxHeartbeats 4000000 in
theorem lc_1 {p : Program} {l : Launch} {e : Env} {s : State} {m : MethodId} {below : List Frame} {meth : Method} {c : Code} {b L : Nat} {xs : Nat → Int32} {D : va_G} {ca : Nat → ClassId} {ra : Nat → Nat} {Inv : St → St → Prop} (N : Nat) (K : LK p l e s m below meth c b L xs D ca ra) (hn : ∀ σx σm : St, Inv σx σm → σx.1 = 113 ∧ σm.1 = 51) (sim : ∀ σx σm : St, Inv σx σm → ∀ (a0 : Int), wr a0 = a0 → OK2 Inv (f_X11_end N σx 1 a0) (f_X12_end N σm 1 a0)) {i : Nat} (hi : i + 7 ≤ L) (kend : GO p l e s m below meth c b D ca Inv 1465 i) : GO p l e s m below meth c b D ca Inv 259 i := by
  obtain ⟨⟨hx, hb, hml, hown⟩, hts, ⟨hK, hN, hF⟩, hX, hbl, hL⟩ := K
  intro σx σm H locs ls hI hRx hRm hS hl
  obtain ⟨τx, τm, r, r2, hpx, hpm, hw, hI2⟩ := sim σx σm hI ((xs (i + 1)).toInt) (wr_ti _)
  obtain ⟨n1, n2⟩ := hn σx σm hI
  obtain ⟨n3, n4⟩ := hn τx τm hI2
  refine lv_aload_n (k := 1) (i := 1) hx hb (by decide +kernel) rfl (lv_at hl 1 rfl) ?_
  refine ly_arg (pc := 260) hx hb hX hbl hS hl 1 (pc2 := 263) (pc3 := 265) (lv_at hl 0 rfl) (lv_at hl 3 rfl) (by omega) hL (by decide +kernel) (by decide +kernel) (Or.inl ⟨rfl, (by decide +kernel)⟩) (by decide +kernel) (by decide +kernel) rfl ?_
  refine ly_call (pc := 265) (As := [ai ((xs (i + 1)).toInt)]) (ci := 11) (st := []) hx hb hml hown hts hK hN hF (by unfold bX; omega) hRx hS hl.1 (c_X11_end l D ca ra N σx 1 ((xs (i + 1)).toInt)) hpx ⟨rfl, by omega⟩ mt_X11_end mv_X11_end rfl ml_RL_18 rfl ⟨Nat.le_of_ble_eq_true rfl, Nat.le_of_ble_eq_true rfl⟩ (Nat.le_of_ble_eq_true rfl) ⟨rfl, rfl⟩ ⟨Nat.le_of_ble_eq_true rfl, Nat.le_of_ble_eq_true rfl⟩ (by decide +kernel) (by simp only [List.map_cons, List.map_nil, List.reverse_cons, List.reverse_nil, List.nil_append, List.cons_append, List.append_nil, cv, Int32.ofInt_toInt]) (fun H1 locs1 hRx1 hq1 hS1 => ?_)
  have z1 : H1.size = H.size := by rw [hRx1.2.1, hRx.2.1, n1, n3]
  have hRm1 := hRm.other z1 hq1 (fun k a1 a2 => by unfold bX bM; show ¬ (_ ∧ _ < _ + 114); omega)
  clear hS hRm
  have hS := hS1
  show W p l e room_1 s m #[Value.ref b] below meth c H1 locs1 CSL SSL (lw_Z below #[Value.ref b] s) (F0 m 268 ls [.int (Int32.ofInt r)])
  refine lv_aload_n (k := 2) (i := 2) hx hb (by decide +kernel) rfl (lv_at hl 2 rfl) ?_
  refine ly_arg (pc := 269) hx hb hX hbl hS hl 1 (pc2 := 272) (pc3 := 274) (lv_at hl 0 rfl) (lv_at hl 3 rfl) (by omega) hL (by decide +kernel) (by decide +kernel) (Or.inl ⟨rfl, (by decide +kernel)⟩) (by decide +kernel) (by decide +kernel) rfl ?_
  refine ly_call (pc := 274) (As := [ai ((xs (i + 1)).toInt)]) (ci := 12) (st := [.int (Int32.ofInt r)]) hx hb hml hown hts hK hN hF (by unfold bM; omega) hRm1 hS hl.1 (c_X12_end l D ca ra N σm 1 ((xs (i + 1)).toInt)) hpm ⟨rfl, by omega⟩ mt_X12_end mv_X12_end rfl ml_RL_22 rfl ⟨Nat.le_of_ble_eq_true rfl, Nat.le_of_ble_eq_true rfl⟩ (Nat.le_of_ble_eq_true rfl) ⟨rfl, rfl⟩ ⟨Nat.le_of_ble_eq_true rfl, Nat.le_of_ble_eq_true rfl⟩ (by decide +kernel) (by simp only [List.map_cons, List.map_nil, List.reverse_cons, List.reverse_nil, List.nil_append, List.cons_append, List.append_nil, cv, Int32.ofInt_toInt]) (fun H2 locs2 hRm2 hq2 hS2 => ?_)
  have z2 : H2.size = H1.size := by rw [hRm2.2.1, hRm1.2.1, n2, n4]
  have hRx2 := hRx1.other z2 hq2 (fun k a1 a2 => by unfold bX bM; show ¬ (_ ∧ _ < _ + 52); omega)
  show W p l e room_1 s m #[Value.ref b] below meth c H2 locs2 CSL SSL (lw_Z below #[Value.ref b] s) (F0 m 277 ls [.int (Int32.ofInt r2), .int (Int32.ofInt r)])
  refine lv_icmp_eq (pc := 277) (off := 1188) (tgt := 1465) (x := Int32.ofInt r) (y := Int32.ofInt r2) hx hb (by decide +kernel) (by decide) (fun _ => ?_) (fun hc => absurd (i_eq.mpr hw) hc)
  exact kend τx τm H2 locs2 ls hI2 hRx2 hRm2 hS2 hl
set_option maxRecDepth 100000 in
set_option maxHeartbeats 4000000 in
theorem lc_2 {p : Program} {l : Launch} {e : Env} {s : State} {m : MethodId} {below : List Frame} {meth : Method} {c : Code} {b L : Nat} {xs : Nat → Int32} {D : va_G} {ca : Nat → ClassId} {ra : Nat → Nat} {Inv : St → St → Prop} (N : Nat) (K : LK p l e s m below meth c b L xs D ca ra) (hn : ∀ σx σm : St, Inv σx σm → σx.1 = 113 ∧ σm.1 = 51) (sim : ∀ σx σm : St, Inv σx σm → OK2 Inv (f_X11_machine N σx 1) (f_X12_machine N σm 1)) {i : Nat} (hi : i + 7 ≤ L) (kend : GO p l e s m below meth c b D ca Inv 1465 i) : GO p l e s m below meth c b D ca Inv 282 i := by
  obtain ⟨⟨hx, hb, hml, hown⟩, hts, ⟨hK, hN, hF⟩, hX, hbl, hL⟩ := K
  intro σx σm H locs ls hI hRx hRm hS hl
  obtain ⟨τx, τm, r, r2, hpx, hpm, hw, hI2⟩ := sim σx σm hI
  obtain ⟨n1, n2⟩ := hn σx σm hI
  obtain ⟨n3, n4⟩ := hn τx τm hI2
  refine lv_aload_n (k := 1) (i := 1) hx hb (by decide +kernel) rfl (lv_at hl 1 rfl) ?_
  refine ly_call (pc := 283) (As := []) (ci := 11) (st := []) hx hb hml hown hts hK hN hF (by unfold bX; omega) hRx hS hl.1 (c_X11_machine l D ca ra N σx 1) hpx ⟨rfl, by omega⟩ mt_X11_machine mv_X11_machine rfl ml_RL_23 rfl ⟨Nat.le_of_ble_eq_true rfl, Nat.le_of_ble_eq_true rfl⟩ (Nat.le_of_ble_eq_true rfl) ⟨rfl, rfl⟩ ⟨Nat.le_of_ble_eq_true rfl, Nat.le_of_ble_eq_true rfl⟩ (by decide +kernel) (by simp only [List.map_cons, List.map_nil, List.reverse_cons, List.reverse_nil, List.nil_append, List.cons_append, List.append_nil, cv, Int32.ofInt_toInt]) (fun H1 locs1 hRx1 hq1 hS1 => ?_)
  have z1 : H1.size = H.size := by rw [hRx1.2.1, hRx.2.1, n1, n3]
  have hRm1 := hRm.other z1 hq1 (fun k a1 a2 => by unfold bX bM; show ¬ (_ ∧ _ < _ + 114); omega)
  clear hS hRm
  have hS := hS1
  show W p l e room_1 s m #[Value.ref b] below meth c H1 locs1 CSL SSL (lw_Z below #[Value.ref b] s) (F0 m 286 ls [.int (Int32.ofInt r)])
  refine lv_aload_n (k := 2) (i := 2) hx hb (by decide +kernel) rfl (lv_at hl 2 rfl) ?_
  refine ly_call (pc := 287) (As := []) (ci := 12) (st := [.int (Int32.ofInt r)]) hx hb hml hown hts hK hN hF (by unfold bM; omega) hRm1 hS hl.1 (c_X12_machine l D ca ra N σm 1) hpm ⟨rfl, by omega⟩ mt_X12_machine mv_X12_machine rfl ml_RL_27 rfl ⟨Nat.le_of_ble_eq_true rfl, Nat.le_of_ble_eq_true rfl⟩ (Nat.le_of_ble_eq_true rfl) ⟨rfl, rfl⟩ ⟨Nat.le_of_ble_eq_true rfl, Nat.le_of_ble_eq_true rfl⟩ (by decide +kernel) (by simp only [List.map_cons, List.map_nil, List.reverse_cons, List.reverse_nil, List.nil_append, List.cons_append, List.append_nil, cv, Int32.ofInt_toInt]) (fun H2 locs2 hRm2 hq2 hS2 => ?_)
  have z2 : H2.size = H1.size := by rw [hRm2.2.1, hRm1.2.1, n2, n4]
  have hRx2 := hRx1.other z2 hq2 (fun k a1 a2 => by unfold bX bM; show ¬ (_ ∧ _ < _ + 52); omega)
  show W p l e room_1 s m #[Value.ref b] below meth c H2 locs2 CSL SSL (lw_Z below #[Value.ref b] s) (F0 m 290 ls [.int (Int32.ofInt r2), .int (Int32.ofInt r)])
  refine lv_icmp_eq (pc := 290) (off := 1175) (tgt := 1465) (x := Int32.ofInt r) (y := Int32.ofInt r2) hx hb (by decide +kernel) (by decide) (fun _ => ?_) (fun hc => absurd (i_eq.mpr hw) hc)
  exact kend τx τm H2 locs2 ls hI2 hRx2 hRm2 hS2 hl
set_option maxRecDepth 100000 in
set_option maxHeartbeats 4000000 in
theorem lc_3 {p : Program} {l : Launch} {e : Env} {s : State} {m : MethodId} {below : List Frame} {meth : Method} {c : Code} {b L : Nat} {xs : Nat → Int32} {D : va_G} {ca : Nat → ClassId} {ra : Nat → Nat} {Inv : St → St → Prop} (N : Nat) (K : LK p l e s m below meth c b L xs D ca ra) (hn : ∀ σx σm : St, Inv σx σm → σx.1 = 113 ∧ σm.1 = 51) (sim : ∀ σx σm : St, Inv σx σm → ∀ (a0 : Int), wr a0 = a0 → OK2 Inv (f_X11_treaty N σx 1 a0) (f_X12_treaty N σm 1 a0)) {i : Nat} (hi : i + 7 ≤ L) (kend : GO p l e s m below meth c b D ca Inv 1465 i) : GO p l e s m below meth c b D ca Inv 295 i := by
  obtain ⟨⟨hx, hb, hml, hown⟩, hts, ⟨hK, hN, hF⟩, hX, hbl, hL⟩ := K
  intro σx σm H locs ls hI hRx hRm hS hl
  obtain ⟨τx, τm, r, r2, hpx, hpm, hw, hI2⟩ := sim σx σm hI ((xs (i + 1)).toInt) (wr_ti _)
  obtain ⟨n1, n2⟩ := hn σx σm hI
  obtain ⟨n3, n4⟩ := hn τx τm hI2
  refine lv_aload_n (k := 1) (i := 1) hx hb (by decide +kernel) rfl (lv_at hl 1 rfl) ?_
  refine ly_arg (pc := 296) hx hb hX hbl hS hl 1 (pc2 := 299) (pc3 := 301) (lv_at hl 0 rfl) (lv_at hl 3 rfl) (by omega) hL (by decide +kernel) (by decide +kernel) (Or.inl ⟨rfl, (by decide +kernel)⟩) (by decide +kernel) (by decide +kernel) rfl ?_
  refine ly_call (pc := 301) (As := [ai ((xs (i + 1)).toInt)]) (ci := 11) (st := []) hx hb hml hown hts hK hN hF (by unfold bX; omega) hRx hS hl.1 (c_X11_treaty l D ca ra N σx 1 ((xs (i + 1)).toInt)) hpx ⟨rfl, by omega⟩ mt_X11_treaty mv_X11_treaty rfl ml_RL_28 rfl ⟨Nat.le_of_ble_eq_true rfl, Nat.le_of_ble_eq_true rfl⟩ (Nat.le_of_ble_eq_true rfl) ⟨rfl, rfl⟩ ⟨Nat.le_of_ble_eq_true rfl, Nat.le_of_ble_eq_true rfl⟩ (by decide +kernel) (by simp only [List.map_cons, List.map_nil, List.reverse_cons, List.reverse_nil, List.nil_append, List.cons_append, List.append_nil, cv, Int32.ofInt_toInt]) (fun H1 locs1 hRx1 hq1 hS1 => ?_)
  have z1 : H1.size = H.size := by rw [hRx1.2.1, hRx.2.1, n1, n3]
  have hRm1 := hRm.other z1 hq1 (fun k a1 a2 => by unfold bX bM; show ¬ (_ ∧ _ < _ + 114); omega)
  clear hS hRm
  have hS := hS1
  show W p l e room_1 s m #[Value.ref b] below meth c H1 locs1 CSL SSL (lw_Z below #[Value.ref b] s) (F0 m 304 ls [.int (Int32.ofInt r)])
  refine lv_aload_n (k := 2) (i := 2) hx hb (by decide +kernel) rfl (lv_at hl 2 rfl) ?_
  refine ly_arg (pc := 305) hx hb hX hbl hS hl 1 (pc2 := 308) (pc3 := 310) (lv_at hl 0 rfl) (lv_at hl 3 rfl) (by omega) hL (by decide +kernel) (by decide +kernel) (Or.inl ⟨rfl, (by decide +kernel)⟩) (by decide +kernel) (by decide +kernel) rfl ?_
  refine ly_call (pc := 310) (As := [ai ((xs (i + 1)).toInt)]) (ci := 12) (st := [.int (Int32.ofInt r)]) hx hb hml hown hts hK hN hF (by unfold bM; omega) hRm1 hS hl.1 (c_X12_treaty l D ca ra N σm 1 ((xs (i + 1)).toInt)) hpm ⟨rfl, by omega⟩ mt_X12_treaty mv_X12_treaty rfl ml_RL_31 rfl ⟨Nat.le_of_ble_eq_true rfl, Nat.le_of_ble_eq_true rfl⟩ (Nat.le_of_ble_eq_true rfl) ⟨rfl, rfl⟩ ⟨Nat.le_of_ble_eq_true rfl, Nat.le_of_ble_eq_true rfl⟩ (by decide +kernel) (by simp only [List.map_cons, List.map_nil, List.reverse_cons, List.reverse_nil, List.nil_append, List.cons_append, List.append_nil, cv, Int32.ofInt_toInt]) (fun H2 locs2 hRm2 hq2 hS2 => ?_)
  have z2 : H2.size = H1.size := by rw [hRm2.2.1, hRm1.2.1, n2, n4]
  have hRx2 := hRx1.other z2 hq2 (fun k a1 a2 => by unfold bX bM; show ¬ (_ ∧ _ < _ + 52); omega)
  show W p l e room_1 s m #[Value.ref b] below meth c H2 locs2 CSL SSL (lw_Z below #[Value.ref b] s) (F0 m 313 ls [.int (Int32.ofInt r2), .int (Int32.ofInt r)])
  refine lv_icmp_eq (pc := 313) (off := 1152) (tgt := 1465) (x := Int32.ofInt r) (y := Int32.ofInt r2) hx hb (by decide +kernel) (by decide) (fun _ => ?_) (fun hc => absurd (i_eq.mpr hw) hc)
  exact kend τx τm H2 locs2 ls hI2 hRx2 hRm2 hS2 hl
set_option maxRecDepth 100000 in
set_option maxHeartbeats 4000000 in
theorem lc_4 {p : Program} {l : Launch} {e : Env} {s : State} {m : MethodId} {below : List Frame} {meth : Method} {c : Code} {b L : Nat} {xs : Nat → Int32} {D : va_G} {ca : Nat → ClassId} {ra : Nat → Nat} {Inv : St → St → Prop} (N : Nat) (K : LK p l e s m below meth c b L xs D ca ra) (hn : ∀ σx σm : St, Inv σx σm → σx.1 = 113 ∧ σm.1 = 51) (sim : ∀ σx σm : St, Inv σx σm → ∀ (a0 : Int), wr a0 = a0 → OK2 Inv (f_X11_fault N σx 1 a0) (f_X12_fault N σm 1 a0)) {i : Nat} (hi : i + 7 ≤ L) (kend : GO p l e s m below meth c b D ca Inv 1465 i) : GO p l e s m below meth c b D ca Inv 318 i := by
  obtain ⟨⟨hx, hb, hml, hown⟩, hts, ⟨hK, hN, hF⟩, hX, hbl, hL⟩ := K
  intro σx σm H locs ls hI hRx hRm hS hl
  obtain ⟨τx, τm, r, r2, hpx, hpm, hw, hI2⟩ := sim σx σm hI ((xs (i + 1)).toInt) (wr_ti _)
  obtain ⟨n1, n2⟩ := hn σx σm hI
  obtain ⟨n3, n4⟩ := hn τx τm hI2
  refine lv_aload_n (k := 1) (i := 1) hx hb (by decide +kernel) rfl (lv_at hl 1 rfl) ?_
  refine ly_arg (pc := 319) hx hb hX hbl hS hl 1 (pc2 := 322) (pc3 := 324) (lv_at hl 0 rfl) (lv_at hl 3 rfl) (by omega) hL (by decide +kernel) (by decide +kernel) (Or.inl ⟨rfl, (by decide +kernel)⟩) (by decide +kernel) (by decide +kernel) rfl ?_
  refine ly_call (pc := 324) (As := [ai ((xs (i + 1)).toInt)]) (ci := 11) (st := []) hx hb hml hown hts hK hN hF (by unfold bX; omega) hRx hS hl.1 (c_X11_fault l D ca ra N σx 1 ((xs (i + 1)).toInt)) hpx ⟨rfl, by omega⟩ mt_X11_fault mv_X11_fault rfl ml_RL_32 rfl ⟨Nat.le_of_ble_eq_true rfl, Nat.le_of_ble_eq_true rfl⟩ (Nat.le_of_ble_eq_true rfl) ⟨rfl, rfl⟩ ⟨Nat.le_of_ble_eq_true rfl, Nat.le_of_ble_eq_true rfl⟩ (by decide +kernel) (by simp only [List.map_cons, List.map_nil, List.reverse_cons, List.reverse_nil, List.nil_append, List.cons_append, List.append_nil, cv, Int32.ofInt_toInt]) (fun H1 locs1 hRx1 hq1 hS1 => ?_)
  have z1 : H1.size = H.size := by rw [hRx1.2.1, hRx.2.1, n1, n3]
  have hRm1 := hRm.other z1 hq1 (fun k a1 a2 => by unfold bX bM; show ¬ (_ ∧ _ < _ + 114); omega)
  clear hS hRm
  have hS := hS1
  show W p l e room_1 s m #[Value.ref b] below meth c H1 locs1 CSL SSL (lw_Z below #[Value.ref b] s) (F0 m 327 ls [.int (Int32.ofInt r)])
  refine lv_aload_n (k := 2) (i := 2) hx hb (by decide +kernel) rfl (lv_at hl 2 rfl) ?_
  refine ly_arg (pc := 328) hx hb hX hbl hS hl 1 (pc2 := 331) (pc3 := 333) (lv_at hl 0 rfl) (lv_at hl 3 rfl) (by omega) hL (by decide +kernel) (by decide +kernel) (Or.inl ⟨rfl, (by decide +kernel)⟩) (by decide +kernel) (by decide +kernel) rfl ?_
  refine ly_call (pc := 333) (As := [ai ((xs (i + 1)).toInt)]) (ci := 12) (st := [.int (Int32.ofInt r)]) hx hb hml hown hts hK hN hF (by unfold bM; omega) hRm1 hS hl.1 (c_X12_fault l D ca ra N σm 1 ((xs (i + 1)).toInt)) hpm ⟨rfl, by omega⟩ mt_X12_fault mv_X12_fault rfl ml_RL_35 rfl ⟨Nat.le_of_ble_eq_true rfl, Nat.le_of_ble_eq_true rfl⟩ (Nat.le_of_ble_eq_true rfl) ⟨rfl, rfl⟩ ⟨Nat.le_of_ble_eq_true rfl, Nat.le_of_ble_eq_true rfl⟩ (by decide +kernel) (by simp only [List.map_cons, List.map_nil, List.reverse_cons, List.reverse_nil, List.nil_append, List.cons_append, List.append_nil, cv, Int32.ofInt_toInt]) (fun H2 locs2 hRm2 hq2 hS2 => ?_)
  have z2 : H2.size = H1.size := by rw [hRm2.2.1, hRm1.2.1, n2, n4]
  have hRx2 := hRx1.other z2 hq2 (fun k a1 a2 => by unfold bX bM; show ¬ (_ ∧ _ < _ + 52); omega)
  show W p l e room_1 s m #[Value.ref b] below meth c H2 locs2 CSL SSL (lw_Z below #[Value.ref b] s) (F0 m 336 ls [.int (Int32.ofInt r2), .int (Int32.ofInt r)])
  refine lv_icmp_eq (pc := 336) (off := 1129) (tgt := 1465) (x := Int32.ofInt r) (y := Int32.ofInt r2) hx hb (by decide +kernel) (by decide) (fun _ => ?_) (fun hc => absurd (i_eq.mpr hw) hc)
  exact kend τx τm H2 locs2 ls hI2 hRx2 hRm2 hS2 hl
set_option maxRecDepth 100000 in
set_option maxHeartbeats 4000000 in
theorem lc_5 {p : Program} {l : Launch} {e : Env} {s : State} {m : MethodId} {below : List Frame} {meth : Method} {c : Code} {b L : Nat} {xs : Nat → Int32} {D : va_G} {ca : Nat → ClassId} {ra : Nat → Nat} {Inv : St → St → Prop} (N : Nat) (K : LK p l e s m below meth c b L xs D ca ra) (hn : ∀ σx σm : St, Inv σx σm → σx.1 = 113 ∧ σm.1 = 51) (sim : ∀ σx σm : St, Inv σx σm → ∀ (a0 : Int) (a1 : Int), wr a0 = a0 → wr a1 = a1 → OK2 Inv (f_X11_mm N σx 1 a0 a1) (f_X12_mm N σm 1 a0 a1)) {i : Nat} (hi : i + 7 ≤ L) (kend : GO p l e s m below meth c b D ca Inv 1465 i) : GO p l e s m below meth c b D ca Inv 341 i := by
  obtain ⟨⟨hx, hb, hml, hown⟩, hts, ⟨hK, hN, hF⟩, hX, hbl, hL⟩ := K
  intro σx σm H locs ls hI hRx hRm hS hl
  obtain ⟨τx, τm, r, r2, hpx, hpm, hw, hI2⟩ := sim σx σm hI ((xs (i + 1)).toInt) ((xs (i + 2)).toInt) (wr_ti _) (wr_ti _)
  obtain ⟨n1, n2⟩ := hn σx σm hI
  obtain ⟨n3, n4⟩ := hn τx τm hI2
  refine lv_aload_n (k := 1) (i := 1) hx hb (by decide +kernel) rfl (lv_at hl 1 rfl) ?_
  refine ly_arg (pc := 342) hx hb hX hbl hS hl 1 (pc2 := 345) (pc3 := 347) (lv_at hl 0 rfl) (lv_at hl 3 rfl) (by omega) hL (by decide +kernel) (by decide +kernel) (Or.inl ⟨rfl, (by decide +kernel)⟩) (by decide +kernel) (by decide +kernel) rfl ?_
  refine ly_arg (pc := 347) hx hb hX hbl hS hl 2 (pc2 := 350) (pc3 := 352) (lv_at hl 0 rfl) (lv_at hl 3 rfl) (by omega) hL (by decide +kernel) (by decide +kernel) (Or.inl ⟨rfl, (by decide +kernel)⟩) (by decide +kernel) (by decide +kernel) rfl ?_
  refine ly_call (pc := 352) (As := [ai ((xs (i + 1)).toInt), ai ((xs (i + 2)).toInt)]) (ci := 11) (st := []) hx hb hml hown hts hK hN hF (by unfold bX; omega) hRx hS hl.1 (c_X11_mm l D ca ra N σx 1 ((xs (i + 1)).toInt) ((xs (i + 2)).toInt)) hpx ⟨rfl, by omega⟩ mt_X11_mm mv_X11_mm rfl ml_RL_36 rfl ⟨Nat.le_of_ble_eq_true rfl, Nat.le_of_ble_eq_true rfl⟩ (Nat.le_of_ble_eq_true rfl) ⟨rfl, rfl⟩ ⟨Nat.le_of_ble_eq_true rfl, Nat.le_of_ble_eq_true rfl⟩ (by decide +kernel) (by simp only [List.map_cons, List.map_nil, List.reverse_cons, List.reverse_nil, List.nil_append, List.cons_append, List.append_nil, cv, Int32.ofInt_toInt]) (fun H1 locs1 hRx1 hq1 hS1 => ?_)
  have z1 : H1.size = H.size := by rw [hRx1.2.1, hRx.2.1, n1, n3]
  have hRm1 := hRm.other z1 hq1 (fun k a1 a2 => by unfold bX bM; show ¬ (_ ∧ _ < _ + 114); omega)
  clear hS hRm
  have hS := hS1
  show W p l e room_1 s m #[Value.ref b] below meth c H1 locs1 CSL SSL (lw_Z below #[Value.ref b] s) (F0 m 355 ls [.int (Int32.ofInt r)])
  refine lv_aload_n (k := 2) (i := 2) hx hb (by decide +kernel) rfl (lv_at hl 2 rfl) ?_
  refine ly_arg (pc := 356) hx hb hX hbl hS hl 1 (pc2 := 359) (pc3 := 361) (lv_at hl 0 rfl) (lv_at hl 3 rfl) (by omega) hL (by decide +kernel) (by decide +kernel) (Or.inl ⟨rfl, (by decide +kernel)⟩) (by decide +kernel) (by decide +kernel) rfl ?_
  refine ly_arg (pc := 361) hx hb hX hbl hS hl 2 (pc2 := 364) (pc3 := 366) (lv_at hl 0 rfl) (lv_at hl 3 rfl) (by omega) hL (by decide +kernel) (by decide +kernel) (Or.inl ⟨rfl, (by decide +kernel)⟩) (by decide +kernel) (by decide +kernel) rfl ?_
  refine ly_call (pc := 366) (As := [ai ((xs (i + 1)).toInt), ai ((xs (i + 2)).toInt)]) (ci := 12) (st := [.int (Int32.ofInt r)]) hx hb hml hown hts hK hN hF (by unfold bM; omega) hRm1 hS hl.1 (c_X12_mm l D ca ra N σm 1 ((xs (i + 1)).toInt) ((xs (i + 2)).toInt)) hpm ⟨rfl, by omega⟩ mt_X12_mm mv_X12_mm rfl ml_RL_40 rfl ⟨Nat.le_of_ble_eq_true rfl, Nat.le_of_ble_eq_true rfl⟩ (Nat.le_of_ble_eq_true rfl) ⟨rfl, rfl⟩ ⟨Nat.le_of_ble_eq_true rfl, Nat.le_of_ble_eq_true rfl⟩ (by decide +kernel) (by simp only [List.map_cons, List.map_nil, List.reverse_cons, List.reverse_nil, List.nil_append, List.cons_append, List.append_nil, cv, Int32.ofInt_toInt]) (fun H2 locs2 hRm2 hq2 hS2 => ?_)
  have z2 : H2.size = H1.size := by rw [hRm2.2.1, hRm1.2.1, n2, n4]
  have hRx2 := hRx1.other z2 hq2 (fun k a1 a2 => by unfold bX bM; show ¬ (_ ∧ _ < _ + 52); omega)
  show W p l e room_1 s m #[Value.ref b] below meth c H2 locs2 CSL SSL (lw_Z below #[Value.ref b] s) (F0 m 369 ls [.int (Int32.ofInt r2), .int (Int32.ofInt r)])
  refine lv_icmp_eq (pc := 369) (off := 1096) (tgt := 1465) (x := Int32.ofInt r) (y := Int32.ofInt r2) hx hb (by decide +kernel) (by decide) (fun _ => ?_) (fun hc => absurd (i_eq.mpr hw) hc)
  exact kend τx τm H2 locs2 ls hI2 hRx2 hRm2 hS2 hl
set_option maxRecDepth 100000 in
set_option maxHeartbeats 4000000 in
theorem lc_6 {p : Program} {l : Launch} {e : Env} {s : State} {m : MethodId} {below : List Frame} {meth : Method} {c : Code} {b L : Nat} {xs : Nat → Int32} {D : va_G} {ca : Nat → ClassId} {ra : Nat → Nat} {Inv : St → St → Prop} (N : Nat) (K : LK p l e s m below meth c b L xs D ca ra) (hn : ∀ σx σm : St, Inv σx σm → σx.1 = 113 ∧ σm.1 = 51) (sim : ∀ σx σm : St, Inv σx σm → ∀ (a0 : Int), wr a0 = a0 → OK2 Inv (f_X11_clash N σx 1 a0) (f_X12_clash N σm 1 a0)) {i : Nat} (hi : i + 7 ≤ L) (kend : GO p l e s m below meth c b D ca Inv 1465 i) : GO p l e s m below meth c b D ca Inv 374 i := by
  obtain ⟨⟨hx, hb, hml, hown⟩, hts, ⟨hK, hN, hF⟩, hX, hbl, hL⟩ := K
  intro σx σm H locs ls hI hRx hRm hS hl
  obtain ⟨τx, τm, r, r2, hpx, hpm, hw, hI2⟩ := sim σx σm hI ((xs (i + 1)).toInt) (wr_ti _)
  obtain ⟨n1, n2⟩ := hn σx σm hI
  obtain ⟨n3, n4⟩ := hn τx τm hI2
  refine lv_aload_n (k := 1) (i := 1) hx hb (by decide +kernel) rfl (lv_at hl 1 rfl) ?_
  refine ly_arg (pc := 375) hx hb hX hbl hS hl 1 (pc2 := 378) (pc3 := 380) (lv_at hl 0 rfl) (lv_at hl 3 rfl) (by omega) hL (by decide +kernel) (by decide +kernel) (Or.inl ⟨rfl, (by decide +kernel)⟩) (by decide +kernel) (by decide +kernel) rfl ?_
  refine ly_call (pc := 380) (As := [ai ((xs (i + 1)).toInt)]) (ci := 11) (st := []) hx hb hml hown hts hK hN hF (by unfold bX; omega) hRx hS hl.1 (c_X11_clash l D ca ra N σx 1 ((xs (i + 1)).toInt)) hpx ⟨rfl, by omega⟩ mt_X11_clash mv_X11_clash rfl ml_RL_41 rfl ⟨Nat.le_of_ble_eq_true rfl, Nat.le_of_ble_eq_true rfl⟩ (Nat.le_of_ble_eq_true rfl) ⟨rfl, rfl⟩ ⟨Nat.le_of_ble_eq_true rfl, Nat.le_of_ble_eq_true rfl⟩ (by decide +kernel) (by simp only [List.map_cons, List.map_nil, List.reverse_cons, List.reverse_nil, List.nil_append, List.cons_append, List.append_nil, cv, Int32.ofInt_toInt]) (fun H1 locs1 hRx1 hq1 hS1 => ?_)
  have z1 : H1.size = H.size := by rw [hRx1.2.1, hRx.2.1, n1, n3]
  have hRm1 := hRm.other z1 hq1 (fun k a1 a2 => by unfold bX bM; show ¬ (_ ∧ _ < _ + 114); omega)
  clear hS hRm
  have hS := hS1
  show W p l e room_1 s m #[Value.ref b] below meth c H1 locs1 CSL SSL (lw_Z below #[Value.ref b] s) (F0 m 383 ls [.int (Int32.ofInt r)])
  refine lv_aload_n (k := 2) (i := 2) hx hb (by decide +kernel) rfl (lv_at hl 2 rfl) ?_
  refine ly_arg (pc := 384) hx hb hX hbl hS hl 1 (pc2 := 387) (pc3 := 389) (lv_at hl 0 rfl) (lv_at hl 3 rfl) (by omega) hL (by decide +kernel) (by decide +kernel) (Or.inl ⟨rfl, (by decide +kernel)⟩) (by decide +kernel) (by decide +kernel) rfl ?_
  refine ly_call (pc := 389) (As := [ai ((xs (i + 1)).toInt)]) (ci := 12) (st := [.int (Int32.ofInt r)]) hx hb hml hown hts hK hN hF (by unfold bM; omega) hRm1 hS hl.1 (c_X12_clash l D ca ra N σm 1 ((xs (i + 1)).toInt)) hpm ⟨rfl, by omega⟩ mt_X12_clash mv_X12_clash rfl ml_RL_44 rfl ⟨Nat.le_of_ble_eq_true rfl, Nat.le_of_ble_eq_true rfl⟩ (Nat.le_of_ble_eq_true rfl) ⟨rfl, rfl⟩ ⟨Nat.le_of_ble_eq_true rfl, Nat.le_of_ble_eq_true rfl⟩ (by decide +kernel) (by simp only [List.map_cons, List.map_nil, List.reverse_cons, List.reverse_nil, List.nil_append, List.cons_append, List.append_nil, cv, Int32.ofInt_toInt]) (fun H2 locs2 hRm2 hq2 hS2 => ?_)
  have z2 : H2.size = H1.size := by rw [hRm2.2.1, hRm1.2.1, n2, n4]
  have hRx2 := hRx1.other z2 hq2 (fun k a1 a2 => by unfold bX bM; show ¬ (_ ∧ _ < _ + 52); omega)
  show W p l e room_1 s m #[Value.ref b] below meth c H2 locs2 CSL SSL (lw_Z below #[Value.ref b] s) (F0 m 392 ls [.int (Int32.ofInt r2), .int (Int32.ofInt r)])
  refine lv_icmp_eq (pc := 392) (off := 1073) (tgt := 1465) (x := Int32.ofInt r) (y := Int32.ofInt r2) hx hb (by decide +kernel) (by decide) (fun _ => ?_) (fun hc => absurd (i_eq.mpr hw) hc)
  exact kend τx τm H2 locs2 ls hI2 hRx2 hRm2 hS2 hl
set_option maxRecDepth 100000 in
set_option maxHeartbeats 4000000 in
theorem lc_7 {p : Program} {l : Launch} {e : Env} {s : State} {m : MethodId} {below : List Frame} {meth : Method} {c : Code} {b L : Nat} {xs : Nat → Int32} {D : va_G} {ca : Nat → ClassId} {ra : Nat → Nat} {Inv : St → St → Prop} (N : Nat) (K : LK p l e s m below meth c b L xs D ca ra) (hn : ∀ σx σm : St, Inv σx σm → σx.1 = 113 ∧ σm.1 = 51) (sim : ∀ σx σm : St, Inv σx σm → ∀ (a0 : Int), wr a0 = a0 → OK2 Inv (f_X11_breaks N σx 1 a0) (f_X12_breaks N σm 1 a0)) {i : Nat} (hi : i + 7 ≤ L) (kend : GO p l e s m below meth c b D ca Inv 1465 i) : GO p l e s m below meth c b D ca Inv 397 i := by
  obtain ⟨⟨hx, hb, hml, hown⟩, hts, ⟨hK, hN, hF⟩, hX, hbl, hL⟩ := K
  intro σx σm H locs ls hI hRx hRm hS hl
  obtain ⟨τx, τm, r, r2, hpx, hpm, hw, hI2⟩ := sim σx σm hI ((xs (i + 1)).toInt) (wr_ti _)
  obtain ⟨n1, n2⟩ := hn σx σm hI
  obtain ⟨n3, n4⟩ := hn τx τm hI2
  refine lv_aload_n (k := 1) (i := 1) hx hb (by decide +kernel) rfl (lv_at hl 1 rfl) ?_
  refine ly_arg (pc := 398) hx hb hX hbl hS hl 1 (pc2 := 401) (pc3 := 403) (lv_at hl 0 rfl) (lv_at hl 3 rfl) (by omega) hL (by decide +kernel) (by decide +kernel) (Or.inl ⟨rfl, (by decide +kernel)⟩) (by decide +kernel) (by decide +kernel) rfl ?_
  refine ly_call (pc := 403) (As := [ai ((xs (i + 1)).toInt)]) (ci := 11) (st := []) hx hb hml hown hts hK hN hF (by unfold bX; omega) hRx hS hl.1 (c_X11_breaks l D ca ra N σx 1 ((xs (i + 1)).toInt)) hpx ⟨rfl, by omega⟩ mt_X11_breaks mv_X11_breaks rfl ml_RL_45 rfl ⟨Nat.le_of_ble_eq_true rfl, Nat.le_of_ble_eq_true rfl⟩ (Nat.le_of_ble_eq_true rfl) ⟨rfl, rfl⟩ ⟨Nat.le_of_ble_eq_true rfl, Nat.le_of_ble_eq_true rfl⟩ (by decide +kernel) (by simp only [List.map_cons, List.map_nil, List.reverse_cons, List.reverse_nil, List.nil_append, List.cons_append, List.append_nil, cv, Int32.ofInt_toInt]) (fun H1 locs1 hRx1 hq1 hS1 => ?_)
  have z1 : H1.size = H.size := by rw [hRx1.2.1, hRx.2.1, n1, n3]
  have hRm1 := hRm.other z1 hq1 (fun k a1 a2 => by unfold bX bM; show ¬ (_ ∧ _ < _ + 114); omega)
  clear hS hRm
  have hS := hS1
  show W p l e room_1 s m #[Value.ref b] below meth c H1 locs1 CSL SSL (lw_Z below #[Value.ref b] s) (F0 m 406 ls [.int (Int32.ofInt r)])
  refine lv_aload_n (k := 2) (i := 2) hx hb (by decide +kernel) rfl (lv_at hl 2 rfl) ?_
  refine ly_arg (pc := 407) hx hb hX hbl hS hl 1 (pc2 := 410) (pc3 := 412) (lv_at hl 0 rfl) (lv_at hl 3 rfl) (by omega) hL (by decide +kernel) (by decide +kernel) (Or.inl ⟨rfl, (by decide +kernel)⟩) (by decide +kernel) (by decide +kernel) rfl ?_
  refine ly_call (pc := 412) (As := [ai ((xs (i + 1)).toInt)]) (ci := 12) (st := [.int (Int32.ofInt r)]) hx hb hml hown hts hK hN hF (by unfold bM; omega) hRm1 hS hl.1 (c_X12_breaks l D ca ra N σm 1 ((xs (i + 1)).toInt)) hpm ⟨rfl, by omega⟩ mt_X12_breaks mv_X12_breaks rfl ml_RL_48 rfl ⟨Nat.le_of_ble_eq_true rfl, Nat.le_of_ble_eq_true rfl⟩ (Nat.le_of_ble_eq_true rfl) ⟨rfl, rfl⟩ ⟨Nat.le_of_ble_eq_true rfl, Nat.le_of_ble_eq_true rfl⟩ (by decide +kernel) (by simp only [List.map_cons, List.map_nil, List.reverse_cons, List.reverse_nil, List.nil_append, List.cons_append, List.append_nil, cv, Int32.ofInt_toInt]) (fun H2 locs2 hRm2 hq2 hS2 => ?_)
  have z2 : H2.size = H1.size := by rw [hRm2.2.1, hRm1.2.1, n2, n4]
  have hRx2 := hRx1.other z2 hq2 (fun k a1 a2 => by unfold bX bM; show ¬ (_ ∧ _ < _ + 52); omega)
  show W p l e room_1 s m #[Value.ref b] below meth c H2 locs2 CSL SSL (lw_Z below #[Value.ref b] s) (F0 m 415 ls [.int (Int32.ofInt r2), .int (Int32.ofInt r)])
  refine lv_icmp_eq (pc := 415) (off := 1050) (tgt := 1465) (x := Int32.ofInt r) (y := Int32.ofInt r2) hx hb (by decide +kernel) (by decide) (fun _ => ?_) (fun hc => absurd (i_eq.mpr hw) hc)
  exact kend τx τm H2 locs2 ls hI2 hRx2 hRm2 hS2 hl
set_option maxRecDepth 100000 in
set_option maxHeartbeats 4000000 in
theorem lc_8 {p : Program} {l : Launch} {e : Env} {s : State} {m : MethodId} {below : List Frame} {meth : Method} {c : Code} {b L : Nat} {xs : Nat → Int32} {D : va_G} {ca : Nat → ClassId} {ra : Nat → Nat} {Inv : St → St → Prop} (N : Nat) (K : LK p l e s m below meth c b L xs D ca ra) (hn : ∀ σx σm : St, Inv σx σm → σx.1 = 113 ∧ σm.1 = 51) (sim : ∀ σx σm : St, Inv σx σm → ∀ (a0 : Int), wr a0 = a0 → OK2 Inv (f_X11_mend N σx 1 a0) (f_X12_mend N σm 1 a0)) {i : Nat} (hi : i + 7 ≤ L) (kend : GO p l e s m below meth c b D ca Inv 1465 i) : GO p l e s m below meth c b D ca Inv 420 i := by
  obtain ⟨⟨hx, hb, hml, hown⟩, hts, ⟨hK, hN, hF⟩, hX, hbl, hL⟩ := K
  intro σx σm H locs ls hI hRx hRm hS hl
  obtain ⟨τx, τm, r, r2, hpx, hpm, hw, hI2⟩ := sim σx σm hI ((xs (i + 1)).toInt) (wr_ti _)
  obtain ⟨n1, n2⟩ := hn σx σm hI
  obtain ⟨n3, n4⟩ := hn τx τm hI2
  refine lv_aload_n (k := 1) (i := 1) hx hb (by decide +kernel) rfl (lv_at hl 1 rfl) ?_
  refine ly_arg (pc := 421) hx hb hX hbl hS hl 1 (pc2 := 424) (pc3 := 426) (lv_at hl 0 rfl) (lv_at hl 3 rfl) (by omega) hL (by decide +kernel) (by decide +kernel) (Or.inl ⟨rfl, (by decide +kernel)⟩) (by decide +kernel) (by decide +kernel) rfl ?_
  refine ly_call (pc := 426) (As := [ai ((xs (i + 1)).toInt)]) (ci := 11) (st := []) hx hb hml hown hts hK hN hF (by unfold bX; omega) hRx hS hl.1 (c_X11_mend l D ca ra N σx 1 ((xs (i + 1)).toInt)) hpx ⟨rfl, by omega⟩ mt_X11_mend mv_X11_mend rfl ml_RL_49 rfl ⟨Nat.le_of_ble_eq_true rfl, Nat.le_of_ble_eq_true rfl⟩ (Nat.le_of_ble_eq_true rfl) ⟨rfl, rfl⟩ ⟨Nat.le_of_ble_eq_true rfl, Nat.le_of_ble_eq_true rfl⟩ (by decide +kernel) (by simp only [List.map_cons, List.map_nil, List.reverse_cons, List.reverse_nil, List.nil_append, List.cons_append, List.append_nil, cv, Int32.ofInt_toInt]) (fun H1 locs1 hRx1 hq1 hS1 => ?_)
  have z1 : H1.size = H.size := by rw [hRx1.2.1, hRx.2.1, n1, n3]
  have hRm1 := hRm.other z1 hq1 (fun k a1 a2 => by unfold bX bM; show ¬ (_ ∧ _ < _ + 114); omega)
  clear hS hRm
  have hS := hS1
  show W p l e room_1 s m #[Value.ref b] below meth c H1 locs1 CSL SSL (lw_Z below #[Value.ref b] s) (F0 m 429 ls [.int (Int32.ofInt r)])
  refine lv_aload_n (k := 2) (i := 2) hx hb (by decide +kernel) rfl (lv_at hl 2 rfl) ?_
  refine ly_arg (pc := 430) hx hb hX hbl hS hl 1 (pc2 := 433) (pc3 := 435) (lv_at hl 0 rfl) (lv_at hl 3 rfl) (by omega) hL (by decide +kernel) (by decide +kernel) (Or.inl ⟨rfl, (by decide +kernel)⟩) (by decide +kernel) (by decide +kernel) rfl ?_
  refine ly_call (pc := 435) (As := [ai ((xs (i + 1)).toInt)]) (ci := 12) (st := [.int (Int32.ofInt r)]) hx hb hml hown hts hK hN hF (by unfold bM; omega) hRm1 hS hl.1 (c_X12_mend l D ca ra N σm 1 ((xs (i + 1)).toInt)) hpm ⟨rfl, by omega⟩ mt_X12_mend mv_X12_mend rfl ml_RL_52 rfl ⟨Nat.le_of_ble_eq_true rfl, Nat.le_of_ble_eq_true rfl⟩ (Nat.le_of_ble_eq_true rfl) ⟨rfl, rfl⟩ ⟨Nat.le_of_ble_eq_true rfl, Nat.le_of_ble_eq_true rfl⟩ (by decide +kernel) (by simp only [List.map_cons, List.map_nil, List.reverse_cons, List.reverse_nil, List.nil_append, List.cons_append, List.append_nil, cv, Int32.ofInt_toInt]) (fun H2 locs2 hRm2 hq2 hS2 => ?_)
  have z2 : H2.size = H1.size := by rw [hRm2.2.1, hRm1.2.1, n2, n4]
  have hRx2 := hRx1.other z2 hq2 (fun k a1 a2 => by unfold bX bM; show ¬ (_ ∧ _ < _ + 52); omega)
  show W p l e room_1 s m #[Value.ref b] below meth c H2 locs2 CSL SSL (lw_Z below #[Value.ref b] s) (F0 m 438 ls [.int (Int32.ofInt r2), .int (Int32.ofInt r)])
  refine lv_icmp_eq (pc := 438) (off := 1027) (tgt := 1465) (x := Int32.ofInt r) (y := Int32.ofInt r2) hx hb (by decide +kernel) (by decide) (fun _ => ?_) (fun hc => absurd (i_eq.mpr hw) hc)
  exact kend τx τm H2 locs2 ls hI2 hRx2 hRm2 hS2 hl
set_option maxRecDepth 100000 in
set_option maxHeartbeats 4000000 in
theorem lc_9 {p : Program} {l : Launch} {e : Env} {s : State} {m : MethodId} {below : List Frame} {meth : Method} {c : Code} {b L : Nat} {xs : Nat → Int32} {D : va_G} {ca : Nat → ClassId} {ra : Nat → Nat} {Inv : St → St → Prop} (N : Nat) (K : LK p l e s m below meth c b L xs D ca ra) (hn : ∀ σx σm : St, Inv σx σm → σx.1 = 113 ∧ σm.1 = 51) (sim : ∀ σx σm : St, Inv σx σm → ∀ (a0 a1 a2 : Int), wr a0 = a0 → wr a1 = a1 → (a2 = 0 ∨ a2 = 1) → OK2 Inv (f_X11_unlike N σx 1 a0 a1 a2) (f_X12_unlike N σm 1 a0 a1 a2)) {i : Nat} (hi : i + 7 ≤ L) (kend : GO p l e s m below meth c b D ca Inv 1465 i) : GO p l e s m below meth c b D ca Inv 443 i := by
  obtain ⟨⟨hx, hb, hml, hown⟩, hts, ⟨hK, hN, hF⟩, hX, hbl, hL⟩ := K
  intro σx σm H locs ls hI hRx hRm hS hl
  by_cases h3 : xs (i + 3) = 0
  · skip
    obtain ⟨τx, τm, r, r2, hpx, hpm, hw, hI2⟩ := sim σx σm hI ((xs (i + 1)).toInt) ((xs (i + 2)).toInt) 0 (wr_ti _) (wr_ti _) (Or.inl rfl)
    obtain ⟨n1, n2⟩ := hn σx σm hI
    obtain ⟨n3, n4⟩ := hn τx τm hI2
    refine lv_aload_n (k := 1) (i := 1) hx hb (by decide +kernel) rfl (lv_at hl 1 rfl) ?_
    refine ly_arg (pc := 444) hx hb hX hbl hS hl 1 (pc2 := 447) (pc3 := 449) (lv_at hl 0 rfl) (lv_at hl 3 rfl) (by omega) hL (by decide +kernel) (by decide +kernel) (Or.inl ⟨rfl, (by decide +kernel)⟩) (by decide +kernel) (by decide +kernel) rfl ?_
    refine ly_arg (pc := 449) hx hb hX hbl hS hl 2 (pc2 := 452) (pc3 := 454) (lv_at hl 0 rfl) (lv_at hl 3 rfl) (by omega) hL (by decide +kernel) (by decide +kernel) (Or.inl ⟨rfl, (by decide +kernel)⟩) (by decide +kernel) (by decide +kernel) rfl ?_
    refine ly_arg (pc := 454) hx hb hX hbl hS hl 3 (pc2 := 457) (pc3 := 459) (lv_at hl 0 rfl) (lv_at hl 3 rfl) (by omega) hL (by decide +kernel) (by decide +kernel) (Or.inl ⟨rfl, (by decide +kernel)⟩) (by decide +kernel) (by decide +kernel) rfl ?_
    refine lv_if_eq (pc := 459) (off := 7) (tgt := 466) hx hb (by decide +kernel) (by decide) (fun _ => ?_) (fun hc => absurd h3 hc)
    refine ly_iconst (pc := 466) (n := 0) hx hb (by decide +kernel) ?_
    refine ly_call (pc := 467) (As := [ai ((xs (i + 1)).toInt), ai ((xs (i + 2)).toInt), ai (0)]) (ci := 11) (st := []) hx hb hml hown hts hK hN hF (by unfold bX; omega) hRx hS hl.1 (c_X11_unlike l D ca ra N σx 1 ((xs (i + 1)).toInt) ((xs (i + 2)).toInt) (0)) hpx ⟨rfl, by omega⟩ mt_X11_unlike mv_X11_unlike rfl ml_RL_53 rfl ⟨Nat.le_of_ble_eq_true rfl, Nat.le_of_ble_eq_true rfl⟩ (Nat.le_of_ble_eq_true rfl) ⟨rfl, rfl⟩ ⟨Nat.le_of_ble_eq_true rfl, Nat.le_of_ble_eq_true rfl⟩ (by decide +kernel) (by simp only [List.map_cons, List.map_nil, List.reverse_cons, List.reverse_nil, List.nil_append, List.cons_append, List.append_nil, cv, Int32.ofInt_toInt]) (fun H1 locs1 hRx1 hq1 hS1 => ?_)
    have z1 : H1.size = H.size := by rw [hRx1.2.1, hRx.2.1, n1, n3]
    have hRm1 := hRm.other z1 hq1 (fun k a1 a2 => by unfold bX bM; show ¬ (_ ∧ _ < _ + 114); omega)
    clear hS hRm
    have hS := hS1
    show W p l e room_1 s m #[Value.ref b] below meth c H1 locs1 CSL SSL (lw_Z below #[Value.ref b] s) (F0 m 470 ls [.int (Int32.ofInt r)])
    refine lv_aload_n (k := 2) (i := 2) hx hb (by decide +kernel) rfl (lv_at hl 2 rfl) ?_
    refine ly_arg (pc := 471) hx hb hX hbl hS hl 1 (pc2 := 474) (pc3 := 476) (lv_at hl 0 rfl) (lv_at hl 3 rfl) (by omega) hL (by decide +kernel) (by decide +kernel) (Or.inl ⟨rfl, (by decide +kernel)⟩) (by decide +kernel) (by decide +kernel) rfl ?_
    refine ly_arg (pc := 476) hx hb hX hbl hS hl 2 (pc2 := 479) (pc3 := 481) (lv_at hl 0 rfl) (lv_at hl 3 rfl) (by omega) hL (by decide +kernel) (by decide +kernel) (Or.inl ⟨rfl, (by decide +kernel)⟩) (by decide +kernel) (by decide +kernel) rfl ?_
    refine ly_arg (pc := 481) hx hb hX hbl hS hl 3 (pc2 := 484) (pc3 := 486) (lv_at hl 0 rfl) (lv_at hl 3 rfl) (by omega) hL (by decide +kernel) (by decide +kernel) (Or.inl ⟨rfl, (by decide +kernel)⟩) (by decide +kernel) (by decide +kernel) rfl ?_
    refine lv_if_eq (pc := 486) (off := 7) (tgt := 493) hx hb (by decide +kernel) (by decide) (fun _ => ?_) (fun hc => absurd h3 hc)
    refine ly_iconst (pc := 493) (n := 0) hx hb (by decide +kernel) ?_
    refine ly_call (pc := 494) (As := [ai ((xs (i + 1)).toInt), ai ((xs (i + 2)).toInt), ai (0)]) (ci := 12) (st := [.int (Int32.ofInt r)]) hx hb hml hown hts hK hN hF (by unfold bM; omega) hRm1 hS hl.1 (c_X12_unlike l D ca ra N σm 1 ((xs (i + 1)).toInt) ((xs (i + 2)).toInt) (0)) hpm ⟨rfl, by omega⟩ mt_X12_unlike mv_X12_unlike rfl ml_RL_57 rfl ⟨Nat.le_of_ble_eq_true rfl, Nat.le_of_ble_eq_true rfl⟩ (Nat.le_of_ble_eq_true rfl) ⟨rfl, rfl⟩ ⟨Nat.le_of_ble_eq_true rfl, Nat.le_of_ble_eq_true rfl⟩ (by decide +kernel) (by simp only [List.map_cons, List.map_nil, List.reverse_cons, List.reverse_nil, List.nil_append, List.cons_append, List.append_nil, cv, Int32.ofInt_toInt]) (fun H2 locs2 hRm2 hq2 hS2 => ?_)
    have z2 : H2.size = H1.size := by rw [hRm2.2.1, hRm1.2.1, n2, n4]
    have hRx2 := hRx1.other z2 hq2 (fun k a1 a2 => by unfold bX bM; show ¬ (_ ∧ _ < _ + 52); omega)
    show W p l e room_1 s m #[Value.ref b] below meth c H2 locs2 CSL SSL (lw_Z below #[Value.ref b] s) (F0 m 497 ls [.int (Int32.ofInt r2), .int (Int32.ofInt r)])
    refine lv_icmp_eq (pc := 497) (off := 968) (tgt := 1465) (x := Int32.ofInt r) (y := Int32.ofInt r2) hx hb (by decide +kernel) (by decide) (fun _ => ?_) (fun hc => absurd (i_eq.mpr hw) hc)
    exact kend τx τm H2 locs2 ls hI2 hRx2 hRm2 hS2 hl
  · skip
    obtain ⟨τx, τm, r, r2, hpx, hpm, hw, hI2⟩ := sim σx σm hI ((xs (i + 1)).toInt) ((xs (i + 2)).toInt) 1 (wr_ti _) (wr_ti _) (Or.inr rfl)
    obtain ⟨n1, n2⟩ := hn σx σm hI
    obtain ⟨n3, n4⟩ := hn τx τm hI2
    refine lv_aload_n (k := 1) (i := 1) hx hb (by decide +kernel) rfl (lv_at hl 1 rfl) ?_
    refine ly_arg (pc := 444) hx hb hX hbl hS hl 1 (pc2 := 447) (pc3 := 449) (lv_at hl 0 rfl) (lv_at hl 3 rfl) (by omega) hL (by decide +kernel) (by decide +kernel) (Or.inl ⟨rfl, (by decide +kernel)⟩) (by decide +kernel) (by decide +kernel) rfl ?_
    refine ly_arg (pc := 449) hx hb hX hbl hS hl 2 (pc2 := 452) (pc3 := 454) (lv_at hl 0 rfl) (lv_at hl 3 rfl) (by omega) hL (by decide +kernel) (by decide +kernel) (Or.inl ⟨rfl, (by decide +kernel)⟩) (by decide +kernel) (by decide +kernel) rfl ?_
    refine ly_arg (pc := 454) hx hb hX hbl hS hl 3 (pc2 := 457) (pc3 := 459) (lv_at hl 0 rfl) (lv_at hl 3 rfl) (by omega) hL (by decide +kernel) (by decide +kernel) (Or.inl ⟨rfl, (by decide +kernel)⟩) (by decide +kernel) (by decide +kernel) rfl ?_
    refine lv_if_eq (pc := 459) (off := 7) (tgt := 466) hx hb (by decide +kernel) (by decide) (fun hc => absurd hc h3) (fun _ => ?_)
    refine ly_iconst (pc := 462) (n := 1) hx hb (by decide +kernel) ?_
    refine lv_goto (pc := 463) (off := 4) (tgt := 467) hx hb (by decide +kernel) (by decide) ?_
    refine ly_call (pc := 467) (As := [ai ((xs (i + 1)).toInt), ai ((xs (i + 2)).toInt), ai (1)]) (ci := 11) (st := []) hx hb hml hown hts hK hN hF (by unfold bX; omega) hRx hS hl.1 (c_X11_unlike l D ca ra N σx 1 ((xs (i + 1)).toInt) ((xs (i + 2)).toInt) (1)) hpx ⟨rfl, by omega⟩ mt_X11_unlike mv_X11_unlike rfl ml_RL_53 rfl ⟨Nat.le_of_ble_eq_true rfl, Nat.le_of_ble_eq_true rfl⟩ (Nat.le_of_ble_eq_true rfl) ⟨rfl, rfl⟩ ⟨Nat.le_of_ble_eq_true rfl, Nat.le_of_ble_eq_true rfl⟩ (by decide +kernel) (by simp only [List.map_cons, List.map_nil, List.reverse_cons, List.reverse_nil, List.nil_append, List.cons_append, List.append_nil, cv, Int32.ofInt_toInt]) (fun H1 locs1 hRx1 hq1 hS1 => ?_)
    have z1 : H1.size = H.size := by rw [hRx1.2.1, hRx.2.1, n1, n3]
    have hRm1 := hRm.other z1 hq1 (fun k a1 a2 => by unfold bX bM; show ¬ (_ ∧ _ < _ + 114); omega)
    clear hS hRm
    have hS := hS1
    show W p l e room_1 s m #[Value.ref b] below meth c H1 locs1 CSL SSL (lw_Z below #[Value.ref b] s) (F0 m 470 ls [.int (Int32.ofInt r)])
    refine lv_aload_n (k := 2) (i := 2) hx hb (by decide +kernel) rfl (lv_at hl 2 rfl) ?_
    refine ly_arg (pc := 471) hx hb hX hbl hS hl 1 (pc2 := 474) (pc3 := 476) (lv_at hl 0 rfl) (lv_at hl 3 rfl) (by omega) hL (by decide +kernel) (by decide +kernel) (Or.inl ⟨rfl, (by decide +kernel)⟩) (by decide +kernel) (by decide +kernel) rfl ?_
    refine ly_arg (pc := 476) hx hb hX hbl hS hl 2 (pc2 := 479) (pc3 := 481) (lv_at hl 0 rfl) (lv_at hl 3 rfl) (by omega) hL (by decide +kernel) (by decide +kernel) (Or.inl ⟨rfl, (by decide +kernel)⟩) (by decide +kernel) (by decide +kernel) rfl ?_
    refine ly_arg (pc := 481) hx hb hX hbl hS hl 3 (pc2 := 484) (pc3 := 486) (lv_at hl 0 rfl) (lv_at hl 3 rfl) (by omega) hL (by decide +kernel) (by decide +kernel) (Or.inl ⟨rfl, (by decide +kernel)⟩) (by decide +kernel) (by decide +kernel) rfl ?_
    refine lv_if_eq (pc := 486) (off := 7) (tgt := 493) hx hb (by decide +kernel) (by decide) (fun hc => absurd hc h3) (fun _ => ?_)
    refine ly_iconst (pc := 489) (n := 1) hx hb (by decide +kernel) ?_
    refine lv_goto (pc := 490) (off := 4) (tgt := 494) hx hb (by decide +kernel) (by decide) ?_
    refine ly_call (pc := 494) (As := [ai ((xs (i + 1)).toInt), ai ((xs (i + 2)).toInt), ai (1)]) (ci := 12) (st := [.int (Int32.ofInt r)]) hx hb hml hown hts hK hN hF (by unfold bM; omega) hRm1 hS hl.1 (c_X12_unlike l D ca ra N σm 1 ((xs (i + 1)).toInt) ((xs (i + 2)).toInt) (1)) hpm ⟨rfl, by omega⟩ mt_X12_unlike mv_X12_unlike rfl ml_RL_57 rfl ⟨Nat.le_of_ble_eq_true rfl, Nat.le_of_ble_eq_true rfl⟩ (Nat.le_of_ble_eq_true rfl) ⟨rfl, rfl⟩ ⟨Nat.le_of_ble_eq_true rfl, Nat.le_of_ble_eq_true rfl⟩ (by decide +kernel) (by simp only [List.map_cons, List.map_nil, List.reverse_cons, List.reverse_nil, List.nil_append, List.cons_append, List.append_nil, cv, Int32.ofInt_toInt]) (fun H2 locs2 hRm2 hq2 hS2 => ?_)
    have z2 : H2.size = H1.size := by rw [hRm2.2.1, hRm1.2.1, n2, n4]
    have hRx2 := hRx1.other z2 hq2 (fun k a1 a2 => by unfold bX bM; show ¬ (_ ∧ _ < _ + 52); omega)
    show W p l e room_1 s m #[Value.ref b] below meth c H2 locs2 CSL SSL (lw_Z below #[Value.ref b] s) (F0 m 497 ls [.int (Int32.ofInt r2), .int (Int32.ofInt r)])
    refine lv_icmp_eq (pc := 497) (off := 968) (tgt := 1465) (x := Int32.ofInt r) (y := Int32.ofInt r2) hx hb (by decide +kernel) (by decide) (fun _ => ?_) (fun hc => absurd (i_eq.mpr hw) hc)
    exact kend τx τm H2 locs2 ls hI2 hRx2 hRm2 hS2 hl
set_option maxRecDepth 100000 in
set_option maxHeartbeats 4000000 in
theorem lc_10 {p : Program} {l : Launch} {e : Env} {s : State} {m : MethodId} {below : List Frame} {meth : Method} {c : Code} {b L : Nat} {xs : Nat → Int32} {D : va_G} {ca : Nat → ClassId} {ra : Nat → Nat} {Inv : St → St → Prop} (N : Nat) (K : LK p l e s m below meth c b L xs D ca ra) (hn : ∀ σx σm : St, Inv σx σm → σx.1 = 113 ∧ σm.1 = 51) (sim : ∀ σx σm : St, Inv σx σm → ∀ (a0 : Int) (a1 : Int), wr a0 = a0 → wr a1 = a1 → OK2 Inv (f_X11_change N σx 1 a0 a1) (f_X12_change N σm 1 a0 a1)) {i : Nat} (hi : i + 7 ≤ L) (kend : GO p l e s m below meth c b D ca Inv 1465 i) : GO p l e s m below meth c b D ca Inv 502 i := by
  obtain ⟨⟨hx, hb, hml, hown⟩, hts, ⟨hK, hN, hF⟩, hX, hbl, hL⟩ := K
  intro σx σm H locs ls hI hRx hRm hS hl
  obtain ⟨τx, τm, r, r2, hpx, hpm, hw, hI2⟩ := sim σx σm hI ((xs (i + 1)).toInt) ((xs (i + 2)).toInt) (wr_ti _) (wr_ti _)
  obtain ⟨n1, n2⟩ := hn σx σm hI
  obtain ⟨n3, n4⟩ := hn τx τm hI2
  refine lv_aload_n (k := 1) (i := 1) hx hb (by decide +kernel) rfl (lv_at hl 1 rfl) ?_
  refine ly_arg (pc := 503) hx hb hX hbl hS hl 1 (pc2 := 506) (pc3 := 508) (lv_at hl 0 rfl) (lv_at hl 3 rfl) (by omega) hL (by decide +kernel) (by decide +kernel) (Or.inl ⟨rfl, (by decide +kernel)⟩) (by decide +kernel) (by decide +kernel) rfl ?_
  refine ly_arg (pc := 508) hx hb hX hbl hS hl 2 (pc2 := 511) (pc3 := 513) (lv_at hl 0 rfl) (lv_at hl 3 rfl) (by omega) hL (by decide +kernel) (by decide +kernel) (Or.inl ⟨rfl, (by decide +kernel)⟩) (by decide +kernel) (by decide +kernel) rfl ?_
  refine ly_call (pc := 513) (As := [ai ((xs (i + 1)).toInt), ai ((xs (i + 2)).toInt)]) (ci := 11) (st := []) hx hb hml hown hts hK hN hF (by unfold bX; omega) hRx hS hl.1 (c_X11_change l D ca ra N σx 1 ((xs (i + 1)).toInt) ((xs (i + 2)).toInt)) hpx ⟨rfl, by omega⟩ mt_X11_change mv_X11_change rfl ml_RL_58 rfl ⟨Nat.le_of_ble_eq_true rfl, Nat.le_of_ble_eq_true rfl⟩ (Nat.le_of_ble_eq_true rfl) ⟨rfl, rfl⟩ ⟨Nat.le_of_ble_eq_true rfl, Nat.le_of_ble_eq_true rfl⟩ (by decide +kernel) (by simp only [List.map_cons, List.map_nil, List.reverse_cons, List.reverse_nil, List.nil_append, List.cons_append, List.append_nil, cv, Int32.ofInt_toInt]) (fun H1 locs1 hRx1 hq1 hS1 => ?_)
  have z1 : H1.size = H.size := by rw [hRx1.2.1, hRx.2.1, n1, n3]
  have hRm1 := hRm.other z1 hq1 (fun k a1 a2 => by unfold bX bM; show ¬ (_ ∧ _ < _ + 114); omega)
  clear hS hRm
  have hS := hS1
  show W p l e room_1 s m #[Value.ref b] below meth c H1 locs1 CSL SSL (lw_Z below #[Value.ref b] s) (F0 m 516 ls [.int (Int32.ofInt r)])
  refine lv_aload_n (k := 2) (i := 2) hx hb (by decide +kernel) rfl (lv_at hl 2 rfl) ?_
  refine ly_arg (pc := 517) hx hb hX hbl hS hl 1 (pc2 := 520) (pc3 := 522) (lv_at hl 0 rfl) (lv_at hl 3 rfl) (by omega) hL (by decide +kernel) (by decide +kernel) (Or.inl ⟨rfl, (by decide +kernel)⟩) (by decide +kernel) (by decide +kernel) rfl ?_
  refine ly_arg (pc := 522) hx hb hX hbl hS hl 2 (pc2 := 525) (pc3 := 527) (lv_at hl 0 rfl) (lv_at hl 3 rfl) (by omega) hL (by decide +kernel) (by decide +kernel) (Or.inl ⟨rfl, (by decide +kernel)⟩) (by decide +kernel) (by decide +kernel) rfl ?_
  refine ly_call (pc := 527) (As := [ai ((xs (i + 1)).toInt), ai ((xs (i + 2)).toInt)]) (ci := 12) (st := [.int (Int32.ofInt r)]) hx hb hml hown hts hK hN hF (by unfold bM; omega) hRm1 hS hl.1 (c_X12_change l D ca ra N σm 1 ((xs (i + 1)).toInt) ((xs (i + 2)).toInt)) hpm ⟨rfl, by omega⟩ mt_X12_change mv_X12_change rfl ml_RL_61 rfl ⟨Nat.le_of_ble_eq_true rfl, Nat.le_of_ble_eq_true rfl⟩ (Nat.le_of_ble_eq_true rfl) ⟨rfl, rfl⟩ ⟨Nat.le_of_ble_eq_true rfl, Nat.le_of_ble_eq_true rfl⟩ (by decide +kernel) (by simp only [List.map_cons, List.map_nil, List.reverse_cons, List.reverse_nil, List.nil_append, List.cons_append, List.append_nil, cv, Int32.ofInt_toInt]) (fun H2 locs2 hRm2 hq2 hS2 => ?_)
  have z2 : H2.size = H1.size := by rw [hRm2.2.1, hRm1.2.1, n2, n4]
  have hRx2 := hRx1.other z2 hq2 (fun k a1 a2 => by unfold bX bM; show ¬ (_ ∧ _ < _ + 52); omega)
  show W p l e room_1 s m #[Value.ref b] below meth c H2 locs2 CSL SSL (lw_Z below #[Value.ref b] s) (F0 m 530 ls [.int (Int32.ofInt r2), .int (Int32.ofInt r)])
  refine lv_icmp_eq (pc := 530) (off := 935) (tgt := 1465) (x := Int32.ofInt r) (y := Int32.ofInt r2) hx hb (by decide +kernel) (by decide) (fun _ => ?_) (fun hc => absurd (i_eq.mpr hw) hc)
  exact kend τx τm H2 locs2 ls hI2 hRx2 hRm2 hS2 hl
set_option maxRecDepth 100000 in
set_option maxHeartbeats 4000000 in
theorem lc_11 {p : Program} {l : Launch} {e : Env} {s : State} {m : MethodId} {below : List Frame} {meth : Method} {c : Code} {b L : Nat} {xs : Nat → Int32} {D : va_G} {ca : Nat → ClassId} {ra : Nat → Nat} {Inv : St → St → Prop} (N : Nat) (K : LK p l e s m below meth c b L xs D ca ra) (hn : ∀ σx σm : St, Inv σx σm → σx.1 = 113 ∧ σm.1 = 51) (sim : ∀ σx σm : St, Inv σx σm → ∀ (a0 : Int) (a1 : Int), wr a0 = a0 → wr a1 = a1 → OK2 Inv (f_X11_estimate N σx 1 a0 a1) (f_X12_estimate N σm 1 a0 a1)) {i : Nat} (hi : i + 7 ≤ L) (kend : GO p l e s m below meth c b D ca Inv 1465 i) : GO p l e s m below meth c b D ca Inv 535 i := by
  obtain ⟨⟨hx, hb, hml, hown⟩, hts, ⟨hK, hN, hF⟩, hX, hbl, hL⟩ := K
  intro σx σm H locs ls hI hRx hRm hS hl
  obtain ⟨τx, τm, r, r2, hpx, hpm, hw, hI2⟩ := sim σx σm hI ((xs (i + 1)).toInt) ((xs (i + 2)).toInt) (wr_ti _) (wr_ti _)
  obtain ⟨n1, n2⟩ := hn σx σm hI
  obtain ⟨n3, n4⟩ := hn τx τm hI2
  refine lv_aload_n (k := 1) (i := 1) hx hb (by decide +kernel) rfl (lv_at hl 1 rfl) ?_
  refine ly_arg (pc := 536) hx hb hX hbl hS hl 1 (pc2 := 539) (pc3 := 541) (lv_at hl 0 rfl) (lv_at hl 3 rfl) (by omega) hL (by decide +kernel) (by decide +kernel) (Or.inl ⟨rfl, (by decide +kernel)⟩) (by decide +kernel) (by decide +kernel) rfl ?_
  refine ly_arg (pc := 541) hx hb hX hbl hS hl 2 (pc2 := 544) (pc3 := 546) (lv_at hl 0 rfl) (lv_at hl 3 rfl) (by omega) hL (by decide +kernel) (by decide +kernel) (Or.inl ⟨rfl, (by decide +kernel)⟩) (by decide +kernel) (by decide +kernel) rfl ?_
  refine ly_call (pc := 546) (As := [ai ((xs (i + 1)).toInt), ai ((xs (i + 2)).toInt)]) (ci := 11) (st := []) hx hb hml hown hts hK hN hF (by unfold bX; omega) hRx hS hl.1 (c_X11_estimate l D ca ra N σx 1 ((xs (i + 1)).toInt) ((xs (i + 2)).toInt)) hpx ⟨rfl, by omega⟩ mt_X11_estimate mv_X11_estimate rfl ml_RL_62 rfl ⟨Nat.le_of_ble_eq_true rfl, Nat.le_of_ble_eq_true rfl⟩ (Nat.le_of_ble_eq_true rfl) ⟨rfl, rfl⟩ ⟨Nat.le_of_ble_eq_true rfl, Nat.le_of_ble_eq_true rfl⟩ (by decide +kernel) (by simp only [List.map_cons, List.map_nil, List.reverse_cons, List.reverse_nil, List.nil_append, List.cons_append, List.append_nil, cv, Int32.ofInt_toInt]) (fun H1 locs1 hRx1 hq1 hS1 => ?_)
  have z1 : H1.size = H.size := by rw [hRx1.2.1, hRx.2.1, n1, n3]
  have hRm1 := hRm.other z1 hq1 (fun k a1 a2 => by unfold bX bM; show ¬ (_ ∧ _ < _ + 114); omega)
  clear hS hRm
  have hS := hS1
  show W p l e room_1 s m #[Value.ref b] below meth c H1 locs1 CSL SSL (lw_Z below #[Value.ref b] s) (F0 m 549 ls [.int (Int32.ofInt r)])
  refine lv_aload_n (k := 2) (i := 2) hx hb (by decide +kernel) rfl (lv_at hl 2 rfl) ?_
  refine ly_arg (pc := 550) hx hb hX hbl hS hl 1 (pc2 := 553) (pc3 := 555) (lv_at hl 0 rfl) (lv_at hl 3 rfl) (by omega) hL (by decide +kernel) (by decide +kernel) (Or.inl ⟨rfl, (by decide +kernel)⟩) (by decide +kernel) (by decide +kernel) rfl ?_
  refine ly_arg (pc := 555) hx hb hX hbl hS hl 2 (pc2 := 558) (pc3 := 560) (lv_at hl 0 rfl) (lv_at hl 3 rfl) (by omega) hL (by decide +kernel) (by decide +kernel) (Or.inl ⟨rfl, (by decide +kernel)⟩) (by decide +kernel) (by decide +kernel) rfl ?_
  refine ly_call (pc := 560) (As := [ai ((xs (i + 1)).toInt), ai ((xs (i + 2)).toInt)]) (ci := 12) (st := [.int (Int32.ofInt r)]) hx hb hml hown hts hK hN hF (by unfold bM; omega) hRm1 hS hl.1 (c_X12_estimate l D ca ra N σm 1 ((xs (i + 1)).toInt) ((xs (i + 2)).toInt)) hpm ⟨rfl, by omega⟩ mt_X12_estimate mv_X12_estimate rfl ml_RL_65 rfl ⟨Nat.le_of_ble_eq_true rfl, Nat.le_of_ble_eq_true rfl⟩ (Nat.le_of_ble_eq_true rfl) ⟨rfl, rfl⟩ ⟨Nat.le_of_ble_eq_true rfl, Nat.le_of_ble_eq_true rfl⟩ (by decide +kernel) (by simp only [List.map_cons, List.map_nil, List.reverse_cons, List.reverse_nil, List.nil_append, List.cons_append, List.append_nil, cv, Int32.ofInt_toInt]) (fun H2 locs2 hRm2 hq2 hS2 => ?_)
  have z2 : H2.size = H1.size := by rw [hRm2.2.1, hRm1.2.1, n2, n4]
  have hRx2 := hRx1.other z2 hq2 (fun k a1 a2 => by unfold bX bM; show ¬ (_ ∧ _ < _ + 52); omega)
  show W p l e room_1 s m #[Value.ref b] below meth c H2 locs2 CSL SSL (lw_Z below #[Value.ref b] s) (F0 m 563 ls [.int (Int32.ofInt r2), .int (Int32.ofInt r)])
  refine lv_icmp_eq (pc := 563) (off := 902) (tgt := 1465) (x := Int32.ofInt r) (y := Int32.ofInt r2) hx hb (by decide +kernel) (by decide) (fun _ => ?_) (fun hc => absurd (i_eq.mpr hw) hc)
  exact kend τx τm H2 locs2 ls hI2 hRx2 hRm2 hS2 hl
set_option maxRecDepth 100000 in
set_option maxHeartbeats 4000000 in
theorem lc_12 {p : Program} {l : Launch} {e : Env} {s : State} {m : MethodId} {below : List Frame} {meth : Method} {c : Code} {b L : Nat} {xs : Nat → Int32} {D : va_G} {ca : Nat → ClassId} {ra : Nat → Nat} {Inv : St → St → Prop} (N : Nat) (K : LK p l e s m below meth c b L xs D ca ra) (hn : ∀ σx σm : St, Inv σx σm → σx.1 = 113 ∧ σm.1 = 51) (sim : ∀ σx σm : St, Inv σx σm → ∀ (a0 : Int) (a1 : Int), wr a0 = a0 → wr a1 = a1 → OK2 Inv (f_X11_show N σx 1 a0 a1) (f_X12_show N σm 1 a0 a1)) {i : Nat} (hi : i + 7 ≤ L) (kend : GO p l e s m below meth c b D ca Inv 1465 i) : GO p l e s m below meth c b D ca Inv 568 i := by
  obtain ⟨⟨hx, hb, hml, hown⟩, hts, ⟨hK, hN, hF⟩, hX, hbl, hL⟩ := K
  intro σx σm H locs ls hI hRx hRm hS hl
  obtain ⟨τx, τm, r, r2, hpx, hpm, hw, hI2⟩ := sim σx σm hI ((xs (i + 1)).toInt) ((xs (i + 2)).toInt) (wr_ti _) (wr_ti _)
  obtain ⟨n1, n2⟩ := hn σx σm hI
  obtain ⟨n3, n4⟩ := hn τx τm hI2
  refine lv_aload_n (k := 1) (i := 1) hx hb (by decide +kernel) rfl (lv_at hl 1 rfl) ?_
  refine ly_arg (pc := 569) hx hb hX hbl hS hl 1 (pc2 := 572) (pc3 := 574) (lv_at hl 0 rfl) (lv_at hl 3 rfl) (by omega) hL (by decide +kernel) (by decide +kernel) (Or.inl ⟨rfl, (by decide +kernel)⟩) (by decide +kernel) (by decide +kernel) rfl ?_
  refine ly_arg (pc := 574) hx hb hX hbl hS hl 2 (pc2 := 577) (pc3 := 579) (lv_at hl 0 rfl) (lv_at hl 3 rfl) (by omega) hL (by decide +kernel) (by decide +kernel) (Or.inl ⟨rfl, (by decide +kernel)⟩) (by decide +kernel) (by decide +kernel) rfl ?_
  refine ly_call (pc := 579) (As := [ai ((xs (i + 1)).toInt), ai ((xs (i + 2)).toInt)]) (ci := 11) (st := []) hx hb hml hown hts hK hN hF (by unfold bX; omega) hRx hS hl.1 (c_X11_show l D ca ra N σx 1 ((xs (i + 1)).toInt) ((xs (i + 2)).toInt)) hpx ⟨rfl, by omega⟩ mt_X11_show mv_X11_show rfl ml_RL_66 rfl ⟨Nat.le_of_ble_eq_true rfl, Nat.le_of_ble_eq_true rfl⟩ (Nat.le_of_ble_eq_true rfl) ⟨rfl, rfl⟩ ⟨Nat.le_of_ble_eq_true rfl, Nat.le_of_ble_eq_true rfl⟩ (by decide +kernel) (by simp only [List.map_cons, List.map_nil, List.reverse_cons, List.reverse_nil, List.nil_append, List.cons_append, List.append_nil, cv, Int32.ofInt_toInt]) (fun H1 locs1 hRx1 hq1 hS1 => ?_)
  have z1 : H1.size = H.size := by rw [hRx1.2.1, hRx.2.1, n1, n3]
  have hRm1 := hRm.other z1 hq1 (fun k a1 a2 => by unfold bX bM; show ¬ (_ ∧ _ < _ + 114); omega)
  clear hS hRm
  have hS := hS1
  show W p l e room_1 s m #[Value.ref b] below meth c H1 locs1 CSL SSL (lw_Z below #[Value.ref b] s) (F0 m 582 ls [.int (Int32.ofInt r)])
  refine lv_aload_n (k := 2) (i := 2) hx hb (by decide +kernel) rfl (lv_at hl 2 rfl) ?_
  refine ly_arg (pc := 583) hx hb hX hbl hS hl 1 (pc2 := 586) (pc3 := 588) (lv_at hl 0 rfl) (lv_at hl 3 rfl) (by omega) hL (by decide +kernel) (by decide +kernel) (Or.inl ⟨rfl, (by decide +kernel)⟩) (by decide +kernel) (by decide +kernel) rfl ?_
  refine ly_arg (pc := 588) hx hb hX hbl hS hl 2 (pc2 := 591) (pc3 := 593) (lv_at hl 0 rfl) (lv_at hl 3 rfl) (by omega) hL (by decide +kernel) (by decide +kernel) (Or.inl ⟨rfl, (by decide +kernel)⟩) (by decide +kernel) (by decide +kernel) rfl ?_
  refine ly_call (pc := 593) (As := [ai ((xs (i + 1)).toInt), ai ((xs (i + 2)).toInt)]) (ci := 12) (st := [.int (Int32.ofInt r)]) hx hb hml hown hts hK hN hF (by unfold bM; omega) hRm1 hS hl.1 (c_X12_show l D ca ra N σm 1 ((xs (i + 1)).toInt) ((xs (i + 2)).toInt)) hpm ⟨rfl, by omega⟩ mt_X12_show mv_X12_show rfl ml_RL_69 rfl ⟨Nat.le_of_ble_eq_true rfl, Nat.le_of_ble_eq_true rfl⟩ (Nat.le_of_ble_eq_true rfl) ⟨rfl, rfl⟩ ⟨Nat.le_of_ble_eq_true rfl, Nat.le_of_ble_eq_true rfl⟩ (by decide +kernel) (by simp only [List.map_cons, List.map_nil, List.reverse_cons, List.reverse_nil, List.nil_append, List.cons_append, List.append_nil, cv, Int32.ofInt_toInt]) (fun H2 locs2 hRm2 hq2 hS2 => ?_)
  have z2 : H2.size = H1.size := by rw [hRm2.2.1, hRm1.2.1, n2, n4]
  have hRx2 := hRx1.other z2 hq2 (fun k a1 a2 => by unfold bX bM; show ¬ (_ ∧ _ < _ + 52); omega)
  show W p l e room_1 s m #[Value.ref b] below meth c H2 locs2 CSL SSL (lw_Z below #[Value.ref b] s) (F0 m 596 ls [.int (Int32.ofInt r2), .int (Int32.ofInt r)])
  refine lv_icmp_eq (pc := 596) (off := 869) (tgt := 1465) (x := Int32.ofInt r) (y := Int32.ofInt r2) hx hb (by decide +kernel) (by decide) (fun _ => ?_) (fun hc => absurd (i_eq.mpr hw) hc)
  exact kend τx τm H2 locs2 ls hI2 hRx2 hRm2 hS2 hl
set_option maxRecDepth 100000 in
set_option maxHeartbeats 4000000 in
theorem lc_13 {p : Program} {l : Launch} {e : Env} {s : State} {m : MethodId} {below : List Frame} {meth : Method} {c : Code} {b L : Nat} {xs : Nat → Int32} {D : va_G} {ca : Nat → ClassId} {ra : Nat → Nat} {Inv : St → St → Prop} (N : Nat) (K : LK p l e s m below meth c b L xs D ca ra) (hn : ∀ σx σm : St, Inv σx σm → σx.1 = 113 ∧ σm.1 = 51) (sim : ∀ σx σm : St, Inv σx σm → ∀ (a0 : Int), wr a0 = a0 → OK2 Inv (f_X11_untell N σx 1 a0) (f_X12_untell N σm 1 a0)) {i : Nat} (hi : i + 7 ≤ L) (kend : GO p l e s m below meth c b D ca Inv 1465 i) : GO p l e s m below meth c b D ca Inv 601 i := by
  obtain ⟨⟨hx, hb, hml, hown⟩, hts, ⟨hK, hN, hF⟩, hX, hbl, hL⟩ := K
  intro σx σm H locs ls hI hRx hRm hS hl
  obtain ⟨τx, τm, r, r2, hpx, hpm, hw, hI2⟩ := sim σx σm hI ((xs (i + 1)).toInt) (wr_ti _)
  obtain ⟨n1, n2⟩ := hn σx σm hI
  obtain ⟨n3, n4⟩ := hn τx τm hI2
  refine lv_aload_n (k := 1) (i := 1) hx hb (by decide +kernel) rfl (lv_at hl 1 rfl) ?_
  refine ly_arg (pc := 602) hx hb hX hbl hS hl 1 (pc2 := 605) (pc3 := 607) (lv_at hl 0 rfl) (lv_at hl 3 rfl) (by omega) hL (by decide +kernel) (by decide +kernel) (Or.inl ⟨rfl, (by decide +kernel)⟩) (by decide +kernel) (by decide +kernel) rfl ?_
  refine ly_call (pc := 607) (As := [ai ((xs (i + 1)).toInt)]) (ci := 11) (st := []) hx hb hml hown hts hK hN hF (by unfold bX; omega) hRx hS hl.1 (c_X11_untell l D ca ra N σx 1 ((xs (i + 1)).toInt)) hpx ⟨rfl, by omega⟩ mt_X11_untell mv_X11_untell rfl ml_RL_70 rfl ⟨Nat.le_of_ble_eq_true rfl, Nat.le_of_ble_eq_true rfl⟩ (Nat.le_of_ble_eq_true rfl) ⟨rfl, rfl⟩ ⟨Nat.le_of_ble_eq_true rfl, Nat.le_of_ble_eq_true rfl⟩ (by decide +kernel) (by simp only [List.map_cons, List.map_nil, List.reverse_cons, List.reverse_nil, List.nil_append, List.cons_append, List.append_nil, cv, Int32.ofInt_toInt]) (fun H1 locs1 hRx1 hq1 hS1 => ?_)
  have z1 : H1.size = H.size := by rw [hRx1.2.1, hRx.2.1, n1, n3]
  have hRm1 := hRm.other z1 hq1 (fun k a1 a2 => by unfold bX bM; show ¬ (_ ∧ _ < _ + 114); omega)
  clear hS hRm
  have hS := hS1
  show W p l e room_1 s m #[Value.ref b] below meth c H1 locs1 CSL SSL (lw_Z below #[Value.ref b] s) (F0 m 610 ls [.int (Int32.ofInt r)])
  refine lv_aload_n (k := 2) (i := 2) hx hb (by decide +kernel) rfl (lv_at hl 2 rfl) ?_
  refine ly_arg (pc := 611) hx hb hX hbl hS hl 1 (pc2 := 614) (pc3 := 616) (lv_at hl 0 rfl) (lv_at hl 3 rfl) (by omega) hL (by decide +kernel) (by decide +kernel) (Or.inl ⟨rfl, (by decide +kernel)⟩) (by decide +kernel) (by decide +kernel) rfl ?_
  refine ly_call (pc := 616) (As := [ai ((xs (i + 1)).toInt)]) (ci := 12) (st := [.int (Int32.ofInt r)]) hx hb hml hown hts hK hN hF (by unfold bM; omega) hRm1 hS hl.1 (c_X12_untell l D ca ra N σm 1 ((xs (i + 1)).toInt)) hpm ⟨rfl, by omega⟩ mt_X12_untell mv_X12_untell rfl ml_RL_74 rfl ⟨Nat.le_of_ble_eq_true rfl, Nat.le_of_ble_eq_true rfl⟩ (Nat.le_of_ble_eq_true rfl) ⟨rfl, rfl⟩ ⟨Nat.le_of_ble_eq_true rfl, Nat.le_of_ble_eq_true rfl⟩ (by decide +kernel) (by simp only [List.map_cons, List.map_nil, List.reverse_cons, List.reverse_nil, List.nil_append, List.cons_append, List.append_nil, cv, Int32.ofInt_toInt]) (fun H2 locs2 hRm2 hq2 hS2 => ?_)
  have z2 : H2.size = H1.size := by rw [hRm2.2.1, hRm1.2.1, n2, n4]
  have hRx2 := hRx1.other z2 hq2 (fun k a1 a2 => by unfold bX bM; show ¬ (_ ∧ _ < _ + 52); omega)
  show W p l e room_1 s m #[Value.ref b] below meth c H2 locs2 CSL SSL (lw_Z below #[Value.ref b] s) (F0 m 619 ls [.int (Int32.ofInt r2), .int (Int32.ofInt r)])
  refine lv_icmp_eq (pc := 619) (off := 846) (tgt := 1465) (x := Int32.ofInt r) (y := Int32.ofInt r2) hx hb (by decide +kernel) (by decide) (fun _ => ?_) (fun hc => absurd (i_eq.mpr hw) hc)
  exact kend τx τm H2 locs2 ls hI2 hRx2 hRm2 hS2 hl
set_option maxRecDepth 100000 in
set_option maxHeartbeats 4000000 in
theorem lc_14 {p : Program} {l : Launch} {e : Env} {s : State} {m : MethodId} {below : List Frame} {meth : Method} {c : Code} {b L : Nat} {xs : Nat → Int32} {D : va_G} {ca : Nat → ClassId} {ra : Nat → Nat} {Inv : St → St → Prop} (N : Nat) (K : LK p l e s m below meth c b L xs D ca ra) (hn : ∀ σx σm : St, Inv σx σm → σx.1 = 113 ∧ σm.1 = 51) (sim : ∀ σx σm : St, Inv σx σm → ∀ (a0 : Int), wr a0 = a0 → OK2 Inv (f_X11_later N σx 1 a0) (f_X12_later N σm 1 a0)) {i : Nat} (hi : i + 7 ≤ L) (kend : GO p l e s m below meth c b D ca Inv 1465 i) : GO p l e s m below meth c b D ca Inv 624 i := by
  obtain ⟨⟨hx, hb, hml, hown⟩, hts, ⟨hK, hN, hF⟩, hX, hbl, hL⟩ := K
  intro σx σm H locs ls hI hRx hRm hS hl
  obtain ⟨τx, τm, r, r2, hpx, hpm, hw, hI2⟩ := sim σx σm hI ((xs (i + 1)).toInt) (wr_ti _)
  obtain ⟨n1, n2⟩ := hn σx σm hI
  obtain ⟨n3, n4⟩ := hn τx τm hI2
  refine lv_aload_n (k := 1) (i := 1) hx hb (by decide +kernel) rfl (lv_at hl 1 rfl) ?_
  refine ly_arg (pc := 625) hx hb hX hbl hS hl 1 (pc2 := 628) (pc3 := 630) (lv_at hl 0 rfl) (lv_at hl 3 rfl) (by omega) hL (by decide +kernel) (by decide +kernel) (Or.inl ⟨rfl, (by decide +kernel)⟩) (by decide +kernel) (by decide +kernel) rfl ?_
  refine ly_call (pc := 630) (As := [ai ((xs (i + 1)).toInt)]) (ci := 11) (st := []) hx hb hml hown hts hK hN hF (by unfold bX; omega) hRx hS hl.1 (c_X11_later l D ca ra N σx 1 ((xs (i + 1)).toInt)) hpx ⟨rfl, by omega⟩ mt_X11_later mv_X11_later rfl ml_RL_75 rfl ⟨Nat.le_of_ble_eq_true rfl, Nat.le_of_ble_eq_true rfl⟩ (Nat.le_of_ble_eq_true rfl) ⟨rfl, rfl⟩ ⟨Nat.le_of_ble_eq_true rfl, Nat.le_of_ble_eq_true rfl⟩ (by decide +kernel) (by simp only [List.map_cons, List.map_nil, List.reverse_cons, List.reverse_nil, List.nil_append, List.cons_append, List.append_nil, cv, Int32.ofInt_toInt]) (fun H1 locs1 hRx1 hq1 hS1 => ?_)
  have z1 : H1.size = H.size := by rw [hRx1.2.1, hRx.2.1, n1, n3]
  have hRm1 := hRm.other z1 hq1 (fun k a1 a2 => by unfold bX bM; show ¬ (_ ∧ _ < _ + 114); omega)
  clear hS hRm
  have hS := hS1
  show W p l e room_1 s m #[Value.ref b] below meth c H1 locs1 CSL SSL (lw_Z below #[Value.ref b] s) (F0 m 633 ls [.int (Int32.ofInt r)])
  refine lv_aload_n (k := 2) (i := 2) hx hb (by decide +kernel) rfl (lv_at hl 2 rfl) ?_
  refine ly_arg (pc := 634) hx hb hX hbl hS hl 1 (pc2 := 637) (pc3 := 639) (lv_at hl 0 rfl) (lv_at hl 3 rfl) (by omega) hL (by decide +kernel) (by decide +kernel) (Or.inl ⟨rfl, (by decide +kernel)⟩) (by decide +kernel) (by decide +kernel) rfl ?_
  refine ly_call (pc := 639) (As := [ai ((xs (i + 1)).toInt)]) (ci := 12) (st := [.int (Int32.ofInt r)]) hx hb hml hown hts hK hN hF (by unfold bM; omega) hRm1 hS hl.1 (c_X12_later l D ca ra N σm 1 ((xs (i + 1)).toInt)) hpm ⟨rfl, by omega⟩ mt_X12_later mv_X12_later rfl ml_RL_78 rfl ⟨Nat.le_of_ble_eq_true rfl, Nat.le_of_ble_eq_true rfl⟩ (Nat.le_of_ble_eq_true rfl) ⟨rfl, rfl⟩ ⟨Nat.le_of_ble_eq_true rfl, Nat.le_of_ble_eq_true rfl⟩ (by decide +kernel) (by simp only [List.map_cons, List.map_nil, List.reverse_cons, List.reverse_nil, List.nil_append, List.cons_append, List.append_nil, cv, Int32.ofInt_toInt]) (fun H2 locs2 hRm2 hq2 hS2 => ?_)
  have z2 : H2.size = H1.size := by rw [hRm2.2.1, hRm1.2.1, n2, n4]
  have hRx2 := hRx1.other z2 hq2 (fun k a1 a2 => by unfold bX bM; show ¬ (_ ∧ _ < _ + 52); omega)
  show W p l e room_1 s m #[Value.ref b] below meth c H2 locs2 CSL SSL (lw_Z below #[Value.ref b] s) (F0 m 642 ls [.int (Int32.ofInt r2), .int (Int32.ofInt r)])
  refine lv_icmp_eq (pc := 642) (off := 823) (tgt := 1465) (x := Int32.ofInt r) (y := Int32.ofInt r2) hx hb (by decide +kernel) (by decide) (fun _ => ?_) (fun hc => absurd (i_eq.mpr hw) hc)
  exact kend τx τm H2 locs2 ls hI2 hRx2 hRm2 hS2 hl
set_option maxRecDepth 100000 in
set_option maxHeartbeats 4000000 in
theorem lc_15 {p : Program} {l : Launch} {e : Env} {s : State} {m : MethodId} {below : List Frame} {meth : Method} {c : Code} {b L : Nat} {xs : Nat → Int32} {D : va_G} {ca : Nat → ClassId} {ra : Nat → Nat} {Inv : St → St → Prop} (N : Nat) (K : LK p l e s m below meth c b L xs D ca ra) (hn : ∀ σx σm : St, Inv σx σm → σx.1 = 113 ∧ σm.1 = 51) (sim : ∀ σx σm : St, Inv σx σm → ∀ (a0 : Int) (a1 : Int), wr a0 = a0 → wr a1 = a1 → OK2 Inv (f_X11_moves N σx 1 a0 a1) (f_X12_moves N σm 1 a0 a1)) {i : Nat} (hi : i + 7 ≤ L) (kend : GO p l e s m below meth c b D ca Inv 1465 i) : GO p l e s m below meth c b D ca Inv 647 i := by
  obtain ⟨⟨hx, hb, hml, hown⟩, hts, ⟨hK, hN, hF⟩, hX, hbl, hL⟩ := K
  intro σx σm H locs ls hI hRx hRm hS hl
  obtain ⟨τx, τm, r, r2, hpx, hpm, hw, hI2⟩ := sim σx σm hI ((xs (i + 1)).toInt) ((xs (i + 2)).toInt) (wr_ti _) (wr_ti _)
  obtain ⟨n1, n2⟩ := hn σx σm hI
  obtain ⟨n3, n4⟩ := hn τx τm hI2
  refine lv_aload_n (k := 1) (i := 1) hx hb (by decide +kernel) rfl (lv_at hl 1 rfl) ?_
  refine ly_arg (pc := 648) hx hb hX hbl hS hl 1 (pc2 := 651) (pc3 := 653) (lv_at hl 0 rfl) (lv_at hl 3 rfl) (by omega) hL (by decide +kernel) (by decide +kernel) (Or.inl ⟨rfl, (by decide +kernel)⟩) (by decide +kernel) (by decide +kernel) rfl ?_
  refine ly_arg (pc := 653) hx hb hX hbl hS hl 2 (pc2 := 656) (pc3 := 658) (lv_at hl 0 rfl) (lv_at hl 3 rfl) (by omega) hL (by decide +kernel) (by decide +kernel) (Or.inl ⟨rfl, (by decide +kernel)⟩) (by decide +kernel) (by decide +kernel) rfl ?_
  refine ly_call (pc := 658) (As := [ai ((xs (i + 1)).toInt), ai ((xs (i + 2)).toInt)]) (ci := 11) (st := []) hx hb hml hown hts hK hN hF (by unfold bX; omega) hRx hS hl.1 (c_X11_moves l D ca ra N σx 1 ((xs (i + 1)).toInt) ((xs (i + 2)).toInt)) hpx ⟨rfl, by omega⟩ mt_X11_moves mv_X11_moves rfl ml_RL_79 rfl ⟨Nat.le_of_ble_eq_true rfl, Nat.le_of_ble_eq_true rfl⟩ (Nat.le_of_ble_eq_true rfl) ⟨rfl, rfl⟩ ⟨Nat.le_of_ble_eq_true rfl, Nat.le_of_ble_eq_true rfl⟩ (by decide +kernel) (by simp only [List.map_cons, List.map_nil, List.reverse_cons, List.reverse_nil, List.nil_append, List.cons_append, List.append_nil, cv, Int32.ofInt_toInt]) (fun H1 locs1 hRx1 hq1 hS1 => ?_)
  have z1 : H1.size = H.size := by rw [hRx1.2.1, hRx.2.1, n1, n3]
  have hRm1 := hRm.other z1 hq1 (fun k a1 a2 => by unfold bX bM; show ¬ (_ ∧ _ < _ + 114); omega)
  clear hS hRm
  have hS := hS1
  show W p l e room_1 s m #[Value.ref b] below meth c H1 locs1 CSL SSL (lw_Z below #[Value.ref b] s) (F0 m 661 ls [.int (Int32.ofInt r)])
  refine lv_aload_n (k := 2) (i := 2) hx hb (by decide +kernel) rfl (lv_at hl 2 rfl) ?_
  refine ly_arg (pc := 662) hx hb hX hbl hS hl 1 (pc2 := 665) (pc3 := 667) (lv_at hl 0 rfl) (lv_at hl 3 rfl) (by omega) hL (by decide +kernel) (by decide +kernel) (Or.inl ⟨rfl, (by decide +kernel)⟩) (by decide +kernel) (by decide +kernel) rfl ?_
  refine ly_arg (pc := 667) hx hb hX hbl hS hl 2 (pc2 := 670) (pc3 := 672) (lv_at hl 0 rfl) (lv_at hl 3 rfl) (by omega) hL (by decide +kernel) (by decide +kernel) (Or.inl ⟨rfl, (by decide +kernel)⟩) (by decide +kernel) (by decide +kernel) rfl ?_
  refine ly_call (pc := 672) (As := [ai ((xs (i + 1)).toInt), ai ((xs (i + 2)).toInt)]) (ci := 12) (st := [.int (Int32.ofInt r)]) hx hb hml hown hts hK hN hF (by unfold bM; omega) hRm1 hS hl.1 (c_X12_moves l D ca ra N σm 1 ((xs (i + 1)).toInt) ((xs (i + 2)).toInt)) hpm ⟨rfl, by omega⟩ mt_X12_moves mv_X12_moves rfl ml_RL_82 rfl ⟨Nat.le_of_ble_eq_true rfl, Nat.le_of_ble_eq_true rfl⟩ (Nat.le_of_ble_eq_true rfl) ⟨rfl, rfl⟩ ⟨Nat.le_of_ble_eq_true rfl, Nat.le_of_ble_eq_true rfl⟩ (by decide +kernel) (by simp only [List.map_cons, List.map_nil, List.reverse_cons, List.reverse_nil, List.nil_append, List.cons_append, List.append_nil, cv, Int32.ofInt_toInt]) (fun H2 locs2 hRm2 hq2 hS2 => ?_)
  have z2 : H2.size = H1.size := by rw [hRm2.2.1, hRm1.2.1, n2, n4]
  have hRx2 := hRx1.other z2 hq2 (fun k a1 a2 => by unfold bX bM; show ¬ (_ ∧ _ < _ + 52); omega)
  show W p l e room_1 s m #[Value.ref b] below meth c H2 locs2 CSL SSL (lw_Z below #[Value.ref b] s) (F0 m 675 ls [.int (Int32.ofInt r2), .int (Int32.ofInt r)])
  refine lv_icmp_eq (pc := 675) (off := 790) (tgt := 1465) (x := Int32.ofInt r) (y := Int32.ofInt r2) hx hb (by decide +kernel) (by decide) (fun _ => ?_) (fun hc => absurd (i_eq.mpr hw) hc)
  exact kend τx τm H2 locs2 ls hI2 hRx2 hRm2 hS2 hl
set_option maxRecDepth 100000 in
set_option maxHeartbeats 4000000 in
theorem lc_16 {p : Program} {l : Launch} {e : Env} {s : State} {m : MethodId} {below : List Frame} {meth : Method} {c : Code} {b L : Nat} {xs : Nat → Int32} {D : va_G} {ca : Nat → ClassId} {ra : Nat → Nat} {Inv : St → St → Prop} (N : Nat) (K : LK p l e s m below meth c b L xs D ca ra) (hn : ∀ σx σm : St, Inv σx σm → σx.1 = 113 ∧ σm.1 = 51) (sim : ∀ σx σm : St, Inv σx σm → ∀ (a0 : Int) (a1 : Int), wr a0 = a0 → wr a1 = a1 → OK2 Inv (f_X11_cost N σx 1 a0 a1) (f_X12_cost N σm 1 a0 a1)) {i : Nat} (hi : i + 7 ≤ L) (kend : GO p l e s m below meth c b D ca Inv 1465 i) : GO p l e s m below meth c b D ca Inv 680 i := by
  obtain ⟨⟨hx, hb, hml, hown⟩, hts, ⟨hK, hN, hF⟩, hX, hbl, hL⟩ := K
  intro σx σm H locs ls hI hRx hRm hS hl
  obtain ⟨τx, τm, r, r2, hpx, hpm, hw, hI2⟩ := sim σx σm hI ((xs (i + 1)).toInt) ((xs (i + 2)).toInt) (wr_ti _) (wr_ti _)
  obtain ⟨n1, n2⟩ := hn σx σm hI
  obtain ⟨n3, n4⟩ := hn τx τm hI2
  refine lv_aload_n (k := 1) (i := 1) hx hb (by decide +kernel) rfl (lv_at hl 1 rfl) ?_
  refine ly_arg (pc := 681) hx hb hX hbl hS hl 1 (pc2 := 684) (pc3 := 686) (lv_at hl 0 rfl) (lv_at hl 3 rfl) (by omega) hL (by decide +kernel) (by decide +kernel) (Or.inl ⟨rfl, (by decide +kernel)⟩) (by decide +kernel) (by decide +kernel) rfl ?_
  refine ly_arg (pc := 686) hx hb hX hbl hS hl 2 (pc2 := 689) (pc3 := 691) (lv_at hl 0 rfl) (lv_at hl 3 rfl) (by omega) hL (by decide +kernel) (by decide +kernel) (Or.inl ⟨rfl, (by decide +kernel)⟩) (by decide +kernel) (by decide +kernel) rfl ?_
  refine ly_call (pc := 691) (As := [ai ((xs (i + 1)).toInt), ai ((xs (i + 2)).toInt)]) (ci := 11) (st := []) hx hb hml hown hts hK hN hF (by unfold bX; omega) hRx hS hl.1 (c_X11_cost l D ca ra N σx 1 ((xs (i + 1)).toInt) ((xs (i + 2)).toInt)) hpx ⟨rfl, by omega⟩ mt_X11_cost mv_X11_cost rfl ml_RL_83 rfl ⟨Nat.le_of_ble_eq_true rfl, Nat.le_of_ble_eq_true rfl⟩ (Nat.le_of_ble_eq_true rfl) ⟨rfl, rfl⟩ ⟨Nat.le_of_ble_eq_true rfl, Nat.le_of_ble_eq_true rfl⟩ (by decide +kernel) (by simp only [List.map_cons, List.map_nil, List.reverse_cons, List.reverse_nil, List.nil_append, List.cons_append, List.append_nil, cv, Int32.ofInt_toInt]) (fun H1 locs1 hRx1 hq1 hS1 => ?_)
  have z1 : H1.size = H.size := by rw [hRx1.2.1, hRx.2.1, n1, n3]
  have hRm1 := hRm.other z1 hq1 (fun k a1 a2 => by unfold bX bM; show ¬ (_ ∧ _ < _ + 114); omega)
  clear hS hRm
  have hS := hS1
  show W p l e room_1 s m #[Value.ref b] below meth c H1 locs1 CSL SSL (lw_Z below #[Value.ref b] s) (F0 m 694 ls [.int (Int32.ofInt r)])
  refine lv_aload_n (k := 2) (i := 2) hx hb (by decide +kernel) rfl (lv_at hl 2 rfl) ?_
  refine ly_arg (pc := 695) hx hb hX hbl hS hl 1 (pc2 := 698) (pc3 := 700) (lv_at hl 0 rfl) (lv_at hl 3 rfl) (by omega) hL (by decide +kernel) (by decide +kernel) (Or.inl ⟨rfl, (by decide +kernel)⟩) (by decide +kernel) (by decide +kernel) rfl ?_
  refine ly_arg (pc := 700) hx hb hX hbl hS hl 2 (pc2 := 703) (pc3 := 705) (lv_at hl 0 rfl) (lv_at hl 3 rfl) (by omega) hL (by decide +kernel) (by decide +kernel) (Or.inl ⟨rfl, (by decide +kernel)⟩) (by decide +kernel) (by decide +kernel) rfl ?_
  refine ly_call (pc := 705) (As := [ai ((xs (i + 1)).toInt), ai ((xs (i + 2)).toInt)]) (ci := 12) (st := [.int (Int32.ofInt r)]) hx hb hml hown hts hK hN hF (by unfold bM; omega) hRm1 hS hl.1 (c_X12_cost l D ca ra N σm 1 ((xs (i + 1)).toInt) ((xs (i + 2)).toInt)) hpm ⟨rfl, by omega⟩ mt_X12_cost mv_X12_cost rfl ml_RL_86 rfl ⟨Nat.le_of_ble_eq_true rfl, Nat.le_of_ble_eq_true rfl⟩ (Nat.le_of_ble_eq_true rfl) ⟨rfl, rfl⟩ ⟨Nat.le_of_ble_eq_true rfl, Nat.le_of_ble_eq_true rfl⟩ (by decide +kernel) (by simp only [List.map_cons, List.map_nil, List.reverse_cons, List.reverse_nil, List.nil_append, List.cons_append, List.append_nil, cv, Int32.ofInt_toInt]) (fun H2 locs2 hRm2 hq2 hS2 => ?_)
  have z2 : H2.size = H1.size := by rw [hRm2.2.1, hRm1.2.1, n2, n4]
  have hRx2 := hRx1.other z2 hq2 (fun k a1 a2 => by unfold bX bM; show ¬ (_ ∧ _ < _ + 52); omega)
  show W p l e room_1 s m #[Value.ref b] below meth c H2 locs2 CSL SSL (lw_Z below #[Value.ref b] s) (F0 m 708 ls [.int (Int32.ofInt r2), .int (Int32.ofInt r)])
  refine lv_icmp_eq (pc := 708) (off := 757) (tgt := 1465) (x := Int32.ofInt r) (y := Int32.ofInt r2) hx hb (by decide +kernel) (by decide) (fun _ => ?_) (fun hc => absurd (i_eq.mpr hw) hc)
  exact kend τx τm H2 locs2 ls hI2 hRx2 hRm2 hS2 hl
set_option maxRecDepth 100000 in
set_option maxHeartbeats 4000000 in
theorem lc_17 {p : Program} {l : Launch} {e : Env} {s : State} {m : MethodId} {below : List Frame} {meth : Method} {c : Code} {b L : Nat} {xs : Nat → Int32} {D : va_G} {ca : Nat → ClassId} {ra : Nat → Nat} {Inv : St → St → Prop} (N : Nat) (K : LK p l e s m below meth c b L xs D ca ra) (hn : ∀ σx σm : St, Inv σx σm → σx.1 = 113 ∧ σm.1 = 51) (sim : ∀ σx σm : St, Inv σx σm → ∀ (a0 : Int) (a1 : Int) (a2 : Int), wr a0 = a0 → wr a1 = a1 → wr a2 = a2 → OK2 Inv (f_X11_pays N σx 1 a0 a1 a2) (f_X12_pays N σm 1 a0 a1 a2)) {i : Nat} (hi : i + 7 ≤ L) (kend : GO p l e s m below meth c b D ca Inv 1465 i) : GO p l e s m below meth c b D ca Inv 713 i := by
  obtain ⟨⟨hx, hb, hml, hown⟩, hts, ⟨hK, hN, hF⟩, hX, hbl, hL⟩ := K
  intro σx σm H locs ls hI hRx hRm hS hl
  obtain ⟨τx, τm, r, r2, hpx, hpm, hw, hI2⟩ := sim σx σm hI ((xs (i + 1)).toInt) ((xs (i + 2)).toInt) ((xs (i + 3)).toInt) (wr_ti _) (wr_ti _) (wr_ti _)
  obtain ⟨n1, n2⟩ := hn σx σm hI
  obtain ⟨n3, n4⟩ := hn τx τm hI2
  refine lv_aload_n (k := 1) (i := 1) hx hb (by decide +kernel) rfl (lv_at hl 1 rfl) ?_
  refine ly_arg (pc := 714) hx hb hX hbl hS hl 1 (pc2 := 717) (pc3 := 719) (lv_at hl 0 rfl) (lv_at hl 3 rfl) (by omega) hL (by decide +kernel) (by decide +kernel) (Or.inl ⟨rfl, (by decide +kernel)⟩) (by decide +kernel) (by decide +kernel) rfl ?_
  refine ly_arg (pc := 719) hx hb hX hbl hS hl 2 (pc2 := 722) (pc3 := 724) (lv_at hl 0 rfl) (lv_at hl 3 rfl) (by omega) hL (by decide +kernel) (by decide +kernel) (Or.inl ⟨rfl, (by decide +kernel)⟩) (by decide +kernel) (by decide +kernel) rfl ?_
  refine ly_arg (pc := 724) hx hb hX hbl hS hl 3 (pc2 := 727) (pc3 := 729) (lv_at hl 0 rfl) (lv_at hl 3 rfl) (by omega) hL (by decide +kernel) (by decide +kernel) (Or.inl ⟨rfl, (by decide +kernel)⟩) (by decide +kernel) (by decide +kernel) rfl ?_
  refine ly_call (pc := 729) (As := [ai ((xs (i + 1)).toInt), ai ((xs (i + 2)).toInt), ai ((xs (i + 3)).toInt)]) (ci := 11) (st := []) hx hb hml hown hts hK hN hF (by unfold bX; omega) hRx hS hl.1 (c_X11_pays l D ca ra N σx 1 ((xs (i + 1)).toInt) ((xs (i + 2)).toInt) ((xs (i + 3)).toInt)) hpx ⟨rfl, by omega⟩ mt_X11_pays mv_X11_pays rfl ml_RL_87 rfl ⟨Nat.le_of_ble_eq_true rfl, Nat.le_of_ble_eq_true rfl⟩ (Nat.le_of_ble_eq_true rfl) ⟨rfl, rfl⟩ ⟨Nat.le_of_ble_eq_true rfl, Nat.le_of_ble_eq_true rfl⟩ (by decide +kernel) (by simp only [List.map_cons, List.map_nil, List.reverse_cons, List.reverse_nil, List.nil_append, List.cons_append, List.append_nil, cv, Int32.ofInt_toInt]) (fun H1 locs1 hRx1 hq1 hS1 => ?_)
  have z1 : H1.size = H.size := by rw [hRx1.2.1, hRx.2.1, n1, n3]
  have hRm1 := hRm.other z1 hq1 (fun k a1 a2 => by unfold bX bM; show ¬ (_ ∧ _ < _ + 114); omega)
  clear hS hRm
  have hS := hS1
  show W p l e room_1 s m #[Value.ref b] below meth c H1 locs1 CSL SSL (lw_Z below #[Value.ref b] s) (F0 m 732 ls [.int (Int32.ofInt r)])
  refine lv_aload_n (k := 2) (i := 2) hx hb (by decide +kernel) rfl (lv_at hl 2 rfl) ?_
  refine ly_arg (pc := 733) hx hb hX hbl hS hl 1 (pc2 := 736) (pc3 := 738) (lv_at hl 0 rfl) (lv_at hl 3 rfl) (by omega) hL (by decide +kernel) (by decide +kernel) (Or.inl ⟨rfl, (by decide +kernel)⟩) (by decide +kernel) (by decide +kernel) rfl ?_
  refine ly_arg (pc := 738) hx hb hX hbl hS hl 2 (pc2 := 741) (pc3 := 743) (lv_at hl 0 rfl) (lv_at hl 3 rfl) (by omega) hL (by decide +kernel) (by decide +kernel) (Or.inl ⟨rfl, (by decide +kernel)⟩) (by decide +kernel) (by decide +kernel) rfl ?_
  refine ly_arg (pc := 743) hx hb hX hbl hS hl 3 (pc2 := 746) (pc3 := 748) (lv_at hl 0 rfl) (lv_at hl 3 rfl) (by omega) hL (by decide +kernel) (by decide +kernel) (Or.inl ⟨rfl, (by decide +kernel)⟩) (by decide +kernel) (by decide +kernel) rfl ?_
  refine ly_call (pc := 748) (As := [ai ((xs (i + 1)).toInt), ai ((xs (i + 2)).toInt), ai ((xs (i + 3)).toInt)]) (ci := 12) (st := [.int (Int32.ofInt r)]) hx hb hml hown hts hK hN hF (by unfold bM; omega) hRm1 hS hl.1 (c_X12_pays l D ca ra N σm 1 ((xs (i + 1)).toInt) ((xs (i + 2)).toInt) ((xs (i + 3)).toInt)) hpm ⟨rfl, by omega⟩ mt_X12_pays mv_X12_pays rfl ml_RL_91 rfl ⟨Nat.le_of_ble_eq_true rfl, Nat.le_of_ble_eq_true rfl⟩ (Nat.le_of_ble_eq_true rfl) ⟨rfl, rfl⟩ ⟨Nat.le_of_ble_eq_true rfl, Nat.le_of_ble_eq_true rfl⟩ (by decide +kernel) (by simp only [List.map_cons, List.map_nil, List.reverse_cons, List.reverse_nil, List.nil_append, List.cons_append, List.append_nil, cv, Int32.ofInt_toInt]) (fun H2 locs2 hRm2 hq2 hS2 => ?_)
  have z2 : H2.size = H1.size := by rw [hRm2.2.1, hRm1.2.1, n2, n4]
  have hRx2 := hRx1.other z2 hq2 (fun k a1 a2 => by unfold bX bM; show ¬ (_ ∧ _ < _ + 52); omega)
  show W p l e room_1 s m #[Value.ref b] below meth c H2 locs2 CSL SSL (lw_Z below #[Value.ref b] s) (F0 m 751 ls [.int (Int32.ofInt r2), .int (Int32.ofInt r)])
  refine lv_icmp_eq (pc := 751) (off := 714) (tgt := 1465) (x := Int32.ofInt r) (y := Int32.ofInt r2) hx hb (by decide +kernel) (by decide) (fun _ => ?_) (fun hc => absurd (i_eq.mpr hw) hc)
  exact kend τx τm H2 locs2 ls hI2 hRx2 hRm2 hS2 hl
set_option maxRecDepth 100000 in
set_option maxHeartbeats 4000000 in
theorem lc_18 {p : Program} {l : Launch} {e : Env} {s : State} {m : MethodId} {below : List Frame} {meth : Method} {c : Code} {b L : Nat} {xs : Nat → Int32} {D : va_G} {ca : Nat → ClassId} {ra : Nat → Nat} {Inv : St → St → Prop} (N : Nat) (K : LK p l e s m below meth c b L xs D ca ra) (hn : ∀ σx σm : St, Inv σx σm → σx.1 = 113 ∧ σm.1 = 51) (sim : ∀ σx σm : St, Inv σx σm → ∀ (a0 : Int) (a1 : Int), wr a0 = a0 → wr a1 = a1 → OK2 Inv (f_X11_over N σx 1 a0 a1) (f_X12_over N σm 1 a0 a1)) {i : Nat} (hi : i + 7 ≤ L) (kend : GO p l e s m below meth c b D ca Inv 1465 i) : GO p l e s m below meth c b D ca Inv 756 i := by
  obtain ⟨⟨hx, hb, hml, hown⟩, hts, ⟨hK, hN, hF⟩, hX, hbl, hL⟩ := K
  intro σx σm H locs ls hI hRx hRm hS hl
  obtain ⟨τx, τm, r, r2, hpx, hpm, hw, hI2⟩ := sim σx σm hI ((xs (i + 1)).toInt) ((xs (i + 2)).toInt) (wr_ti _) (wr_ti _)
  obtain ⟨n1, n2⟩ := hn σx σm hI
  obtain ⟨n3, n4⟩ := hn τx τm hI2
  refine lv_aload_n (k := 1) (i := 1) hx hb (by decide +kernel) rfl (lv_at hl 1 rfl) ?_
  refine ly_arg (pc := 757) hx hb hX hbl hS hl 1 (pc2 := 760) (pc3 := 762) (lv_at hl 0 rfl) (lv_at hl 3 rfl) (by omega) hL (by decide +kernel) (by decide +kernel) (Or.inl ⟨rfl, (by decide +kernel)⟩) (by decide +kernel) (by decide +kernel) rfl ?_
  refine ly_arg (pc := 762) hx hb hX hbl hS hl 2 (pc2 := 765) (pc3 := 767) (lv_at hl 0 rfl) (lv_at hl 3 rfl) (by omega) hL (by decide +kernel) (by decide +kernel) (Or.inl ⟨rfl, (by decide +kernel)⟩) (by decide +kernel) (by decide +kernel) rfl ?_
  refine ly_call (pc := 767) (As := [ai ((xs (i + 1)).toInt), ai ((xs (i + 2)).toInt)]) (ci := 11) (st := []) hx hb hml hown hts hK hN hF (by unfold bX; omega) hRx hS hl.1 (c_X11_over l D ca ra N σx 1 ((xs (i + 1)).toInt) ((xs (i + 2)).toInt)) hpx ⟨rfl, by omega⟩ mt_X11_over mv_X11_over rfl ml_RL_92 rfl ⟨Nat.le_of_ble_eq_true rfl, Nat.le_of_ble_eq_true rfl⟩ (Nat.le_of_ble_eq_true rfl) ⟨rfl, rfl⟩ ⟨Nat.le_of_ble_eq_true rfl, Nat.le_of_ble_eq_true rfl⟩ (by decide +kernel) (by simp only [List.map_cons, List.map_nil, List.reverse_cons, List.reverse_nil, List.nil_append, List.cons_append, List.append_nil, cv, Int32.ofInt_toInt]) (fun H1 locs1 hRx1 hq1 hS1 => ?_)
  have z1 : H1.size = H.size := by rw [hRx1.2.1, hRx.2.1, n1, n3]
  have hRm1 := hRm.other z1 hq1 (fun k a1 a2 => by unfold bX bM; show ¬ (_ ∧ _ < _ + 114); omega)
  clear hS hRm
  have hS := hS1
  show W p l e room_1 s m #[Value.ref b] below meth c H1 locs1 CSL SSL (lw_Z below #[Value.ref b] s) (F0 m 770 ls [.int (Int32.ofInt r)])
  refine lv_aload_n (k := 2) (i := 2) hx hb (by decide +kernel) rfl (lv_at hl 2 rfl) ?_
  refine ly_arg (pc := 771) hx hb hX hbl hS hl 1 (pc2 := 774) (pc3 := 776) (lv_at hl 0 rfl) (lv_at hl 3 rfl) (by omega) hL (by decide +kernel) (by decide +kernel) (Or.inl ⟨rfl, (by decide +kernel)⟩) (by decide +kernel) (by decide +kernel) rfl ?_
  refine ly_arg (pc := 776) hx hb hX hbl hS hl 2 (pc2 := 779) (pc3 := 781) (lv_at hl 0 rfl) (lv_at hl 3 rfl) (by omega) hL (by decide +kernel) (by decide +kernel) (Or.inl ⟨rfl, (by decide +kernel)⟩) (by decide +kernel) (by decide +kernel) rfl ?_
  refine ly_call (pc := 781) (As := [ai ((xs (i + 1)).toInt), ai ((xs (i + 2)).toInt)]) (ci := 12) (st := [.int (Int32.ofInt r)]) hx hb hml hown hts hK hN hF (by unfold bM; omega) hRm1 hS hl.1 (c_X12_over l D ca ra N σm 1 ((xs (i + 1)).toInt) ((xs (i + 2)).toInt)) hpm ⟨rfl, by omega⟩ mt_X12_over mv_X12_over rfl ml_RL_95 rfl ⟨Nat.le_of_ble_eq_true rfl, Nat.le_of_ble_eq_true rfl⟩ (Nat.le_of_ble_eq_true rfl) ⟨rfl, rfl⟩ ⟨Nat.le_of_ble_eq_true rfl, Nat.le_of_ble_eq_true rfl⟩ (by decide +kernel) (by simp only [List.map_cons, List.map_nil, List.reverse_cons, List.reverse_nil, List.nil_append, List.cons_append, List.append_nil, cv, Int32.ofInt_toInt]) (fun H2 locs2 hRm2 hq2 hS2 => ?_)
  have z2 : H2.size = H1.size := by rw [hRm2.2.1, hRm1.2.1, n2, n4]
  have hRx2 := hRx1.other z2 hq2 (fun k a1 a2 => by unfold bX bM; show ¬ (_ ∧ _ < _ + 52); omega)
  show W p l e room_1 s m #[Value.ref b] below meth c H2 locs2 CSL SSL (lw_Z below #[Value.ref b] s) (F0 m 784 ls [.int (Int32.ofInt r2), .int (Int32.ofInt r)])
  refine lv_icmp_eq (pc := 784) (off := 681) (tgt := 1465) (x := Int32.ofInt r) (y := Int32.ofInt r2) hx hb (by decide +kernel) (by decide) (fun _ => ?_) (fun hc => absurd (i_eq.mpr hw) hc)
  exact kend τx τm H2 locs2 ls hI2 hRx2 hRm2 hS2 hl
set_option maxRecDepth 100000 in
set_option maxHeartbeats 4000000 in
theorem lc_19 {p : Program} {l : Launch} {e : Env} {s : State} {m : MethodId} {below : List Frame} {meth : Method} {c : Code} {b L : Nat} {xs : Nat → Int32} {D : va_G} {ca : Nat → ClassId} {ra : Nat → Nat} {Inv : St → St → Prop} (N : Nat) (K : LK p l e s m below meth c b L xs D ca ra) (hn : ∀ σx σm : St, Inv σx σm → σx.1 = 113 ∧ σm.1 = 51) (sim : ∀ σx σm : St, Inv σx σm → ∀ (a0 : Int) (a1 : Int) (a2 : Int), wr a0 = a0 → wr a1 = a1 → wr a2 = a2 → OK2 Inv (f_X11_leave N σx 1 a0 a1 a2) (f_X12_leave N σm 1 a0 a1 a2)) {i : Nat} (hi : i + 7 ≤ L) (kend : GO p l e s m below meth c b D ca Inv 1465 i) : GO p l e s m below meth c b D ca Inv 789 i := by
  obtain ⟨⟨hx, hb, hml, hown⟩, hts, ⟨hK, hN, hF⟩, hX, hbl, hL⟩ := K
  intro σx σm H locs ls hI hRx hRm hS hl
  obtain ⟨τx, τm, r, r2, hpx, hpm, hw, hI2⟩ := sim σx σm hI ((xs (i + 1)).toInt) ((xs (i + 2)).toInt) ((xs (i + 3)).toInt) (wr_ti _) (wr_ti _) (wr_ti _)
  obtain ⟨n1, n2⟩ := hn σx σm hI
  obtain ⟨n3, n4⟩ := hn τx τm hI2
  refine lv_aload_n (k := 1) (i := 1) hx hb (by decide +kernel) rfl (lv_at hl 1 rfl) ?_
  refine ly_arg (pc := 790) hx hb hX hbl hS hl 1 (pc2 := 793) (pc3 := 795) (lv_at hl 0 rfl) (lv_at hl 3 rfl) (by omega) hL (by decide +kernel) (by decide +kernel) (Or.inl ⟨rfl, (by decide +kernel)⟩) (by decide +kernel) (by decide +kernel) rfl ?_
  refine ly_arg (pc := 795) hx hb hX hbl hS hl 2 (pc2 := 798) (pc3 := 800) (lv_at hl 0 rfl) (lv_at hl 3 rfl) (by omega) hL (by decide +kernel) (by decide +kernel) (Or.inl ⟨rfl, (by decide +kernel)⟩) (by decide +kernel) (by decide +kernel) rfl ?_
  refine ly_arg (pc := 800) hx hb hX hbl hS hl 3 (pc2 := 803) (pc3 := 805) (lv_at hl 0 rfl) (lv_at hl 3 rfl) (by omega) hL (by decide +kernel) (by decide +kernel) (Or.inl ⟨rfl, (by decide +kernel)⟩) (by decide +kernel) (by decide +kernel) rfl ?_
  refine ly_call (pc := 805) (As := [ai ((xs (i + 1)).toInt), ai ((xs (i + 2)).toInt), ai ((xs (i + 3)).toInt)]) (ci := 11) (st := []) hx hb hml hown hts hK hN hF (by unfold bX; omega) hRx hS hl.1 (c_X11_leave l D ca ra N σx 1 ((xs (i + 1)).toInt) ((xs (i + 2)).toInt) ((xs (i + 3)).toInt)) hpx ⟨rfl, by omega⟩ mt_X11_leave mv_X11_leave rfl ml_RL_96 rfl ⟨Nat.le_of_ble_eq_true rfl, Nat.le_of_ble_eq_true rfl⟩ (Nat.le_of_ble_eq_true rfl) ⟨rfl, rfl⟩ ⟨Nat.le_of_ble_eq_true rfl, Nat.le_of_ble_eq_true rfl⟩ (by decide +kernel) (by simp only [List.map_cons, List.map_nil, List.reverse_cons, List.reverse_nil, List.nil_append, List.cons_append, List.append_nil, cv, Int32.ofInt_toInt]) (fun H1 locs1 hRx1 hq1 hS1 => ?_)
  have z1 : H1.size = H.size := by rw [hRx1.2.1, hRx.2.1, n1, n3]
  have hRm1 := hRm.other z1 hq1 (fun k a1 a2 => by unfold bX bM; show ¬ (_ ∧ _ < _ + 114); omega)
  clear hS hRm
  have hS := hS1
  show W p l e room_1 s m #[Value.ref b] below meth c H1 locs1 CSL SSL (lw_Z below #[Value.ref b] s) (F0 m 808 ls [.int (Int32.ofInt r)])
  refine lv_aload_n (k := 2) (i := 2) hx hb (by decide +kernel) rfl (lv_at hl 2 rfl) ?_
  refine ly_arg (pc := 809) hx hb hX hbl hS hl 1 (pc2 := 812) (pc3 := 814) (lv_at hl 0 rfl) (lv_at hl 3 rfl) (by omega) hL (by decide +kernel) (by decide +kernel) (Or.inl ⟨rfl, (by decide +kernel)⟩) (by decide +kernel) (by decide +kernel) rfl ?_
  refine ly_arg (pc := 814) hx hb hX hbl hS hl 2 (pc2 := 817) (pc3 := 819) (lv_at hl 0 rfl) (lv_at hl 3 rfl) (by omega) hL (by decide +kernel) (by decide +kernel) (Or.inl ⟨rfl, (by decide +kernel)⟩) (by decide +kernel) (by decide +kernel) rfl ?_
  refine ly_arg (pc := 819) hx hb hX hbl hS hl 3 (pc2 := 822) (pc3 := 824) (lv_at hl 0 rfl) (lv_at hl 3 rfl) (by omega) hL (by decide +kernel) (by decide +kernel) (Or.inl ⟨rfl, (by decide +kernel)⟩) (by decide +kernel) (by decide +kernel) rfl ?_
  refine ly_call (pc := 824) (As := [ai ((xs (i + 1)).toInt), ai ((xs (i + 2)).toInt), ai ((xs (i + 3)).toInt)]) (ci := 12) (st := [.int (Int32.ofInt r)]) hx hb hml hown hts hK hN hF (by unfold bM; omega) hRm1 hS hl.1 (c_X12_leave l D ca ra N σm 1 ((xs (i + 1)).toInt) ((xs (i + 2)).toInt) ((xs (i + 3)).toInt)) hpm ⟨rfl, by omega⟩ mt_X12_leave mv_X12_leave rfl ml_RL_99 rfl ⟨Nat.le_of_ble_eq_true rfl, Nat.le_of_ble_eq_true rfl⟩ (Nat.le_of_ble_eq_true rfl) ⟨rfl, rfl⟩ ⟨Nat.le_of_ble_eq_true rfl, Nat.le_of_ble_eq_true rfl⟩ (by decide +kernel) (by simp only [List.map_cons, List.map_nil, List.reverse_cons, List.reverse_nil, List.nil_append, List.cons_append, List.append_nil, cv, Int32.ofInt_toInt]) (fun H2 locs2 hRm2 hq2 hS2 => ?_)
  have z2 : H2.size = H1.size := by rw [hRm2.2.1, hRm1.2.1, n2, n4]
  have hRx2 := hRx1.other z2 hq2 (fun k a1 a2 => by unfold bX bM; show ¬ (_ ∧ _ < _ + 52); omega)
  show W p l e room_1 s m #[Value.ref b] below meth c H2 locs2 CSL SSL (lw_Z below #[Value.ref b] s) (F0 m 827 ls [.int (Int32.ofInt r2), .int (Int32.ofInt r)])
  refine lv_icmp_eq (pc := 827) (off := 638) (tgt := 1465) (x := Int32.ofInt r) (y := Int32.ofInt r2) hx hb (by decide +kernel) (by decide) (fun _ => ?_) (fun hc => absurd (i_eq.mpr hw) hc)
  exact kend τx τm H2 locs2 ls hI2 hRx2 hRm2 hS2 hl
set_option maxRecDepth 100000 in
set_option maxHeartbeats 4000000 in
theorem lc_20 {p : Program} {l : Launch} {e : Env} {s : State} {m : MethodId} {below : List Frame} {meth : Method} {c : Code} {b L : Nat} {xs : Nat → Int32} {D : va_G} {ca : Nat → ClassId} {ra : Nat → Nat} {Inv : St → St → Prop} (N : Nat) (K : LK p l e s m below meth c b L xs D ca ra) (hn : ∀ σx σm : St, Inv σx σm → σx.1 = 113 ∧ σm.1 = 51) (sim : ∀ σx σm : St, Inv σx σm → ∀ (a0 : Int) (a1 : Int), wr a0 = a0 → wr a1 = a1 → OK2 Inv (f_X11_bounds N σx 1 a0 a1) (f_X12_bounds N σm 1 a0 a1)) {i : Nat} (hi : i + 7 ≤ L) (kend : GO p l e s m below meth c b D ca Inv 1465 i) : GO p l e s m below meth c b D ca Inv 832 i := by
  obtain ⟨⟨hx, hb, hml, hown⟩, hts, ⟨hK, hN, hF⟩, hX, hbl, hL⟩ := K
  intro σx σm H locs ls hI hRx hRm hS hl
  obtain ⟨τx, τm, r, r2, hpx, hpm, hw, hI2⟩ := sim σx σm hI ((xs (i + 1)).toInt) ((xs (i + 2)).toInt) (wr_ti _) (wr_ti _)
  obtain ⟨n1, n2⟩ := hn σx σm hI
  obtain ⟨n3, n4⟩ := hn τx τm hI2
  refine lv_aload_n (k := 1) (i := 1) hx hb (by decide +kernel) rfl (lv_at hl 1 rfl) ?_
  refine ly_arg (pc := 833) hx hb hX hbl hS hl 1 (pc2 := 836) (pc3 := 838) (lv_at hl 0 rfl) (lv_at hl 3 rfl) (by omega) hL (by decide +kernel) (by decide +kernel) (Or.inl ⟨rfl, (by decide +kernel)⟩) (by decide +kernel) (by decide +kernel) rfl ?_
  refine ly_arg (pc := 838) hx hb hX hbl hS hl 2 (pc2 := 841) (pc3 := 843) (lv_at hl 0 rfl) (lv_at hl 3 rfl) (by omega) hL (by decide +kernel) (by decide +kernel) (Or.inl ⟨rfl, (by decide +kernel)⟩) (by decide +kernel) (by decide +kernel) rfl ?_
  refine ly_call (pc := 843) (As := [ai ((xs (i + 1)).toInt), ai ((xs (i + 2)).toInt)]) (ci := 11) (st := []) hx hb hml hown hts hK hN hF (by unfold bX; omega) hRx hS hl.1 (c_X11_bounds l D ca ra N σx 1 ((xs (i + 1)).toInt) ((xs (i + 2)).toInt)) hpx ⟨rfl, by omega⟩ mt_X11_bounds mv_X11_bounds rfl ml_RL_100 rfl ⟨Nat.le_of_ble_eq_true rfl, Nat.le_of_ble_eq_true rfl⟩ (Nat.le_of_ble_eq_true rfl) ⟨rfl, rfl⟩ ⟨Nat.le_of_ble_eq_true rfl, Nat.le_of_ble_eq_true rfl⟩ (by decide +kernel) (by simp only [List.map_cons, List.map_nil, List.reverse_cons, List.reverse_nil, List.nil_append, List.cons_append, List.append_nil, cv, Int32.ofInt_toInt]) (fun H1 locs1 hRx1 hq1 hS1 => ?_)
  have z1 : H1.size = H.size := by rw [hRx1.2.1, hRx.2.1, n1, n3]
  have hRm1 := hRm.other z1 hq1 (fun k a1 a2 => by unfold bX bM; show ¬ (_ ∧ _ < _ + 114); omega)
  clear hS hRm
  have hS := hS1
  show W p l e room_1 s m #[Value.ref b] below meth c H1 locs1 CSL SSL (lw_Z below #[Value.ref b] s) (F0 m 846 ls [.int (Int32.ofInt r)])
  refine lv_aload_n (k := 2) (i := 2) hx hb (by decide +kernel) rfl (lv_at hl 2 rfl) ?_
  refine ly_arg (pc := 847) hx hb hX hbl hS hl 1 (pc2 := 850) (pc3 := 852) (lv_at hl 0 rfl) (lv_at hl 3 rfl) (by omega) hL (by decide +kernel) (by decide +kernel) (Or.inl ⟨rfl, (by decide +kernel)⟩) (by decide +kernel) (by decide +kernel) rfl ?_
  refine ly_arg (pc := 852) hx hb hX hbl hS hl 2 (pc2 := 855) (pc3 := 857) (lv_at hl 0 rfl) (lv_at hl 3 rfl) (by omega) hL (by decide +kernel) (by decide +kernel) (Or.inl ⟨rfl, (by decide +kernel)⟩) (by decide +kernel) (by decide +kernel) rfl ?_
  refine ly_call (pc := 857) (As := [ai ((xs (i + 1)).toInt), ai ((xs (i + 2)).toInt)]) (ci := 12) (st := [.int (Int32.ofInt r)]) hx hb hml hown hts hK hN hF (by unfold bM; omega) hRm1 hS hl.1 (c_X12_bounds l D ca ra N σm 1 ((xs (i + 1)).toInt) ((xs (i + 2)).toInt)) hpm ⟨rfl, by omega⟩ mt_X12_bounds mv_X12_bounds rfl ml_RL_103 rfl ⟨Nat.le_of_ble_eq_true rfl, Nat.le_of_ble_eq_true rfl⟩ (Nat.le_of_ble_eq_true rfl) ⟨rfl, rfl⟩ ⟨Nat.le_of_ble_eq_true rfl, Nat.le_of_ble_eq_true rfl⟩ (by decide +kernel) (by simp only [List.map_cons, List.map_nil, List.reverse_cons, List.reverse_nil, List.nil_append, List.cons_append, List.append_nil, cv, Int32.ofInt_toInt]) (fun H2 locs2 hRm2 hq2 hS2 => ?_)
  have z2 : H2.size = H1.size := by rw [hRm2.2.1, hRm1.2.1, n2, n4]
  have hRx2 := hRx1.other z2 hq2 (fun k a1 a2 => by unfold bX bM; show ¬ (_ ∧ _ < _ + 52); omega)
  show W p l e room_1 s m #[Value.ref b] below meth c H2 locs2 CSL SSL (lw_Z below #[Value.ref b] s) (F0 m 860 ls [.int (Int32.ofInt r2), .int (Int32.ofInt r)])
  refine lv_icmp_eq (pc := 860) (off := 605) (tgt := 1465) (x := Int32.ofInt r) (y := Int32.ofInt r2) hx hb (by decide +kernel) (by decide) (fun _ => ?_) (fun hc => absurd (i_eq.mpr hw) hc)
  exact kend τx τm H2 locs2 ls hI2 hRx2 hRm2 hS2 hl
set_option maxRecDepth 100000 in
set_option maxHeartbeats 4000000 in
theorem lc_21 {p : Program} {l : Launch} {e : Env} {s : State} {m : MethodId} {below : List Frame} {meth : Method} {c : Code} {b L : Nat} {xs : Nat → Int32} {D : va_G} {ca : Nat → ClassId} {ra : Nat → Nat} {Inv : St → St → Prop} (N : Nat) (K : LK p l e s m below meth c b L xs D ca ra) (hn : ∀ σx σm : St, Inv σx σm → σx.1 = 113 ∧ σm.1 = 51) (sim : ∀ σx σm : St, Inv σx σm → OK2 Inv (f_X11_land N σx 1) (f_X12_land N σm 1)) {i : Nat} (hi : i + 7 ≤ L) (kend : GO p l e s m below meth c b D ca Inv 1465 i) : GO p l e s m below meth c b D ca Inv 865 i := by
  obtain ⟨⟨hx, hb, hml, hown⟩, hts, ⟨hK, hN, hF⟩, hX, hbl, hL⟩ := K
  intro σx σm H locs ls hI hRx hRm hS hl
  obtain ⟨τx, τm, r, r2, hpx, hpm, hw, hI2⟩ := sim σx σm hI
  obtain ⟨n1, n2⟩ := hn σx σm hI
  obtain ⟨n3, n4⟩ := hn τx τm hI2
  refine lv_aload_n (k := 1) (i := 1) hx hb (by decide +kernel) rfl (lv_at hl 1 rfl) ?_
  refine ly_call (pc := 866) (As := []) (ci := 11) (st := []) hx hb hml hown hts hK hN hF (by unfold bX; omega) hRx hS hl.1 (c_X11_land l D ca ra N σx 1) hpx ⟨rfl, by omega⟩ mt_X11_land mv_X11_land rfl ml_RL_104 rfl ⟨Nat.le_of_ble_eq_true rfl, Nat.le_of_ble_eq_true rfl⟩ (Nat.le_of_ble_eq_true rfl) ⟨rfl, rfl⟩ ⟨Nat.le_of_ble_eq_true rfl, Nat.le_of_ble_eq_true rfl⟩ (by decide +kernel) (by simp only [List.map_cons, List.map_nil, List.reverse_cons, List.reverse_nil, List.nil_append, List.cons_append, List.append_nil, cv, Int32.ofInt_toInt]) (fun H1 locs1 hRx1 hq1 hS1 => ?_)
  have z1 : H1.size = H.size := by rw [hRx1.2.1, hRx.2.1, n1, n3]
  have hRm1 := hRm.other z1 hq1 (fun k a1 a2 => by unfold bX bM; show ¬ (_ ∧ _ < _ + 114); omega)
  clear hS hRm
  have hS := hS1
  show W p l e room_1 s m #[Value.ref b] below meth c H1 locs1 CSL SSL (lw_Z below #[Value.ref b] s) (F0 m 869 ls [.int (Int32.ofInt r)])
  refine lv_aload_n (k := 2) (i := 2) hx hb (by decide +kernel) rfl (lv_at hl 2 rfl) ?_
  refine ly_call (pc := 870) (As := []) (ci := 12) (st := [.int (Int32.ofInt r)]) hx hb hml hown hts hK hN hF (by unfold bM; omega) hRm1 hS hl.1 (c_X12_land l D ca ra N σm 1) hpm ⟨rfl, by omega⟩ mt_X12_land mv_X12_land rfl ml_RL_107 rfl ⟨Nat.le_of_ble_eq_true rfl, Nat.le_of_ble_eq_true rfl⟩ (Nat.le_of_ble_eq_true rfl) ⟨rfl, rfl⟩ ⟨Nat.le_of_ble_eq_true rfl, Nat.le_of_ble_eq_true rfl⟩ (by decide +kernel) (by simp only [List.map_cons, List.map_nil, List.reverse_cons, List.reverse_nil, List.nil_append, List.cons_append, List.append_nil, cv, Int32.ofInt_toInt]) (fun H2 locs2 hRm2 hq2 hS2 => ?_)
  have z2 : H2.size = H1.size := by rw [hRm2.2.1, hRm1.2.1, n2, n4]
  have hRx2 := hRx1.other z2 hq2 (fun k a1 a2 => by unfold bX bM; show ¬ (_ ∧ _ < _ + 52); omega)
  show W p l e room_1 s m #[Value.ref b] below meth c H2 locs2 CSL SSL (lw_Z below #[Value.ref b] s) (F0 m 873 ls [.int (Int32.ofInt r2), .int (Int32.ofInt r)])
  refine lv_icmp_eq (pc := 873) (off := 592) (tgt := 1465) (x := Int32.ofInt r) (y := Int32.ofInt r2) hx hb (by decide +kernel) (by decide) (fun _ => ?_) (fun hc => absurd (i_eq.mpr hw) hc)
  exact kend τx τm H2 locs2 ls hI2 hRx2 hRm2 hS2 hl
set_option maxRecDepth 100000 in
set_option maxHeartbeats 4000000 in
theorem lc_22 {p : Program} {l : Launch} {e : Env} {s : State} {m : MethodId} {below : List Frame} {meth : Method} {c : Code} {b L : Nat} {xs : Nat → Int32} {D : va_G} {ca : Nat → ClassId} {ra : Nat → Nat} {Inv : St → St → Prop} (N : Nat) (K : LK p l e s m below meth c b L xs D ca ra) (hn : ∀ σx σm : St, Inv σx σm → σx.1 = 113 ∧ σm.1 = 51) (sim : ∀ σx σm : St, Inv σx σm → ∀ (a0 : Int), wr a0 = a0 → OK2 Inv (f_X11_pump N σx 1 a0) (f_X12_pump N σm 1 a0)) {i : Nat} (hi : i + 7 ≤ L) (kend : GO p l e s m below meth c b D ca Inv 1465 i) : GO p l e s m below meth c b D ca Inv 878 i := by
  obtain ⟨⟨hx, hb, hml, hown⟩, hts, ⟨hK, hN, hF⟩, hX, hbl, hL⟩ := K
  intro σx σm H locs ls hI hRx hRm hS hl
  obtain ⟨τx, τm, r, r2, hpx, hpm, hw, hI2⟩ := sim σx σm hI ((xs (i + 1)).toInt) (wr_ti _)
  obtain ⟨n1, n2⟩ := hn σx σm hI
  obtain ⟨n3, n4⟩ := hn τx τm hI2
  refine lv_aload_n (k := 1) (i := 1) hx hb (by decide +kernel) rfl (lv_at hl 1 rfl) ?_
  refine ly_arg (pc := 879) hx hb hX hbl hS hl 1 (pc2 := 882) (pc3 := 884) (lv_at hl 0 rfl) (lv_at hl 3 rfl) (by omega) hL (by decide +kernel) (by decide +kernel) (Or.inl ⟨rfl, (by decide +kernel)⟩) (by decide +kernel) (by decide +kernel) rfl ?_
  refine ly_call (pc := 884) (As := [ai ((xs (i + 1)).toInt)]) (ci := 11) (st := []) hx hb hml hown hts hK hN hF (by unfold bX; omega) hRx hS hl.1 (c_X11_pump l D ca ra N σx 1 ((xs (i + 1)).toInt)) hpx ⟨rfl, by omega⟩ mt_X11_pump mv_X11_pump rfl ml_RL_108 rfl ⟨Nat.le_of_ble_eq_true rfl, Nat.le_of_ble_eq_true rfl⟩ (Nat.le_of_ble_eq_true rfl) ⟨rfl, rfl⟩ ⟨Nat.le_of_ble_eq_true rfl, Nat.le_of_ble_eq_true rfl⟩ (by decide +kernel) (by simp only [List.map_cons, List.map_nil, List.reverse_cons, List.reverse_nil, List.nil_append, List.cons_append, List.append_nil, cv, Int32.ofInt_toInt]) (fun H1 locs1 hRx1 hq1 hS1 => ?_)
  have z1 : H1.size = H.size := by rw [hRx1.2.1, hRx.2.1, n1, n3]
  have hRm1 := hRm.other z1 hq1 (fun k a1 a2 => by unfold bX bM; show ¬ (_ ∧ _ < _ + 114); omega)
  clear hS hRm
  have hS := hS1
  show W p l e room_1 s m #[Value.ref b] below meth c H1 locs1 CSL SSL (lw_Z below #[Value.ref b] s) (F0 m 887 ls [.int (Int32.ofInt r)])
  refine lv_aload_n (k := 2) (i := 2) hx hb (by decide +kernel) rfl (lv_at hl 2 rfl) ?_
  refine ly_arg (pc := 888) hx hb hX hbl hS hl 1 (pc2 := 891) (pc3 := 893) (lv_at hl 0 rfl) (lv_at hl 3 rfl) (by omega) hL (by decide +kernel) (by decide +kernel) (Or.inl ⟨rfl, (by decide +kernel)⟩) (by decide +kernel) (by decide +kernel) rfl ?_
  refine ly_call (pc := 893) (As := [ai ((xs (i + 1)).toInt)]) (ci := 12) (st := [.int (Int32.ofInt r)]) hx hb hml hown hts hK hN hF (by unfold bM; omega) hRm1 hS hl.1 (c_X12_pump l D ca ra N σm 1 ((xs (i + 1)).toInt)) hpm ⟨rfl, by omega⟩ mt_X12_pump mv_X12_pump rfl ml_RL_111 rfl ⟨Nat.le_of_ble_eq_true rfl, Nat.le_of_ble_eq_true rfl⟩ (Nat.le_of_ble_eq_true rfl) ⟨rfl, rfl⟩ ⟨Nat.le_of_ble_eq_true rfl, Nat.le_of_ble_eq_true rfl⟩ (by decide +kernel) (by simp only [List.map_cons, List.map_nil, List.reverse_cons, List.reverse_nil, List.nil_append, List.cons_append, List.append_nil, cv, Int32.ofInt_toInt]) (fun H2 locs2 hRm2 hq2 hS2 => ?_)
  have z2 : H2.size = H1.size := by rw [hRm2.2.1, hRm1.2.1, n2, n4]
  have hRx2 := hRx1.other z2 hq2 (fun k a1 a2 => by unfold bX bM; show ¬ (_ ∧ _ < _ + 52); omega)
  show W p l e room_1 s m #[Value.ref b] below meth c H2 locs2 CSL SSL (lw_Z below #[Value.ref b] s) (F0 m 896 ls [.int (Int32.ofInt r2), .int (Int32.ofInt r)])
  refine lv_icmp_eq (pc := 896) (off := 569) (tgt := 1465) (x := Int32.ofInt r) (y := Int32.ofInt r2) hx hb (by decide +kernel) (by decide) (fun _ => ?_) (fun hc => absurd (i_eq.mpr hw) hc)
  exact kend τx τm H2 locs2 ls hI2 hRx2 hRm2 hS2 hl
set_option maxRecDepth 100000 in
set_option maxHeartbeats 4000000 in
theorem lc_23 {p : Program} {l : Launch} {e : Env} {s : State} {m : MethodId} {below : List Frame} {meth : Method} {c : Code} {b L : Nat} {xs : Nat → Int32} {D : va_G} {ca : Nat → ClassId} {ra : Nat → Nat} {Inv : St → St → Prop} (N : Nat) (K : LK p l e s m below meth c b L xs D ca ra) (hn : ∀ σx σm : St, Inv σx σm → σx.1 = 113 ∧ σm.1 = 51) (sim : ∀ σx σm : St, Inv σx σm → ∀ (a0 : Int) (a1 : Int) (a2 : Int), wr a0 = a0 → wr a1 = a1 → wr a2 = a2 → OK2 Inv (f_X11_plan N σx 1 a0 a1 a2) (f_X12_plan N σm 1 a0 a1 a2)) {i : Nat} (hi : i + 7 ≤ L) (kend : GO p l e s m below meth c b D ca Inv 1465 i) : GO p l e s m below meth c b D ca Inv 901 i := by
  obtain ⟨⟨hx, hb, hml, hown⟩, hts, ⟨hK, hN, hF⟩, hX, hbl, hL⟩ := K
  intro σx σm H locs ls hI hRx hRm hS hl
  obtain ⟨τx, τm, r, r2, hpx, hpm, hw, hI2⟩ := sim σx σm hI ((xs (i + 1)).toInt) ((xs (i + 2)).toInt) ((xs (i + 3)).toInt) (wr_ti _) (wr_ti _) (wr_ti _)
  obtain ⟨n1, n2⟩ := hn σx σm hI
  obtain ⟨n3, n4⟩ := hn τx τm hI2
  refine lv_aload_n (k := 1) (i := 1) hx hb (by decide +kernel) rfl (lv_at hl 1 rfl) ?_
  refine ly_arg (pc := 902) hx hb hX hbl hS hl 1 (pc2 := 905) (pc3 := 907) (lv_at hl 0 rfl) (lv_at hl 3 rfl) (by omega) hL (by decide +kernel) (by decide +kernel) (Or.inl ⟨rfl, (by decide +kernel)⟩) (by decide +kernel) (by decide +kernel) rfl ?_
  refine ly_arg (pc := 907) hx hb hX hbl hS hl 2 (pc2 := 910) (pc3 := 912) (lv_at hl 0 rfl) (lv_at hl 3 rfl) (by omega) hL (by decide +kernel) (by decide +kernel) (Or.inl ⟨rfl, (by decide +kernel)⟩) (by decide +kernel) (by decide +kernel) rfl ?_
  refine ly_arg (pc := 912) hx hb hX hbl hS hl 3 (pc2 := 915) (pc3 := 917) (lv_at hl 0 rfl) (lv_at hl 3 rfl) (by omega) hL (by decide +kernel) (by decide +kernel) (Or.inl ⟨rfl, (by decide +kernel)⟩) (by decide +kernel) (by decide +kernel) rfl ?_
  refine ly_call (pc := 917) (As := [ai ((xs (i + 1)).toInt), ai ((xs (i + 2)).toInt), ai ((xs (i + 3)).toInt)]) (ci := 11) (st := []) hx hb hml hown hts hK hN hF (by unfold bX; omega) hRx hS hl.1 (c_X11_plan l D ca ra N σx 1 ((xs (i + 1)).toInt) ((xs (i + 2)).toInt) ((xs (i + 3)).toInt)) hpx ⟨rfl, by omega⟩ mt_X11_plan mv_X11_plan rfl ml_RL_112 rfl ⟨Nat.le_of_ble_eq_true rfl, Nat.le_of_ble_eq_true rfl⟩ (Nat.le_of_ble_eq_true rfl) ⟨rfl, rfl⟩ ⟨Nat.le_of_ble_eq_true rfl, Nat.le_of_ble_eq_true rfl⟩ (by decide +kernel) (by simp only [List.map_cons, List.map_nil, List.reverse_cons, List.reverse_nil, List.nil_append, List.cons_append, List.append_nil, cv, Int32.ofInt_toInt]) (fun H1 locs1 hRx1 hq1 hS1 => ?_)
  have z1 : H1.size = H.size := by rw [hRx1.2.1, hRx.2.1, n1, n3]
  have hRm1 := hRm.other z1 hq1 (fun k a1 a2 => by unfold bX bM; show ¬ (_ ∧ _ < _ + 114); omega)
  clear hS hRm
  have hS := hS1
  show W p l e room_1 s m #[Value.ref b] below meth c H1 locs1 CSL SSL (lw_Z below #[Value.ref b] s) (F0 m 920 ls [.int (Int32.ofInt r)])
  refine lv_aload_n (k := 2) (i := 2) hx hb (by decide +kernel) rfl (lv_at hl 2 rfl) ?_
  refine ly_arg (pc := 921) hx hb hX hbl hS hl 1 (pc2 := 924) (pc3 := 926) (lv_at hl 0 rfl) (lv_at hl 3 rfl) (by omega) hL (by decide +kernel) (by decide +kernel) (Or.inl ⟨rfl, (by decide +kernel)⟩) (by decide +kernel) (by decide +kernel) rfl ?_
  refine ly_arg (pc := 926) hx hb hX hbl hS hl 2 (pc2 := 929) (pc3 := 931) (lv_at hl 0 rfl) (lv_at hl 3 rfl) (by omega) hL (by decide +kernel) (by decide +kernel) (Or.inl ⟨rfl, (by decide +kernel)⟩) (by decide +kernel) (by decide +kernel) rfl ?_
  refine ly_arg (pc := 931) hx hb hX hbl hS hl 3 (pc2 := 934) (pc3 := 936) (lv_at hl 0 rfl) (lv_at hl 3 rfl) (by omega) hL (by decide +kernel) (by decide +kernel) (Or.inl ⟨rfl, (by decide +kernel)⟩) (by decide +kernel) (by decide +kernel) rfl ?_
  refine ly_call (pc := 936) (As := [ai ((xs (i + 1)).toInt), ai ((xs (i + 2)).toInt), ai ((xs (i + 3)).toInt)]) (ci := 12) (st := [.int (Int32.ofInt r)]) hx hb hml hown hts hK hN hF (by unfold bM; omega) hRm1 hS hl.1 (c_X12_plan l D ca ra N σm 1 ((xs (i + 1)).toInt) ((xs (i + 2)).toInt) ((xs (i + 3)).toInt)) hpm ⟨rfl, by omega⟩ mt_X12_plan mv_X12_plan rfl ml_RL_115 rfl ⟨Nat.le_of_ble_eq_true rfl, Nat.le_of_ble_eq_true rfl⟩ (Nat.le_of_ble_eq_true rfl) ⟨rfl, rfl⟩ ⟨Nat.le_of_ble_eq_true rfl, Nat.le_of_ble_eq_true rfl⟩ (by decide +kernel) (by simp only [List.map_cons, List.map_nil, List.reverse_cons, List.reverse_nil, List.nil_append, List.cons_append, List.append_nil, cv, Int32.ofInt_toInt]) (fun H2 locs2 hRm2 hq2 hS2 => ?_)
  have z2 : H2.size = H1.size := by rw [hRm2.2.1, hRm1.2.1, n2, n4]
  have hRx2 := hRx1.other z2 hq2 (fun k a1 a2 => by unfold bX bM; show ¬ (_ ∧ _ < _ + 52); omega)
  show W p l e room_1 s m #[Value.ref b] below meth c H2 locs2 CSL SSL (lw_Z below #[Value.ref b] s) (F0 m 939 ls [.int (Int32.ofInt r2), .int (Int32.ofInt r)])
  refine lv_icmp_eq (pc := 939) (off := 526) (tgt := 1465) (x := Int32.ofInt r) (y := Int32.ofInt r2) hx hb (by decide +kernel) (by decide) (fun _ => ?_) (fun hc => absurd (i_eq.mpr hw) hc)
  exact kend τx τm H2 locs2 ls hI2 hRx2 hRm2 hS2 hl
set_option maxRecDepth 100000 in
set_option maxHeartbeats 4000000 in
theorem lc_24 {p : Program} {l : Launch} {e : Env} {s : State} {m : MethodId} {below : List Frame} {meth : Method} {c : Code} {b L : Nat} {xs : Nat → Int32} {D : va_G} {ca : Nat → ClassId} {ra : Nat → Nat} {Inv : St → St → Prop} (N : Nat) (K : LK p l e s m below meth c b L xs D ca ra) (hn : ∀ σx σm : St, Inv σx σm → σx.1 = 113 ∧ σm.1 = 51) (sim : ∀ σx σm : St, Inv σx σm → ∀ (a0 : Int) (a1 : Int) (a2 : Int) (a3 : Int), wr a0 = a0 → wr a1 = a1 → wr a2 = a2 → wr a3 = a3 → OK2 Inv (f_X11_move N σx 1 a0 a1 a2 a3) (f_X12_move N σm 1 a0 a1 a2 a3)) {i : Nat} (hi : i + 7 ≤ L) (kend : GO p l e s m below meth c b D ca Inv 1465 i) : GO p l e s m below meth c b D ca Inv 944 i := by
  obtain ⟨⟨hx, hb, hml, hown⟩, hts, ⟨hK, hN, hF⟩, hX, hbl, hL⟩ := K
  intro σx σm H locs ls hI hRx hRm hS hl
  obtain ⟨τx, τm, r, r2, hpx, hpm, hw, hI2⟩ := sim σx σm hI ((xs (i + 1)).toInt) ((xs (i + 2)).toInt) ((xs (i + 3)).toInt) ((xs (i + 4)).toInt) (wr_ti _) (wr_ti _) (wr_ti _) (wr_ti _)
  obtain ⟨n1, n2⟩ := hn σx σm hI
  obtain ⟨n3, n4⟩ := hn τx τm hI2
  refine lv_aload_n (k := 1) (i := 1) hx hb (by decide +kernel) rfl (lv_at hl 1 rfl) ?_
  refine ly_arg (pc := 945) hx hb hX hbl hS hl 1 (pc2 := 948) (pc3 := 950) (lv_at hl 0 rfl) (lv_at hl 3 rfl) (by omega) hL (by decide +kernel) (by decide +kernel) (Or.inl ⟨rfl, (by decide +kernel)⟩) (by decide +kernel) (by decide +kernel) rfl ?_
  refine ly_arg (pc := 950) hx hb hX hbl hS hl 2 (pc2 := 953) (pc3 := 955) (lv_at hl 0 rfl) (lv_at hl 3 rfl) (by omega) hL (by decide +kernel) (by decide +kernel) (Or.inl ⟨rfl, (by decide +kernel)⟩) (by decide +kernel) (by decide +kernel) rfl ?_
  refine ly_arg (pc := 955) hx hb hX hbl hS hl 3 (pc2 := 958) (pc3 := 960) (lv_at hl 0 rfl) (lv_at hl 3 rfl) (by omega) hL (by decide +kernel) (by decide +kernel) (Or.inl ⟨rfl, (by decide +kernel)⟩) (by decide +kernel) (by decide +kernel) rfl ?_
  refine ly_arg (pc := 960) hx hb hX hbl hS hl 4 (pc2 := 963) (pc3 := 965) (lv_at hl 0 rfl) (lv_at hl 3 rfl) (by omega) hL (by decide +kernel) (by decide +kernel) (Or.inl ⟨rfl, (by decide +kernel)⟩) (by decide +kernel) (by decide +kernel) rfl ?_
  refine ly_call (pc := 965) (As := [ai ((xs (i + 1)).toInt), ai ((xs (i + 2)).toInt), ai ((xs (i + 3)).toInt), ai ((xs (i + 4)).toInt)]) (ci := 11) (st := []) hx hb hml hown hts hK hN hF (by unfold bX; omega) hRx hS hl.1 (c_X11_move l D ca ra N σx 1 ((xs (i + 1)).toInt) ((xs (i + 2)).toInt) ((xs (i + 3)).toInt) ((xs (i + 4)).toInt)) hpx ⟨rfl, by omega⟩ mt_X11_move mv_X11_move rfl ml_RL_116 rfl ⟨Nat.le_of_ble_eq_true rfl, Nat.le_of_ble_eq_true rfl⟩ (Nat.le_of_ble_eq_true rfl) ⟨rfl, rfl⟩ ⟨Nat.le_of_ble_eq_true rfl, Nat.le_of_ble_eq_true rfl⟩ (by decide +kernel) (by simp only [List.map_cons, List.map_nil, List.reverse_cons, List.reverse_nil, List.nil_append, List.cons_append, List.append_nil, cv, Int32.ofInt_toInt]) (fun H1 locs1 hRx1 hq1 hS1 => ?_)
  have z1 : H1.size = H.size := by rw [hRx1.2.1, hRx.2.1, n1, n3]
  have hRm1 := hRm.other z1 hq1 (fun k a1 a2 => by unfold bX bM; show ¬ (_ ∧ _ < _ + 114); omega)
  clear hS hRm
  have hS := hS1
  show W p l e room_1 s m #[Value.ref b] below meth c H1 locs1 CSL SSL (lw_Z below #[Value.ref b] s) (F0 m 968 ls [.int (Int32.ofInt r)])
  refine lv_aload_n (k := 2) (i := 2) hx hb (by decide +kernel) rfl (lv_at hl 2 rfl) ?_
  refine ly_arg (pc := 969) hx hb hX hbl hS hl 1 (pc2 := 972) (pc3 := 974) (lv_at hl 0 rfl) (lv_at hl 3 rfl) (by omega) hL (by decide +kernel) (by decide +kernel) (Or.inl ⟨rfl, (by decide +kernel)⟩) (by decide +kernel) (by decide +kernel) rfl ?_
  refine ly_arg (pc := 974) hx hb hX hbl hS hl 2 (pc2 := 977) (pc3 := 979) (lv_at hl 0 rfl) (lv_at hl 3 rfl) (by omega) hL (by decide +kernel) (by decide +kernel) (Or.inl ⟨rfl, (by decide +kernel)⟩) (by decide +kernel) (by decide +kernel) rfl ?_
  refine ly_arg (pc := 979) hx hb hX hbl hS hl 3 (pc2 := 982) (pc3 := 984) (lv_at hl 0 rfl) (lv_at hl 3 rfl) (by omega) hL (by decide +kernel) (by decide +kernel) (Or.inl ⟨rfl, (by decide +kernel)⟩) (by decide +kernel) (by decide +kernel) rfl ?_
  refine ly_arg (pc := 984) hx hb hX hbl hS hl 4 (pc2 := 987) (pc3 := 989) (lv_at hl 0 rfl) (lv_at hl 3 rfl) (by omega) hL (by decide +kernel) (by decide +kernel) (Or.inl ⟨rfl, (by decide +kernel)⟩) (by decide +kernel) (by decide +kernel) rfl ?_
  refine ly_call (pc := 989) (As := [ai ((xs (i + 1)).toInt), ai ((xs (i + 2)).toInt), ai ((xs (i + 3)).toInt), ai ((xs (i + 4)).toInt)]) (ci := 12) (st := [.int (Int32.ofInt r)]) hx hb hml hown hts hK hN hF (by unfold bM; omega) hRm1 hS hl.1 (c_X12_move l D ca ra N σm 1 ((xs (i + 1)).toInt) ((xs (i + 2)).toInt) ((xs (i + 3)).toInt) ((xs (i + 4)).toInt)) hpm ⟨rfl, by omega⟩ mt_X12_move mv_X12_move rfl ml_RL_120 rfl ⟨Nat.le_of_ble_eq_true rfl, Nat.le_of_ble_eq_true rfl⟩ (Nat.le_of_ble_eq_true rfl) ⟨rfl, rfl⟩ ⟨Nat.le_of_ble_eq_true rfl, Nat.le_of_ble_eq_true rfl⟩ (by decide +kernel) (by simp only [List.map_cons, List.map_nil, List.reverse_cons, List.reverse_nil, List.nil_append, List.cons_append, List.append_nil, cv, Int32.ofInt_toInt]) (fun H2 locs2 hRm2 hq2 hS2 => ?_)
  have z2 : H2.size = H1.size := by rw [hRm2.2.1, hRm1.2.1, n2, n4]
  have hRx2 := hRx1.other z2 hq2 (fun k a1 a2 => by unfold bX bM; show ¬ (_ ∧ _ < _ + 52); omega)
  show W p l e room_1 s m #[Value.ref b] below meth c H2 locs2 CSL SSL (lw_Z below #[Value.ref b] s) (F0 m 992 ls [.int (Int32.ofInt r2), .int (Int32.ofInt r)])
  refine lv_icmp_eq (pc := 992) (off := 473) (tgt := 1465) (x := Int32.ofInt r) (y := Int32.ofInt r2) hx hb (by decide +kernel) (by decide) (fun _ => ?_) (fun hc => absurd (i_eq.mpr hw) hc)
  exact kend τx τm H2 locs2 ls hI2 hRx2 hRm2 hS2 hl
set_option maxRecDepth 100000 in
set_option maxHeartbeats 4000000 in
theorem lc_25 {p : Program} {l : Launch} {e : Env} {s : State} {m : MethodId} {below : List Frame} {meth : Method} {c : Code} {b L : Nat} {xs : Nat → Int32} {D : va_G} {ca : Nat → ClassId} {ra : Nat → Nat} {Inv : St → St → Prop} (N : Nat) (K : LK p l e s m below meth c b L xs D ca ra) (hn : ∀ σx σm : St, Inv σx σm → σx.1 = 113 ∧ σm.1 = 51) (sim : ∀ σx σm : St, Inv σx σm → ∀ (a0 : Int) (a1 : Int) (a2 : Int) (a3 : Int) (a4 : Int) (a5 : Int), wr a0 = a0 → wr a1 = a1 → wr a2 = a2 → wr a3 = a3 → wr a4 = a4 → wr a5 = a5 → OK2 Inv (f_X11_soonest N σx 1 a0 a1 a2 a3 a4 a5) (f_X12_soonest N σm 1 a0 a1 a2 a3 a4 a5)) {i : Nat} (hi : i + 7 ≤ L) (kend : GO p l e s m below meth c b D ca Inv 1465 i) : GO p l e s m below meth c b D ca Inv 997 i := by
  obtain ⟨⟨hx, hb, hml, hown⟩, hts, ⟨hK, hN, hF⟩, hX, hbl, hL⟩ := K
  intro σx σm H locs ls hI hRx hRm hS hl
  obtain ⟨τx, τm, r, r2, hpx, hpm, hw, hI2⟩ := sim σx σm hI ((xs (i + 1)).toInt) ((xs (i + 2)).toInt) ((xs (i + 3)).toInt) ((xs (i + 4)).toInt) ((xs (i + 5)).toInt) ((xs (i + 6)).toInt) (wr_ti _) (wr_ti _) (wr_ti _) (wr_ti _) (wr_ti _) (wr_ti _)
  obtain ⟨n1, n2⟩ := hn σx σm hI
  obtain ⟨n3, n4⟩ := hn τx τm hI2
  refine lv_aload_n (k := 1) (i := 1) hx hb (by decide +kernel) rfl (lv_at hl 1 rfl) ?_
  refine ly_arg (pc := 998) hx hb hX hbl hS hl 1 (pc2 := 1001) (pc3 := 1003) (lv_at hl 0 rfl) (lv_at hl 3 rfl) (by omega) hL (by decide +kernel) (by decide +kernel) (Or.inl ⟨rfl, (by decide +kernel)⟩) (by decide +kernel) (by decide +kernel) rfl ?_
  refine ly_arg (pc := 1003) hx hb hX hbl hS hl 2 (pc2 := 1006) (pc3 := 1008) (lv_at hl 0 rfl) (lv_at hl 3 rfl) (by omega) hL (by decide +kernel) (by decide +kernel) (Or.inl ⟨rfl, (by decide +kernel)⟩) (by decide +kernel) (by decide +kernel) rfl ?_
  refine ly_arg (pc := 1008) hx hb hX hbl hS hl 3 (pc2 := 1011) (pc3 := 1013) (lv_at hl 0 rfl) (lv_at hl 3 rfl) (by omega) hL (by decide +kernel) (by decide +kernel) (Or.inl ⟨rfl, (by decide +kernel)⟩) (by decide +kernel) (by decide +kernel) rfl ?_
  refine ly_arg (pc := 1013) hx hb hX hbl hS hl 4 (pc2 := 1016) (pc3 := 1018) (lv_at hl 0 rfl) (lv_at hl 3 rfl) (by omega) hL (by decide +kernel) (by decide +kernel) (Or.inl ⟨rfl, (by decide +kernel)⟩) (by decide +kernel) (by decide +kernel) rfl ?_
  refine ly_arg (pc := 1018) hx hb hX hbl hS hl 5 (pc2 := 1021) (pc3 := 1023) (lv_at hl 0 rfl) (lv_at hl 3 rfl) (by omega) hL (by decide +kernel) (by decide +kernel) (Or.inl ⟨rfl, (by decide +kernel)⟩) (by decide +kernel) (by decide +kernel) rfl ?_
  refine ly_arg (pc := 1023) hx hb hX hbl hS hl 6 (pc2 := 1027) (pc3 := 1029) (lv_at hl 0 rfl) (lv_at hl 3 rfl) (by omega) hL (by decide +kernel) (by decide +kernel) (Or.inr ⟨rfl, (by decide +kernel), by decide +kernel⟩) (by decide +kernel) (by decide +kernel) rfl ?_
  refine ly_call (pc := 1029) (As := [ai ((xs (i + 1)).toInt), ai ((xs (i + 2)).toInt), ai ((xs (i + 3)).toInt), ai ((xs (i + 4)).toInt), ai ((xs (i + 5)).toInt), ai ((xs (i + 6)).toInt)]) (ci := 11) (st := []) hx hb hml hown hts hK hN hF (by unfold bX; omega) hRx hS hl.1 (c_X11_soonest l D ca ra N σx 1 ((xs (i + 1)).toInt) ((xs (i + 2)).toInt) ((xs (i + 3)).toInt) ((xs (i + 4)).toInt) ((xs (i + 5)).toInt) ((xs (i + 6)).toInt)) hpx ⟨rfl, by omega⟩ mt_X11_soonest mv_X11_soonest rfl ml_RL_121 rfl ⟨Nat.le_of_ble_eq_true rfl, Nat.le_of_ble_eq_true rfl⟩ (Nat.le_of_ble_eq_true rfl) ⟨rfl, rfl⟩ ⟨Nat.le_of_ble_eq_true rfl, Nat.le_of_ble_eq_true rfl⟩ (by decide +kernel) (by simp only [List.map_cons, List.map_nil, List.reverse_cons, List.reverse_nil, List.nil_append, List.cons_append, List.append_nil, cv, Int32.ofInt_toInt]) (fun H1 locs1 hRx1 hq1 hS1 => ?_)
  have z1 : H1.size = H.size := by rw [hRx1.2.1, hRx.2.1, n1, n3]
  have hRm1 := hRm.other z1 hq1 (fun k a1 a2 => by unfold bX bM; show ¬ (_ ∧ _ < _ + 114); omega)
  clear hS hRm
  have hS := hS1
  show W p l e room_1 s m #[Value.ref b] below meth c H1 locs1 CSL SSL (lw_Z below #[Value.ref b] s) (F0 m 1032 ls [.int (Int32.ofInt r)])
  refine lv_aload_n (k := 2) (i := 2) hx hb (by decide +kernel) rfl (lv_at hl 2 rfl) ?_
  refine ly_arg (pc := 1033) hx hb hX hbl hS hl 1 (pc2 := 1036) (pc3 := 1038) (lv_at hl 0 rfl) (lv_at hl 3 rfl) (by omega) hL (by decide +kernel) (by decide +kernel) (Or.inl ⟨rfl, (by decide +kernel)⟩) (by decide +kernel) (by decide +kernel) rfl ?_
  refine ly_arg (pc := 1038) hx hb hX hbl hS hl 2 (pc2 := 1041) (pc3 := 1043) (lv_at hl 0 rfl) (lv_at hl 3 rfl) (by omega) hL (by decide +kernel) (by decide +kernel) (Or.inl ⟨rfl, (by decide +kernel)⟩) (by decide +kernel) (by decide +kernel) rfl ?_
  refine ly_arg (pc := 1043) hx hb hX hbl hS hl 3 (pc2 := 1046) (pc3 := 1048) (lv_at hl 0 rfl) (lv_at hl 3 rfl) (by omega) hL (by decide +kernel) (by decide +kernel) (Or.inl ⟨rfl, (by decide +kernel)⟩) (by decide +kernel) (by decide +kernel) rfl ?_
  refine ly_arg (pc := 1048) hx hb hX hbl hS hl 4 (pc2 := 1051) (pc3 := 1053) (lv_at hl 0 rfl) (lv_at hl 3 rfl) (by omega) hL (by decide +kernel) (by decide +kernel) (Or.inl ⟨rfl, (by decide +kernel)⟩) (by decide +kernel) (by decide +kernel) rfl ?_
  refine ly_arg (pc := 1053) hx hb hX hbl hS hl 5 (pc2 := 1056) (pc3 := 1058) (lv_at hl 0 rfl) (lv_at hl 3 rfl) (by omega) hL (by decide +kernel) (by decide +kernel) (Or.inl ⟨rfl, (by decide +kernel)⟩) (by decide +kernel) (by decide +kernel) rfl ?_
  refine ly_arg (pc := 1058) hx hb hX hbl hS hl 6 (pc2 := 1062) (pc3 := 1064) (lv_at hl 0 rfl) (lv_at hl 3 rfl) (by omega) hL (by decide +kernel) (by decide +kernel) (Or.inr ⟨rfl, (by decide +kernel), by decide +kernel⟩) (by decide +kernel) (by decide +kernel) rfl ?_
  refine ly_call (pc := 1064) (As := [ai ((xs (i + 1)).toInt), ai ((xs (i + 2)).toInt), ai ((xs (i + 3)).toInt), ai ((xs (i + 4)).toInt), ai ((xs (i + 5)).toInt), ai ((xs (i + 6)).toInt)]) (ci := 12) (st := [.int (Int32.ofInt r)]) hx hb hml hown hts hK hN hF (by unfold bM; omega) hRm1 hS hl.1 (c_X12_soonest l D ca ra N σm 1 ((xs (i + 1)).toInt) ((xs (i + 2)).toInt) ((xs (i + 3)).toInt) ((xs (i + 4)).toInt) ((xs (i + 5)).toInt) ((xs (i + 6)).toInt)) hpm ⟨rfl, by omega⟩ mt_X12_soonest mv_X12_soonest rfl ml_RL_125 rfl ⟨Nat.le_of_ble_eq_true rfl, Nat.le_of_ble_eq_true rfl⟩ (Nat.le_of_ble_eq_true rfl) ⟨rfl, rfl⟩ ⟨Nat.le_of_ble_eq_true rfl, Nat.le_of_ble_eq_true rfl⟩ (by decide +kernel) (by simp only [List.map_cons, List.map_nil, List.reverse_cons, List.reverse_nil, List.nil_append, List.cons_append, List.append_nil, cv, Int32.ofInt_toInt]) (fun H2 locs2 hRm2 hq2 hS2 => ?_)
  have z2 : H2.size = H1.size := by rw [hRm2.2.1, hRm1.2.1, n2, n4]
  have hRx2 := hRx1.other z2 hq2 (fun k a1 a2 => by unfold bX bM; show ¬ (_ ∧ _ < _ + 52); omega)
  show W p l e room_1 s m #[Value.ref b] below meth c H2 locs2 CSL SSL (lw_Z below #[Value.ref b] s) (F0 m 1067 ls [.int (Int32.ofInt r2), .int (Int32.ofInt r)])
  refine lv_icmp_eq (pc := 1067) (off := 398) (tgt := 1465) (x := Int32.ofInt r) (y := Int32.ofInt r2) hx hb (by decide +kernel) (by decide) (fun _ => ?_) (fun hc => absurd (i_eq.mpr hw) hc)
  exact kend τx τm H2 locs2 ls hI2 hRx2 hRm2 hS2 hl
set_option maxRecDepth 100000 in
set_option maxHeartbeats 4000000 in
theorem lc_26 {p : Program} {l : Launch} {e : Env} {s : State} {m : MethodId} {below : List Frame} {meth : Method} {c : Code} {b L : Nat} {xs : Nat → Int32} {D : va_G} {ca : Nat → ClassId} {ra : Nat → Nat} {Inv : St → St → Prop} (N : Nat) (K : LK p l e s m below meth c b L xs D ca ra) (hn : ∀ σx σm : St, Inv σx σm → σx.1 = 113 ∧ σm.1 = 51) (sim : ∀ σx σm : St, Inv σx σm → ∀ (a0 : Int) (a1 : Int), wr a0 = a0 → wr a1 = a1 → OK2 Inv (f_X11_airline N σx 1 a0 a1) (f_X12_airline N σm 1 a0 a1)) {i : Nat} (hi : i + 7 ≤ L) (kend : GO p l e s m below meth c b D ca Inv 1465 i) : GO p l e s m below meth c b D ca Inv 1072 i := by
  obtain ⟨⟨hx, hb, hml, hown⟩, hts, ⟨hK, hN, hF⟩, hX, hbl, hL⟩ := K
  intro σx σm H locs ls hI hRx hRm hS hl
  obtain ⟨τx, τm, r, r2, hpx, hpm, hw, hI2⟩ := sim σx σm hI ((xs (i + 1)).toInt) ((xs (i + 2)).toInt) (wr_ti _) (wr_ti _)
  obtain ⟨n1, n2⟩ := hn σx σm hI
  obtain ⟨n3, n4⟩ := hn τx τm hI2
  refine lv_aload_n (k := 1) (i := 1) hx hb (by decide +kernel) rfl (lv_at hl 1 rfl) ?_
  refine ly_arg (pc := 1073) hx hb hX hbl hS hl 1 (pc2 := 1076) (pc3 := 1078) (lv_at hl 0 rfl) (lv_at hl 3 rfl) (by omega) hL (by decide +kernel) (by decide +kernel) (Or.inl ⟨rfl, (by decide +kernel)⟩) (by decide +kernel) (by decide +kernel) rfl ?_
  refine ly_arg (pc := 1078) hx hb hX hbl hS hl 2 (pc2 := 1081) (pc3 := 1083) (lv_at hl 0 rfl) (lv_at hl 3 rfl) (by omega) hL (by decide +kernel) (by decide +kernel) (Or.inl ⟨rfl, (by decide +kernel)⟩) (by decide +kernel) (by decide +kernel) rfl ?_
  refine ly_call (pc := 1083) (As := [ai ((xs (i + 1)).toInt), ai ((xs (i + 2)).toInt)]) (ci := 11) (st := []) hx hb hml hown hts hK hN hF (by unfold bX; omega) hRx hS hl.1 (c_X11_airline l D ca ra N σx 1 ((xs (i + 1)).toInt) ((xs (i + 2)).toInt)) hpx ⟨rfl, by omega⟩ mt_X11_airline mv_X11_airline rfl ml_RL_126 rfl ⟨Nat.le_of_ble_eq_true rfl, Nat.le_of_ble_eq_true rfl⟩ (Nat.le_of_ble_eq_true rfl) ⟨rfl, rfl⟩ ⟨Nat.le_of_ble_eq_true rfl, Nat.le_of_ble_eq_true rfl⟩ (by decide +kernel) (by simp only [List.map_cons, List.map_nil, List.reverse_cons, List.reverse_nil, List.nil_append, List.cons_append, List.append_nil, cv, Int32.ofInt_toInt]) (fun H1 locs1 hRx1 hq1 hS1 => ?_)
  have z1 : H1.size = H.size := by rw [hRx1.2.1, hRx.2.1, n1, n3]
  have hRm1 := hRm.other z1 hq1 (fun k a1 a2 => by unfold bX bM; show ¬ (_ ∧ _ < _ + 114); omega)
  clear hS hRm
  have hS := hS1
  show W p l e room_1 s m #[Value.ref b] below meth c H1 locs1 CSL SSL (lw_Z below #[Value.ref b] s) (F0 m 1086 ls [.int (Int32.ofInt r)])
  refine lv_aload_n (k := 2) (i := 2) hx hb (by decide +kernel) rfl (lv_at hl 2 rfl) ?_
  refine ly_arg (pc := 1087) hx hb hX hbl hS hl 1 (pc2 := 1090) (pc3 := 1092) (lv_at hl 0 rfl) (lv_at hl 3 rfl) (by omega) hL (by decide +kernel) (by decide +kernel) (Or.inl ⟨rfl, (by decide +kernel)⟩) (by decide +kernel) (by decide +kernel) rfl ?_
  refine ly_arg (pc := 1092) hx hb hX hbl hS hl 2 (pc2 := 1095) (pc3 := 1097) (lv_at hl 0 rfl) (lv_at hl 3 rfl) (by omega) hL (by decide +kernel) (by decide +kernel) (Or.inl ⟨rfl, (by decide +kernel)⟩) (by decide +kernel) (by decide +kernel) rfl ?_
  refine ly_call (pc := 1097) (As := [ai ((xs (i + 1)).toInt), ai ((xs (i + 2)).toInt)]) (ci := 12) (st := [.int (Int32.ofInt r)]) hx hb hml hown hts hK hN hF (by unfold bM; omega) hRm1 hS hl.1 (c_X12_airline l D ca ra N σm 1 ((xs (i + 1)).toInt) ((xs (i + 2)).toInt)) hpm ⟨rfl, by omega⟩ mt_X12_airline mv_X12_airline rfl ml_RL_129 rfl ⟨Nat.le_of_ble_eq_true rfl, Nat.le_of_ble_eq_true rfl⟩ (Nat.le_of_ble_eq_true rfl) ⟨rfl, rfl⟩ ⟨Nat.le_of_ble_eq_true rfl, Nat.le_of_ble_eq_true rfl⟩ (by decide +kernel) (by simp only [List.map_cons, List.map_nil, List.reverse_cons, List.reverse_nil, List.nil_append, List.cons_append, List.append_nil, cv, Int32.ofInt_toInt]) (fun H2 locs2 hRm2 hq2 hS2 => ?_)
  have z2 : H2.size = H1.size := by rw [hRm2.2.1, hRm1.2.1, n2, n4]
  have hRx2 := hRx1.other z2 hq2 (fun k a1 a2 => by unfold bX bM; show ¬ (_ ∧ _ < _ + 52); omega)
  show W p l e room_1 s m #[Value.ref b] below meth c H2 locs2 CSL SSL (lw_Z below #[Value.ref b] s) (F0 m 1100 ls [.int (Int32.ofInt r2), .int (Int32.ofInt r)])
  refine lv_icmp_eq (pc := 1100) (off := 365) (tgt := 1465) (x := Int32.ofInt r) (y := Int32.ofInt r2) hx hb (by decide +kernel) (by decide) (fun _ => ?_) (fun hc => absurd (i_eq.mpr hw) hc)
  exact kend τx τm H2 locs2 ls hI2 hRx2 hRm2 hS2 hl
set_option maxRecDepth 100000 in
set_option maxHeartbeats 4000000 in
theorem lc_27 {p : Program} {l : Launch} {e : Env} {s : State} {m : MethodId} {below : List Frame} {meth : Method} {c : Code} {b L : Nat} {xs : Nat → Int32} {D : va_G} {ca : Nat → ClassId} {ra : Nat → Nat} {Inv : St → St → Prop} (N : Nat) (K : LK p l e s m below meth c b L xs D ca ra) (hn : ∀ σx σm : St, Inv σx σm → σx.1 = 113 ∧ σm.1 = 51) (sim : ∀ σx σm : St, Inv σx σm → ∀ (a0 : Int) (a1 : Int) (a2 : Int), wr a0 = a0 → wr a1 = a1 → wr a2 = a2 → OK2 Inv (f_X11_hold N σx 1 a0 a1 a2) (f_X12_hold N σm 1 a0 a1 a2)) {i : Nat} (hi : i + 7 ≤ L) (kend : GO p l e s m below meth c b D ca Inv 1465 i) : GO p l e s m below meth c b D ca Inv 1105 i := by
  obtain ⟨⟨hx, hb, hml, hown⟩, hts, ⟨hK, hN, hF⟩, hX, hbl, hL⟩ := K
  intro σx σm H locs ls hI hRx hRm hS hl
  obtain ⟨τx, τm, r, r2, hpx, hpm, hw, hI2⟩ := sim σx σm hI ((xs (i + 1)).toInt) ((xs (i + 2)).toInt) ((xs (i + 3)).toInt) (wr_ti _) (wr_ti _) (wr_ti _)
  obtain ⟨n1, n2⟩ := hn σx σm hI
  obtain ⟨n3, n4⟩ := hn τx τm hI2
  refine lv_aload_n (k := 1) (i := 1) hx hb (by decide +kernel) rfl (lv_at hl 1 rfl) ?_
  refine ly_arg (pc := 1106) hx hb hX hbl hS hl 1 (pc2 := 1109) (pc3 := 1111) (lv_at hl 0 rfl) (lv_at hl 3 rfl) (by omega) hL (by decide +kernel) (by decide +kernel) (Or.inl ⟨rfl, (by decide +kernel)⟩) (by decide +kernel) (by decide +kernel) rfl ?_
  refine ly_arg (pc := 1111) hx hb hX hbl hS hl 2 (pc2 := 1114) (pc3 := 1116) (lv_at hl 0 rfl) (lv_at hl 3 rfl) (by omega) hL (by decide +kernel) (by decide +kernel) (Or.inl ⟨rfl, (by decide +kernel)⟩) (by decide +kernel) (by decide +kernel) rfl ?_
  refine ly_arg (pc := 1116) hx hb hX hbl hS hl 3 (pc2 := 1119) (pc3 := 1121) (lv_at hl 0 rfl) (lv_at hl 3 rfl) (by omega) hL (by decide +kernel) (by decide +kernel) (Or.inl ⟨rfl, (by decide +kernel)⟩) (by decide +kernel) (by decide +kernel) rfl ?_
  refine ly_call (pc := 1121) (As := [ai ((xs (i + 1)).toInt), ai ((xs (i + 2)).toInt), ai ((xs (i + 3)).toInt)]) (ci := 11) (st := []) hx hb hml hown hts hK hN hF (by unfold bX; omega) hRx hS hl.1 (c_X11_hold l D ca ra N σx 1 ((xs (i + 1)).toInt) ((xs (i + 2)).toInt) ((xs (i + 3)).toInt)) hpx ⟨rfl, by omega⟩ mt_X11_hold mv_X11_hold rfl ml_RL_130 rfl ⟨Nat.le_of_ble_eq_true rfl, Nat.le_of_ble_eq_true rfl⟩ (Nat.le_of_ble_eq_true rfl) ⟨rfl, rfl⟩ ⟨Nat.le_of_ble_eq_true rfl, Nat.le_of_ble_eq_true rfl⟩ (by decide +kernel) (by simp only [List.map_cons, List.map_nil, List.reverse_cons, List.reverse_nil, List.nil_append, List.cons_append, List.append_nil, cv, Int32.ofInt_toInt]) (fun H1 locs1 hRx1 hq1 hS1 => ?_)
  have z1 : H1.size = H.size := by rw [hRx1.2.1, hRx.2.1, n1, n3]
  have hRm1 := hRm.other z1 hq1 (fun k a1 a2 => by unfold bX bM; show ¬ (_ ∧ _ < _ + 114); omega)
  clear hS hRm
  have hS := hS1
  show W p l e room_1 s m #[Value.ref b] below meth c H1 locs1 CSL SSL (lw_Z below #[Value.ref b] s) (F0 m 1124 ls [.int (Int32.ofInt r)])
  refine lv_aload_n (k := 2) (i := 2) hx hb (by decide +kernel) rfl (lv_at hl 2 rfl) ?_
  refine ly_arg (pc := 1125) hx hb hX hbl hS hl 1 (pc2 := 1128) (pc3 := 1130) (lv_at hl 0 rfl) (lv_at hl 3 rfl) (by omega) hL (by decide +kernel) (by decide +kernel) (Or.inl ⟨rfl, (by decide +kernel)⟩) (by decide +kernel) (by decide +kernel) rfl ?_
  refine ly_arg (pc := 1130) hx hb hX hbl hS hl 2 (pc2 := 1133) (pc3 := 1135) (lv_at hl 0 rfl) (lv_at hl 3 rfl) (by omega) hL (by decide +kernel) (by decide +kernel) (Or.inl ⟨rfl, (by decide +kernel)⟩) (by decide +kernel) (by decide +kernel) rfl ?_
  refine ly_arg (pc := 1135) hx hb hX hbl hS hl 3 (pc2 := 1138) (pc3 := 1140) (lv_at hl 0 rfl) (lv_at hl 3 rfl) (by omega) hL (by decide +kernel) (by decide +kernel) (Or.inl ⟨rfl, (by decide +kernel)⟩) (by decide +kernel) (by decide +kernel) rfl ?_
  refine ly_call (pc := 1140) (As := [ai ((xs (i + 1)).toInt), ai ((xs (i + 2)).toInt), ai ((xs (i + 3)).toInt)]) (ci := 12) (st := [.int (Int32.ofInt r)]) hx hb hml hown hts hK hN hF (by unfold bM; omega) hRm1 hS hl.1 (c_X12_hold l D ca ra N σm 1 ((xs (i + 1)).toInt) ((xs (i + 2)).toInt) ((xs (i + 3)).toInt)) hpm ⟨rfl, by omega⟩ mt_X12_hold mv_X12_hold rfl ml_RL_133 rfl ⟨Nat.le_of_ble_eq_true rfl, Nat.le_of_ble_eq_true rfl⟩ (Nat.le_of_ble_eq_true rfl) ⟨rfl, rfl⟩ ⟨Nat.le_of_ble_eq_true rfl, Nat.le_of_ble_eq_true rfl⟩ (by decide +kernel) (by simp only [List.map_cons, List.map_nil, List.reverse_cons, List.reverse_nil, List.nil_append, List.cons_append, List.append_nil, cv, Int32.ofInt_toInt]) (fun H2 locs2 hRm2 hq2 hS2 => ?_)
  have z2 : H2.size = H1.size := by rw [hRm2.2.1, hRm1.2.1, n2, n4]
  have hRx2 := hRx1.other z2 hq2 (fun k a1 a2 => by unfold bX bM; show ¬ (_ ∧ _ < _ + 52); omega)
  show W p l e room_1 s m #[Value.ref b] below meth c H2 locs2 CSL SSL (lw_Z below #[Value.ref b] s) (F0 m 1143 ls [.int (Int32.ofInt r2), .int (Int32.ofInt r)])
  refine lv_icmp_eq (pc := 1143) (off := 322) (tgt := 1465) (x := Int32.ofInt r) (y := Int32.ofInt r2) hx hb (by decide +kernel) (by decide) (fun _ => ?_) (fun hc => absurd (i_eq.mpr hw) hc)
  exact kend τx τm H2 locs2 ls hI2 hRx2 hRm2 hS2 hl
set_option maxRecDepth 100000 in
set_option maxHeartbeats 4000000 in
theorem lc_28 {p : Program} {l : Launch} {e : Env} {s : State} {m : MethodId} {below : List Frame} {meth : Method} {c : Code} {b L : Nat} {xs : Nat → Int32} {D : va_G} {ca : Nat → ClassId} {ra : Nat → Nat} {Inv : St → St → Prop} (N : Nat) (K : LK p l e s m below meth c b L xs D ca ra) (hn : ∀ σx σm : St, Inv σx σm → σx.1 = 113 ∧ σm.1 = 51) (sim : ∀ σx σm : St, Inv σx σm → ∀ (a0 : Int) (a1 : Int) (a2 : Int) (a3 : Int), wr a0 = a0 → wr a1 = a1 → wr a2 = a2 → wr a3 = a3 → OK2 Inv (f_X11_lapse N σx 1 a0 a1 a2 a3) (f_X12_lapse N σm 1 a0 a1 a2 a3)) {i : Nat} (hi : i + 7 ≤ L) (kend : GO p l e s m below meth c b D ca Inv 1465 i) : GO p l e s m below meth c b D ca Inv 1148 i := by
  obtain ⟨⟨hx, hb, hml, hown⟩, hts, ⟨hK, hN, hF⟩, hX, hbl, hL⟩ := K
  intro σx σm H locs ls hI hRx hRm hS hl
  obtain ⟨τx, τm, r, r2, hpx, hpm, hw, hI2⟩ := sim σx σm hI ((xs (i + 1)).toInt) ((xs (i + 2)).toInt) ((xs (i + 3)).toInt) ((xs (i + 4)).toInt) (wr_ti _) (wr_ti _) (wr_ti _) (wr_ti _)
  obtain ⟨n1, n2⟩ := hn σx σm hI
  obtain ⟨n3, n4⟩ := hn τx τm hI2
  refine lv_aload_n (k := 1) (i := 1) hx hb (by decide +kernel) rfl (lv_at hl 1 rfl) ?_
  refine ly_arg (pc := 1149) hx hb hX hbl hS hl 1 (pc2 := 1152) (pc3 := 1154) (lv_at hl 0 rfl) (lv_at hl 3 rfl) (by omega) hL (by decide +kernel) (by decide +kernel) (Or.inl ⟨rfl, (by decide +kernel)⟩) (by decide +kernel) (by decide +kernel) rfl ?_
  refine ly_arg (pc := 1154) hx hb hX hbl hS hl 2 (pc2 := 1157) (pc3 := 1159) (lv_at hl 0 rfl) (lv_at hl 3 rfl) (by omega) hL (by decide +kernel) (by decide +kernel) (Or.inl ⟨rfl, (by decide +kernel)⟩) (by decide +kernel) (by decide +kernel) rfl ?_
  refine ly_arg (pc := 1159) hx hb hX hbl hS hl 3 (pc2 := 1162) (pc3 := 1164) (lv_at hl 0 rfl) (lv_at hl 3 rfl) (by omega) hL (by decide +kernel) (by decide +kernel) (Or.inl ⟨rfl, (by decide +kernel)⟩) (by decide +kernel) (by decide +kernel) rfl ?_
  refine ly_arg (pc := 1164) hx hb hX hbl hS hl 4 (pc2 := 1167) (pc3 := 1169) (lv_at hl 0 rfl) (lv_at hl 3 rfl) (by omega) hL (by decide +kernel) (by decide +kernel) (Or.inl ⟨rfl, (by decide +kernel)⟩) (by decide +kernel) (by decide +kernel) rfl ?_
  refine ly_call (pc := 1169) (As := [ai ((xs (i + 1)).toInt), ai ((xs (i + 2)).toInt), ai ((xs (i + 3)).toInt), ai ((xs (i + 4)).toInt)]) (ci := 11) (st := []) hx hb hml hown hts hK hN hF (by unfold bX; omega) hRx hS hl.1 (c_X11_lapse l D ca ra N σx 1 ((xs (i + 1)).toInt) ((xs (i + 2)).toInt) ((xs (i + 3)).toInt) ((xs (i + 4)).toInt)) hpx ⟨rfl, by omega⟩ mt_X11_lapse mv_X11_lapse rfl ml_RL_134 rfl ⟨Nat.le_of_ble_eq_true rfl, Nat.le_of_ble_eq_true rfl⟩ (Nat.le_of_ble_eq_true rfl) ⟨rfl, rfl⟩ ⟨Nat.le_of_ble_eq_true rfl, Nat.le_of_ble_eq_true rfl⟩ (by decide +kernel) (by simp only [List.map_cons, List.map_nil, List.reverse_cons, List.reverse_nil, List.nil_append, List.cons_append, List.append_nil, cv, Int32.ofInt_toInt]) (fun H1 locs1 hRx1 hq1 hS1 => ?_)
  have z1 : H1.size = H.size := by rw [hRx1.2.1, hRx.2.1, n1, n3]
  have hRm1 := hRm.other z1 hq1 (fun k a1 a2 => by unfold bX bM; show ¬ (_ ∧ _ < _ + 114); omega)
  clear hS hRm
  have hS := hS1
  show W p l e room_1 s m #[Value.ref b] below meth c H1 locs1 CSL SSL (lw_Z below #[Value.ref b] s) (F0 m 1172 ls [.int (Int32.ofInt r)])
  refine lv_aload_n (k := 2) (i := 2) hx hb (by decide +kernel) rfl (lv_at hl 2 rfl) ?_
  refine ly_arg (pc := 1173) hx hb hX hbl hS hl 1 (pc2 := 1176) (pc3 := 1178) (lv_at hl 0 rfl) (lv_at hl 3 rfl) (by omega) hL (by decide +kernel) (by decide +kernel) (Or.inl ⟨rfl, (by decide +kernel)⟩) (by decide +kernel) (by decide +kernel) rfl ?_
  refine ly_arg (pc := 1178) hx hb hX hbl hS hl 2 (pc2 := 1181) (pc3 := 1183) (lv_at hl 0 rfl) (lv_at hl 3 rfl) (by omega) hL (by decide +kernel) (by decide +kernel) (Or.inl ⟨rfl, (by decide +kernel)⟩) (by decide +kernel) (by decide +kernel) rfl ?_
  refine ly_arg (pc := 1183) hx hb hX hbl hS hl 3 (pc2 := 1186) (pc3 := 1188) (lv_at hl 0 rfl) (lv_at hl 3 rfl) (by omega) hL (by decide +kernel) (by decide +kernel) (Or.inl ⟨rfl, (by decide +kernel)⟩) (by decide +kernel) (by decide +kernel) rfl ?_
  refine ly_arg (pc := 1188) hx hb hX hbl hS hl 4 (pc2 := 1191) (pc3 := 1193) (lv_at hl 0 rfl) (lv_at hl 3 rfl) (by omega) hL (by decide +kernel) (by decide +kernel) (Or.inl ⟨rfl, (by decide +kernel)⟩) (by decide +kernel) (by decide +kernel) rfl ?_
  refine ly_call (pc := 1193) (As := [ai ((xs (i + 1)).toInt), ai ((xs (i + 2)).toInt), ai ((xs (i + 3)).toInt), ai ((xs (i + 4)).toInt)]) (ci := 12) (st := [.int (Int32.ofInt r)]) hx hb hml hown hts hK hN hF (by unfold bM; omega) hRm1 hS hl.1 (c_X12_lapse l D ca ra N σm 1 ((xs (i + 1)).toInt) ((xs (i + 2)).toInt) ((xs (i + 3)).toInt) ((xs (i + 4)).toInt)) hpm ⟨rfl, by omega⟩ mt_X12_lapse mv_X12_lapse rfl ml_RL_137 rfl ⟨Nat.le_of_ble_eq_true rfl, Nat.le_of_ble_eq_true rfl⟩ (Nat.le_of_ble_eq_true rfl) ⟨rfl, rfl⟩ ⟨Nat.le_of_ble_eq_true rfl, Nat.le_of_ble_eq_true rfl⟩ (by decide +kernel) (by simp only [List.map_cons, List.map_nil, List.reverse_cons, List.reverse_nil, List.nil_append, List.cons_append, List.append_nil, cv, Int32.ofInt_toInt]) (fun H2 locs2 hRm2 hq2 hS2 => ?_)
  have z2 : H2.size = H1.size := by rw [hRm2.2.1, hRm1.2.1, n2, n4]
  have hRx2 := hRx1.other z2 hq2 (fun k a1 a2 => by unfold bX bM; show ¬ (_ ∧ _ < _ + 52); omega)
  show W p l e room_1 s m #[Value.ref b] below meth c H2 locs2 CSL SSL (lw_Z below #[Value.ref b] s) (F0 m 1196 ls [.int (Int32.ofInt r2), .int (Int32.ofInt r)])
  refine lv_icmp_eq (pc := 1196) (off := 269) (tgt := 1465) (x := Int32.ofInt r) (y := Int32.ofInt r2) hx hb (by decide +kernel) (by decide) (fun _ => ?_) (fun hc => absurd (i_eq.mpr hw) hc)
  exact kend τx τm H2 locs2 ls hI2 hRx2 hRm2 hS2 hl
set_option maxRecDepth 100000 in
set_option maxHeartbeats 4000000 in
theorem lc_29 {p : Program} {l : Launch} {e : Env} {s : State} {m : MethodId} {below : List Frame} {meth : Method} {c : Code} {b L : Nat} {xs : Nat → Int32} {D : va_G} {ca : Nat → ClassId} {ra : Nat → Nat} {Inv : St → St → Prop} (N : Nat) (K : LK p l e s m below meth c b L xs D ca ra) (hn : ∀ σx σm : St, Inv σx σm → σx.1 = 113 ∧ σm.1 = 51) (sim : ∀ σx σm : St, Inv σx σm → ∀ (a0 : Int), wr a0 = a0 → OK2 Inv (f_X11_shared N σx 1 a0) (f_X12_shared N σm 1 a0)) {i : Nat} (hi : i + 7 ≤ L) (kend : GO p l e s m below meth c b D ca Inv 1465 i) : GO p l e s m below meth c b D ca Inv 1201 i := by
  obtain ⟨⟨hx, hb, hml, hown⟩, hts, ⟨hK, hN, hF⟩, hX, hbl, hL⟩ := K
  intro σx σm H locs ls hI hRx hRm hS hl
  obtain ⟨τx, τm, r, r2, hpx, hpm, hw, hI2⟩ := sim σx σm hI ((xs (i + 1)).toInt) (wr_ti _)
  obtain ⟨n1, n2⟩ := hn σx σm hI
  obtain ⟨n3, n4⟩ := hn τx τm hI2
  refine lv_aload_n (k := 1) (i := 1) hx hb (by decide +kernel) rfl (lv_at hl 1 rfl) ?_
  refine ly_arg (pc := 1202) hx hb hX hbl hS hl 1 (pc2 := 1205) (pc3 := 1207) (lv_at hl 0 rfl) (lv_at hl 3 rfl) (by omega) hL (by decide +kernel) (by decide +kernel) (Or.inl ⟨rfl, (by decide +kernel)⟩) (by decide +kernel) (by decide +kernel) rfl ?_
  refine ly_call (pc := 1207) (As := [ai ((xs (i + 1)).toInt)]) (ci := 11) (st := []) hx hb hml hown hts hK hN hF (by unfold bX; omega) hRx hS hl.1 (c_X11_shared l D ca ra N σx 1 ((xs (i + 1)).toInt)) hpx ⟨rfl, by omega⟩ mt_X11_shared mv_X11_shared rfl ml_RL_138 rfl ⟨Nat.le_of_ble_eq_true rfl, Nat.le_of_ble_eq_true rfl⟩ (Nat.le_of_ble_eq_true rfl) ⟨rfl, rfl⟩ ⟨Nat.le_of_ble_eq_true rfl, Nat.le_of_ble_eq_true rfl⟩ (by decide +kernel) (by simp only [List.map_cons, List.map_nil, List.reverse_cons, List.reverse_nil, List.nil_append, List.cons_append, List.append_nil, cv, Int32.ofInt_toInt]) (fun H1 locs1 hRx1 hq1 hS1 => ?_)
  have z1 : H1.size = H.size := by rw [hRx1.2.1, hRx.2.1, n1, n3]
  have hRm1 := hRm.other z1 hq1 (fun k a1 a2 => by unfold bX bM; show ¬ (_ ∧ _ < _ + 114); omega)
  clear hS hRm
  have hS := hS1
  show W p l e room_1 s m #[Value.ref b] below meth c H1 locs1 CSL SSL (lw_Z below #[Value.ref b] s) (F0 m 1210 ls [.int (Int32.ofInt r)])
  refine lv_aload_n (k := 2) (i := 2) hx hb (by decide +kernel) rfl (lv_at hl 2 rfl) ?_
  refine ly_arg (pc := 1211) hx hb hX hbl hS hl 1 (pc2 := 1214) (pc3 := 1216) (lv_at hl 0 rfl) (lv_at hl 3 rfl) (by omega) hL (by decide +kernel) (by decide +kernel) (Or.inl ⟨rfl, (by decide +kernel)⟩) (by decide +kernel) (by decide +kernel) rfl ?_
  refine ly_call (pc := 1216) (As := [ai ((xs (i + 1)).toInt)]) (ci := 12) (st := [.int (Int32.ofInt r)]) hx hb hml hown hts hK hN hF (by unfold bM; omega) hRm1 hS hl.1 (c_X12_shared l D ca ra N σm 1 ((xs (i + 1)).toInt)) hpm ⟨rfl, by omega⟩ mt_X12_shared mv_X12_shared rfl ml_RL_141 rfl ⟨Nat.le_of_ble_eq_true rfl, Nat.le_of_ble_eq_true rfl⟩ (Nat.le_of_ble_eq_true rfl) ⟨rfl, rfl⟩ ⟨Nat.le_of_ble_eq_true rfl, Nat.le_of_ble_eq_true rfl⟩ (by decide +kernel) (by simp only [List.map_cons, List.map_nil, List.reverse_cons, List.reverse_nil, List.nil_append, List.cons_append, List.append_nil, cv, Int32.ofInt_toInt]) (fun H2 locs2 hRm2 hq2 hS2 => ?_)
  have z2 : H2.size = H1.size := by rw [hRm2.2.1, hRm1.2.1, n2, n4]
  have hRx2 := hRx1.other z2 hq2 (fun k a1 a2 => by unfold bX bM; show ¬ (_ ∧ _ < _ + 52); omega)
  show W p l e room_1 s m #[Value.ref b] below meth c H2 locs2 CSL SSL (lw_Z below #[Value.ref b] s) (F0 m 1219 ls [.int (Int32.ofInt r2), .int (Int32.ofInt r)])
  refine lv_icmp_eq (pc := 1219) (off := 246) (tgt := 1465) (x := Int32.ofInt r) (y := Int32.ofInt r2) hx hb (by decide +kernel) (by decide) (fun _ => ?_) (fun hc => absurd (i_eq.mpr hw) hc)
  exact kend τx τm H2 locs2 ls hI2 hRx2 hRm2 hS2 hl
set_option maxRecDepth 100000 in
set_option maxHeartbeats 4000000 in
theorem lc_30 {p : Program} {l : Launch} {e : Env} {s : State} {m : MethodId} {below : List Frame} {meth : Method} {c : Code} {b L : Nat} {xs : Nat → Int32} {D : va_G} {ca : Nat → ClassId} {ra : Nat → Nat} {Inv : St → St → Prop} (N : Nat) (K : LK p l e s m below meth c b L xs D ca ra) (hn : ∀ σx σm : St, Inv σx σm → σx.1 = 113 ∧ σm.1 = 51) (sim : ∀ σx σm : St, Inv σx σm → ∀ (a0 : Int) (a1 : Int), wr a0 = a0 → wr a1 = a1 → OK2 Inv (f_X11_maker N σx 1 a0 a1) (f_X12_maker N σm 1 a0 a1)) {i : Nat} (hi : i + 7 ≤ L) (kend : GO p l e s m below meth c b D ca Inv 1465 i) : GO p l e s m below meth c b D ca Inv 1224 i := by
  obtain ⟨⟨hx, hb, hml, hown⟩, hts, ⟨hK, hN, hF⟩, hX, hbl, hL⟩ := K
  intro σx σm H locs ls hI hRx hRm hS hl
  obtain ⟨τx, τm, r, r2, hpx, hpm, hw, hI2⟩ := sim σx σm hI ((xs (i + 1)).toInt) ((xs (i + 2)).toInt) (wr_ti _) (wr_ti _)
  obtain ⟨n1, n2⟩ := hn σx σm hI
  obtain ⟨n3, n4⟩ := hn τx τm hI2
  refine lv_aload_n (k := 1) (i := 1) hx hb (by decide +kernel) rfl (lv_at hl 1 rfl) ?_
  refine ly_arg (pc := 1225) hx hb hX hbl hS hl 1 (pc2 := 1228) (pc3 := 1230) (lv_at hl 0 rfl) (lv_at hl 3 rfl) (by omega) hL (by decide +kernel) (by decide +kernel) (Or.inl ⟨rfl, (by decide +kernel)⟩) (by decide +kernel) (by decide +kernel) rfl ?_
  refine ly_arg (pc := 1230) hx hb hX hbl hS hl 2 (pc2 := 1233) (pc3 := 1235) (lv_at hl 0 rfl) (lv_at hl 3 rfl) (by omega) hL (by decide +kernel) (by decide +kernel) (Or.inl ⟨rfl, (by decide +kernel)⟩) (by decide +kernel) (by decide +kernel) rfl ?_
  refine ly_call (pc := 1235) (As := [ai ((xs (i + 1)).toInt), ai ((xs (i + 2)).toInt)]) (ci := 11) (st := []) hx hb hml hown hts hK hN hF (by unfold bX; omega) hRx hS hl.1 (c_X11_maker l D ca ra N σx 1 ((xs (i + 1)).toInt) ((xs (i + 2)).toInt)) hpx ⟨rfl, by omega⟩ mt_X11_maker mv_X11_maker rfl ml_RL_142 rfl ⟨Nat.le_of_ble_eq_true rfl, Nat.le_of_ble_eq_true rfl⟩ (Nat.le_of_ble_eq_true rfl) ⟨rfl, rfl⟩ ⟨Nat.le_of_ble_eq_true rfl, Nat.le_of_ble_eq_true rfl⟩ (by decide +kernel) (by simp only [List.map_cons, List.map_nil, List.reverse_cons, List.reverse_nil, List.nil_append, List.cons_append, List.append_nil, cv, Int32.ofInt_toInt]) (fun H1 locs1 hRx1 hq1 hS1 => ?_)
  have z1 : H1.size = H.size := by rw [hRx1.2.1, hRx.2.1, n1, n3]
  have hRm1 := hRm.other z1 hq1 (fun k a1 a2 => by unfold bX bM; show ¬ (_ ∧ _ < _ + 114); omega)
  clear hS hRm
  have hS := hS1
  show W p l e room_1 s m #[Value.ref b] below meth c H1 locs1 CSL SSL (lw_Z below #[Value.ref b] s) (F0 m 1238 ls [.int (Int32.ofInt r)])
  refine lv_aload_n (k := 2) (i := 2) hx hb (by decide +kernel) rfl (lv_at hl 2 rfl) ?_
  refine ly_arg (pc := 1239) hx hb hX hbl hS hl 1 (pc2 := 1242) (pc3 := 1244) (lv_at hl 0 rfl) (lv_at hl 3 rfl) (by omega) hL (by decide +kernel) (by decide +kernel) (Or.inl ⟨rfl, (by decide +kernel)⟩) (by decide +kernel) (by decide +kernel) rfl ?_
  refine ly_arg (pc := 1244) hx hb hX hbl hS hl 2 (pc2 := 1247) (pc3 := 1249) (lv_at hl 0 rfl) (lv_at hl 3 rfl) (by omega) hL (by decide +kernel) (by decide +kernel) (Or.inl ⟨rfl, (by decide +kernel)⟩) (by decide +kernel) (by decide +kernel) rfl ?_
  refine ly_call (pc := 1249) (As := [ai ((xs (i + 1)).toInt), ai ((xs (i + 2)).toInt)]) (ci := 12) (st := [.int (Int32.ofInt r)]) hx hb hml hown hts hK hN hF (by unfold bM; omega) hRm1 hS hl.1 (c_X12_maker l D ca ra N σm 1 ((xs (i + 1)).toInt) ((xs (i + 2)).toInt)) hpm ⟨rfl, by omega⟩ mt_X12_maker mv_X12_maker rfl ml_RL_145 rfl ⟨Nat.le_of_ble_eq_true rfl, Nat.le_of_ble_eq_true rfl⟩ (Nat.le_of_ble_eq_true rfl) ⟨rfl, rfl⟩ ⟨Nat.le_of_ble_eq_true rfl, Nat.le_of_ble_eq_true rfl⟩ (by decide +kernel) (by simp only [List.map_cons, List.map_nil, List.reverse_cons, List.reverse_nil, List.nil_append, List.cons_append, List.append_nil, cv, Int32.ofInt_toInt]) (fun H2 locs2 hRm2 hq2 hS2 => ?_)
  have z2 : H2.size = H1.size := by rw [hRm2.2.1, hRm1.2.1, n2, n4]
  have hRx2 := hRx1.other z2 hq2 (fun k a1 a2 => by unfold bX bM; show ¬ (_ ∧ _ < _ + 52); omega)
  show W p l e room_1 s m #[Value.ref b] below meth c H2 locs2 CSL SSL (lw_Z below #[Value.ref b] s) (F0 m 1252 ls [.int (Int32.ofInt r2), .int (Int32.ofInt r)])
  refine lv_icmp_eq (pc := 1252) (off := 213) (tgt := 1465) (x := Int32.ofInt r) (y := Int32.ofInt r2) hx hb (by decide +kernel) (by decide) (fun _ => ?_) (fun hc => absurd (i_eq.mpr hw) hc)
  exact kend τx τm H2 locs2 ls hI2 hRx2 hRm2 hS2 hl
set_option maxRecDepth 100000 in
set_option maxHeartbeats 4000000 in
theorem lc_31 {p : Program} {l : Launch} {e : Env} {s : State} {m : MethodId} {below : List Frame} {meth : Method} {c : Code} {b L : Nat} {xs : Nat → Int32} {D : va_G} {ca : Nat → ClassId} {ra : Nat → Nat} {Inv : St → St → Prop} (N : Nat) (K : LK p l e s m below meth c b L xs D ca ra) (hn : ∀ σx σm : St, Inv σx σm → σx.1 = 113 ∧ σm.1 = 51) (sim : ∀ σx σm : St, Inv σx σm → ∀ (a0 : Int) (a1 : Int), wr a0 = a0 → wr a1 = a1 → OK2 Inv (f_X11_stage N σx 1 a0 a1) (f_X12_stage N σm 1 a0 a1)) {i : Nat} (hi : i + 7 ≤ L) (kend : GO p l e s m below meth c b D ca Inv 1465 i) : GO p l e s m below meth c b D ca Inv 1257 i := by
  obtain ⟨⟨hx, hb, hml, hown⟩, hts, ⟨hK, hN, hF⟩, hX, hbl, hL⟩ := K
  intro σx σm H locs ls hI hRx hRm hS hl
  obtain ⟨τx, τm, r, r2, hpx, hpm, hw, hI2⟩ := sim σx σm hI ((xs (i + 1)).toInt) ((xs (i + 2)).toInt) (wr_ti _) (wr_ti _)
  obtain ⟨n1, n2⟩ := hn σx σm hI
  obtain ⟨n3, n4⟩ := hn τx τm hI2
  refine lv_aload_n (k := 1) (i := 1) hx hb (by decide +kernel) rfl (lv_at hl 1 rfl) ?_
  refine ly_arg (pc := 1258) hx hb hX hbl hS hl 1 (pc2 := 1261) (pc3 := 1263) (lv_at hl 0 rfl) (lv_at hl 3 rfl) (by omega) hL (by decide +kernel) (by decide +kernel) (Or.inl ⟨rfl, (by decide +kernel)⟩) (by decide +kernel) (by decide +kernel) rfl ?_
  refine ly_arg (pc := 1263) hx hb hX hbl hS hl 2 (pc2 := 1266) (pc3 := 1268) (lv_at hl 0 rfl) (lv_at hl 3 rfl) (by omega) hL (by decide +kernel) (by decide +kernel) (Or.inl ⟨rfl, (by decide +kernel)⟩) (by decide +kernel) (by decide +kernel) rfl ?_
  refine ly_call (pc := 1268) (As := [ai ((xs (i + 1)).toInt), ai ((xs (i + 2)).toInt)]) (ci := 11) (st := []) hx hb hml hown hts hK hN hF (by unfold bX; omega) hRx hS hl.1 (c_X11_stage l D ca ra N σx 1 ((xs (i + 1)).toInt) ((xs (i + 2)).toInt)) hpx ⟨rfl, by omega⟩ mt_X11_stage mv_X11_stage rfl ml_RL_146 rfl ⟨Nat.le_of_ble_eq_true rfl, Nat.le_of_ble_eq_true rfl⟩ (Nat.le_of_ble_eq_true rfl) ⟨rfl, rfl⟩ ⟨Nat.le_of_ble_eq_true rfl, Nat.le_of_ble_eq_true rfl⟩ (by decide +kernel) (by simp only [List.map_cons, List.map_nil, List.reverse_cons, List.reverse_nil, List.nil_append, List.cons_append, List.append_nil, cv, Int32.ofInt_toInt]) (fun H1 locs1 hRx1 hq1 hS1 => ?_)
  have z1 : H1.size = H.size := by rw [hRx1.2.1, hRx.2.1, n1, n3]
  have hRm1 := hRm.other z1 hq1 (fun k a1 a2 => by unfold bX bM; show ¬ (_ ∧ _ < _ + 114); omega)
  clear hS hRm
  have hS := hS1
  show W p l e room_1 s m #[Value.ref b] below meth c H1 locs1 CSL SSL (lw_Z below #[Value.ref b] s) (F0 m 1271 ls [.int (Int32.ofInt r)])
  refine lv_aload_n (k := 2) (i := 2) hx hb (by decide +kernel) rfl (lv_at hl 2 rfl) ?_
  refine ly_arg (pc := 1272) hx hb hX hbl hS hl 1 (pc2 := 1275) (pc3 := 1277) (lv_at hl 0 rfl) (lv_at hl 3 rfl) (by omega) hL (by decide +kernel) (by decide +kernel) (Or.inl ⟨rfl, (by decide +kernel)⟩) (by decide +kernel) (by decide +kernel) rfl ?_
  refine ly_arg (pc := 1277) hx hb hX hbl hS hl 2 (pc2 := 1280) (pc3 := 1282) (lv_at hl 0 rfl) (lv_at hl 3 rfl) (by omega) hL (by decide +kernel) (by decide +kernel) (Or.inl ⟨rfl, (by decide +kernel)⟩) (by decide +kernel) (by decide +kernel) rfl ?_
  refine ly_call (pc := 1282) (As := [ai ((xs (i + 1)).toInt), ai ((xs (i + 2)).toInt)]) (ci := 12) (st := [.int (Int32.ofInt r)]) hx hb hml hown hts hK hN hF (by unfold bM; omega) hRm1 hS hl.1 (c_X12_stage l D ca ra N σm 1 ((xs (i + 1)).toInt) ((xs (i + 2)).toInt)) hpm ⟨rfl, by omega⟩ mt_X12_stage mv_X12_stage rfl ml_RL_149 rfl ⟨Nat.le_of_ble_eq_true rfl, Nat.le_of_ble_eq_true rfl⟩ (Nat.le_of_ble_eq_true rfl) ⟨rfl, rfl⟩ ⟨Nat.le_of_ble_eq_true rfl, Nat.le_of_ble_eq_true rfl⟩ (by decide +kernel) (by simp only [List.map_cons, List.map_nil, List.reverse_cons, List.reverse_nil, List.nil_append, List.cons_append, List.append_nil, cv, Int32.ofInt_toInt]) (fun H2 locs2 hRm2 hq2 hS2 => ?_)
  have z2 : H2.size = H1.size := by rw [hRm2.2.1, hRm1.2.1, n2, n4]
  have hRx2 := hRx1.other z2 hq2 (fun k a1 a2 => by unfold bX bM; show ¬ (_ ∧ _ < _ + 52); omega)
  show W p l e room_1 s m #[Value.ref b] below meth c H2 locs2 CSL SSL (lw_Z below #[Value.ref b] s) (F0 m 1285 ls [.int (Int32.ofInt r2), .int (Int32.ofInt r)])
  refine lv_icmp_eq (pc := 1285) (off := 180) (tgt := 1465) (x := Int32.ofInt r) (y := Int32.ofInt r2) hx hb (by decide +kernel) (by decide) (fun _ => ?_) (fun hc => absurd (i_eq.mpr hw) hc)
  exact kend τx τm H2 locs2 ls hI2 hRx2 hRm2 hS2 hl
set_option maxRecDepth 100000 in
set_option maxHeartbeats 4000000 in
theorem lc_32 {p : Program} {l : Launch} {e : Env} {s : State} {m : MethodId} {below : List Frame} {meth : Method} {c : Code} {b L : Nat} {xs : Nat → Int32} {D : va_G} {ca : Nat → ClassId} {ra : Nat → Nat} {Inv : St → St → Prop} (N : Nat) (K : LK p l e s m below meth c b L xs D ca ra) (hn : ∀ σx σm : St, Inv σx σm → σx.1 = 113 ∧ σm.1 = 51) (sim : ∀ σx σm : St, Inv σx σm → ∀ (a0 : Int) (a1 : Int), wr a0 = a0 → wr a1 = a1 → OK2 Inv (f_X11_grant N σx 1 a0 a1) (f_X12_grant N σm 1 a0 a1)) {i : Nat} (hi : i + 7 ≤ L) (kend : GO p l e s m below meth c b D ca Inv 1465 i) : GO p l e s m below meth c b D ca Inv 1290 i := by
  obtain ⟨⟨hx, hb, hml, hown⟩, hts, ⟨hK, hN, hF⟩, hX, hbl, hL⟩ := K
  intro σx σm H locs ls hI hRx hRm hS hl
  obtain ⟨τx, τm, r, r2, hpx, hpm, hw, hI2⟩ := sim σx σm hI ((xs (i + 1)).toInt) ((xs (i + 2)).toInt) (wr_ti _) (wr_ti _)
  obtain ⟨n1, n2⟩ := hn σx σm hI
  obtain ⟨n3, n4⟩ := hn τx τm hI2
  refine lv_aload_n (k := 1) (i := 1) hx hb (by decide +kernel) rfl (lv_at hl 1 rfl) ?_
  refine ly_arg (pc := 1291) hx hb hX hbl hS hl 1 (pc2 := 1294) (pc3 := 1296) (lv_at hl 0 rfl) (lv_at hl 3 rfl) (by omega) hL (by decide +kernel) (by decide +kernel) (Or.inl ⟨rfl, (by decide +kernel)⟩) (by decide +kernel) (by decide +kernel) rfl ?_
  refine ly_arg (pc := 1296) hx hb hX hbl hS hl 2 (pc2 := 1299) (pc3 := 1301) (lv_at hl 0 rfl) (lv_at hl 3 rfl) (by omega) hL (by decide +kernel) (by decide +kernel) (Or.inl ⟨rfl, (by decide +kernel)⟩) (by decide +kernel) (by decide +kernel) rfl ?_
  refine ly_call (pc := 1301) (As := [ai ((xs (i + 1)).toInt), ai ((xs (i + 2)).toInt)]) (ci := 11) (st := []) hx hb hml hown hts hK hN hF (by unfold bX; omega) hRx hS hl.1 (c_X11_grant l D ca ra N σx 1 ((xs (i + 1)).toInt) ((xs (i + 2)).toInt)) hpx ⟨rfl, by omega⟩ mt_X11_grant mv_X11_grant rfl ml_RL_150 rfl ⟨Nat.le_of_ble_eq_true rfl, Nat.le_of_ble_eq_true rfl⟩ (Nat.le_of_ble_eq_true rfl) ⟨rfl, rfl⟩ ⟨Nat.le_of_ble_eq_true rfl, Nat.le_of_ble_eq_true rfl⟩ (by decide +kernel) (by simp only [List.map_cons, List.map_nil, List.reverse_cons, List.reverse_nil, List.nil_append, List.cons_append, List.append_nil, cv, Int32.ofInt_toInt]) (fun H1 locs1 hRx1 hq1 hS1 => ?_)
  have z1 : H1.size = H.size := by rw [hRx1.2.1, hRx.2.1, n1, n3]
  have hRm1 := hRm.other z1 hq1 (fun k a1 a2 => by unfold bX bM; show ¬ (_ ∧ _ < _ + 114); omega)
  clear hS hRm
  have hS := hS1
  show W p l e room_1 s m #[Value.ref b] below meth c H1 locs1 CSL SSL (lw_Z below #[Value.ref b] s) (F0 m 1304 ls [.int (Int32.ofInt r)])
  refine lv_aload_n (k := 2) (i := 2) hx hb (by decide +kernel) rfl (lv_at hl 2 rfl) ?_
  refine ly_arg (pc := 1305) hx hb hX hbl hS hl 1 (pc2 := 1308) (pc3 := 1310) (lv_at hl 0 rfl) (lv_at hl 3 rfl) (by omega) hL (by decide +kernel) (by decide +kernel) (Or.inl ⟨rfl, (by decide +kernel)⟩) (by decide +kernel) (by decide +kernel) rfl ?_
  refine ly_arg (pc := 1310) hx hb hX hbl hS hl 2 (pc2 := 1313) (pc3 := 1315) (lv_at hl 0 rfl) (lv_at hl 3 rfl) (by omega) hL (by decide +kernel) (by decide +kernel) (Or.inl ⟨rfl, (by decide +kernel)⟩) (by decide +kernel) (by decide +kernel) rfl ?_
  refine ly_call (pc := 1315) (As := [ai ((xs (i + 1)).toInt), ai ((xs (i + 2)).toInt)]) (ci := 12) (st := [.int (Int32.ofInt r)]) hx hb hml hown hts hK hN hF (by unfold bM; omega) hRm1 hS hl.1 (c_X12_grant l D ca ra N σm 1 ((xs (i + 1)).toInt) ((xs (i + 2)).toInt)) hpm ⟨rfl, by omega⟩ mt_X12_grant mv_X12_grant rfl ml_RL_154 rfl ⟨Nat.le_of_ble_eq_true rfl, Nat.le_of_ble_eq_true rfl⟩ (Nat.le_of_ble_eq_true rfl) ⟨rfl, rfl⟩ ⟨Nat.le_of_ble_eq_true rfl, Nat.le_of_ble_eq_true rfl⟩ (by decide +kernel) (by simp only [List.map_cons, List.map_nil, List.reverse_cons, List.reverse_nil, List.nil_append, List.cons_append, List.append_nil, cv, Int32.ofInt_toInt]) (fun H2 locs2 hRm2 hq2 hS2 => ?_)
  have z2 : H2.size = H1.size := by rw [hRm2.2.1, hRm1.2.1, n2, n4]
  have hRx2 := hRx1.other z2 hq2 (fun k a1 a2 => by unfold bX bM; show ¬ (_ ∧ _ < _ + 52); omega)
  show W p l e room_1 s m #[Value.ref b] below meth c H2 locs2 CSL SSL (lw_Z below #[Value.ref b] s) (F0 m 1318 ls [.int (Int32.ofInt r2), .int (Int32.ofInt r)])
  refine lv_icmp_eq (pc := 1318) (off := 147) (tgt := 1465) (x := Int32.ofInt r) (y := Int32.ofInt r2) hx hb (by decide +kernel) (by decide) (fun _ => ?_) (fun hc => absurd (i_eq.mpr hw) hc)
  exact kend τx τm H2 locs2 ls hI2 hRx2 hRm2 hS2 hl
set_option maxRecDepth 100000 in
set_option maxHeartbeats 4000000 in
theorem lc_33 {p : Program} {l : Launch} {e : Env} {s : State} {m : MethodId} {below : List Frame} {meth : Method} {c : Code} {b L : Nat} {xs : Nat → Int32} {D : va_G} {ca : Nat → ClassId} {ra : Nat → Nat} {Inv : St → St → Prop} (N : Nat) (K : LK p l e s m below meth c b L xs D ca ra) (hn : ∀ σx σm : St, Inv σx σm → σx.1 = 113 ∧ σm.1 = 51) (sim : ∀ σx σm : St, Inv σx σm → ∀ (a0 : Int) (a1 : Int) (a2 : Int), wr a0 = a0 → wr a1 = a1 → wr a2 = a2 → OK2 Inv (f_X11_safe N σx 1 a0 a1 a2) (f_X12_safe N σm 1 a0 a1 a2)) {i : Nat} (hi : i + 7 ≤ L) (kend : GO p l e s m below meth c b D ca Inv 1465 i) : GO p l e s m below meth c b D ca Inv 1323 i := by
  obtain ⟨⟨hx, hb, hml, hown⟩, hts, ⟨hK, hN, hF⟩, hX, hbl, hL⟩ := K
  intro σx σm H locs ls hI hRx hRm hS hl
  obtain ⟨τx, τm, r, r2, hpx, hpm, hw, hI2⟩ := sim σx σm hI ((xs (i + 1)).toInt) ((xs (i + 2)).toInt) ((xs (i + 3)).toInt) (wr_ti _) (wr_ti _) (wr_ti _)
  obtain ⟨n1, n2⟩ := hn σx σm hI
  obtain ⟨n3, n4⟩ := hn τx τm hI2
  refine lv_aload_n (k := 1) (i := 1) hx hb (by decide +kernel) rfl (lv_at hl 1 rfl) ?_
  refine ly_arg (pc := 1324) hx hb hX hbl hS hl 1 (pc2 := 1327) (pc3 := 1329) (lv_at hl 0 rfl) (lv_at hl 3 rfl) (by omega) hL (by decide +kernel) (by decide +kernel) (Or.inl ⟨rfl, (by decide +kernel)⟩) (by decide +kernel) (by decide +kernel) rfl ?_
  refine ly_arg (pc := 1329) hx hb hX hbl hS hl 2 (pc2 := 1332) (pc3 := 1334) (lv_at hl 0 rfl) (lv_at hl 3 rfl) (by omega) hL (by decide +kernel) (by decide +kernel) (Or.inl ⟨rfl, (by decide +kernel)⟩) (by decide +kernel) (by decide +kernel) rfl ?_
  refine ly_arg (pc := 1334) hx hb hX hbl hS hl 3 (pc2 := 1337) (pc3 := 1339) (lv_at hl 0 rfl) (lv_at hl 3 rfl) (by omega) hL (by decide +kernel) (by decide +kernel) (Or.inl ⟨rfl, (by decide +kernel)⟩) (by decide +kernel) (by decide +kernel) rfl ?_
  refine ly_call (pc := 1339) (As := [ai ((xs (i + 1)).toInt), ai ((xs (i + 2)).toInt), ai ((xs (i + 3)).toInt)]) (ci := 11) (st := []) hx hb hml hown hts hK hN hF (by unfold bX; omega) hRx hS hl.1 (c_X11_safe l D ca ra N σx 1 ((xs (i + 1)).toInt) ((xs (i + 2)).toInt) ((xs (i + 3)).toInt)) hpx ⟨rfl, by omega⟩ mt_X11_safe mv_X11_safe rfl ml_RL_155 rfl ⟨Nat.le_of_ble_eq_true rfl, Nat.le_of_ble_eq_true rfl⟩ (Nat.le_of_ble_eq_true rfl) ⟨rfl, rfl⟩ ⟨Nat.le_of_ble_eq_true rfl, Nat.le_of_ble_eq_true rfl⟩ (by decide +kernel) (by simp only [List.map_cons, List.map_nil, List.reverse_cons, List.reverse_nil, List.nil_append, List.cons_append, List.append_nil, cv, Int32.ofInt_toInt]) (fun H1 locs1 hRx1 hq1 hS1 => ?_)
  have z1 : H1.size = H.size := by rw [hRx1.2.1, hRx.2.1, n1, n3]
  have hRm1 := hRm.other z1 hq1 (fun k a1 a2 => by unfold bX bM; show ¬ (_ ∧ _ < _ + 114); omega)
  clear hS hRm
  have hS := hS1
  show W p l e room_1 s m #[Value.ref b] below meth c H1 locs1 CSL SSL (lw_Z below #[Value.ref b] s) (F0 m 1342 ls [.int (Int32.ofInt r)])
  refine lv_aload_n (k := 2) (i := 2) hx hb (by decide +kernel) rfl (lv_at hl 2 rfl) ?_
  refine ly_arg (pc := 1343) hx hb hX hbl hS hl 1 (pc2 := 1346) (pc3 := 1348) (lv_at hl 0 rfl) (lv_at hl 3 rfl) (by omega) hL (by decide +kernel) (by decide +kernel) (Or.inl ⟨rfl, (by decide +kernel)⟩) (by decide +kernel) (by decide +kernel) rfl ?_
  refine ly_arg (pc := 1348) hx hb hX hbl hS hl 2 (pc2 := 1351) (pc3 := 1353) (lv_at hl 0 rfl) (lv_at hl 3 rfl) (by omega) hL (by decide +kernel) (by decide +kernel) (Or.inl ⟨rfl, (by decide +kernel)⟩) (by decide +kernel) (by decide +kernel) rfl ?_
  refine ly_arg (pc := 1353) hx hb hX hbl hS hl 3 (pc2 := 1356) (pc3 := 1358) (lv_at hl 0 rfl) (lv_at hl 3 rfl) (by omega) hL (by decide +kernel) (by decide +kernel) (Or.inl ⟨rfl, (by decide +kernel)⟩) (by decide +kernel) (by decide +kernel) rfl ?_
  refine ly_call (pc := 1358) (As := [ai ((xs (i + 1)).toInt), ai ((xs (i + 2)).toInt), ai ((xs (i + 3)).toInt)]) (ci := 12) (st := [.int (Int32.ofInt r)]) hx hb hml hown hts hK hN hF (by unfold bM; omega) hRm1 hS hl.1 (c_X12_safe l D ca ra N σm 1 ((xs (i + 1)).toInt) ((xs (i + 2)).toInt) ((xs (i + 3)).toInt)) hpm ⟨rfl, by omega⟩ mt_X12_safe mv_X12_safe rfl ml_RL_158 rfl ⟨Nat.le_of_ble_eq_true rfl, Nat.le_of_ble_eq_true rfl⟩ (Nat.le_of_ble_eq_true rfl) ⟨rfl, rfl⟩ ⟨Nat.le_of_ble_eq_true rfl, Nat.le_of_ble_eq_true rfl⟩ (by decide +kernel) (by simp only [List.map_cons, List.map_nil, List.reverse_cons, List.reverse_nil, List.nil_append, List.cons_append, List.append_nil, cv, Int32.ofInt_toInt]) (fun H2 locs2 hRm2 hq2 hS2 => ?_)
  have z2 : H2.size = H1.size := by rw [hRm2.2.1, hRm1.2.1, n2, n4]
  have hRx2 := hRx1.other z2 hq2 (fun k a1 a2 => by unfold bX bM; show ¬ (_ ∧ _ < _ + 52); omega)
  show W p l e room_1 s m #[Value.ref b] below meth c H2 locs2 CSL SSL (lw_Z below #[Value.ref b] s) (F0 m 1361 ls [.int (Int32.ofInt r2), .int (Int32.ofInt r)])
  refine lv_icmp_eq (pc := 1361) (off := 104) (tgt := 1465) (x := Int32.ofInt r) (y := Int32.ofInt r2) hx hb (by decide +kernel) (by decide) (fun _ => ?_) (fun hc => absurd (i_eq.mpr hw) hc)
  exact kend τx τm H2 locs2 ls hI2 hRx2 hRm2 hS2 hl
set_option maxRecDepth 100000 in
set_option maxHeartbeats 4000000 in
theorem lc_34 {p : Program} {l : Launch} {e : Env} {s : State} {m : MethodId} {below : List Frame} {meth : Method} {c : Code} {b L : Nat} {xs : Nat → Int32} {D : va_G} {ca : Nat → ClassId} {ra : Nat → Nat} {Inv : St → St → Prop} (N : Nat) (K : LK p l e s m below meth c b L xs D ca ra) (hn : ∀ σx σm : St, Inv σx σm → σx.1 = 113 ∧ σm.1 = 51) (sim : ∀ σx σm : St, Inv σx σm → ∀ (a0 : Int) (a1 : Int), wr a0 = a0 → wr a1 = a1 → OK2 Inv (f_X11_bears N σx 1 a0 a1) (f_X12_bears N σm 1 a0 a1)) {i : Nat} (hi : i + 7 ≤ L) (kend : GO p l e s m below meth c b D ca Inv 1465 i) : GO p l e s m below meth c b D ca Inv 1366 i := by
  obtain ⟨⟨hx, hb, hml, hown⟩, hts, ⟨hK, hN, hF⟩, hX, hbl, hL⟩ := K
  intro σx σm H locs ls hI hRx hRm hS hl
  obtain ⟨τx, τm, r, r2, hpx, hpm, hw, hI2⟩ := sim σx σm hI ((xs (i + 1)).toInt) ((xs (i + 2)).toInt) (wr_ti _) (wr_ti _)
  obtain ⟨n1, n2⟩ := hn σx σm hI
  obtain ⟨n3, n4⟩ := hn τx τm hI2
  refine lv_aload_n (k := 1) (i := 1) hx hb (by decide +kernel) rfl (lv_at hl 1 rfl) ?_
  refine ly_arg (pc := 1367) hx hb hX hbl hS hl 1 (pc2 := 1370) (pc3 := 1372) (lv_at hl 0 rfl) (lv_at hl 3 rfl) (by omega) hL (by decide +kernel) (by decide +kernel) (Or.inl ⟨rfl, (by decide +kernel)⟩) (by decide +kernel) (by decide +kernel) rfl ?_
  refine ly_arg (pc := 1372) hx hb hX hbl hS hl 2 (pc2 := 1375) (pc3 := 1377) (lv_at hl 0 rfl) (lv_at hl 3 rfl) (by omega) hL (by decide +kernel) (by decide +kernel) (Or.inl ⟨rfl, (by decide +kernel)⟩) (by decide +kernel) (by decide +kernel) rfl ?_
  refine ly_call (pc := 1377) (As := [ai ((xs (i + 1)).toInt), ai ((xs (i + 2)).toInt)]) (ci := 11) (st := []) hx hb hml hown hts hK hN hF (by unfold bX; omega) hRx hS hl.1 (c_X11_bears l D ca ra N σx 1 ((xs (i + 1)).toInt) ((xs (i + 2)).toInt)) hpx ⟨rfl, by omega⟩ mt_X11_bears mv_X11_bears rfl ml_RL_159 rfl ⟨Nat.le_of_ble_eq_true rfl, Nat.le_of_ble_eq_true rfl⟩ (Nat.le_of_ble_eq_true rfl) ⟨rfl, rfl⟩ ⟨Nat.le_of_ble_eq_true rfl, Nat.le_of_ble_eq_true rfl⟩ (by decide +kernel) (by simp only [List.map_cons, List.map_nil, List.reverse_cons, List.reverse_nil, List.nil_append, List.cons_append, List.append_nil, cv, Int32.ofInt_toInt]) (fun H1 locs1 hRx1 hq1 hS1 => ?_)
  have z1 : H1.size = H.size := by rw [hRx1.2.1, hRx.2.1, n1, n3]
  have hRm1 := hRm.other z1 hq1 (fun k a1 a2 => by unfold bX bM; show ¬ (_ ∧ _ < _ + 114); omega)
  clear hS hRm
  have hS := hS1
  show W p l e room_1 s m #[Value.ref b] below meth c H1 locs1 CSL SSL (lw_Z below #[Value.ref b] s) (F0 m 1380 ls [.int (Int32.ofInt r)])
  refine lv_aload_n (k := 2) (i := 2) hx hb (by decide +kernel) rfl (lv_at hl 2 rfl) ?_
  refine ly_arg (pc := 1381) hx hb hX hbl hS hl 1 (pc2 := 1384) (pc3 := 1386) (lv_at hl 0 rfl) (lv_at hl 3 rfl) (by omega) hL (by decide +kernel) (by decide +kernel) (Or.inl ⟨rfl, (by decide +kernel)⟩) (by decide +kernel) (by decide +kernel) rfl ?_
  refine ly_arg (pc := 1386) hx hb hX hbl hS hl 2 (pc2 := 1389) (pc3 := 1391) (lv_at hl 0 rfl) (lv_at hl 3 rfl) (by omega) hL (by decide +kernel) (by decide +kernel) (Or.inl ⟨rfl, (by decide +kernel)⟩) (by decide +kernel) (by decide +kernel) rfl ?_
  refine ly_call (pc := 1391) (As := [ai ((xs (i + 1)).toInt), ai ((xs (i + 2)).toInt)]) (ci := 12) (st := [.int (Int32.ofInt r)]) hx hb hml hown hts hK hN hF (by unfold bM; omega) hRm1 hS hl.1 (c_X12_bears l D ca ra N σm 1 ((xs (i + 1)).toInt) ((xs (i + 2)).toInt)) hpm ⟨rfl, by omega⟩ mt_X12_bears mv_X12_bears rfl ml_RL_162 rfl ⟨Nat.le_of_ble_eq_true rfl, Nat.le_of_ble_eq_true rfl⟩ (Nat.le_of_ble_eq_true rfl) ⟨rfl, rfl⟩ ⟨Nat.le_of_ble_eq_true rfl, Nat.le_of_ble_eq_true rfl⟩ (by decide +kernel) (by simp only [List.map_cons, List.map_nil, List.reverse_cons, List.reverse_nil, List.nil_append, List.cons_append, List.append_nil, cv, Int32.ofInt_toInt]) (fun H2 locs2 hRm2 hq2 hS2 => ?_)
  have z2 : H2.size = H1.size := by rw [hRm2.2.1, hRm1.2.1, n2, n4]
  have hRx2 := hRx1.other z2 hq2 (fun k a1 a2 => by unfold bX bM; show ¬ (_ ∧ _ < _ + 52); omega)
  show W p l e room_1 s m #[Value.ref b] below meth c H2 locs2 CSL SSL (lw_Z below #[Value.ref b] s) (F0 m 1394 ls [.int (Int32.ofInt r2), .int (Int32.ofInt r)])
  refine lv_icmp_eq (pc := 1394) (off := 71) (tgt := 1465) (x := Int32.ofInt r) (y := Int32.ofInt r2) hx hb (by decide +kernel) (by decide) (fun _ => ?_) (fun hc => absurd (i_eq.mpr hw) hc)
  exact kend τx τm H2 locs2 ls hI2 hRx2 hRm2 hS2 hl
set_option maxRecDepth 100000 in
set_option maxHeartbeats 4000000 in
theorem lc_35 {p : Program} {l : Launch} {e : Env} {s : State} {m : MethodId} {below : List Frame} {meth : Method} {c : Code} {b L : Nat} {xs : Nat → Int32} {D : va_G} {ca : Nat → ClassId} {ra : Nat → Nat} {Inv : St → St → Prop} (N : Nat) (K : LK p l e s m below meth c b L xs D ca ra) (hn : ∀ σx σm : St, Inv σx σm → σx.1 = 113 ∧ σm.1 = 51) (sim : ∀ σx σm : St, Inv σx σm → ∀ (a0 : Int) (a1 : Int) (a2 : Int), wr a0 = a0 → wr a1 = a1 → wr a2 = a2 → OK2 Inv (f_X11_should N σx 1 a0 a1 a2) (f_X12_should N σm 1 a0 a1 a2)) {i : Nat} (hi : i + 7 ≤ L) (kend : GO p l e s m below meth c b D ca Inv 1465 i) : GO p l e s m below meth c b D ca Inv 1399 i := by
  obtain ⟨⟨hx, hb, hml, hown⟩, hts, ⟨hK, hN, hF⟩, hX, hbl, hL⟩ := K
  intro σx σm H locs ls hI hRx hRm hS hl
  obtain ⟨τx, τm, r, r2, hpx, hpm, hw, hI2⟩ := sim σx σm hI ((xs (i + 1)).toInt) ((xs (i + 2)).toInt) ((xs (i + 3)).toInt) (wr_ti _) (wr_ti _) (wr_ti _)
  obtain ⟨n1, n2⟩ := hn σx σm hI
  obtain ⟨n3, n4⟩ := hn τx τm hI2
  refine lv_aload_n (k := 1) (i := 1) hx hb (by decide +kernel) rfl (lv_at hl 1 rfl) ?_
  refine ly_arg (pc := 1400) hx hb hX hbl hS hl 1 (pc2 := 1403) (pc3 := 1405) (lv_at hl 0 rfl) (lv_at hl 3 rfl) (by omega) hL (by decide +kernel) (by decide +kernel) (Or.inl ⟨rfl, (by decide +kernel)⟩) (by decide +kernel) (by decide +kernel) rfl ?_
  refine ly_arg (pc := 1405) hx hb hX hbl hS hl 2 (pc2 := 1408) (pc3 := 1410) (lv_at hl 0 rfl) (lv_at hl 3 rfl) (by omega) hL (by decide +kernel) (by decide +kernel) (Or.inl ⟨rfl, (by decide +kernel)⟩) (by decide +kernel) (by decide +kernel) rfl ?_
  refine ly_arg (pc := 1410) hx hb hX hbl hS hl 3 (pc2 := 1413) (pc3 := 1415) (lv_at hl 0 rfl) (lv_at hl 3 rfl) (by omega) hL (by decide +kernel) (by decide +kernel) (Or.inl ⟨rfl, (by decide +kernel)⟩) (by decide +kernel) (by decide +kernel) rfl ?_
  refine ly_call (pc := 1415) (As := [ai ((xs (i + 1)).toInt), ai ((xs (i + 2)).toInt), ai ((xs (i + 3)).toInt)]) (ci := 11) (st := []) hx hb hml hown hts hK hN hF (by unfold bX; omega) hRx hS hl.1 (c_X11_should l D ca ra N σx 1 ((xs (i + 1)).toInt) ((xs (i + 2)).toInt) ((xs (i + 3)).toInt)) hpx ⟨rfl, by omega⟩ mt_X11_should mv_X11_should rfl ml_RL_163 rfl ⟨Nat.le_of_ble_eq_true rfl, Nat.le_of_ble_eq_true rfl⟩ (Nat.le_of_ble_eq_true rfl) ⟨rfl, rfl⟩ ⟨Nat.le_of_ble_eq_true rfl, Nat.le_of_ble_eq_true rfl⟩ (by decide +kernel) (by simp only [List.map_cons, List.map_nil, List.reverse_cons, List.reverse_nil, List.nil_append, List.cons_append, List.append_nil, cv, Int32.ofInt_toInt]) (fun H1 locs1 hRx1 hq1 hS1 => ?_)
  have z1 : H1.size = H.size := by rw [hRx1.2.1, hRx.2.1, n1, n3]
  have hRm1 := hRm.other z1 hq1 (fun k a1 a2 => by unfold bX bM; show ¬ (_ ∧ _ < _ + 114); omega)
  clear hS hRm
  have hS := hS1
  show W p l e room_1 s m #[Value.ref b] below meth c H1 locs1 CSL SSL (lw_Z below #[Value.ref b] s) (F0 m 1418 ls [.int (Int32.ofInt r)])
  refine lv_aload_n (k := 2) (i := 2) hx hb (by decide +kernel) rfl (lv_at hl 2 rfl) ?_
  refine ly_arg (pc := 1419) hx hb hX hbl hS hl 1 (pc2 := 1422) (pc3 := 1424) (lv_at hl 0 rfl) (lv_at hl 3 rfl) (by omega) hL (by decide +kernel) (by decide +kernel) (Or.inl ⟨rfl, (by decide +kernel)⟩) (by decide +kernel) (by decide +kernel) rfl ?_
  refine ly_arg (pc := 1424) hx hb hX hbl hS hl 2 (pc2 := 1427) (pc3 := 1429) (lv_at hl 0 rfl) (lv_at hl 3 rfl) (by omega) hL (by decide +kernel) (by decide +kernel) (Or.inl ⟨rfl, (by decide +kernel)⟩) (by decide +kernel) (by decide +kernel) rfl ?_
  refine ly_arg (pc := 1429) hx hb hX hbl hS hl 3 (pc2 := 1432) (pc3 := 1434) (lv_at hl 0 rfl) (lv_at hl 3 rfl) (by omega) hL (by decide +kernel) (by decide +kernel) (Or.inl ⟨rfl, (by decide +kernel)⟩) (by decide +kernel) (by decide +kernel) rfl ?_
  refine ly_call (pc := 1434) (As := [ai ((xs (i + 1)).toInt), ai ((xs (i + 2)).toInt), ai ((xs (i + 3)).toInt)]) (ci := 12) (st := [.int (Int32.ofInt r)]) hx hb hml hown hts hK hN hF (by unfold bM; omega) hRm1 hS hl.1 (c_X12_should l D ca ra N σm 1 ((xs (i + 1)).toInt) ((xs (i + 2)).toInt) ((xs (i + 3)).toInt)) hpm ⟨rfl, by omega⟩ mt_X12_should mv_X12_should rfl ml_RL_166 rfl ⟨Nat.le_of_ble_eq_true rfl, Nat.le_of_ble_eq_true rfl⟩ (Nat.le_of_ble_eq_true rfl) ⟨rfl, rfl⟩ ⟨Nat.le_of_ble_eq_true rfl, Nat.le_of_ble_eq_true rfl⟩ (by decide +kernel) (by simp only [List.map_cons, List.map_nil, List.reverse_cons, List.reverse_nil, List.nil_append, List.cons_append, List.append_nil, cv, Int32.ofInt_toInt]) (fun H2 locs2 hRm2 hq2 hS2 => ?_)
  have z2 : H2.size = H1.size := by rw [hRm2.2.1, hRm1.2.1, n2, n4]
  have hRx2 := hRx1.other z2 hq2 (fun k a1 a2 => by unfold bX bM; show ¬ (_ ∧ _ < _ + 52); omega)
  show W p l e room_1 s m #[Value.ref b] below meth c H2 locs2 CSL SSL (lw_Z below #[Value.ref b] s) (F0 m 1437 ls [.int (Int32.ofInt r2), .int (Int32.ofInt r)])
  refine lv_icmp_eq (pc := 1437) (off := 28) (tgt := 1465) (x := Int32.ofInt r) (y := Int32.ofInt r2) hx hb (by decide +kernel) (by decide) (fun _ => ?_) (fun hc => absurd (i_eq.mpr hw) hc)
  exact kend τx τm H2 locs2 ls hI2 hRx2 hRm2 hS2 hl
set_option maxRecDepth 100000 in
set_option maxHeartbeats 4000000 in
theorem lc_36 {p : Program} {l : Launch} {e : Env} {s : State} {m : MethodId} {below : List Frame} {meth : Method} {c : Code} {b L : Nat} {xs : Nat → Int32} {D : va_G} {ca : Nat → ClassId} {ra : Nat → Nat} {Inv : St → St → Prop} (N : Nat) (K : LK p l e s m below meth c b L xs D ca ra) (hn : ∀ σx σm : St, Inv σx σm → σx.1 = 113 ∧ σm.1 = 51) (sim : ∀ σx σm : St, Inv σx σm → ∀ (a0 : Int), wr a0 = a0 → OK2 Inv (f_X11_about N σx 1 a0) (f_X12_about N σm 1 a0)) {i : Nat} (hi : i + 7 ≤ L) (kend : GO p l e s m below meth c b D ca Inv 1465 i) : GO p l e s m below meth c b D ca Inv 1442 i := by
  obtain ⟨⟨hx, hb, hml, hown⟩, hts, ⟨hK, hN, hF⟩, hX, hbl, hL⟩ := K
  intro σx σm H locs ls hI hRx hRm hS hl
  obtain ⟨τx, τm, r, r2, hpx, hpm, hw, hI2⟩ := sim σx σm hI ((xs (i + 1)).toInt) (wr_ti _)
  obtain ⟨n1, n2⟩ := hn σx σm hI
  obtain ⟨n3, n4⟩ := hn τx τm hI2
  refine lv_aload_n (k := 1) (i := 1) hx hb (by decide +kernel) rfl (lv_at hl 1 rfl) ?_
  refine ly_arg (pc := 1443) hx hb hX hbl hS hl 1 (pc2 := 1446) (pc3 := 1448) (lv_at hl 0 rfl) (lv_at hl 3 rfl) (by omega) hL (by decide +kernel) (by decide +kernel) (Or.inl ⟨rfl, (by decide +kernel)⟩) (by decide +kernel) (by decide +kernel) rfl ?_
  refine ly_call (pc := 1448) (As := [ai ((xs (i + 1)).toInt)]) (ci := 11) (st := []) hx hb hml hown hts hK hN hF (by unfold bX; omega) hRx hS hl.1 (c_X11_about l D ca ra N σx 1 ((xs (i + 1)).toInt)) hpx ⟨rfl, by omega⟩ mt_X11_about mv_X11_about rfl ml_RL_167 rfl ⟨Nat.le_of_ble_eq_true rfl, Nat.le_of_ble_eq_true rfl⟩ (Nat.le_of_ble_eq_true rfl) ⟨rfl, rfl⟩ ⟨Nat.le_of_ble_eq_true rfl, Nat.le_of_ble_eq_true rfl⟩ (by decide +kernel) (by simp only [List.map_cons, List.map_nil, List.reverse_cons, List.reverse_nil, List.nil_append, List.cons_append, List.append_nil, cv, Int32.ofInt_toInt]) (fun H1 locs1 hRx1 hq1 hS1 => ?_)
  have z1 : H1.size = H.size := by rw [hRx1.2.1, hRx.2.1, n1, n3]
  have hRm1 := hRm.other z1 hq1 (fun k a1 a2 => by unfold bX bM; show ¬ (_ ∧ _ < _ + 114); omega)
  clear hS hRm
  have hS := hS1
  show W p l e room_1 s m #[Value.ref b] below meth c H1 locs1 CSL SSL (lw_Z below #[Value.ref b] s) (F0 m 1451 ls [.int (Int32.ofInt r)])
  refine lv_aload_n (k := 2) (i := 2) hx hb (by decide +kernel) rfl (lv_at hl 2 rfl) ?_
  refine ly_arg (pc := 1452) hx hb hX hbl hS hl 1 (pc2 := 1455) (pc3 := 1457) (lv_at hl 0 rfl) (lv_at hl 3 rfl) (by omega) hL (by decide +kernel) (by decide +kernel) (Or.inl ⟨rfl, (by decide +kernel)⟩) (by decide +kernel) (by decide +kernel) rfl ?_
  refine ly_call (pc := 1457) (As := [ai ((xs (i + 1)).toInt)]) (ci := 12) (st := [.int (Int32.ofInt r)]) hx hb hml hown hts hK hN hF (by unfold bM; omega) hRm1 hS hl.1 (c_X12_about l D ca ra N σm 1 ((xs (i + 1)).toInt)) hpm ⟨rfl, by omega⟩ mt_X12_about mv_X12_about rfl ml_RL_170 rfl ⟨Nat.le_of_ble_eq_true rfl, Nat.le_of_ble_eq_true rfl⟩ (Nat.le_of_ble_eq_true rfl) ⟨rfl, rfl⟩ ⟨Nat.le_of_ble_eq_true rfl, Nat.le_of_ble_eq_true rfl⟩ (by decide +kernel) (by simp only [List.map_cons, List.map_nil, List.reverse_cons, List.reverse_nil, List.nil_append, List.cons_append, List.append_nil, cv, Int32.ofInt_toInt]) (fun H2 locs2 hRm2 hq2 hS2 => ?_)
  have z2 : H2.size = H1.size := by rw [hRm2.2.1, hRm1.2.1, n2, n4]
  have hRx2 := hRx1.other z2 hq2 (fun k a1 a2 => by unfold bX bM; show ¬ (_ ∧ _ < _ + 52); omega)
  show W p l e room_1 s m #[Value.ref b] below meth c H2 locs2 CSL SSL (lw_Z below #[Value.ref b] s) (F0 m 1460 ls [.int (Int32.ofInt r2), .int (Int32.ofInt r)])
  refine lv_icmp_eq (pc := 1460) (off := 5) (tgt := 1465) (x := Int32.ofInt r) (y := Int32.ofInt r2) hx hb (by decide +kernel) (by decide) (fun _ => ?_) (fun hc => absurd (i_eq.mpr hw) hc)
  exact kend τx τm H2 locs2 ls hI2 hRx2 hRm2 hS2 hl
