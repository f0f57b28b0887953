/-- every call of the two, in states that are alike, answers alike -/
def Sims (Inv : St → St → Prop) (N : Nat) : Prop :=
  (∀ σx σm : St, Inv σx σm → ∀ (a0 : Int) (a1 : Int) (a2 : Int) (a3 : Int) (a4 : Int), wr a0 = a0 → wr a1 = a1 → wr a2 = a2 → wr a3 = a3 → wr a4 = a4 → OK2 Inv (f_X11_feed N σx 1 a0 a1 a2 a3 a4) (f_X12_feed N σm 1 a0 a1 a2 a3 a4)) ∧
  (∀ σx σm : St, Inv σx σm → ∀ (a0 : Int), wr a0 = a0 → OK2 Inv (f_X11_end N σx 1 a0) (f_X12_end N σm 1 a0)) ∧
  (∀ σx σm : St, Inv σx σm → OK2 Inv (f_X11_machine N σx 1) (f_X12_machine N σm 1)) ∧
  (∀ σx σm : St, Inv σx σm → ∀ (a0 : Int), wr a0 = a0 → OK2 Inv (f_X11_treaty N σx 1 a0) (f_X12_treaty N σm 1 a0)) ∧
  (∀ σx σm : St, Inv σx σm → ∀ (a0 : Int), wr a0 = a0 → OK2 Inv (f_X11_fault N σx 1 a0) (f_X12_fault N σm 1 a0)) ∧
  (∀ σx σm : St, Inv σx σm → ∀ (a0 : Int) (a1 : Int), wr a0 = a0 → wr a1 = a1 → OK2 Inv (f_X11_mm N σx 1 a0 a1) (f_X12_mm N σm 1 a0 a1)) ∧
  (∀ σx σm : St, Inv σx σm → ∀ (a0 : Int), wr a0 = a0 → OK2 Inv (f_X11_clash N σx 1 a0) (f_X12_clash N σm 1 a0)) ∧
  (∀ σx σm : St, Inv σx σm → ∀ (a0 : Int), wr a0 = a0 → OK2 Inv (f_X11_breaks N σx 1 a0) (f_X12_breaks N σm 1 a0)) ∧
  (∀ σx σm : St, Inv σx σm → ∀ (a0 : Int), wr a0 = a0 → OK2 Inv (f_X11_mend N σx 1 a0) (f_X12_mend N σm 1 a0)) ∧
  (∀ σx σm : St, Inv σx σm → ∀ (a0 a1 a2 : Int), wr a0 = a0 → wr a1 = a1 → (a2 = 0 ∨ a2 = 1) → OK2 Inv (f_X11_unlike N σx 1 a0 a1 a2) (f_X12_unlike N σm 1 a0 a1 a2)) ∧
  (∀ σx σm : St, Inv σx σm → ∀ (a0 : Int) (a1 : Int), wr a0 = a0 → wr a1 = a1 → OK2 Inv (f_X11_change N σx 1 a0 a1) (f_X12_change N σm 1 a0 a1)) ∧
  (∀ σx σm : St, Inv σx σm → ∀ (a0 : Int) (a1 : Int), wr a0 = a0 → wr a1 = a1 → OK2 Inv (f_X11_estimate N σx 1 a0 a1) (f_X12_estimate N σm 1 a0 a1)) ∧
  (∀ σx σm : St, Inv σx σm → ∀ (a0 : Int) (a1 : Int), wr a0 = a0 → wr a1 = a1 → OK2 Inv (f_X11_show N σx 1 a0 a1) (f_X12_show N σm 1 a0 a1)) ∧
  (∀ σx σm : St, Inv σx σm → ∀ (a0 : Int), wr a0 = a0 → OK2 Inv (f_X11_untell N σx 1 a0) (f_X12_untell N σm 1 a0)) ∧
  (∀ σx σm : St, Inv σx σm → ∀ (a0 : Int), wr a0 = a0 → OK2 Inv (f_X11_later N σx 1 a0) (f_X12_later N σm 1 a0)) ∧
  (∀ σx σm : St, Inv σx σm → ∀ (a0 : Int) (a1 : Int), wr a0 = a0 → wr a1 = a1 → OK2 Inv (f_X11_moves N σx 1 a0 a1) (f_X12_moves N σm 1 a0 a1)) ∧
  (∀ σx σm : St, Inv σx σm → ∀ (a0 : Int) (a1 : Int), wr a0 = a0 → wr a1 = a1 → OK2 Inv (f_X11_cost N σx 1 a0 a1) (f_X12_cost N σm 1 a0 a1)) ∧
  (∀ σx σm : St, Inv σx σm → ∀ (a0 : Int) (a1 : Int) (a2 : Int), wr a0 = a0 → wr a1 = a1 → wr a2 = a2 → OK2 Inv (f_X11_pays N σx 1 a0 a1 a2) (f_X12_pays N σm 1 a0 a1 a2)) ∧
  (∀ σx σm : St, Inv σx σm → ∀ (a0 : Int) (a1 : Int), wr a0 = a0 → wr a1 = a1 → OK2 Inv (f_X11_over N σx 1 a0 a1) (f_X12_over N σm 1 a0 a1)) ∧
  (∀ σx σm : St, Inv σx σm → ∀ (a0 : Int) (a1 : Int) (a2 : Int), wr a0 = a0 → wr a1 = a1 → wr a2 = a2 → OK2 Inv (f_X11_leave N σx 1 a0 a1 a2) (f_X12_leave N σm 1 a0 a1 a2)) ∧
  (∀ σx σm : St, Inv σx σm → ∀ (a0 : Int) (a1 : Int), wr a0 = a0 → wr a1 = a1 → OK2 Inv (f_X11_bounds N σx 1 a0 a1) (f_X12_bounds N σm 1 a0 a1)) ∧
  (∀ σx σm : St, Inv σx σm → OK2 Inv (f_X11_land N σx 1) (f_X12_land N σm 1)) ∧
  (∀ σx σm : St, Inv σx σm → ∀ (a0 : Int), wr a0 = a0 → OK2 Inv (f_X11_pump N σx 1 a0) (f_X12_pump N σm 1 a0)) ∧
  (∀ σx σm : St, Inv σx σm → ∀ (a0 : Int) (a1 : Int) (a2 : Int), wr a0 = a0 → wr a1 = a1 → wr a2 = a2 → OK2 Inv (f_X11_plan N σx 1 a0 a1 a2) (f_X12_plan N σm 1 a0 a1 a2)) ∧
  (∀ σx σm : St, Inv σx σm → ∀ (a0 : Int) (a1 : Int) (a2 : Int) (a3 : Int), wr a0 = a0 → wr a1 = a1 → wr a2 = a2 → wr a3 = a3 → OK2 Inv (f_X11_move N σx 1 a0 a1 a2 a3) (f_X12_move N σm 1 a0 a1 a2 a3)) ∧
  (∀ σx σm : St, Inv σx σm → ∀ (a0 : Int) (a1 : Int) (a2 : Int) (a3 : Int) (a4 : Int) (a5 : Int), wr a0 = a0 → wr a1 = a1 → wr a2 = a2 → wr a3 = a3 → wr a4 = a4 → wr a5 = a5 → OK2 Inv (f_X11_soonest N σx 1 a0 a1 a2 a3 a4 a5) (f_X12_soonest N σm 1 a0 a1 a2 a3 a4 a5)) ∧
  (∀ σx σm : St, Inv σx σm → ∀ (a0 : Int) (a1 : Int), wr a0 = a0 → wr a1 = a1 → OK2 Inv (f_X11_airline N σx 1 a0 a1) (f_X12_airline N σm 1 a0 a1)) ∧
  (∀ σx σm : St, Inv σx σm → ∀ (a0 : Int) (a1 : Int) (a2 : Int), wr a0 = a0 → wr a1 = a1 → wr a2 = a2 → OK2 Inv (f_X11_hold N σx 1 a0 a1 a2) (f_X12_hold N σm 1 a0 a1 a2)) ∧
  (∀ σx σm : St, Inv σx σm → ∀ (a0 : Int) (a1 : Int) (a2 : Int) (a3 : Int), wr a0 = a0 → wr a1 = a1 → wr a2 = a2 → wr a3 = a3 → OK2 Inv (f_X11_lapse N σx 1 a0 a1 a2 a3) (f_X12_lapse N σm 1 a0 a1 a2 a3)) ∧
  (∀ σx σm : St, Inv σx σm → ∀ (a0 : Int), wr a0 = a0 → OK2 Inv (f_X11_shared N σx 1 a0) (f_X12_shared N σm 1 a0)) ∧
  (∀ σx σm : St, Inv σx σm → ∀ (a0 : Int) (a1 : Int), wr a0 = a0 → wr a1 = a1 → OK2 Inv (f_X11_maker N σx 1 a0 a1) (f_X12_maker N σm 1 a0 a1)) ∧
  (∀ σx σm : St, Inv σx σm → ∀ (a0 : Int) (a1 : Int), wr a0 = a0 → wr a1 = a1 → OK2 Inv (f_X11_stage N σx 1 a0 a1) (f_X12_stage N σm 1 a0 a1)) ∧
  (∀ σx σm : St, Inv σx σm → ∀ (a0 : Int) (a1 : Int), wr a0 = a0 → wr a1 = a1 → OK2 Inv (f_X11_grant N σx 1 a0 a1) (f_X12_grant N σm 1 a0 a1)) ∧
  (∀ σx σm : St, Inv σx σm → ∀ (a0 : Int) (a1 : Int) (a2 : Int), wr a0 = a0 → wr a1 = a1 → wr a2 = a2 → OK2 Inv (f_X11_safe N σx 1 a0 a1 a2) (f_X12_safe N σm 1 a0 a1 a2)) ∧
  (∀ σx σm : St, Inv σx σm → ∀ (a0 : Int) (a1 : Int), wr a0 = a0 → wr a1 = a1 → OK2 Inv (f_X11_bears N σx 1 a0 a1) (f_X12_bears N σm 1 a0 a1)) ∧
  (∀ σx σm : St, Inv σx σm → ∀ (a0 : Int) (a1 : Int) (a2 : Int), wr a0 = a0 → wr a1 = a1 → wr a2 = a2 → OK2 Inv (f_X11_should N σx 1 a0 a1 a2) (f_X12_should N σm 1 a0 a1 a2)) ∧
  (∀ σx σm : St, Inv σx σm → ∀ (a0 : Int), wr a0 = a0 → OK2 Inv (f_X11_about N σx 1 a0) (f_X12_about N σm 1 a0))
set_option maxRecDepth 100000 in
set_option maxHeartbeats 8000000 in
theorem law_step {p : Program} {l : Launch} {e : Env} {s : State} {m : MethodId} {below : List Frame} {meth : Method} {c : Code} {b L : Nat} {xs : Nat → Int32} {D : va_G} {ca : Nat → ClassId} {ra : Nat → Nat} {Inv : St → St → Prop} (N : Nat) (K : LK p l e s m below meth c b L xs D ca ra) (hr : meth.sig.returnType = ret) (hlk : meth.locks = false) (hn : ∀ σx σm : St, Inv σx σm → σx.1 = 113 ∧ σm.1 = 51) (sim : Sims Inv N) {i : Nat} (hi : i ≤ L) (next : i + 7 ≤ L → GO p l e s m below meth c b D ca Inv 18 (i + 7)) : GO p l e s m below meth c b D ca Inv 18 i := by
  have K0 := K
  obtain ⟨⟨hx, hb, hml, hown⟩, hts, ⟨hK, hN, hF⟩, hX, hbl, hL⟩ := K
  have kend : i + 7 ≤ L → GO p l e s m below meth c b D ca Inv 1465 i := by
    intro h7 σx σm H locs ls hI hRx hRm hS hl
    refine lv_iinc (pc := 1465) (k := 3) (n := 7) (v := Int32.ofInt ((i + 7 : Nat) : Int)) (lv' := [(3, .int (Int32.ofInt ((i + 7 : Nat) : Int))), (0, .ref b), (1, .ref (bX s.heap.size + 1)), (2, .ref (bM s.heap.size + 1))]) hx hb (by decide +kernel) hl rfl (by rw [← Int32.ofInt_add]; rfl) (by decide) rfl (fun ls hl => ?_)
    refine lv_goto (pc := 1468) (off := -1450) (tgt := 18) hx hb (by decide +kernel) (by decide) ?_
    exact next h7 σx σm H locs ls hI hRx hRm hS (lv_sub hl [1, 2, 3, 0] rfl)
  intro σx σm H locs ls hI hRx hRm hS hl
  have hbA : ¬ s.heap.size ≤ b := Nat.not_le.mpr hbl
  refine lv_iload_n (pc := 18) (k := 3) (i := 3) hx hb (by decide +kernel) rfl (lv_at hl 3 rfl) ?_
  refine lv_aload_n (pc := 19) (k := 0) (i := 0) hx hb (by decide +kernel) rfl (lv_at hl 0 rfl) ?_
  refine va_slen (pc := 20) hx hb hX hbl hbA hS (by decide +kernel) ?_
  refine lv_bipush (pc := 21) (n := 7) (v := Int32.ofInt 7) hx hb (by decide +kernel) (by decide +kernel) ?_
  refine lv_isub (pc := 23) hx hb (by decide +kernel) ?_
  have eL : Int32.ofNat L - Int32.ofInt 7 = Int32.ofInt ((L : Int) - 7) := by rw [Int32.ofInt_sub]; rfl
  rw [eL]
  have wL : wr ((L : Int) - 7) = (L : Int) - 7 := wr_id (by omega) (by omega)
  have wi : wr (i : Int) = (i : Int) := wr_id (by omega) (by omega)
  refine lv_icmp_gt (pc := 24) (off := 1447) (tgt := 1471) hx hb (by decide +kernel) (by decide) (fun _ => ?_) (fun hc => ?_)
  · refine ly_iconst (pc := 1471) (n := 1) hx hb (by decide +kernel) ?_
    refine va_forget (fun q hq => hS.2.2 q hq) ?_
    refine W.widen (k := 600000) (n := 7302250) (Nat.le_of_ble_eq_true rfl) (Nat.le_of_ble_eq_true rfl) ?_
    exact lw_ret (pc := 1472) hx hb hr hlk (by decide +kernel)
  · have h7 : i + 7 ≤ L := by
      rw [i_lt, wL, wi] at hc
      omega
    refine lv_aload_n (pc := 27) (k := 0) (i := 0) hx hb (by decide +kernel) rfl (lv_at hl 0 rfl) ?_
    refine lv_iload_n (pc := 28) (k := 3) (i := 3) hx hb (by decide +kernel) rfl (lv_at hl 3 rfl) ?_
    refine va_sld (pc := 29) hx hb hX hbl hbA hS (vp_in_wr (by omega) (by omega)) (by decide +kernel) ?_
    refine lv_bipush (pc := 30) (n := 63) (v := Int32.ofInt 63) hx hb (by decide +kernel) (by decide +kernel) ?_
    refine lv_iand (pc := 32) hx hb (by decide +kernel) ?_
    generalize xs (Int32.ofInt (i : Int)).toNatClampNeg &&& Int32.ofInt 63 = v
    obtain ⟨s0, s1, s2, s3, s4, s5, s6, s7, s8, s9, s10, s11, s12, s13, s14, s15, s16, s17, s18, s19, s20, s21, s22, s23, s24, s25, s26, s27, s28, s29, s30, s31, s32, s33, s34, s35, s36⟩ := sim
    by_cases hk0 : v.toInt = 0
    · refine lv_tableIn (pc := 33) (dflt := 1432) (lo := 0) (hi := 36) (offs := #[163, 226, 249, 262, 285, 308, 341, 364, 387, 410, 469, 502, 535, 568, 591, 614, 647, 680, 723, 756, 799, 832, 845, 868, 911, 964, 1039, 1072, 1115, 1168, 1191, 1224, 1257, 1290, 1333, 1366, 1409]) (len := 163) (off := 163) (tgt := 196) hx hb (by decide +kernel) (by omega) (by omega) (by rw [hk0]; rfl) (by decide) ?_
      exact lc_0 N K0 hn s0 h7 (kend h7) σx σm H locs ls hI hRx hRm hS hl
    by_cases hk1 : v.toInt = 1
    · refine lv_tableIn (pc := 33) (dflt := 1432) (lo := 0) (hi := 36) (offs := #[163, 226, 249, 262, 285, 308, 341, 364, 387, 410, 469, 502, 535, 568, 591, 614, 647, 680, 723, 756, 799, 832, 845, 868, 911, 964, 1039, 1072, 1115, 1168, 1191, 1224, 1257, 1290, 1333, 1366, 1409]) (len := 163) (off := 226) (tgt := 259) hx hb (by decide +kernel) (by omega) (by omega) (by rw [hk1]; rfl) (by decide) ?_
      exact lc_1 N K0 hn s1 h7 (kend h7) σx σm H locs ls hI hRx hRm hS hl
    by_cases hk2 : v.toInt = 2
    · refine lv_tableIn (pc := 33) (dflt := 1432) (lo := 0) (hi := 36) (offs := #[163, 226, 249, 262, 285, 308, 341, 364, 387, 410, 469, 502, 535, 568, 591, 614, 647, 680, 723, 756, 799, 832, 845, 868, 911, 964, 1039, 1072, 1115, 1168, 1191, 1224, 1257, 1290, 1333, 1366, 1409]) (len := 163) (off := 249) (tgt := 282) hx hb (by decide +kernel) (by omega) (by omega) (by rw [hk2]; rfl) (by decide) ?_
      exact lc_2 N K0 hn s2 h7 (kend h7) σx σm H locs ls hI hRx hRm hS hl
    by_cases hk3 : v.toInt = 3
    · refine lv_tableIn (pc := 33) (dflt := 1432) (lo := 0) (hi := 36) (offs := #[163, 226, 249, 262, 285, 308, 341, 364, 387, 410, 469, 502, 535, 568, 591, 614, 647, 680, 723, 756, 799, 832, 845, 868, 911, 964, 1039, 1072, 1115, 1168, 1191, 1224, 1257, 1290, 1333, 1366, 1409]) (len := 163) (off := 262) (tgt := 295) hx hb (by decide +kernel) (by omega) (by omega) (by rw [hk3]; rfl) (by decide) ?_
      exact lc_3 N K0 hn s3 h7 (kend h7) σx σm H locs ls hI hRx hRm hS hl
    by_cases hk4 : v.toInt = 4
    · refine lv_tableIn (pc := 33) (dflt := 1432) (lo := 0) (hi := 36) (offs := #[163, 226, 249, 262, 285, 308, 341, 364, 387, 410, 469, 502, 535, 568, 591, 614, 647, 680, 723, 756, 799, 832, 845, 868, 911, 964, 1039, 1072, 1115, 1168, 1191, 1224, 1257, 1290, 1333, 1366, 1409]) (len := 163) (off := 285) (tgt := 318) hx hb (by decide +kernel) (by omega) (by omega) (by rw [hk4]; rfl) (by decide) ?_
      exact lc_4 N K0 hn s4 h7 (kend h7) σx σm H locs ls hI hRx hRm hS hl
    by_cases hk5 : v.toInt = 5
    · refine lv_tableIn (pc := 33) (dflt := 1432) (lo := 0) (hi := 36) (offs := #[163, 226, 249, 262, 285, 308, 341, 364, 387, 410, 469, 502, 535, 568, 591, 614, 647, 680, 723, 756, 799, 832, 845, 868, 911, 964, 1039, 1072, 1115, 1168, 1191, 1224, 1257, 1290, 1333, 1366, 1409]) (len := 163) (off := 308) (tgt := 341) hx hb (by decide +kernel) (by omega) (by omega) (by rw [hk5]; rfl) (by decide) ?_
      exact lc_5 N K0 hn s5 h7 (kend h7) σx σm H locs ls hI hRx hRm hS hl
    by_cases hk6 : v.toInt = 6
    · refine lv_tableIn (pc := 33) (dflt := 1432) (lo := 0) (hi := 36) (offs := #[163, 226, 249, 262, 285, 308, 341, 364, 387, 410, 469, 502, 535, 568, 591, 614, 647, 680, 723, 756, 799, 832, 845, 868, 911, 964, 1039, 1072, 1115, 1168, 1191, 1224, 1257, 1290, 1333, 1366, 1409]) (len := 163) (off := 341) (tgt := 374) hx hb (by decide +kernel) (by omega) (by omega) (by rw [hk6]; rfl) (by decide) ?_
      exact lc_6 N K0 hn s6 h7 (kend h7) σx σm H locs ls hI hRx hRm hS hl
    by_cases hk7 : v.toInt = 7
    · refine lv_tableIn (pc := 33) (dflt := 1432) (lo := 0) (hi := 36) (offs := #[163, 226, 249, 262, 285, 308, 341, 364, 387, 410, 469, 502, 535, 568, 591, 614, 647, 680, 723, 756, 799, 832, 845, 868, 911, 964, 1039, 1072, 1115, 1168, 1191, 1224, 1257, 1290, 1333, 1366, 1409]) (len := 163) (off := 364) (tgt := 397) hx hb (by decide +kernel) (by omega) (by omega) (by rw [hk7]; rfl) (by decide) ?_
      exact lc_7 N K0 hn s7 h7 (kend h7) σx σm H locs ls hI hRx hRm hS hl
    by_cases hk8 : v.toInt = 8
    · refine lv_tableIn (pc := 33) (dflt := 1432) (lo := 0) (hi := 36) (offs := #[163, 226, 249, 262, 285, 308, 341, 364, 387, 410, 469, 502, 535, 568, 591, 614, 647, 680, 723, 756, 799, 832, 845, 868, 911, 964, 1039, 1072, 1115, 1168, 1191, 1224, 1257, 1290, 1333, 1366, 1409]) (len := 163) (off := 387) (tgt := 420) hx hb (by decide +kernel) (by omega) (by omega) (by rw [hk8]; rfl) (by decide) ?_
      exact lc_8 N K0 hn s8 h7 (kend h7) σx σm H locs ls hI hRx hRm hS hl
    by_cases hk9 : v.toInt = 9
    · refine lv_tableIn (pc := 33) (dflt := 1432) (lo := 0) (hi := 36) (offs := #[163, 226, 249, 262, 285, 308, 341, 364, 387, 410, 469, 502, 535, 568, 591, 614, 647, 680, 723, 756, 799, 832, 845, 868, 911, 964, 1039, 1072, 1115, 1168, 1191, 1224, 1257, 1290, 1333, 1366, 1409]) (len := 163) (off := 410) (tgt := 443) hx hb (by decide +kernel) (by omega) (by omega) (by rw [hk9]; rfl) (by decide) ?_
      exact lc_9 N K0 hn s9 h7 (kend h7) σx σm H locs ls hI hRx hRm hS hl
    by_cases hk10 : v.toInt = 10
    · refine lv_tableIn (pc := 33) (dflt := 1432) (lo := 0) (hi := 36) (offs := #[163, 226, 249, 262, 285, 308, 341, 364, 387, 410, 469, 502, 535, 568, 591, 614, 647, 680, 723, 756, 799, 832, 845, 868, 911, 964, 1039, 1072, 1115, 1168, 1191, 1224, 1257, 1290, 1333, 1366, 1409]) (len := 163) (off := 469) (tgt := 502) hx hb (by decide +kernel) (by omega) (by omega) (by rw [hk10]; rfl) (by decide) ?_
      exact lc_10 N K0 hn s10 h7 (kend h7) σx σm H locs ls hI hRx hRm hS hl
    by_cases hk11 : v.toInt = 11
    · refine lv_tableIn (pc := 33) (dflt := 1432) (lo := 0) (hi := 36) (offs := #[163, 226, 249, 262, 285, 308, 341, 364, 387, 410, 469, 502, 535, 568, 591, 614, 647, 680, 723, 756, 799, 832, 845, 868, 911, 964, 1039, 1072, 1115, 1168, 1191, 1224, 1257, 1290, 1333, 1366, 1409]) (len := 163) (off := 502) (tgt := 535) hx hb (by decide +kernel) (by omega) (by omega) (by rw [hk11]; rfl) (by decide) ?_
      exact lc_11 N K0 hn s11 h7 (kend h7) σx σm H locs ls hI hRx hRm hS hl
    by_cases hk12 : v.toInt = 12
    · refine lv_tableIn (pc := 33) (dflt := 1432) (lo := 0) (hi := 36) (offs := #[163, 226, 249, 262, 285, 308, 341, 364, 387, 410, 469, 502, 535, 568, 591, 614, 647, 680, 723, 756, 799, 832, 845, 868, 911, 964, 1039, 1072, 1115, 1168, 1191, 1224, 1257, 1290, 1333, 1366, 1409]) (len := 163) (off := 535) (tgt := 568) hx hb (by decide +kernel) (by omega) (by omega) (by rw [hk12]; rfl) (by decide) ?_
      exact lc_12 N K0 hn s12 h7 (kend h7) σx σm H locs ls hI hRx hRm hS hl
    by_cases hk13 : v.toInt = 13
    · refine lv_tableIn (pc := 33) (dflt := 1432) (lo := 0) (hi := 36) (offs := #[163, 226, 249, 262, 285, 308, 341, 364, 387, 410, 469, 502, 535, 568, 591, 614, 647, 680, 723, 756, 799, 832, 845, 868, 911, 964, 1039, 1072, 1115, 1168, 1191, 1224, 1257, 1290, 1333, 1366, 1409]) (len := 163) (off := 568) (tgt := 601) hx hb (by decide +kernel) (by omega) (by omega) (by rw [hk13]; rfl) (by decide) ?_
      exact lc_13 N K0 hn s13 h7 (kend h7) σx σm H locs ls hI hRx hRm hS hl
    by_cases hk14 : v.toInt = 14
    · refine lv_tableIn (pc := 33) (dflt := 1432) (lo := 0) (hi := 36) (offs := #[163, 226, 249, 262, 285, 308, 341, 364, 387, 410, 469, 502, 535, 568, 591, 614, 647, 680, 723, 756, 799, 832, 845, 868, 911, 964, 1039, 1072, 1115, 1168, 1191, 1224, 1257, 1290, 1333, 1366, 1409]) (len := 163) (off := 591) (tgt := 624) hx hb (by decide +kernel) (by omega) (by omega) (by rw [hk14]; rfl) (by decide) ?_
      exact lc_14 N K0 hn s14 h7 (kend h7) σx σm H locs ls hI hRx hRm hS hl
    by_cases hk15 : v.toInt = 15
    · refine lv_tableIn (pc := 33) (dflt := 1432) (lo := 0) (hi := 36) (offs := #[163, 226, 249, 262, 285, 308, 341, 364, 387, 410, 469, 502, 535, 568, 591, 614, 647, 680, 723, 756, 799, 832, 845, 868, 911, 964, 1039, 1072, 1115, 1168, 1191, 1224, 1257, 1290, 1333, 1366, 1409]) (len := 163) (off := 614) (tgt := 647) hx hb (by decide +kernel) (by omega) (by omega) (by rw [hk15]; rfl) (by decide) ?_
      exact lc_15 N K0 hn s15 h7 (kend h7) σx σm H locs ls hI hRx hRm hS hl
    by_cases hk16 : v.toInt = 16
    · refine lv_tableIn (pc := 33) (dflt := 1432) (lo := 0) (hi := 36) (offs := #[163, 226, 249, 262, 285, 308, 341, 364, 387, 410, 469, 502, 535, 568, 591, 614, 647, 680, 723, 756, 799, 832, 845, 868, 911, 964, 1039, 1072, 1115, 1168, 1191, 1224, 1257, 1290, 1333, 1366, 1409]) (len := 163) (off := 647) (tgt := 680) hx hb (by decide +kernel) (by omega) (by omega) (by rw [hk16]; rfl) (by decide) ?_
      exact lc_16 N K0 hn s16 h7 (kend h7) σx σm H locs ls hI hRx hRm hS hl
    by_cases hk17 : v.toInt = 17
    · refine lv_tableIn (pc := 33) (dflt := 1432) (lo := 0) (hi := 36) (offs := #[163, 226, 249, 262, 285, 308, 341, 364, 387, 410, 469, 502, 535, 568, 591, 614, 647, 680, 723, 756, 799, 832, 845, 868, 911, 964, 1039, 1072, 1115, 1168, 1191, 1224, 1257, 1290, 1333, 1366, 1409]) (len := 163) (off := 680) (tgt := 713) hx hb (by decide +kernel) (by omega) (by omega) (by rw [hk17]; rfl) (by decide) ?_
      exact lc_17 N K0 hn s17 h7 (kend h7) σx σm H locs ls hI hRx hRm hS hl
    by_cases hk18 : v.toInt = 18
    · refine lv_tableIn (pc := 33) (dflt := 1432) (lo := 0) (hi := 36) (offs := #[163, 226, 249, 262, 285, 308, 341, 364, 387, 410, 469, 502, 535, 568, 591, 614, 647, 680, 723, 756, 799, 832, 845, 868, 911, 964, 1039, 1072, 1115, 1168, 1191, 1224, 1257, 1290, 1333, 1366, 1409]) (len := 163) (off := 723) (tgt := 756) hx hb (by decide +kernel) (by omega) (by omega) (by rw [hk18]; rfl) (by decide) ?_
      exact lc_18 N K0 hn s18 h7 (kend h7) σx σm H locs ls hI hRx hRm hS hl
    by_cases hk19 : v.toInt = 19
    · refine lv_tableIn (pc := 33) (dflt := 1432) (lo := 0) (hi := 36) (offs := #[163, 226, 249, 262, 285, 308, 341, 364, 387, 410, 469, 502, 535, 568, 591, 614, 647, 680, 723, 756, 799, 832, 845, 868, 911, 964, 1039, 1072, 1115, 1168, 1191, 1224, 1257, 1290, 1333, 1366, 1409]) (len := 163) (off := 756) (tgt := 789) hx hb (by decide +kernel) (by omega) (by omega) (by rw [hk19]; rfl) (by decide) ?_
      exact lc_19 N K0 hn s19 h7 (kend h7) σx σm H locs ls hI hRx hRm hS hl
    by_cases hk20 : v.toInt = 20
    · refine lv_tableIn (pc := 33) (dflt := 1432) (lo := 0) (hi := 36) (offs := #[163, 226, 249, 262, 285, 308, 341, 364, 387, 410, 469, 502, 535, 568, 591, 614, 647, 680, 723, 756, 799, 832, 845, 868, 911, 964, 1039, 1072, 1115, 1168, 1191, 1224, 1257, 1290, 1333, 1366, 1409]) (len := 163) (off := 799) (tgt := 832) hx hb (by decide +kernel) (by omega) (by omega) (by rw [hk20]; rfl) (by decide) ?_
      exact lc_20 N K0 hn s20 h7 (kend h7) σx σm H locs ls hI hRx hRm hS hl
    by_cases hk21 : v.toInt = 21
    · refine lv_tableIn (pc := 33) (dflt := 1432) (lo := 0) (hi := 36) (offs := #[163, 226, 249, 262, 285, 308, 341, 364, 387, 410, 469, 502, 535, 568, 591, 614, 647, 680, 723, 756, 799, 832, 845, 868, 911, 964, 1039, 1072, 1115, 1168, 1191, 1224, 1257, 1290, 1333, 1366, 1409]) (len := 163) (off := 832) (tgt := 865) hx hb (by decide +kernel) (by omega) (by omega) (by rw [hk21]; rfl) (by decide) ?_
      exact lc_21 N K0 hn s21 h7 (kend h7) σx σm H locs ls hI hRx hRm hS hl
    by_cases hk22 : v.toInt = 22
    · refine lv_tableIn (pc := 33) (dflt := 1432) (lo := 0) (hi := 36) (offs := #[163, 226, 249, 262, 285, 308, 341, 364, 387, 410, 469, 502, 535, 568, 591, 614, 647, 680, 723, 756, 799, 832, 845, 868, 911, 964, 1039, 1072, 1115, 1168, 1191, 1224, 1257, 1290, 1333, 1366, 1409]) (len := 163) (off := 845) (tgt := 878) hx hb (by decide +kernel) (by omega) (by omega) (by rw [hk22]; rfl) (by decide) ?_
      exact lc_22 N K0 hn s22 h7 (kend h7) σx σm H locs ls hI hRx hRm hS hl
    by_cases hk23 : v.toInt = 23
    · refine lv_tableIn (pc := 33) (dflt := 1432) (lo := 0) (hi := 36) (offs := #[163, 226, 249, 262, 285, 308, 341, 364, 387, 410, 469, 502, 535, 568, 591, 614, 647, 680, 723, 756, 799, 832, 845, 868, 911, 964, 1039, 1072, 1115, 1168, 1191, 1224, 1257, 1290, 1333, 1366, 1409]) (len := 163) (off := 868) (tgt := 901) hx hb (by decide +kernel) (by omega) (by omega) (by rw [hk23]; rfl) (by decide) ?_
      exact lc_23 N K0 hn s23 h7 (kend h7) σx σm H locs ls hI hRx hRm hS hl
    by_cases hk24 : v.toInt = 24
    · refine lv_tableIn (pc := 33) (dflt := 1432) (lo := 0) (hi := 36) (offs := #[163, 226, 249, 262, 285, 308, 341, 364, 387, 410, 469, 502, 535, 568, 591, 614, 647, 680, 723, 756, 799, 832, 845, 868, 911, 964, 1039, 1072, 1115, 1168, 1191, 1224, 1257, 1290, 1333, 1366, 1409]) (len := 163) (off := 911) (tgt := 944) hx hb (by decide +kernel) (by omega) (by omega) (by rw [hk24]; rfl) (by decide) ?_
      exact lc_24 N K0 hn s24 h7 (kend h7) σx σm H locs ls hI hRx hRm hS hl
    by_cases hk25 : v.toInt = 25
    · refine lv_tableIn (pc := 33) (dflt := 1432) (lo := 0) (hi := 36) (offs := #[163, 226, 249, 262, 285, 308, 341, 364, 387, 410, 469, 502, 535, 568, 591, 614, 647, 680, 723, 756, 799, 832, 845, 868, 911, 964, 1039, 1072, 1115, 1168, 1191, 1224, 1257, 1290, 1333, 1366, 1409]) (len := 163) (off := 964) (tgt := 997) hx hb (by decide +kernel) (by omega) (by omega) (by rw [hk25]; rfl) (by decide) ?_
      exact lc_25 N K0 hn s25 h7 (kend h7) σx σm H locs ls hI hRx hRm hS hl
    by_cases hk26 : v.toInt = 26
    · refine lv_tableIn (pc := 33) (dflt := 1432) (lo := 0) (hi := 36) (offs := #[163, 226, 249, 262, 285, 308, 341, 364, 387, 410, 469, 502, 535, 568, 591, 614, 647, 680, 723, 756, 799, 832, 845, 868, 911, 964, 1039, 1072, 1115, 1168, 1191, 1224, 1257, 1290, 1333, 1366, 1409]) (len := 163) (off := 1039) (tgt := 1072) hx hb (by decide +kernel) (by omega) (by omega) (by rw [hk26]; rfl) (by decide) ?_
      exact lc_26 N K0 hn s26 h7 (kend h7) σx σm H locs ls hI hRx hRm hS hl
    by_cases hk27 : v.toInt = 27
    · refine lv_tableIn (pc := 33) (dflt := 1432) (lo := 0) (hi := 36) (offs := #[163, 226, 249, 262, 285, 308, 341, 364, 387, 410, 469, 502, 535, 568, 591, 614, 647, 680, 723, 756, 799, 832, 845, 868, 911, 964, 1039, 1072, 1115, 1168, 1191, 1224, 1257, 1290, 1333, 1366, 1409]) (len := 163) (off := 1072) (tgt := 1105) hx hb (by decide +kernel) (by omega) (by omega) (by rw [hk27]; rfl) (by decide) ?_
      exact lc_27 N K0 hn s27 h7 (kend h7) σx σm H locs ls hI hRx hRm hS hl
    by_cases hk28 : v.toInt = 28
    · refine lv_tableIn (pc := 33) (dflt := 1432) (lo := 0) (hi := 36) (offs := #[163, 226, 249, 262, 285, 308, 341, 364, 387, 410, 469, 502, 535, 568, 591, 614, 647, 680, 723, 756, 799, 832, 845, 868, 911, 964, 1039, 1072, 1115, 1168, 1191, 1224, 1257, 1290, 1333, 1366, 1409]) (len := 163) (off := 1115) (tgt := 1148) hx hb (by decide +kernel) (by omega) (by omega) (by rw [hk28]; rfl) (by decide) ?_
      exact lc_28 N K0 hn s28 h7 (kend h7) σx σm H locs ls hI hRx hRm hS hl
    by_cases hk29 : v.toInt = 29
    · refine lv_tableIn (pc := 33) (dflt := 1432) (lo := 0) (hi := 36) (offs := #[163, 226, 249, 262, 285, 308, 341, 364, 387, 410, 469, 502, 535, 568, 591, 614, 647, 680, 723, 756, 799, 832, 845, 868, 911, 964, 1039, 1072, 1115, 1168, 1191, 1224, 1257, 1290, 1333, 1366, 1409]) (len := 163) (off := 1168) (tgt := 1201) hx hb (by decide +kernel) (by omega) (by omega) (by rw [hk29]; rfl) (by decide) ?_
      exact lc_29 N K0 hn s29 h7 (kend h7) σx σm H locs ls hI hRx hRm hS hl
    by_cases hk30 : v.toInt = 30
    · refine lv_tableIn (pc := 33) (dflt := 1432) (lo := 0) (hi := 36) (offs := #[163, 226, 249, 262, 285, 308, 341, 364, 387, 410, 469, 502, 535, 568, 591, 614, 647, 680, 723, 756, 799, 832, 845, 868, 911, 964, 1039, 1072, 1115, 1168, 1191, 1224, 1257, 1290, 1333, 1366, 1409]) (len := 163) (off := 1191) (tgt := 1224) hx hb (by decide +kernel) (by omega) (by omega) (by rw [hk30]; rfl) (by decide) ?_
      exact lc_30 N K0 hn s30 h7 (kend h7) σx σm H locs ls hI hRx hRm hS hl
    by_cases hk31 : v.toInt = 31
    · refine lv_tableIn (pc := 33) (dflt := 1432) (lo := 0) (hi := 36) (offs := #[163, 226, 249, 262, 285, 308, 341, 364, 387, 410, 469, 502, 535, 568, 591, 614, 647, 680, 723, 756, 799, 832, 845, 868, 911, 964, 1039, 1072, 1115, 1168, 1191, 1224, 1257, 1290, 1333, 1366, 1409]) (len := 163) (off := 1224) (tgt := 1257) hx hb (by decide +kernel) (by omega) (by omega) (by rw [hk31]; rfl) (by decide) ?_
      exact lc_31 N K0 hn s31 h7 (kend h7) σx σm H locs ls hI hRx hRm hS hl
    by_cases hk32 : v.toInt = 32
    · refine lv_tableIn (pc := 33) (dflt := 1432) (lo := 0) (hi := 36) (offs := #[163, 226, 249, 262, 285, 308, 341, 364, 387, 410, 469, 502, 535, 568, 591, 614, 647, 680, 723, 756, 799, 832, 845, 868, 911, 964, 1039, 1072, 1115, 1168, 1191, 1224, 1257, 1290, 1333, 1366, 1409]) (len := 163) (off := 1257) (tgt := 1290) hx hb (by decide +kernel) (by omega) (by omega) (by rw [hk32]; rfl) (by decide) ?_
      exact lc_32 N K0 hn s32 h7 (kend h7) σx σm H locs ls hI hRx hRm hS hl
    by_cases hk33 : v.toInt = 33
    · refine lv_tableIn (pc := 33) (dflt := 1432) (lo := 0) (hi := 36) (offs := #[163, 226, 249, 262, 285, 308, 341, 364, 387, 410, 469, 502, 535, 568, 591, 614, 647, 680, 723, 756, 799, 832, 845, 868, 911, 964, 1039, 1072, 1115, 1168, 1191, 1224, 1257, 1290, 1333, 1366, 1409]) (len := 163) (off := 1290) (tgt := 1323) hx hb (by decide +kernel) (by omega) (by omega) (by rw [hk33]; rfl) (by decide) ?_
      exact lc_33 N K0 hn s33 h7 (kend h7) σx σm H locs ls hI hRx hRm hS hl
    by_cases hk34 : v.toInt = 34
    · refine lv_tableIn (pc := 33) (dflt := 1432) (lo := 0) (hi := 36) (offs := #[163, 226, 249, 262, 285, 308, 341, 364, 387, 410, 469, 502, 535, 568, 591, 614, 647, 680, 723, 756, 799, 832, 845, 868, 911, 964, 1039, 1072, 1115, 1168, 1191, 1224, 1257, 1290, 1333, 1366, 1409]) (len := 163) (off := 1333) (tgt := 1366) hx hb (by decide +kernel) (by omega) (by omega) (by rw [hk34]; rfl) (by decide) ?_
      exact lc_34 N K0 hn s34 h7 (kend h7) σx σm H locs ls hI hRx hRm hS hl
    by_cases hk35 : v.toInt = 35
    · refine lv_tableIn (pc := 33) (dflt := 1432) (lo := 0) (hi := 36) (offs := #[163, 226, 249, 262, 285, 308, 341, 364, 387, 410, 469, 502, 535, 568, 591, 614, 647, 680, 723, 756, 799, 832, 845, 868, 911, 964, 1039, 1072, 1115, 1168, 1191, 1224, 1257, 1290, 1333, 1366, 1409]) (len := 163) (off := 1366) (tgt := 1399) hx hb (by decide +kernel) (by omega) (by omega) (by rw [hk35]; rfl) (by decide) ?_
      exact lc_35 N K0 hn s35 h7 (kend h7) σx σm H locs ls hI hRx hRm hS hl
    by_cases hk36 : v.toInt = 36
    · refine lv_tableIn (pc := 33) (dflt := 1432) (lo := 0) (hi := 36) (offs := #[163, 226, 249, 262, 285, 308, 341, 364, 387, 410, 469, 502, 535, 568, 591, 614, 647, 680, 723, 756, 799, 832, 845, 868, 911, 964, 1039, 1072, 1115, 1168, 1191, 1224, 1257, 1290, 1333, 1366, 1409]) (len := 163) (off := 1409) (tgt := 1442) hx hb (by decide +kernel) (by omega) (by omega) (by rw [hk36]; rfl) (by decide) ?_
      exact lc_36 N K0 hn s36 h7 (kend h7) σx σm H locs ls hI hRx hRm hS hl
    refine lv_tableOut (pc := 33) (dflt := 1432) (lo := 0) (hi := 36) (offs := #[163, 226, 249, 262, 285, 308, 341, 364, 387, 410, 469, 502, 535, 568, 591, 614, 647, 680, 723, 756, 799, 832, 845, 868, 911, 964, 1039, 1072, 1115, 1168, 1191, 1224, 1257, 1290, 1333, 1366, 1409]) (len := 163) (tgt := 1465) hx hb (by decide +kernel) (by omega) (by decide) ?_
    exact kend h7 σx σm H locs ls hI hRx hRm hS hl
theorem law_loop {p : Program} {l : Launch} {e : Env} {s : State} {m : MethodId} {below : List Frame} {meth : Method} {c : Code} {b L : Nat} {xs : Nat → Int32} {D : va_G} {ca : Nat → ClassId} {ra : Nat → Nat} {Inv : St → St → Prop} (N : Nat) (K : LK p l e s m below meth c b L xs D ca ra) (hr : meth.sig.returnType = ret) (hlk : meth.locks = false) (hn : ∀ σx σm : St, Inv σx σm → σx.1 = 113 ∧ σm.1 = 51) (sim : Sims Inv N) : ∀ (n i : Nat), L - i < n → i ≤ L → GO p l e s m below meth c b D ca Inv 18 i := by
  intro n
  induction n with
  | zero => intro i h; omega
  | succ n ih =>
    intro i h hi
    exact law_step N K hr hlk hn sim hi (fun h7 => ih (i + 7) (by omega) h7)
