def rm_X0_add : Room := { frames := 0, cells := 0, slots := 0, locals := 0 }
def f_X0_add (N : Nat) (σ : St) (this : Nat) (p0 : Int) (p1 : Int) : Option (St × Int) :=
 Option.bind (gI shx σ 0 this 0) fun count_1 =>
 (if wr count_1 < wr 10 then Option.bind (gR shx σ 0 this 1) fun price_2 =>
 Option.bind (gI shx σ 0 this 0) fun count_3 =>
 Option.bind (sI shx σ 1 price_2 count_3 p0) fun σ4 =>
 Option.bind (gR shx σ4 0 this 2) fun till_5 =>
 Option.bind (gI shx σ4 0 this 0) fun count_6 =>
 Option.bind (sI shx σ4 1 till_5 count_6 p1) fun σ7 =>
 Option.bind (gI shx σ7 0 this 0) fun count_8 =>
 Option.bind (pI shx σ7 0 this 0 (count_8 + 1)) fun σ9 =>
 Option.bind (gI shx σ9 0 this 0) fun count_10 =>
 some (σ9, (count_10 - 1)) else some (σ, (-1)))
set_option maxRecDepth 100000 in
set_option maxHeartbeats 4000000 in
theorem c_X0_add (l : Launch) (D : va_G) (ca : Nat → ClassId) (ra : Nat → Nat) (N : Nat) (σ : St) (this : Nat) (p0 : Int) (p1 : Int) : Ctr l (D, ca, ra, shx) false yX0_add cX0_add 3 (some .int) rm_X0_add σ [ar this, ai p0, ai p1] (f_X0_add N σ this p0 p1) := by
  refine ctr_of (by decide) (Nat.le_of_ble_eq_true rfl) (fun z C => ?_)
  show X z 0 0 σ 0 [(0, ar this), (1, ai p0), (2, ai p1)] [] _
  unfold f_X0_add
  refine x_aload_n C 0 (i := 0) (k0 := 0) rfl rfl (by decide +kernel) ?_
  refine x_gI C fl_RX0_21 (fun _ _ _ => rfl) (by decide +kernel) (fun count_1 => ?_)
  refine x_bipush C (n := 10) (by decide +kernel) (by decide +kernel) ?_
  refine x_ic_lt C (tgt := 11) (off := 5) (by decide) (by decide +kernel) (fun h11 => ?_) (fun h11 => ?_)
  · skip
    refine x_aload_n C 0 (i := 0) (k0 := 0) rfl rfl (by decide +kernel) ?_
    refine x_gR C fl_RX0_11 (fun _ _ _ => rfl) (by decide +kernel) (fun price_2 => ?_)
    refine x_aload_n C 0 (i := 0) (k0 := 0) rfl rfl (by decide +kernel) ?_
    refine x_gI C fl_RX0_21 (fun _ _ _ => rfl) (by decide +kernel) (fun count_3 => ?_)
    refine x_iload_n C 1 (i := 1) (k0 := 1) rfl rfl (by decide +kernel) ?_
    refine x_astI C (by decide +kernel) (fun σ4 => ?_)
    refine x_aload_n C 0 (i := 0) (k0 := 0) rfl rfl (by decide +kernel) ?_
    refine x_gR C fl_RX0_15 (fun _ _ _ => rfl) (by decide +kernel) (fun till_5 => ?_)
    show X z 0 0 σ4 25 [(0, ar this), (1, ai p0), (2, ai p1)] [ar till_5] _
    refine x_aload_n C 0 (i := 0) (k0 := 0) rfl rfl (by decide +kernel) ?_
    refine x_gI C fl_RX0_21 (fun _ _ _ => rfl) (by decide +kernel) (fun count_6 => ?_)
    refine x_iload_n C 2 (i := 2) (k0 := 2) rfl rfl (by decide +kernel) ?_
    refine x_astI C (by decide +kernel) (fun σ7 => ?_)
    refine x_aload_n C 0 (i := 0) (k0 := 0) rfl rfl (by decide +kernel) ?_
    refine x_dup C rfl (by decide +kernel) ?_
    refine x_gI C fl_RX0_21 (fun _ _ _ => rfl) (by decide +kernel) (fun count_8 => ?_)
    refine x_iconst C (n := 1) (by decide +kernel) ?_
    show X z 0 0 σ7 37 [(0, ar this), (1, ai p0), (2, ai p1)] [ai 1, ai count_8, ar this] _
    refine x_iadd C (by decide +kernel) ?_
    refine x_pI C fl_RX0_21 rfl (fun q h => by cases h; rfl) (by decide +kernel) (fun σ9 => ?_)
    refine x_aload_n C 0 (i := 0) (k0 := 0) rfl rfl (by decide +kernel) ?_
    refine x_gI C fl_RX0_21 (fun _ _ _ => rfl) (by decide +kernel) (fun count_10 => ?_)
    refine x_iconst C (n := 1) (by decide +kernel) ?_
    refine x_isub C (by decide +kernel) ?_
    exact x_iret C ⟨Nat.zero_le _, Nat.zero_le _⟩ (by decide +kernel)
  · skip
    refine x_iconst C (n := (-1)) (by decide +kernel) ?_
    exact x_iret C ⟨Nat.zero_le _, Nat.zero_le _⟩ (by decide +kernel)

def L_X0_lapseIn_13 (N : Nat) (this : Nat) (p0 : Int) (p1 : Nat) : (St × Int × Int) → Option (St × Int) := fixN N fun b13_2 t2 =>
 Option.bind (gI shx t2.1 0 this 0) fun count_4 =>
 (if wr t2.2.2 < wr count_4 then Option.bind (rcv shx t2.1 7 p1 (f_X7_ask N t2.1 p1 30 t2.2.2)) fun q5 =>
 Option.bind (gR shx q5.1 0 this 1) fun price_6 =>
 Option.bind (aI shx q5.1 1 price_6 t2.2.2) fun a7 =>
 Option.bind (rcv shx q5.1 7 p1 (f_X7_ask N q5.1 p1 33 a7)) fun q8 =>
 Option.bind (gR shx q8.1 0 this 3) fun round_9 =>
 Option.bind (aI shx q8.1 1 round_9 t2.2.2) fun a10 =>
 Jn (fun t11 : St × Int => Lt (t2.2.2 + 1) fun x12 =>
 b13_2 (t11.1, t11.2, x12)) fun J72_12 =>
 (if wr a10 = 0 then Option.bind (rcv shx q8.1 7 p1 (f_X7_valueOf N q8.1 p1 3)) fun q14 =>
 (if wr q14.2 = 0 then Option.bind (gR shx q14.1 0 this 3) fun round_15 =>
 Option.bind (sI shx q14.1 1 round_15 t2.2.2 p0) fun σ16 =>
 Lt (t2.2.1 + 1) fun x17 =>
 J72_12 (σ16, x17) else J72_12 (q14.1, t2.2.1)) else J72_12 (q8.1, t2.2.1)) else some (t2.1, t2.2.1))
def rm_X0_lapseIn : Room := { frames := 3, cells := 0, slots := 0, locals := 68 }
def f_X0_lapseIn (N : Nat) (σ : St) (this : Nat) (p0 : Int) (p1 : Nat) (p2 : Int) : Option (St × Int) :=
 Option.bind (rcv shx σ 7 p1 (f_X7_ask N σ p1 32 p2)) fun q1 =>
 L_X0_lapseIn_13 N this p0 p1 (q1.1, 0, 0)
set_option maxRecDepth 100000 in
set_option maxHeartbeats 4000000 in
theorem c_X0_lapseIn (l : Launch) (D : va_G) (ca : Nat → ClassId) (ra : Nat → Nat) (N : Nat) (σ : St) (this : Nat) (p0 : Int) (p1 : Nat) (p2 : Int) : Ctr l (D, ca, ra, shx) false yX0_lapseIn cX0_lapseIn 6 (some .int) rm_X0_lapseIn σ [ar this, ai p0, ar p1, ai p2] (f_X0_lapseIn N σ this p0 p1 p2) := by
  refine ctr_of (by decide) (Nat.le_of_ble_eq_true rfl) (fun z C => ?_)
  show X z 0 0 σ 0 [(0, ar this), (1, ai p0), (2, ar p1), (3, ai p2)] [] _
  unfold f_X0_lapseIn
  refine x_iconst C (n := 0) (by decide +kernel) ?_
  refine x_istore C (i := 4) (Nat.le_of_ble_eq_true rfl) (by decide +kernel) (lv2 := [(4, ai 0), (0, ar this), (1, ai p0), (2, ar p1), (3, ai p2)]) rfl ?_
  refine x_aload_n C 3 (i := 2) (k0 := 2) rfl rfl (by decide +kernel) ?_
  refine x_bipush C (n := 32) (by decide +kernel) (by decide +kernel) ?_
  refine x_iload_n C 4 (i := 3) (k0 := 3) rfl rfl (by decide +kernel) ?_
  refine x_callV C (ci := 7) (c_X7_ask l D ca ra N σ p1 32 p2) mt_X7_ask mv_X7_ask rfl ml_RX0_27 rfl (fun h => Bool.noConfusion h) ⟨Nat.le_of_ble_eq_true rfl, Nat.le_of_ble_eq_true rfl⟩ (Nat.le_of_ble_eq_true rfl) 0 0 ⟨rfl, rfl⟩ ⟨Nat.zero_le _, Nat.zero_le _⟩ (by decide +kernel) _ rfl (fun q1 => []) (fun _ => rfl) (fun q1 => ?_)
  refine x_iconst C (n := 0) (by decide +kernel) ?_
  refine x_istore C (i := 5) (Nat.le_of_ble_eq_true rfl) (by decide +kernel) (lv2 := [(5, ai 0), (4, ai 0), (0, ar this), (1, ai p0), (2, ar p1), (3, ai p2)]) rfl ?_
  show X z 0 0 q1.1 13 [(5, ai 0), (4, ai 0), (0, ar this), (1, ai p0), (2, ar p1), (3, ai p2)] [] _
  refine x_sub [2, 3, 4, 1, 0] (lv2 := [(0, ar this), (1, ai p0), (2, ar p1), (4, ai 0), (5, ai 0)]) rfl ?_
  -- LOOP L_X0_lapseIn_13 hb13_2
  refine x_loop (T := St × Int × Int) (fun t => t.1) (fun t => [(0, ar this), (1, ai p0), (2, ar p1), (4, ai t.2.1), (5, ai t.2.2)]) (q1.1, 0, 0) rfl (fun b13_2 hb13_2 t2 => ?_)
  show X z 0 0 t2.1 13 [(0, ar this), (1, ai p0), (2, ar p1), (4, ai t2.2.1), (5, ai t2.2.2)] [] _
  refine x_iload C 4 (i := 5) rfl (by decide +kernel) ?_
  refine x_aload_n C 0 (i := 0) (k0 := 0) rfl rfl (by decide +kernel) ?_
  refine x_gI C fl_RX0_21 (fun _ _ _ => rfl) (by decide +kernel) (fun count_4 => ?_)
  refine x_ic_ge C (tgt := 78) (off := 59) (by decide) (by decide +kernel) (fun h20 => ?_) (fun h20 => ?_)
  · skip
    refine x_iload C 3 (i := 4) rfl (by decide +kernel) ?_
    exact x_iret C ⟨Nat.zero_le _, Nat.zero_le _⟩ (by decide +kernel)
  · skip
    refine x_aload_n C 2 (i := 2) (k0 := 2) rfl rfl (by decide +kernel) ?_
    refine x_bipush C (n := 30) (by decide +kernel) (by decide +kernel) ?_
    refine x_iload C 4 (i := 5) rfl (by decide +kernel) ?_
    refine x_callV C (ci := 7) (c_X7_ask l D ca ra N t2.1 p1 30 t2.2.2) mt_X7_ask mv_X7_ask rfl ml_RX0_27 rfl (fun h => Bool.noConfusion h) ⟨Nat.le_of_ble_eq_true rfl, Nat.le_of_ble_eq_true rfl⟩ (Nat.le_of_ble_eq_true rfl) 0 0 ⟨rfl, rfl⟩ ⟨Nat.zero_le _, Nat.zero_le _⟩ (by decide +kernel) _ rfl (fun q5 => []) (fun _ => rfl) (fun q5 => ?_)
    refine x_aload_n C 2 (i := 2) (k0 := 2) rfl rfl (by decide +kernel) ?_
    refine x_bipush C (n := 33) (by decide +kernel) (by decide +kernel) ?_
    refine x_aload_n C 0 (i := 0) (k0 := 0) rfl rfl (by decide +kernel) ?_
    refine x_gR C fl_RX0_11 (fun _ _ _ => rfl) (by decide +kernel) (fun price_6 => ?_)
    show X z 0 0 q5.1 37 [(0, ar this), (1, ai p0), (2, ar p1), (4, ai t2.2.1), (5, ai t2.2.2)] [ar price_6, ai 33, ar p1] _
    refine x_iload C 4 (i := 5) rfl (by decide +kernel) ?_
    refine x_aldI C (by decide +kernel) (fun a7 => ?_)
    refine x_callV C (ci := 7) (c_X7_ask l D ca ra N q5.1 p1 33 a7) mt_X7_ask mv_X7_ask rfl ml_RX0_27 rfl (fun h => Bool.noConfusion h) ⟨Nat.le_of_ble_eq_true rfl, Nat.le_of_ble_eq_true rfl⟩ (Nat.le_of_ble_eq_true rfl) 0 0 ⟨rfl, rfl⟩ ⟨Nat.zero_le _, Nat.zero_le _⟩ (by decide +kernel) _ rfl (fun q8 => []) (fun _ => rfl) (fun q8 => ?_)
    refine x_aload_n C 0 (i := 0) (k0 := 0) rfl rfl (by decide +kernel) ?_
    refine x_gR C fl_RX0_18 (fun _ _ _ => rfl) (by decide +kernel) (fun round_9 => ?_)
    refine x_iload C 4 (i := 5) rfl (by decide +kernel) ?_
    refine x_aldI C (by decide +kernel) (fun a10 => ?_)
    refine x_join (T := St × Int) (fun t => t.1) 72 (fun t => [(0, ar this), (1, ai p0), (2, ar p1), (4, ai t.2), (5, ai t2.2.2)]) (fun t => []) (fun t11 => ?_) (fun J72_12 hJ72_12 => ?_)
    · show X z 0 0 t11.1 72 [(0, ar this), (1, ai p0), (2, ar p1), (4, ai t11.2), (5, ai t2.2.2)] [] _
      refine x_iinc C 4 (i := 5) (n := 1) (Nat.le_of_ble_eq_true rfl) rfl (by decide +kernel) (lv2 := fun x12 => [(5, ai x12), (0, ar this), (1, ai p0), (2, ar p1), (4, ai t11.2)]) (fun _ => rfl) (fun x12 => ?_)
      refine x_goto C (tgt := 13) (off := (-62)) (by decide) (by decide +kernel) ?_
      refine x_sub [1, 2, 3, 4, 0] (lv2 := [(0, ar this), (1, ai p0), (2, ar p1), (4, ai t11.2), (5, ai x12)]) rfl ?_
      exact hb13_2 (t11.1, t11.2, x12)
    · skip
      refine x_if_ne C (tgt := 72) (off := 22) (by decide) (by decide +kernel) (fun h19 => ?_) (fun h19 => ?_)
      · skip
        exact hJ72_12 (q8.1, t2.2.1)
      · skip
        refine x_aload_n C 2 (i := 2) (k0 := 2) rfl rfl (by decide +kernel) ?_
        refine x_iconst C (n := 3) (by decide +kernel) ?_
        refine x_callV C (ci := 7) (c_X7_valueOf l D ca ra N q8.1 p1 3) mt_X7_valueOf mv_X7_valueOf rfl ml_RX0_41 rfl (fun h => Bool.noConfusion h) ⟨Nat.le_of_ble_eq_true rfl, Nat.le_of_ble_eq_true rfl⟩ (Nat.le_of_ble_eq_true rfl) 0 0 ⟨rfl, rfl⟩ ⟨Nat.zero_le _, Nat.zero_le _⟩ (by decide +kernel) _ rfl (fun q14 => [ai q14.2]) (fun _ => rfl) (fun q14 => ?_)
        refine x_if_ne C (tgt := 72) (off := 14) (by decide) (by decide +kernel) (fun h18 => ?_) (fun h18 => ?_)
        · skip
          exact hJ72_12 (q14.1, t2.2.1)
        · skip
          refine x_aload_n C 0 (i := 0) (k0 := 0) rfl rfl (by decide +kernel) ?_
          refine x_gR C fl_RX0_18 (fun _ _ _ => rfl) (by decide +kernel) (fun round_15 => ?_)
          refine x_iload C 4 (i := 5) rfl (by decide +kernel) ?_
          refine x_iload_n C 1 (i := 1) (k0 := 1) rfl rfl (by decide +kernel) ?_
          refine x_astI C (by decide +kernel) (fun σ16 => ?_)
          refine x_iinc C 3 (i := 4) (n := 1) (Nat.le_of_ble_eq_true rfl) rfl (by decide +kernel) (lv2 := fun x17 => [(4, ai x17), (0, ar this), (1, ai p0), (2, ar p1), (5, ai t2.2.2)]) (fun _ => rfl) (fun x17 => ?_)
          refine x_sub [1, 2, 3, 0, 4] (lv2 := [(0, ar this), (1, ai p0), (2, ar p1), (4, ai x17), (5, ai t2.2.2)]) rfl ?_
          exact hJ72_12 (σ16, x17)

def L_X0_settle_88 (N : Nat) (this : Nat) (p0 : Nat) : (St × Int × Int) → Option (St × Int) := fixN N fun b88_4 t4 =>
 Option.bind (gI shx t4.1 0 this 0) fun count_6 =>
 (if wr count_6 < wr t4.2.2 then some (t4.1, 0) else Option.bind (rcv shx t4.1 0 this (f_X0_lapseIn N t4.1 this t4.2.2 p0 (t4.2.1 - 1))) fun q7 =>
 Lt (t4.2.1 - q7.2) fun x8 =>
 Lt (t4.2.2 + 1) fun x9 =>
 b88_4 (q7.1, x8, x9))
def L_X0_settle_6 (N : Nat) (this : Nat) (p1 : Int) (J71_10 : (St × Int → Option (St × Int))) : (St × Int × Int) → Option (St × Int) := fixN N fun b6_12 t12 =>
 Option.bind (gI shx t12.1 0 this 0) fun count_14 =>
 (if wr t12.2.2 < wr count_14 then Option.bind (gR shx t12.1 0 this 2) fun till_15 =>
 Option.bind (aI shx t12.1 1 till_15 t12.2.2) fun a16 =>
 Jn (fun t17 : Int => Option.bind (gR shx t12.1 0 this 3) fun round_18 =>
 Jn (fun t19 : Int => Option.bind (sI shx t12.1 1 round_18 t12.2.2 t19) fun σ20 =>
 Jn (fun t21 : Int => Lt (t12.2.1 + t21) fun x22 =>
 Lt (t12.2.2 + 1) fun x23 =>
 b6_12 (σ20, x22, x23)) fun J62_23 =>
 (if wr t17 = 0 then J62_23 0 else J62_23 1)) fun J49_25 =>
 (if wr t17 = 0 then J49_25 (-1) else J49_25 0)) fun J31_27 =>
 (if wr p1 < wr a16 then J31_27 1 else J31_27 0) else J71_10 (t12.1, t12.2.1))
def rm_X0_settle : Room := { frames := 4, cells := 0, slots := 0, locals := 93 }
def f_X0_settle (N : Nat) (σ : St) (this : Nat) (p0 : Nat) (p1 : Int) (p2 : Int) : Option (St × Int) :=
 Jn (fun t1 : St × Int => Option.bind (rcv shx t1.1 7 p0 (f_X7_ask N t1.1 p0 25 p1)) fun q2 =>
 Option.bind (rcv shx q2.1 7 p0 (f_X7_ask N q2.1 p0 31 p2)) fun q3 =>
 L_X0_settle_88 N this p0 (q3.1, t1.2, 1)) fun J71_10 =>
 L_X0_settle_6 N this p1 J71_10 (σ, 0, 0)
set_option maxRecDepth 100000 in
set_option maxHeartbeats 4000000 in
theorem c_X0_settle (l : Launch) (D : va_G) (ca : Nat → ClassId) (ra : Nat → Nat) (N : Nat) (σ : St) (this : Nat) (p0 : Nat) (p1 : Int) (p2 : Int) : Ctr l (D, ca, ra, shx) false yX0_settle cX0_settle 7 none rm_X0_settle σ [ar this, ar p0, ai p1, ai p2] (f_X0_settle N σ this p0 p1 p2) := by
  refine ctr_of (by decide) (Nat.le_of_ble_eq_true rfl) (fun z C => ?_)
  show X z 0 0 σ 0 [(0, ar this), (1, ar p0), (2, ai p1), (3, ai p2)] [] _
  unfold f_X0_settle
  refine x_iconst C (n := 0) (by decide +kernel) ?_
  refine x_istore C (i := 4) (Nat.le_of_ble_eq_true rfl) (by decide +kernel) (lv2 := [(4, ai 0), (0, ar this), (1, ar p0), (2, ai p1), (3, ai p2)]) rfl ?_
  refine x_iconst C (n := 0) (by decide +kernel) ?_
  refine x_istore C (i := 5) (Nat.le_of_ble_eq_true rfl) (by decide +kernel) (lv2 := [(5, ai 0), (4, ai 0), (0, ar this), (1, ar p0), (2, ai p1), (3, ai p2)]) rfl ?_
  refine x_join (T := St × Int) (fun t => t.1) 71 (fun t => [(0, ar this), (1, ar p0), (2, ai p1), (3, ai p2), (4, ai t.2)]) (fun t => []) (fun t1 => ?_) (fun J71_10 hJ71_10 => ?_)
  · show X z 0 0 t1.1 71 [(0, ar this), (1, ar p0), (2, ai p1), (3, ai p2), (4, ai t1.2)] [] _
    refine x_aload_n C 1 (i := 1) (k0 := 1) rfl rfl (by decide +kernel) ?_
    refine x_bipush C (n := 25) (by decide +kernel) (by decide +kernel) ?_
    refine x_iload_n C 2 (i := 2) (k0 := 2) rfl rfl (by decide +kernel) ?_
    refine x_callV C (ci := 7) (c_X7_ask l D ca ra N t1.1 p0 25 p1) mt_X7_ask mv_X7_ask rfl ml_RX0_27 rfl (fun h => Bool.noConfusion h) ⟨Nat.le_of_ble_eq_true rfl, Nat.le_of_ble_eq_true rfl⟩ (Nat.le_of_ble_eq_true rfl) 0 0 ⟨rfl, rfl⟩ ⟨Nat.zero_le _, Nat.zero_le _⟩ (by decide +kernel) _ rfl (fun q2 => []) (fun _ => rfl) (fun q2 => ?_)
    refine x_aload_n C 1 (i := 1) (k0 := 1) rfl rfl (by decide +kernel) ?_
    refine x_bipush C (n := 31) (by decide +kernel) (by decide +kernel) ?_
    refine x_iload_n C 3 (i := 3) (k0 := 3) rfl rfl (by decide +kernel) ?_
    refine x_callV C (ci := 7) (c_X7_ask l D ca ra N q2.1 p0 31 p2) mt_X7_ask mv_X7_ask rfl ml_RX0_27 rfl (fun h => Bool.noConfusion h) ⟨Nat.le_of_ble_eq_true rfl, Nat.le_of_ble_eq_true rfl⟩ (Nat.le_of_ble_eq_true rfl) 0 0 ⟨rfl, rfl⟩ ⟨Nat.zero_le _, Nat.zero_le _⟩ (by decide +kernel) _ rfl (fun q3 => []) (fun _ => rfl) (fun q3 => ?_)
    show X z 0 0 q3.1 85 [(0, ar this), (1, ar p0), (2, ai p1), (3, ai p2), (4, ai t1.2)] [] _
    refine x_iconst C (n := 1) (by decide +kernel) ?_
    refine x_istore C (i := 5) (Nat.le_of_ble_eq_true rfl) (by decide +kernel) (lv2 := [(5, ai 1), (0, ar this), (1, ar p0), (2, ai p1), (3, ai p2), (4, ai t1.2)]) rfl ?_
    refine x_sub [1, 2, 5, 0] (lv2 := [(0, ar this), (1, ar p0), (4, ai t1.2), (5, ai 1)]) rfl ?_
    -- LOOP L_X0_settle_88 hb88_4
    refine x_loop (T := St × Int × Int) (fun t => t.1) (fun t => [(0, ar this), (1, ar p0), (4, ai t.2.1), (5, ai t.2.2)]) (q3.1, t1.2, 1) rfl (fun b88_4 hb88_4 t4 => ?_)
    show X z 0 0 t4.1 88 [(0, ar this), (1, ar p0), (4, ai t4.2.1), (5, ai t4.2.2)] [] _
    refine x_iload C 3 (i := 5) rfl (by decide +kernel) ?_
    refine x_aload_n C 0 (i := 0) (k0 := 0) rfl rfl (by decide +kernel) ?_
    refine x_gI C fl_RX0_21 (fun _ _ _ => rfl) (by decide +kernel) (fun count_6 => ?_)
    refine x_ic_gt C (tgt := 119) (off := 25) (by decide) (by decide +kernel) (fun h10 => ?_) (fun h10 => ?_)
    · skip
      exact x_vret C ⟨Nat.zero_le _, Nat.zero_le _⟩ (by decide +kernel)
    · skip
      refine x_iload C 2 (i := 4) rfl (by decide +kernel) ?_
      refine x_aload_n C 0 (i := 0) (k0 := 0) rfl rfl (by decide +kernel) ?_
      refine x_iload C 3 (i := 5) rfl (by decide +kernel) ?_
      refine x_aload_n C 1 (i := 1) (k0 := 1) rfl rfl (by decide +kernel) ?_
      refine x_iload C 2 (i := 4) rfl (by decide +kernel) ?_
      refine x_iconst C (n := 1) (by decide +kernel) ?_
      refine x_isub C (by decide +kernel) ?_
      refine x_callV C (ci := 0) (c_X0_lapseIn l D ca ra N t4.1 this t4.2.2 p0 (t4.2.1 - 1)) mt_X0_lapseIn mv_X0_lapseIn rfl ml_RX0_33 rfl (fun h => Bool.noConfusion h) ⟨Nat.le_of_ble_eq_true rfl, Nat.le_of_ble_eq_true rfl⟩ (Nat.le_of_ble_eq_true rfl) 0 0 ⟨rfl, rfl⟩ ⟨Nat.zero_le _, Nat.zero_le _⟩ (by decide +kernel) _ rfl (fun q7 => [ai q7.2, ai t4.2.1]) (fun _ => rfl) (fun q7 => ?_)
      show X z 0 0 q7.1 110 [(0, ar this), (1, ar p0), (4, ai t4.2.1), (5, ai t4.2.2)] [ai q7.2, ai t4.2.1] _
      refine x_isub C (by decide +kernel) ?_
      refine x_istoreL C (i := 4) (Nat.le_of_ble_eq_true rfl) (by decide +kernel) (lv2 := fun x8 => [(4, ai x8), (0, ar this), (1, ar p0), (5, ai t4.2.2)]) (fun _ => rfl) (fun x8 => ?_)
      refine x_iinc C 3 (i := 5) (n := 1) (Nat.le_of_ble_eq_true rfl) rfl (by decide +kernel) (lv2 := fun x9 => [(5, ai x9), (4, ai x8), (0, ar this), (1, ar p0)]) (fun _ => rfl) (fun x9 => ?_)
      refine x_goto C (tgt := 88) (off := (-28)) (by decide) (by decide +kernel) ?_
      refine x_sub [2, 3, 1, 0] (lv2 := [(0, ar this), (1, ar p0), (4, ai x8), (5, ai x9)]) rfl ?_
      exact hb88_4 (q7.1, x8, x9)
  · skip
    refine x_sub [2, 3, 4, 5, 1, 0] (lv2 := [(0, ar this), (1, ar p0), (2, ai p1), (3, ai p2), (4, ai 0), (5, ai 0)]) rfl ?_
    -- LOOP L_X0_settle_6 hb6_12
    refine x_loop (T := St × Int × Int) (fun t => t.1) (fun t => [(0, ar this), (1, ar p0), (2, ai p1), (3, ai p2), (4, ai t.2.1), (5, ai t.2.2)]) (σ, 0, 0) rfl (fun b6_12 hb6_12 t12 => ?_)
    show X z 0 0 t12.1 6 [(0, ar this), (1, ar p0), (2, ai p1), (3, ai p2), (4, ai t12.2.1), (5, ai t12.2.2)] [] _
    refine x_iload C 5 (i := 5) rfl (by decide +kernel) ?_
    refine x_aload_n C 0 (i := 0) (k0 := 0) rfl rfl (by decide +kernel) ?_
    refine x_gI C fl_RX0_21 (fun _ _ _ => rfl) (by decide +kernel) (fun count_14 => ?_)
    refine x_ic_ge C (tgt := 71) (off := 59) (by decide) (by decide +kernel) (fun h30 => ?_) (fun h30 => ?_)
    · skip
      refine x_sub [0, 1, 2, 3, 4] (lv2 := [(0, ar this), (1, ar p0), (2, ai p1), (3, ai p2), (4, ai t12.2.1)]) rfl ?_
      exact hJ71_10 (t12.1, t12.2.1)
    · skip
      refine x_iload_n C 2 (i := 2) (k0 := 2) rfl rfl (by decide +kernel) ?_
      refine x_aload_n C 0 (i := 0) (k0 := 0) rfl rfl (by decide +kernel) ?_
      refine x_gR C fl_RX0_15 (fun _ _ _ => rfl) (by decide +kernel) (fun till_15 => ?_)
      refine x_iload C 5 (i := 5) rfl (by decide +kernel) ?_
      refine x_aldI C (by decide +kernel) (fun a16 => ?_)
      refine x_join (T := Int) (fun t => t12.1) 31 (fun t => [(0, ar this), (1, ar p0), (2, ai p1), (3, ai p2), (4, ai t12.2.1), (5, ai t12.2.2)]) (fun t => [ai t]) (fun t17 => ?_) (fun J31_27 hJ31_27 => ?_)
      · show X z 0 0 t12.1 31 [(0, ar this), (1, ar p0), (2, ai p1), (3, ai p2), (4, ai t12.2.1), (5, ai t12.2.2)] [ai t17] _
        refine x_istore C (i := 6) (Nat.le_of_ble_eq_true rfl) (by decide +kernel) (lv2 := [(6, ai t17), (0, ar this), (1, ar p0), (2, ai p1), (3, ai p2), (4, ai t12.2.1), (5, ai t12.2.2)]) rfl ?_
        refine x_aload_n C 1 (i := 0) (k0 := 0) rfl rfl (by decide +kernel) ?_
        refine x_gR C fl_RX0_18 (fun _ _ _ => rfl) (by decide +kernel) (fun round_18 => ?_)
        refine x_iload C 6 (i := 5) rfl (by decide +kernel) ?_
        refine x_iload C 0 (i := 6) rfl (by decide +kernel) ?_
        refine x_join (T := Int) (fun t => t12.1) 49 (fun t => [(0, ar this), (1, ar p0), (2, ai p1), (3, ai p2), (4, ai t12.2.1), (5, ai t12.2.2), (6, ai t17)]) (fun t => [ai t, ai t12.2.2, ar round_18]) (fun t19 => ?_) (fun J49_25 hJ49_25 => ?_)
        · show X z 0 0 t12.1 49 [(0, ar this), (1, ar p0), (2, ai p1), (3, ai p2), (4, ai t12.2.1), (5, ai t12.2.2), (6, ai t17)] [ai t19, ai t12.2.2, ar round_18] _
          refine x_astI C (by decide +kernel) (fun σ20 => ?_)
          refine x_iload C 4 (i := 4) rfl (by decide +kernel) ?_
          refine x_iload C 6 (i := 6) rfl (by decide +kernel) ?_
          refine x_join (T := Int) (fun t => σ20) 62 (fun t => [(0, ar this), (1, ar p0), (2, ai p1), (3, ai p2), (5, ai t12.2.2)]) (fun t => [ai t, ai t12.2.1]) (fun t21 => ?_) (fun J62_23 hJ62_23 => ?_)
          · show X z 0 0 σ20 62 [(0, ar this), (1, ar p0), (2, ai p1), (3, ai p2), (5, ai t12.2.2)] [ai t21, ai t12.2.1] _
            refine x_iadd C (by decide +kernel) ?_
            refine x_istoreL C (i := 4) (Nat.le_of_ble_eq_true rfl) (by decide +kernel) (lv2 := fun x22 => [(4, ai x22), (0, ar this), (1, ar p0), (2, ai p1), (3, ai p2), (5, ai t12.2.2)]) (fun _ => rfl) (fun x22 => ?_)
            refine x_iinc C 5 (i := 5) (n := 1) (Nat.le_of_ble_eq_true rfl) rfl (by decide +kernel) (lv2 := fun x23 => [(5, ai x23), (4, ai x22), (0, ar this), (1, ar p0), (2, ai p1), (3, ai p2)]) (fun _ => rfl) (fun x23 => ?_)
            refine x_goto C (tgt := 6) (off := (-62)) (by decide) (by decide +kernel) ?_
            refine x_sub [2, 3, 4, 5, 1, 0] (lv2 := [(0, ar this), (1, ar p0), (2, ai p1), (3, ai p2), (4, ai x22), (5, ai x23)]) rfl ?_
            exact hb6_12 (σ20, x22, x23)
          · skip
            refine x_if_eq C (tgt := 61) (off := 7) (by decide) (by decide +kernel) (fun h25 => ?_) (fun h25 => ?_)
            · skip
              refine x_iconst C (n := 0) (by decide +kernel) ?_
              refine x_sub [0, 1, 2, 3, 5] (lv2 := [(0, ar this), (1, ar p0), (2, ai p1), (3, ai p2), (5, ai t12.2.2)]) rfl ?_
              exact hJ62_23 0
            · skip
              refine x_iconst C (n := 1) (by decide +kernel) ?_
              refine x_goto C (tgt := 62) (off := 4) (by decide) (by decide +kernel) ?_
              refine x_sub [0, 1, 2, 3, 5] (lv2 := [(0, ar this), (1, ar p0), (2, ai p1), (3, ai p2), (5, ai t12.2.2)]) rfl ?_
              exact hJ62_23 1
        · skip
          refine x_if_eq C (tgt := 48) (off := 7) (by decide) (by decide +kernel) (fun h27 => ?_) (fun h27 => ?_)
          · skip
            refine x_iconst C (n := (-1)) (by decide +kernel) ?_
            refine x_sub [1, 2, 3, 4, 5, 6, 0] (lv2 := [(0, ar this), (1, ar p0), (2, ai p1), (3, ai p2), (4, ai t12.2.1), (5, ai t12.2.2), (6, ai t17)]) rfl ?_
            exact hJ49_25 (-1)
          · skip
            refine x_iconst C (n := 0) (by decide +kernel) ?_
            refine x_goto C (tgt := 49) (off := 4) (by decide) (by decide +kernel) ?_
            refine x_sub [1, 2, 3, 4, 5, 6, 0] (lv2 := [(0, ar this), (1, ar p0), (2, ai p1), (3, ai p2), (4, ai t12.2.1), (5, ai t12.2.2), (6, ai t17)]) rfl ?_
            exact hJ49_25 0
      · skip
        refine x_ic_ge C (tgt := 30) (off := 7) (by decide) (by decide +kernel) (fun h29 => ?_) (fun h29 => ?_)
        · skip
          refine x_iconst C (n := 0) (by decide +kernel) ?_
          exact hJ31_27 0
        · skip
          refine x_iconst C (n := 1) (by decide +kernel) ?_
          refine x_goto C (tgt := 31) (off := 4) (by decide) (by decide +kernel) ?_
          exact hJ31_27 1

def L_X0_holders_4 (N : Nat) (σ : St) (this : Nat) : (Int × Int) → Option (St × Int) := fixN N fun b4_1 t1 =>
 Option.bind (gI shx σ 0 this 0) fun count_3 =>
 (if wr t1.2 < wr count_3 then Option.bind (gR shx σ 0 this 3) fun round_4 =>
 Option.bind (aI shx σ 1 round_4 t1.2) fun a5 =>
 Jn (fun t6 : Int => Lt (t1.2 + 1) fun x7 =>
 b4_1 (t6, x7)) fun J27_7 =>
 (if wr a5 = 0 then Lt (orZ t1.1 (shlZ 1 t1.2)) fun x9 =>
 J27_7 x9 else J27_7 t1.1) else some (σ, t1.1))
def rm_X0_holders : Room := { frames := 0, cells := 0, slots := 0, locals := 0 }
def f_X0_holders (N : Nat) (σ : St) (this : Nat) : Option (St × Int) :=
 L_X0_holders_4 N σ this (0, 0)
set_option maxRecDepth 100000 in
set_option maxHeartbeats 4000000 in
theorem c_X0_holders (l : Launch) (D : va_G) (ca : Nat → ClassId) (ra : Nat → Nat) (N : Nat) (σ : St) (this : Nat) : Ctr l (D, ca, ra, shx) false yX0_holders cX0_holders 3 (some .int) rm_X0_holders σ [ar this] (f_X0_holders N σ this) := by
  refine ctr_of (by decide) (Nat.le_of_ble_eq_true rfl) (fun z C => ?_)
  show X z 0 0 σ 0 [(0, ar this)] [] _
  unfold f_X0_holders
  refine x_iconst C (n := 0) (by decide +kernel) ?_
  refine x_istore_n C (i := 1) (k0 := 1) rfl (Nat.le_of_ble_eq_true rfl) (by decide +kernel) (lv2 := [(1, ai 0), (0, ar this)]) rfl ?_
  refine x_iconst C (n := 0) (by decide +kernel) ?_
  refine x_istore_n C (i := 2) (k0 := 2) rfl (Nat.le_of_ble_eq_true rfl) (by decide +kernel) (lv2 := [(2, ai 0), (1, ai 0), (0, ar this)]) rfl ?_
  refine x_sub [2, 1, 0] (lv2 := [(0, ar this), (1, ai 0), (2, ai 0)]) rfl ?_
  -- LOOP L_X0_holders_4 hb4_1
  refine x_loop (T := Int × Int) (fun t => σ) (fun t => [(0, ar this), (1, ai t.1), (2, ai t.2)]) (0, 0) rfl (fun b4_1 hb4_1 t1 => ?_)
  show X z 0 0 σ 4 [(0, ar this), (1, ai t1.1), (2, ai t1.2)] [] _
  refine x_iload_n C 2 (i := 2) (k0 := 2) rfl rfl (by decide +kernel) ?_
  refine x_aload_n C 0 (i := 0) (k0 := 0) rfl rfl (by decide +kernel) ?_
  refine x_gI C fl_RX0_21 (fun _ _ _ => rfl) (by decide +kernel) (fun count_3 => ?_)
  refine x_ic_ge C (tgt := 33) (off := 24) (by decide) (by decide +kernel) (fun h11 => ?_) (fun h11 => ?_)
  · skip
    refine x_iload_n C 1 (i := 1) (k0 := 1) rfl rfl (by decide +kernel) ?_
    exact x_iret C ⟨Nat.zero_le _, Nat.zero_le _⟩ (by decide +kernel)
  · skip
    refine x_aload_n C 0 (i := 0) (k0 := 0) rfl rfl (by decide +kernel) ?_
    refine x_gR C fl_RX0_18 (fun _ _ _ => rfl) (by decide +kernel) (fun round_4 => ?_)
    refine x_iload_n C 2 (i := 2) (k0 := 2) rfl rfl (by decide +kernel) ?_
    refine x_aldI C (by decide +kernel) (fun a5 => ?_)
    refine x_join (T := Int) (fun t => σ) 27 (fun t => [(0, ar this), (1, ai t), (2, ai t1.2)]) (fun t => []) (fun t6 => ?_) (fun J27_7 hJ27_7 => ?_)
    · show X z 0 0 σ 27 [(0, ar this), (1, ai t6), (2, ai t1.2)] [] _
      refine x_iinc C 2 (i := 2) (n := 1) (Nat.le_of_ble_eq_true rfl) rfl (by decide +kernel) (lv2 := fun x7 => [(2, ai x7), (0, ar this), (1, ai t6)]) (fun _ => rfl) (fun x7 => ?_)
      refine x_goto C (tgt := 4) (off := (-26)) (by decide) (by decide +kernel) ?_
      refine x_sub [1, 2, 0] (lv2 := [(0, ar this), (1, ai t6), (2, ai x7)]) rfl ?_
      exact hb4_1 (t6, x7)
    · skip
      refine x_if_ne C (tgt := 27) (off := 9) (by decide) (by decide +kernel) (fun h10 => ?_) (fun h10 => ?_)
      · skip
        exact hJ27_7 t1.1
      · skip
        refine x_iload_n C 1 (i := 1) (k0 := 1) rfl rfl (by decide +kernel) ?_
        refine x_iconst C (n := 1) (by decide +kernel) ?_
        refine x_iload_n C 2 (i := 2) (k0 := 2) rfl rfl (by decide +kernel) ?_
        refine x_ishl C (by decide +kernel) ?_
        refine x_ior C (by decide +kernel) ?_
        refine x_istore_nL C (i := 1) (k0 := 1) rfl (Nat.le_of_ble_eq_true rfl) (by decide +kernel) (lv2 := fun x9 => [(1, ai x9), (0, ar this), (2, ai t1.2)]) (fun _ => rfl) (fun x9 => ?_)
        refine x_sub [1, 0, 2] (lv2 := [(0, ar this), (1, ai x9), (2, ai t1.2)]) rfl ?_
        exact hJ27_7 x9
theorem p_X0_holders (N : Nat) (σ : St) (this : Nat) : Pu σ (f_X0_holders N σ this) := by
  unfold f_X0_holders
  unfold L_X0_holders_4
  refine pu_fix (fun _ hb4_1 _ => ?_) _
  refine pu_bind (fun _ => ?_)
  refine pu_ifs ?_ ?_
  · skip
    exact pu_some
  · skip
    refine pu_bind (fun _ => ?_)
    refine pu_bind (fun _ => ?_)
    refine pu_Jn (fun _ => ?_) (fun _ hJ27_7 => ?_)
    · skip
      refine pu_Lt (fun _ => ?_)
      exact hb4_1 _
    · skip
      refine pu_ifs ?_ ?_
      · skip
        exact hJ27_7 _
      · skip
        refine pu_Lt (fun _ => ?_)
        exact hJ27_7 _

def rm_X0_roundOf : Room := { frames := 1, cells := 0, slots := 0, locals := 22 }
def f_X0_roundOf (N : Nat) (σ : St) (this : Nat) (p0 : Int) : Option (St × Int) :=
 Option.bind (gI shx σ 0 this 0) fun count_1 =>
 Option.bind (f_X11_within N σ p0 0 (count_1 - 1)) fun q2 =>
 (if wr q2.2 = 0 then some (σ, (-1)) else Option.bind (gR shx σ 0 this 3) fun round_3 =>
 Option.bind (aI shx σ 1 round_3 p0) fun a4 =>
 some (σ, a4))
set_option maxRecDepth 100000 in
set_option maxHeartbeats 4000000 in
theorem c_X0_roundOf (l : Launch) (D : va_G) (ca : Nat → ClassId) (ra : Nat → Nat) (N : Nat) (σ : St) (this : Nat) (p0 : Int) : Ctr l (D, ca, ra, shx) false yX0_roundOf cX0_roundOf 2 (some .int) rm_X0_roundOf σ [ar this, ai p0] (f_X0_roundOf N σ this p0) := by
  refine ctr_of (by decide) (Nat.le_of_ble_eq_true rfl) (fun z C => ?_)
  show X z 0 0 σ 0 [(0, ar this), (1, ai p0)] [] _
  unfold f_X0_roundOf
  refine x_iload_n C 1 (i := 1) (k0 := 1) rfl rfl (by decide +kernel) ?_
  refine x_iconst C (n := 0) (by decide +kernel) ?_
  refine x_aload_n C 0 (i := 0) (k0 := 0) rfl rfl (by decide +kernel) ?_
  refine x_gI C fl_RX0_21 (fun _ _ _ => rfl) (by decide +kernel) (fun count_1 => ?_)
  refine x_iconst C (n := 1) (by decide +kernel) ?_
  refine x_isub C (by decide +kernel) ?_
  refine x_callSNp C (c_X11_within l D ca ra N σ p0 0 (count_1 - 1)) (p_X11_within N σ p0 0 (count_1 - 1)) mt_X11_within ms_X11_within (List.mem_of_getElem? (i := 16) rfl) rfl (fun h => Bool.noConfusion h) ⟨Nat.le_of_ble_eq_true rfl, Nat.le_of_ble_eq_true rfl⟩ (Nat.le_of_ble_eq_true rfl) 0 0 ⟨rfl, rfl⟩ ⟨Nat.zero_le _, Nat.zero_le _⟩ (by decide +kernel) _ rfl (fun q2 => [ai q2.2]) (fun _ => rfl) (fun q2 => ?_)
  refine x_if_eq C (tgt := 23) (off := 12) (by decide) (by decide +kernel) (fun h5 => ?_) (fun h5 => ?_)
  · skip
    refine x_iconst C (n := (-1)) (by decide +kernel) ?_
    exact x_iret C ⟨Nat.zero_le _, Nat.zero_le _⟩ (by decide +kernel)
  · skip
    refine x_aload_n C 0 (i := 0) (k0 := 0) rfl rfl (by decide +kernel) ?_
    refine x_gR C fl_RX0_18 (fun _ _ _ => rfl) (by decide +kernel) (fun round_3 => ?_)
    refine x_iload_n C 1 (i := 1) (k0 := 1) rfl rfl (by decide +kernel) ?_
    refine x_aldI C (by decide +kernel) (fun a4 => ?_)
    refine x_goto C (tgt := 24) (off := 4) (by decide) (by decide +kernel) ?_
    exact x_iret C ⟨Nat.zero_le _, Nat.zero_le _⟩ (by decide +kernel)
theorem p_X0_roundOf (N : Nat) (σ : St) (this : Nat) (p0 : Int) : Pu σ (f_X0_roundOf N σ this p0) := by
  unfold f_X0_roundOf
  refine pu_bind (fun _ => ?_)
  refine pu_bind (fun _ => ?_)
  refine pu_if ?_ ?_
  · skip
    exact pu_some
  · skip
    refine pu_bind (fun _ => ?_)
    refine pu_bind (fun _ => ?_)
    exact pu_some

def rm_X5_add : Room := { frames := 1, cells := 0, slots := 0, locals := 22 }
def f_X5_add (N : Nat) (σ : St) (this : Nat) (p0 : Int) (p1 : Int) : Option (St × Int) :=
 Option.bind (f_X11_within N σ p0 0 30) fun q1 =>
 (if wr q1.2 = 0 then some (σ, (-1)) else Option.bind (f_X11_within N σ p1 0 10) fun q2 =>
 (if wr q2.2 = 0 then some (σ, (-1)) else Option.bind (gI shx σ 5 this 0) fun count_3 =>
 (if wr count_3 < wr 8 then Option.bind (gR shx σ 5 this 4) fun cost_4 =>
 Option.bind (gI shx σ 5 this 0) fun count_5 =>
 Option.bind (sI shx σ 1 cost_4 count_5 p0) fun σ6 =>
 Option.bind (gR shx σ6 5 this 5) fun tenths_7 =>
 Option.bind (gI shx σ6 5 this 0) fun count_8 =>
 Option.bind (sI shx σ6 1 tenths_7 count_8 p1) fun σ9 =>
 Option.bind (gI shx σ9 5 this 0) fun count_10 =>
 Option.bind (pI shx σ9 5 this 0 (count_10 + 1)) fun σ11 =>
 Option.bind (pI shx σ11 5 this 3 0) fun σ12 =>
 Option.bind (gI shx σ12 5 this 0) fun count_13 =>
 some (σ12, (count_13 - 1)) else some (σ, (-1)))))
set_option maxRecDepth 100000 in
set_option maxHeartbeats 4000000 in
theorem c_X5_add (l : Launch) (D : va_G) (ca : Nat → ClassId) (ra : Nat → Nat) (N : Nat) (σ : St) (this : Nat) (p0 : Int) (p1 : Int) : Ctr l (D, ca, ra, shx) false yX5_add cX5_add 3 (some .int) rm_X5_add σ [ar this, ai p0, ai p1] (f_X5_add N σ this p0 p1) := by
  refine ctr_of (by decide) (Nat.le_of_ble_eq_true rfl) (fun z C => ?_)
  show X z 0 0 σ 0 [(0, ar this), (1, ai p0), (2, ai p1)] [] _
  unfold f_X5_add
  refine x_iload_n C 1 (i := 1) (k0 := 1) rfl rfl (by decide +kernel) ?_
  refine x_iconst C (n := 0) (by decide +kernel) ?_
  refine x_bipush C (n := 30) (by decide +kernel) (by decide +kernel) ?_
  refine x_callSNp C (c_X11_within l D ca ra N σ p0 0 30) (p_X11_within N σ p0 0 30) mt_X11_within ms_X11_within (List.mem_of_getElem? (i := 18) rfl) rfl (fun h => Bool.noConfusion h) ⟨Nat.le_of_ble_eq_true rfl, Nat.le_of_ble_eq_true rfl⟩ (Nat.le_of_ble_eq_true rfl) 0 0 ⟨rfl, rfl⟩ ⟨Nat.zero_le _, Nat.zero_le _⟩ (by decide +kernel) _ rfl (fun q1 => [ai q1.2]) (fun _ => rfl) (fun q1 => ?_)
  refine x_if_eq C (tgt := 29) (off := 22) (by decide) (by decide +kernel) (fun h16 => ?_) (fun h16 => ?_)
  · skip
    refine x_iconst C (n := (-1)) (by decide +kernel) ?_
    exact x_iret C ⟨Nat.zero_le _, Nat.zero_le _⟩ (by decide +kernel)
  · skip
    refine x_iload_n C 2 (i := 2) (k0 := 2) rfl rfl (by decide +kernel) ?_
    refine x_iconst C (n := 0) (by decide +kernel) ?_
    refine x_bipush C (n := 10) (by decide +kernel) (by decide +kernel) ?_
    refine x_callSNp C (c_X11_within l D ca ra N σ p1 0 10) (p_X11_within N σ p1 0 10) mt_X11_within ms_X11_within (List.mem_of_getElem? (i := 18) rfl) rfl (fun h => Bool.noConfusion h) ⟨Nat.le_of_ble_eq_true rfl, Nat.le_of_ble_eq_true rfl⟩ (Nat.le_of_ble_eq_true rfl) 0 0 ⟨rfl, rfl⟩ ⟨Nat.zero_le _, Nat.zero_le _⟩ (by decide +kernel) _ rfl (fun q2 => [ai q2.2]) (fun _ => rfl) (fun q2 => ?_)
    refine x_if_eq C (tgt := 29) (off := 12) (by decide) (by decide +kernel) (fun h15 => ?_) (fun h15 => ?_)
    · skip
      refine x_iconst C (n := (-1)) (by decide +kernel) ?_
      exact x_iret C ⟨Nat.zero_le _, Nat.zero_le _⟩ (by decide +kernel)
    · skip
      refine x_aload_n C 0 (i := 0) (k0 := 0) rfl rfl (by decide +kernel) ?_
      refine x_gI C fl_RX5_27 (fun _ _ _ => rfl) (by decide +kernel) (fun count_3 => ?_)
      refine x_bipush C (n := 8) (by decide +kernel) (by decide +kernel) ?_
      refine x_ic_lt C (tgt := 31) (off := 5) (by decide) (by decide +kernel) (fun h14 => ?_) (fun h14 => ?_)
      · skip
        refine x_aload_n C 0 (i := 0) (k0 := 0) rfl rfl (by decide +kernel) ?_
        refine x_gR C fl_RX5_11 (fun _ _ _ => rfl) (by decide +kernel) (fun cost_4 => ?_)
        refine x_aload_n C 0 (i := 0) (k0 := 0) rfl rfl (by decide +kernel) ?_
        refine x_gI C fl_RX5_27 (fun _ _ _ => rfl) (by decide +kernel) (fun count_5 => ?_)
        refine x_iload_n C 1 (i := 1) (k0 := 1) rfl rfl (by decide +kernel) ?_
        refine x_astI C (by decide +kernel) (fun σ6 => ?_)
        refine x_aload_n C 0 (i := 0) (k0 := 0) rfl rfl (by decide +kernel) ?_
        refine x_gR C fl_RX5_15 (fun _ _ _ => rfl) (by decide +kernel) (fun tenths_7 => ?_)
        show X z 0 0 σ6 45 [(0, ar this), (1, ai p0), (2, ai p1)] [ar tenths_7] _
        refine x_aload_n C 0 (i := 0) (k0 := 0) rfl rfl (by decide +kernel) ?_
        refine x_gI C fl_RX5_27 (fun _ _ _ => rfl) (by decide +kernel) (fun count_8 => ?_)
        refine x_iload_n C 2 (i := 2) (k0 := 2) rfl rfl (by decide +kernel) ?_
        refine x_astI C (by decide +kernel) (fun σ9 => ?_)
        refine x_aload_n C 0 (i := 0) (k0 := 0) rfl rfl (by decide +kernel) ?_
        refine x_dup C rfl (by decide +kernel) ?_
        refine x_gI C fl_RX5_27 (fun _ _ _ => rfl) (by decide +kernel) (fun count_10 => ?_)
        refine x_iconst C (n := 1) (by decide +kernel) ?_
        show X z 0 0 σ9 57 [(0, ar this), (1, ai p0), (2, ai p1)] [ai 1, ai count_10, ar this] _
        refine x_iadd C (by decide +kernel) ?_
        refine x_pI C fl_RX5_27 rfl (fun q h => by cases h; rfl) (by decide +kernel) (fun σ11 => ?_)
        refine x_aload_n C 0 (i := 0) (k0 := 0) rfl rfl (by decide +kernel) ?_
        refine x_iconst C (n := 0) (by decide +kernel) ?_
        refine x_pZ C fl_RX5_31 rfl (Or.inl rfl) (fun q h => by cases h; rfl) (by decide +kernel) (fun σ12 => ?_)
        refine x_aload_n C 0 (i := 0) (k0 := 0) rfl rfl (by decide +kernel) ?_
        refine x_gI C fl_RX5_27 (fun _ _ _ => rfl) (by decide +kernel) (fun count_13 => ?_)
        refine x_iconst C (n := 1) (by decide +kernel) ?_
        show X z 0 0 σ12 71 [(0, ar this), (1, ai p0), (2, ai p1)] [ai 1, ai count_13] _
        refine x_isub C (by decide +kernel) ?_
        exact x_iret C ⟨Nat.zero_le _, Nat.zero_le _⟩ (by decide +kernel)
      · skip
        refine x_iconst C (n := (-1)) (by decide +kernel) ?_
        exact x_iret C ⟨Nat.zero_le _, Nat.zero_le _⟩ (by decide +kernel)

def rm_X5_setGrant : Room := { frames := 1, cells := 0, slots := 0, locals := 22 }
def f_X5_setGrant (N : Nat) (σ : St) (this : Nat) (p0 : Int) (p1 : Int) : Option (St × Int) :=
 Option.bind (f_X11_within N σ p0 0 9) fun q1 =>
 (if wr q1.2 = 0 then some (σ, 0) else Option.bind (f_X11_within N σ p1 0 4) fun q2 =>
 (if wr q2.2 = 0 then some (σ, 0) else Option.bind (pI shx σ 5 this 1 p0) fun σ3 =>
 Option.bind (pI shx σ3 5 this 2 p1) fun σ4 =>
 Option.bind (pI shx σ4 5 this 3 0) fun σ5 =>
 some (σ5, 1)))
set_option maxRecDepth 100000 in
set_option maxHeartbeats 4000000 in
theorem c_X5_setGrant (l : Launch) (D : va_G) (ca : Nat → ClassId) (ra : Nat → Nat) (N : Nat) (σ : St) (this : Nat) (p0 : Int) (p1 : Int) : Ctr l (D, ca, ra, shx) false yX5_setGrant cX5_setGrant 3 (some .boolean) rm_X5_setGrant σ [ar this, ai p0, ai p1] (f_X5_setGrant N σ this p0 p1) := by
  refine ctr_of (by decide) (Nat.le_of_ble_eq_true rfl) (fun z C => ?_)
  show X z 0 0 σ 0 [(0, ar this), (1, ai p0), (2, ai p1)] [] _
  unfold f_X5_setGrant
  refine x_iload_n C 1 (i := 1) (k0 := 1) rfl rfl (by decide +kernel) ?_
  refine x_iconst C (n := 0) (by decide +kernel) ?_
  refine x_bipush C (n := 9) (by decide +kernel) (by decide +kernel) ?_
  refine x_callSNp C (c_X11_within l D ca ra N σ p0 0 9) (p_X11_within N σ p0 0 9) mt_X11_within ms_X11_within (List.mem_of_getElem? (i := 18) rfl) rfl (fun h => Bool.noConfusion h) ⟨Nat.le_of_ble_eq_true rfl, Nat.le_of_ble_eq_true rfl⟩ (Nat.le_of_ble_eq_true rfl) 0 0 ⟨rfl, rfl⟩ ⟨Nat.zero_le _, Nat.zero_le _⟩ (by decide +kernel) _ rfl (fun q1 => [ai q1.2]) (fun _ => rfl) (fun q1 => ?_)
  refine x_if_eq C (tgt := 19) (off := 12) (by decide) (by decide +kernel) (fun h7 => ?_) (fun h7 => ?_)
  · skip
    refine x_iconst C (n := 0) (by decide +kernel) ?_
    exact x_zret C (Or.inl rfl) ⟨Nat.zero_le _, Nat.zero_le _⟩ (by decide +kernel)
  · skip
    refine x_iload_n C 2 (i := 2) (k0 := 2) rfl rfl (by decide +kernel) ?_
    refine x_iconst C (n := 0) (by decide +kernel) ?_
    refine x_iconst C (n := 4) (by decide +kernel) ?_
    refine x_callSNp C (c_X11_within l D ca ra N σ p1 0 4) (p_X11_within N σ p1 0 4) mt_X11_within ms_X11_within (List.mem_of_getElem? (i := 18) rfl) rfl (fun h => Bool.noConfusion h) ⟨Nat.le_of_ble_eq_true rfl, Nat.le_of_ble_eq_true rfl⟩ (Nat.le_of_ble_eq_true rfl) 0 0 ⟨rfl, rfl⟩ ⟨Nat.zero_le _, Nat.zero_le _⟩ (by decide +kernel) _ rfl (fun q2 => [ai q2.2]) (fun _ => rfl) (fun q2 => ?_)
    refine x_if_ne C (tgt := 21) (off := 5) (by decide) (by decide +kernel) (fun h6 => ?_) (fun h6 => ?_)
    · skip
      refine x_aload_n C 0 (i := 0) (k0 := 0) rfl rfl (by decide +kernel) ?_
      refine x_iload_n C 1 (i := 1) (k0 := 1) rfl rfl (by decide +kernel) ?_
      refine x_pI C fl_RX5_35 rfl (fun q h => by cases h; rfl) (by decide +kernel) (fun σ3 => ?_)
      refine x_aload_n C 0 (i := 0) (k0 := 0) rfl rfl (by decide +kernel) ?_
      refine x_iload_n C 2 (i := 2) (k0 := 2) rfl rfl (by decide +kernel) ?_
      refine x_pI C fl_RX5_38 rfl (fun q h => by cases h; rfl) (by decide +kernel) (fun σ4 => ?_)
      refine x_aload_n C 0 (i := 0) (k0 := 0) rfl rfl (by decide +kernel) ?_
      refine x_iconst C (n := 0) (by decide +kernel) ?_
      show X z 0 0 σ4 33 [(0, ar this), (1, ai p0), (2, ai p1)] [ai 0, ar this] _
      refine x_pZ C fl_RX5_31 rfl (Or.inl rfl) (fun q h => by cases h; rfl) (by decide +kernel) (fun σ5 => ?_)
      refine x_iconst C (n := 1) (by decide +kernel) ?_
      exact x_zret C (Or.inr rfl) ⟨Nat.zero_le _, Nat.zero_le _⟩ (by decide +kernel)
    · skip
      refine x_iconst C (n := 0) (by decide +kernel) ?_
      exact x_zret C (Or.inl rfl) ⟨Nat.zero_le _, Nat.zero_le _⟩ (by decide +kernel)

def rm_X5_leastAt : Room := { frames := 1, cells := 0, slots := 0, locals := 22 }
def f_X5_leastAt (N : Nat) (σ : St) (this : Nat) (p0 : Int) (p1 : Int) (p2 : Int) (p3 : Int) : Option (St × Int) :=
 Option.bind (gI shx σ 5 this 0) fun count_1 =>
 Option.bind (f_X11_within N σ p0 0 count_1) fun q2 =>
 Jn (fun t3 : Int => Jn (fun t4 : Unit => (if wr t3 = 0 then some (σ, 31) else some (σ, 0))) fun J62_5 =>
 (if wr t3 = 0 then J62_5 () else Option.bind (gI shx σ 5 this 0) fun count_7 =>
 (if wr p0 = wr count_7 then J62_5 () else Option.bind (gR shx σ 5 this 6) fun least_8 =>
 Option.bind (aR shx σ 6 least_8 (Int.tmod (wr p0) 2)) fun r9 =>
 Option.bind (aI shx σ 1 r9 ((((p1 * 7) + p2) * 31) + p3)) fun a10 =>
 some (σ, a10)))) fun J47_12 =>
 Jn (fun t14 : Unit => J47_12 0) fun J46_14 =>
 (if wr q2.2 = 0 then J46_14 () else Option.bind (f_X11_within N σ p1 0 4) fun q16 =>
 (if wr q16.2 = 0 then J46_14 () else Option.bind (f_X11_within N σ p2 0 6) fun q17 =>
 (if wr q17.2 = 0 then J46_14 () else Option.bind (f_X11_within N σ p3 0 30) fun q18 =>
 (if wr q18.2 = 0 then J46_14 () else J47_12 1))))
set_option maxRecDepth 100000 in
set_option maxHeartbeats 4000000 in
theorem c_X5_leastAt (l : Launch) (D : va_G) (ca : Nat → ClassId) (ra : Nat → Nat) (N : Nat) (σ : St) (this : Nat) (p0 : Int) (p1 : Int) (p2 : Int) (p3 : Int) : Ctr l (D, ca, ra, shx) false yX5_leastAt cX5_leastAt 6 (some .int) rm_X5_leastAt σ [ar this, ai p0, ai p1, ai p2, ai p3] (f_X5_leastAt N σ this p0 p1 p2 p3) := by
  refine ctr_of (by decide) (Nat.le_of_ble_eq_true rfl) (fun z C => ?_)
  show X z 0 0 σ 0 [(0, ar this), (1, ai p0), (2, ai p1), (3, ai p2), (4, ai p3)] [] _
  unfold f_X5_leastAt
  refine x_iload_n C 1 (i := 1) (k0 := 1) rfl rfl (by decide +kernel) ?_
  refine x_iconst C (n := 0) (by decide +kernel) ?_
  refine x_aload_n C 0 (i := 0) (k0 := 0) rfl rfl (by decide +kernel) ?_
  refine x_gI C fl_RX5_27 (fun _ _ _ => rfl) (by decide +kernel) (fun count_1 => ?_)
  refine x_callSNp C (c_X11_within l D ca ra N σ p0 0 count_1) (p_X11_within N σ p0 0 count_1) mt_X11_within ms_X11_within (List.mem_of_getElem? (i := 18) rfl) rfl (fun h => Bool.noConfusion h) ⟨Nat.le_of_ble_eq_true rfl, Nat.le_of_ble_eq_true rfl⟩ (Nat.le_of_ble_eq_true rfl) 0 0 ⟨rfl, rfl⟩ ⟨Nat.zero_le _, Nat.zero_le _⟩ (by decide +kernel) _ rfl (fun q2 => [ai q2.2]) (fun _ => rfl) (fun q2 => ?_)
  refine x_join (T := Int) (fun t => σ) 47 (fun t => [(0, ar this), (1, ai p0), (2, ai p1), (3, ai p2), (4, ai p3)]) (fun t => [ai t]) (fun t3 => ?_) (fun J47_12 hJ47_12 => ?_)
  · show X z 0 0 σ 47 [(0, ar this), (1, ai p0), (2, ai p1), (3, ai p2), (4, ai p3)] [ai t3] _
    refine x_istore C (i := 5) (Nat.le_of_ble_eq_true rfl) (by decide +kernel) (lv2 := [(5, ai t3), (0, ar this), (1, ai p0), (2, ai p1), (3, ai p2), (4, ai p3)]) rfl ?_
    refine x_iload C 0 (i := 5) rfl (by decide +kernel) ?_
    refine x_join (T := Unit) (fun t => σ) 62 (fun t => [(5, ai t3)]) (fun t => []) (fun t4 => ?_) (fun J62_5 hJ62_5 => ?_)
    · show X z 0 0 σ 62 [(5, ai t3)] [] _
      refine x_iload C 0 (i := 5) rfl (by decide +kernel) ?_
      refine x_if_eq C (tgt := 71) (off := 7) (by decide) (by decide +kernel) (fun h5 => ?_) (fun h5 => ?_)
      · skip
        refine x_bipush C (n := 31) (by decide +kernel) (by decide +kernel) ?_
        exact x_iret C ⟨Nat.zero_le _, Nat.zero_le _⟩ (by decide +kernel)
      · skip
        refine x_iconst C (n := 0) (by decide +kernel) ?_
        refine x_goto C (tgt := 73) (off := 5) (by decide) (by decide +kernel) ?_
        exact x_iret C ⟨Nat.zero_le _, Nat.zero_le _⟩ (by decide +kernel)
    · skip
      refine x_if_eq C (tgt := 62) (off := 11) (by decide) (by decide +kernel) (fun h12 => ?_) (fun h12 => ?_)
      · skip
        refine x_sub [0] (lv2 := [(5, ai t3)]) rfl ?_
        exact hJ62_5 ()
      · skip
        refine x_iload_n C 2 (i := 1) (k0 := 1) rfl rfl (by decide +kernel) ?_
        refine x_aload_n C 1 (i := 0) (k0 := 0) rfl rfl (by decide +kernel) ?_
        refine x_gI C fl_RX5_27 (fun _ _ _ => rfl) (by decide +kernel) (fun count_7 => ?_)
        refine x_ic_ne C (tgt := 74) (off := 15) (by decide) (by decide +kernel) (fun h11 => ?_) (fun h11 => ?_)
        · skip
          refine x_aload_n C 1 (i := 0) (k0 := 0) rfl rfl (by decide +kernel) ?_
          refine x_gR C fl_RX5_20 (fun _ _ _ => rfl) (by decide +kernel) (fun least_8 => ?_)
          refine x_iload_n C 2 (i := 1) (k0 := 1) rfl rfl (by decide +kernel) ?_
          refine x_iconst C (n := 2) (by decide +kernel) ?_
          refine x_iremC C (by decide) (by decide) (by decide +kernel) ?_
          refine x_aldR6 C (by decide +kernel) (fun r9 => ?_)
          refine x_iload_n C 3 (i := 2) (k0 := 2) rfl rfl (by decide +kernel) ?_
          refine x_bipush C (n := 7) (by decide +kernel) (by decide +kernel) ?_
          show X z 0 0 σ 85 [(5, ai t3), (0, ar this), (1, ai p0), (2, ai p1), (3, ai p2), (4, ai p3)] [ai 7, ai p1, ar r9] _
          refine x_imul C (by decide +kernel) ?_
          refine x_iload_n C 4 (i := 3) (k0 := 3) rfl rfl (by decide +kernel) ?_
          refine x_iadd C (by decide +kernel) ?_
          refine x_bipush C (n := 31) (by decide +kernel) (by decide +kernel) ?_
          refine x_imul C (by decide +kernel) ?_
          refine x_iload C 5 (i := 4) rfl (by decide +kernel) ?_
          refine x_iadd C (by decide +kernel) ?_
          refine x_aldI C (by decide +kernel) (fun a10 => ?_)
          show X z 0 0 σ 95 [(5, ai t3), (0, ar this), (1, ai p0), (2, ai p1), (3, ai p2), (4, ai p3)] [ai a10] _
          exact x_iret C ⟨Nat.zero_le _, Nat.zero_le _⟩ (by decide +kernel)
        · skip
          refine x_sub [0] (lv2 := [(5, ai t3)]) rfl ?_
          exact hJ62_5 ()
  · skip
    refine x_join (T := Unit) (fun t => σ) 46 (fun t => [(0, ar this), (1, ai p0), (2, ai p1), (3, ai p2), (4, ai p3)]) (fun t => []) (fun t14 => ?_) (fun J46_14 hJ46_14 => ?_)
    · show X z 0 0 σ 46 [(0, ar this), (1, ai p0), (2, ai p1), (3, ai p2), (4, ai p3)] [] _
      refine x_iconst C (n := 0) (by decide +kernel) ?_
      exact hJ47_12 0
    · skip
      refine x_if_eq C (tgt := 46) (off := 37) (by decide) (by decide +kernel) (fun h22 => ?_) (fun h22 => ?_)
      · skip
        exact hJ46_14 ()
      · skip
        refine x_iload_n C 2 (i := 2) (k0 := 2) rfl rfl (by decide +kernel) ?_
        refine x_iconst C (n := 0) (by decide +kernel) ?_
        refine x_iconst C (n := 4) (by decide +kernel) ?_
        refine x_callSNp C (c_X11_within l D ca ra N σ p1 0 4) (p_X11_within N σ p1 0 4) mt_X11_within ms_X11_within (List.mem_of_getElem? (i := 18) rfl) rfl (fun h => Bool.noConfusion h) ⟨Nat.le_of_ble_eq_true rfl, Nat.le_of_ble_eq_true rfl⟩ (Nat.le_of_ble_eq_true rfl) 0 0 ⟨rfl, rfl⟩ ⟨Nat.zero_le _, Nat.zero_le _⟩ (by decide +kernel) _ rfl (fun q16 => [ai q16.2]) (fun _ => rfl) (fun q16 => ?_)
        refine x_if_eq C (tgt := 46) (off := 28) (by decide) (by decide +kernel) (fun h21 => ?_) (fun h21 => ?_)
        · skip
          exact hJ46_14 ()
        · skip
          refine x_iload_n C 3 (i := 3) (k0 := 3) rfl rfl (by decide +kernel) ?_
          refine x_iconst C (n := 0) (by decide +kernel) ?_
          refine x_bipush C (n := 6) (by decide +kernel) (by decide +kernel) ?_
          refine x_callSNp C (c_X11_within l D ca ra N σ p2 0 6) (p_X11_within N σ p2 0 6) mt_X11_within ms_X11_within (List.mem_of_getElem? (i := 18) rfl) rfl (fun h => Bool.noConfusion h) ⟨Nat.le_of_ble_eq_true rfl, Nat.le_of_ble_eq_true rfl⟩ (Nat.le_of_ble_eq_true rfl) 0 0 ⟨rfl, rfl⟩ ⟨Nat.zero_le _, Nat.zero_le _⟩ (by decide +kernel) _ rfl (fun q17 => [ai q17.2]) (fun _ => rfl) (fun q17 => ?_)
          refine x_if_eq C (tgt := 46) (off := 18) (by decide) (by decide +kernel) (fun h20 => ?_) (fun h20 => ?_)
          · skip
            exact hJ46_14 ()
          · skip
            refine x_iload C 4 (i := 4) rfl (by decide +kernel) ?_
            refine x_iconst C (n := 0) (by decide +kernel) ?_
            refine x_bipush C (n := 30) (by decide +kernel) (by decide +kernel) ?_
            refine x_callSNp C (c_X11_within l D ca ra N σ p3 0 30) (p_X11_within N σ p3 0 30) mt_X11_within ms_X11_within (List.mem_of_getElem? (i := 18) rfl) rfl (fun h => Bool.noConfusion h) ⟨Nat.le_of_ble_eq_true rfl, Nat.le_of_ble_eq_true rfl⟩ (Nat.le_of_ble_eq_true rfl) 0 0 ⟨rfl, rfl⟩ ⟨Nat.zero_le _, Nat.zero_le _⟩ (by decide +kernel) _ rfl (fun q18 => [ai q18.2]) (fun _ => rfl) (fun q18 => ?_)
            refine x_if_eq C (tgt := 46) (off := 7) (by decide) (by decide +kernel) (fun h19 => ?_) (fun h19 => ?_)
            · skip
              exact hJ46_14 ()
            · skip
              refine x_iconst C (n := 1) (by decide +kernel) ?_
              refine x_goto C (tgt := 47) (off := 4) (by decide) (by decide +kernel) ?_
              exact hJ47_12 1
theorem p_X5_leastAt (N : Nat) (σ : St) (this : Nat) (p0 : Int) (p1 : Int) (p2 : Int) (p3 : Int) : Pu σ (f_X5_leastAt N σ this p0 p1 p2 p3) := by
  unfold f_X5_leastAt
  refine pu_bind (fun _ => ?_)
  refine pu_bind (fun _ => ?_)
  refine pu_Jn (fun _ => ?_) (fun _ hJ47_12 => ?_)
  · skip
    refine pu_Jn (fun _ => ?_) (fun _ hJ62_5 => ?_)
    · skip
      refine pu_if ?_ ?_
      · skip
        exact pu_some
      · skip
        exact pu_some
    · skip
      refine pu_if ?_ ?_
      · skip
        exact hJ62_5 _
      · skip
        refine pu_bind (fun _ => ?_)
        refine pu_ifs ?_ ?_
        · skip
          refine pu_bind (fun _ => ?_)
          refine pu_bind (fun _ => ?_)
          refine pu_bind (fun _ => ?_)
          exact pu_some
        · skip
          exact hJ62_5 _
  · skip
    refine pu_Jn (fun _ => ?_) (fun _ hJ46_14 => ?_)
    · skip
      exact hJ47_12 _
    · skip
      refine pu_if ?_ ?_
      · skip
        exact hJ46_14 _
      · skip
        refine pu_bind (fun _ => ?_)
        refine pu_if ?_ ?_
        · skip
          exact hJ46_14 _
        · skip
          refine pu_bind (fun _ => ?_)
          refine pu_if ?_ ?_
          · skip
            exact hJ46_14 _
          · skip
            refine pu_bind (fun _ => ?_)
            refine pu_if ?_ ?_
            · skip
              exact hJ46_14 _
            · skip
              exact hJ47_12 _

def rm_X5_leastGoingOn : Room := { frames := 2, cells := 0, slots := 0, locals := 47 }
def f_X5_leastGoingOn (N : Nat) (σ : St) (this : Nat) (p0 : Int) (p1 : Int) (p2 : Int) (p3 : Int) : Option (St × Int) :=
 Option.bind (gI shx σ 5 this 0) fun count_1 =>
 Option.bind (f_X11_within N σ p0 0 (count_1 - 1)) fun q2 =>
 (if wr q2.2 = 0 then some (σ, 31) else Option.bind (gR shx σ 5 this 4) fun cost_3 =>
 Option.bind (aI shx σ 1 cost_3 p0) fun a4 =>
 Option.bind (gR shx σ 5 this 5) fun tenths_5 =>
 Option.bind (aI shx σ 1 tenths_5 p0) fun a6 =>
 Lt (Int.tdiv (wr (a4 * a6)) 10) fun x7 =>
 Lt (p0 + 1) fun x8 =>
 Option.bind (rcv shx σ 5 this (f_X5_leastAt N σ this x8 p1 p2 (p3 - x7))) fun q9 =>
 Lt ((a4 - x7) + q9.2) fun x10 =>
 Jn (fun t11 : Int => some (σ, (mnZ t11 31))) fun J113_11 =>
 (if 0 < wr p2 then Option.bind (rcv shx σ 5 this (f_X5_leastAt N σ this x8 p1 (p2 - 1) p3)) fun q13 =>
 Lt (mxZ x10 (a4 + q13.2)) fun x14 =>
 Option.bind (rcv shx σ 5 this (f_X5_leastAt N σ this x8 p1 (p2 - 1) (p3 - a4))) fun q15 =>
 Lt (mxZ x14 q15.2) fun x16 =>
 J113_11 x16 else J113_11 x10))
set_option maxRecDepth 100000 in
set_option maxHeartbeats 4000000 in
theorem c_X5_leastGoingOn (l : Launch) (D : va_G) (ca : Nat → ClassId) (ra : Nat → Nat) (N : Nat) (σ : St) (this : Nat) (p0 : Int) (p1 : Int) (p2 : Int) (p3 : Int) : Ctr l (D, ca, ra, shx) false yX5_leastGoingOn cX5_leastGoingOn 9 (some .int) rm_X5_leastGoingOn σ [ar this, ai p0, ai p1, ai p2, ai p3] (f_X5_leastGoingOn N σ this p0 p1 p2 p3) := by
  refine ctr_of (by decide) (Nat.le_of_ble_eq_true rfl) (fun z C => ?_)
  show X z 0 0 σ 0 [(0, ar this), (1, ai p0), (2, ai p1), (3, ai p2), (4, ai p3)] [] _
  unfold f_X5_leastGoingOn
  refine x_iload_n C 1 (i := 1) (k0 := 1) rfl rfl (by decide +kernel) ?_
  refine x_iconst C (n := 0) (by decide +kernel) ?_
  refine x_aload_n C 0 (i := 0) (k0 := 0) rfl rfl (by decide +kernel) ?_
  refine x_gI C fl_RX5_27 (fun _ _ _ => rfl) (by decide +kernel) (fun count_1 => ?_)
  refine x_iconst C (n := 1) (by decide +kernel) ?_
  refine x_isub C (by decide +kernel) ?_
  refine x_callSNp C (c_X11_within l D ca ra N σ p0 0 (count_1 - 1)) (p_X11_within N σ p0 0 (count_1 - 1)) mt_X11_within ms_X11_within (List.mem_of_getElem? (i := 18) rfl) rfl (fun h => Bool.noConfusion h) ⟨Nat.le_of_ble_eq_true rfl, Nat.le_of_ble_eq_true rfl⟩ (Nat.le_of_ble_eq_true rfl) 0 0 ⟨rfl, rfl⟩ ⟨Nat.zero_le _, Nat.zero_le _⟩ (by decide +kernel) _ rfl (fun q2 => [ai q2.2]) (fun _ => rfl) (fun q2 => ?_)
  refine x_if_ne C (tgt := 17) (off := 6) (by decide) (by decide +kernel) (fun h18 => ?_) (fun h18 => ?_)
  · skip
    refine x_aload_n C 0 (i := 0) (k0 := 0) rfl rfl (by decide +kernel) ?_
    refine x_gR C fl_RX5_11 (fun _ _ _ => rfl) (by decide +kernel) (fun cost_3 => ?_)
    refine x_iload_n C 1 (i := 1) (k0 := 1) rfl rfl (by decide +kernel) ?_
    refine x_aldI C (by decide +kernel) (fun a4 => ?_)
    refine x_istore C (i := 5) (Nat.le_of_ble_eq_true rfl) (by decide +kernel) (lv2 := [(5, ai a4), (0, ar this), (1, ai p0), (2, ai p1), (3, ai p2), (4, ai p3)]) rfl ?_
    refine x_iload C 0 (i := 5) rfl (by decide +kernel) ?_
    refine x_aload_n C 1 (i := 0) (k0 := 0) rfl rfl (by decide +kernel) ?_
    refine x_gR C fl_RX5_15 (fun _ _ _ => rfl) (by decide +kernel) (fun tenths_5 => ?_)
    show X z 0 0 σ 31 [(5, ai a4), (0, ar this), (1, ai p0), (2, ai p1), (3, ai p2), (4, ai p3)] [ar tenths_5, ai a4] _
    refine x_iload_n C 2 (i := 1) (k0 := 1) rfl rfl (by decide +kernel) ?_
    refine x_aldI C (by decide +kernel) (fun a6 => ?_)
    refine x_imul C (by decide +kernel) ?_
    refine x_bipush C (n := 10) (by decide +kernel) (by decide +kernel) ?_
    refine x_idivC C (by decide) (by decide) (by decide +kernel) ?_
    refine x_istoreL C (i := 6) (Nat.le_of_ble_eq_true rfl) (by decide +kernel) (lv2 := fun x7 => [(6, ai x7), (5, ai a4), (0, ar this), (1, ai p0), (2, ai p1), (3, ai p2), (4, ai p3)]) (fun _ => rfl) (fun x7 => ?_)
    refine x_iload_n C 3 (i := 1) (k0 := 1) rfl rfl (by decide +kernel) ?_
    refine x_iconst C (n := 1) (by decide +kernel) ?_
    show X z 0 0 σ 41 [(6, ai x7), (5, ai a4), (0, ar this), (1, ai p0), (2, ai p1), (3, ai p2), (4, ai p3)] [ai 1, ai p0] _
    refine x_iadd C (by decide +kernel) ?_
    refine x_istoreL C (i := 7) (Nat.le_of_ble_eq_true rfl) (by decide +kernel) (lv2 := fun x8 => [(7, ai x8), (6, ai x7), (5, ai a4), (0, ar this), (1, ai p0), (2, ai p1), (3, ai p2), (4, ai p3)]) (fun _ => rfl) (fun x8 => ?_)
    refine x_iload C 2 (i := 5) rfl (by decide +kernel) ?_
    refine x_iload C 1 (i := 6) rfl (by decide +kernel) ?_
    refine x_isub C (by decide +kernel) ?_
    refine x_aload_n C 3 (i := 0) (k0 := 0) rfl rfl (by decide +kernel) ?_
    refine x_iload C 0 (i := 7) rfl (by decide +kernel) ?_
    refine x_iload_n C 5 (i := 2) (k0 := 2) rfl rfl (by decide +kernel) ?_
    show X z 0 0 σ 53 [(7, ai x8), (6, ai x7), (5, ai a4), (0, ar this), (1, ai p0), (2, ai p1), (3, ai p2), (4, ai p3)] [ai p1, ai x8, ar this, ai (a4 - x7)] _
    refine x_iload_n C 6 (i := 3) (k0 := 3) rfl rfl (by decide +kernel) ?_
    refine x_iload C 7 (i := 4) rfl (by decide +kernel) ?_
    refine x_iload C 1 (i := 6) rfl (by decide +kernel) ?_
    refine x_isub C (by decide +kernel) ?_
    refine x_callVp C (ci := 5) (c_X5_leastAt l D ca ra N σ this x8 p1 p2 (p3 - x7)) (p_X5_leastAt N σ this x8 p1 p2 (p3 - x7)) mt_X5_leastAt mv_X5_leastAt rfl ml_RX5_44 rfl (fun h => Bool.noConfusion h) ⟨Nat.le_of_ble_eq_true rfl, Nat.le_of_ble_eq_true rfl⟩ (Nat.le_of_ble_eq_true rfl) 0 0 ⟨rfl, rfl⟩ ⟨Nat.zero_le _, Nat.zero_le _⟩ (by decide +kernel) _ rfl (fun q9 => [ai q9.2, ai (a4 - x7)]) (fun _ => rfl) (fun q9 => ?_)
    refine x_iadd C (by decide +kernel) ?_
    refine x_istoreL C (i := 8) (Nat.le_of_ble_eq_true rfl) (by decide +kernel) (lv2 := fun x10 => [(8, ai x10), (7, ai x8), (6, ai x7), (5, ai a4), (0, ar this), (1, ai p0), (2, ai p1), (3, ai p2), (4, ai p3)]) (fun _ => rfl) (fun x10 => ?_)
    refine x_iload_n C 7 (i := 3) (k0 := 3) rfl rfl (by decide +kernel) ?_
    show X z 0 0 σ 66 [(8, ai x10), (7, ai x8), (6, ai x7), (5, ai a4), (0, ar this), (1, ai p0), (2, ai p1), (3, ai p2), (4, ai p3)] [ai p2] _
    refine x_join (T := Int) (fun t => σ) 113 (fun t => [(8, ai t)]) (fun t => []) (fun t11 => ?_) (fun J113_11 hJ113_11 => ?_)
    · show X z 0 0 σ 113 [(8, ai t11)] [] _
      refine x_iload C 0 (i := 8) rfl (by decide +kernel) ?_
      refine x_bipush C (n := 31) (by decide +kernel) (by decide +kernel) ?_
      refine x_min C mth_min ml_RX5_58 ⟨Nat.le_of_ble_eq_true rfl, Nat.le_of_ble_eq_true rfl⟩ ⟨Nat.zero_le _, Nat.zero_le _⟩ (by decide +kernel) ?_
      exact x_iret C ⟨Nat.zero_le _, Nat.zero_le _⟩ (by decide +kernel)
    · skip
      refine x_if_le C (tgt := 113) (off := 47) (by decide) (by decide +kernel) (fun h17 => ?_) (fun h17 => ?_)
      · skip
        refine x_sub [0] (lv2 := [(8, ai x10)]) rfl ?_
        exact hJ113_11 x10
      · skip
        refine x_iload C 0 (i := 8) rfl (by decide +kernel) ?_
        refine x_iload C 3 (i := 5) rfl (by decide +kernel) ?_
        refine x_aload_n C 4 (i := 0) (k0 := 0) rfl rfl (by decide +kernel) ?_
        refine x_iload C 1 (i := 7) rfl (by decide +kernel) ?_
        refine x_iload_n C 6 (i := 2) (k0 := 2) rfl rfl (by decide +kernel) ?_
        refine x_iload_n C 7 (i := 3) (k0 := 3) rfl rfl (by decide +kernel) ?_
        refine x_iconst C (n := 1) (by decide +kernel) ?_
        refine x_isub C (by decide +kernel) ?_
        show X z 0 0 σ 80 [(8, ai x10), (7, ai x8), (6, ai x7), (5, ai a4), (0, ar this), (1, ai p0), (2, ai p1), (3, ai p2), (4, ai p3)] [ai (p2 - 1), ai p1, ai x8, ar this, ai a4, ai x10] _
        refine x_iload C 8 (i := 4) rfl (by decide +kernel) ?_
        refine x_callVp C (ci := 5) (c_X5_leastAt l D ca ra N σ this x8 p1 (p2 - 1) p3) (p_X5_leastAt N σ this x8 p1 (p2 - 1) p3) mt_X5_leastAt mv_X5_leastAt rfl ml_RX5_44 rfl (fun h => Bool.noConfusion h) ⟨Nat.le_of_ble_eq_true rfl, Nat.le_of_ble_eq_true rfl⟩ (Nat.le_of_ble_eq_true rfl) 0 0 ⟨rfl, rfl⟩ ⟨Nat.zero_le _, Nat.zero_le _⟩ (by decide +kernel) _ rfl (fun q13 => [ai q13.2, ai a4, ai x10]) (fun _ => rfl) (fun q13 => ?_)
        refine x_iadd C (by decide +kernel) ?_
        refine x_max C mth_max ml_RX5_64 ⟨Nat.le_of_ble_eq_true rfl, Nat.le_of_ble_eq_true rfl⟩ ⟨Nat.zero_le _, Nat.zero_le _⟩ (by decide +kernel) ?_
        refine x_istoreL C (i := 8) (Nat.le_of_ble_eq_true rfl) (by decide +kernel) (lv2 := fun x14 => [(8, ai x14), (7, ai x8), (6, ai x7), (5, ai a4), (0, ar this), (1, ai p0), (2, ai p1), (3, ai p2), (4, ai p3)]) (fun _ => rfl) (fun x14 => ?_)
        refine x_iload C 0 (i := 8) rfl (by decide +kernel) ?_
        refine x_aload_n C 4 (i := 0) (k0 := 0) rfl rfl (by decide +kernel) ?_
        refine x_iload C 1 (i := 7) rfl (by decide +kernel) ?_
        show X z 0 0 σ 96 [(8, ai x14), (7, ai x8), (6, ai x7), (5, ai a4), (0, ar this), (1, ai p0), (2, ai p1), (3, ai p2), (4, ai p3)] [ai x8, ar this, ai x14] _
        refine x_iload_n C 6 (i := 2) (k0 := 2) rfl rfl (by decide +kernel) ?_
        refine x_iload_n C 7 (i := 3) (k0 := 3) rfl rfl (by decide +kernel) ?_
        refine x_iconst C (n := 1) (by decide +kernel) ?_
        refine x_isub C (by decide +kernel) ?_
        refine x_iload C 8 (i := 4) rfl (by decide +kernel) ?_
        refine x_iload C 3 (i := 5) rfl (by decide +kernel) ?_
        refine x_isub C (by decide +kernel) ?_
        refine x_callVp C (ci := 5) (c_X5_leastAt l D ca ra N σ this x8 p1 (p2 - 1) (p3 - a4)) (p_X5_leastAt N σ this x8 p1 (p2 - 1) (p3 - a4)) mt_X5_leastAt mv_X5_leastAt rfl ml_RX5_44 rfl (fun h => Bool.noConfusion h) ⟨Nat.le_of_ble_eq_true rfl, Nat.le_of_ble_eq_true rfl⟩ (Nat.le_of_ble_eq_true rfl) 0 0 ⟨rfl, rfl⟩ ⟨Nat.zero_le _, Nat.zero_le _⟩ (by decide +kernel) _ rfl (fun q15 => [ai q15.2, ai x14]) (fun _ => rfl) (fun q15 => ?_)
        show X z 0 0 σ 108 [(8, ai x14), (7, ai x8), (6, ai x7), (5, ai a4), (0, ar this), (1, ai p0), (2, ai p1), (3, ai p2), (4, ai p3)] [ai q15.2, ai x14] _
        refine x_max C mth_max ml_RX5_64 ⟨Nat.le_of_ble_eq_true rfl, Nat.le_of_ble_eq_true rfl⟩ ⟨Nat.zero_le _, Nat.zero_le _⟩ (by decide +kernel) ?_
        refine x_istoreL C (i := 8) (Nat.le_of_ble_eq_true rfl) (by decide +kernel) (lv2 := fun x16 => [(8, ai x16), (7, ai x8), (6, ai x7), (5, ai a4), (0, ar this), (1, ai p0), (2, ai p1), (3, ai p2), (4, ai p3)]) (fun _ => rfl) (fun x16 => ?_)
        refine x_sub [0] (lv2 := [(8, ai x16)]) rfl ?_
        exact hJ113_11 x16
  · skip
    refine x_bipush C (n := 31) (by decide +kernel) (by decide +kernel) ?_
    exact x_iret C ⟨Nat.zero_le _, Nat.zero_le _⟩ (by decide +kernel)
theorem p_X5_leastGoingOn (N : Nat) (σ : St) (this : Nat) (p0 : Int) (p1 : Int) (p2 : Int) (p3 : Int) : Pu σ (f_X5_leastGoingOn N σ this p0 p1 p2 p3) := by
  unfold f_X5_leastGoingOn
  refine pu_bind (fun _ => ?_)
  refine pu_bind (fun _ => ?_)
  refine pu_ifs ?_ ?_
  · skip
    refine pu_bind (fun _ => ?_)
    refine pu_bind (fun _ => ?_)
    refine pu_bind (fun _ => ?_)
    refine pu_bind (fun _ => ?_)
    refine pu_Lt (fun _ => ?_)
    refine pu_Lt (fun _ => ?_)
    refine pu_bind (fun _ => ?_)
    refine pu_Lt (fun _ => ?_)
    refine pu_Jn (fun _ => ?_) (fun _ hJ113_11 => ?_)
    · skip
      exact pu_some
    · skip
      refine pu_ifs ?_ ?_
      · skip
        exact hJ113_11 _
      · skip
        refine pu_bind (fun _ => ?_)
        refine pu_Lt (fun _ => ?_)
        refine pu_bind (fun _ => ?_)
        refine pu_Lt (fun _ => ?_)
        exact hJ113_11 _
  · skip
    exact pu_some

def rm_X5_leastWaiting : Room := { frames := 2, cells := 0, slots := 0, locals := 47 }
def f_X5_leastWaiting (N : Nat) (σ : St) (this : Nat) (p0 : Int) (p1 : Int) (p2 : Int) (p3 : Int) : Option (St × Int) :=
 Option.bind (gI shx σ 5 this 1) fun grant_1 =>
 Option.bind (rcv shx σ 5 this (f_X5_leastAt N σ this p0 (p1 - 1) p2 (mnZ 30 (p3 + grant_1)))) fun q2 =>
 (if wr q2.2 = wr 31 then some (σ, 31) else Option.bind (gI shx σ 5 this 1) fun grant_3 =>
 some (σ, (mxZ 0 (q2.2 - grant_3))))
set_option maxRecDepth 100000 in
set_option maxHeartbeats 4000000 in
theorem c_X5_leastWaiting (l : Launch) (D : va_G) (ca : Nat → ClassId) (ra : Nat → Nat) (N : Nat) (σ : St) (this : Nat) (p0 : Int) (p1 : Int) (p2 : Int) (p3 : Int) : Ctr l (D, ca, ra, shx) false yX5_leastWaiting cX5_leastWaiting 6 (some .int) rm_X5_leastWaiting σ [ar this, ai p0, ai p1, ai p2, ai p3] (f_X5_leastWaiting N σ this p0 p1 p2 p3) := by
  refine ctr_of (by decide) (Nat.le_of_ble_eq_true rfl) (fun z C => ?_)
  show X z 0 0 σ 0 [(0, ar this), (1, ai p0), (2, ai p1), (3, ai p2), (4, ai p3)] [] _
  unfold f_X5_leastWaiting
  refine x_aload_n C 0 (i := 0) (k0 := 0) rfl rfl (by decide +kernel) ?_
  refine x_iload_n C 1 (i := 1) (k0 := 1) rfl rfl (by decide +kernel) ?_
  refine x_iload_n C 2 (i := 2) (k0 := 2) rfl rfl (by decide +kernel) ?_
  refine x_iconst C (n := 1) (by decide +kernel) ?_
  refine x_isub C (by decide +kernel) ?_
  refine x_iload_n C 3 (i := 3) (k0 := 3) rfl rfl (by decide +kernel) ?_
  refine x_bipush C (n := 30) (by decide +kernel) (by decide +kernel) ?_
  refine x_iload C 4 (i := 4) rfl (by decide +kernel) ?_
  show X z 0 0 σ 10 [(0, ar this), (1, ai p0), (2, ai p1), (3, ai p2), (4, ai p3)] [ai p3, ai 30, ai p2, ai (p1 - 1), ai p0, ar this] _
  refine x_aload_n C 0 (i := 0) (k0 := 0) rfl rfl (by decide +kernel) ?_
  refine x_gI C fl_RX5_35 (fun _ _ _ => rfl) (by decide +kernel) (fun grant_1 => ?_)
  refine x_iadd C (by decide +kernel) ?_
  refine x_min C mth_min ml_RX5_58 ⟨Nat.le_of_ble_eq_true rfl, Nat.le_of_ble_eq_true rfl⟩ ⟨Nat.zero_le _, Nat.zero_le _⟩ (by decide +kernel) ?_
  refine x_callVp C (ci := 5) (c_X5_leastAt l D ca ra N σ this p0 (p1 - 1) p2 (mnZ 30 (p3 + grant_1))) (p_X5_leastAt N σ this p0 (p1 - 1) p2 (mnZ 30 (p3 + grant_1))) mt_X5_leastAt mv_X5_leastAt rfl ml_RX5_44 rfl (fun h => Bool.noConfusion h) ⟨Nat.le_of_ble_eq_true rfl, Nat.le_of_ble_eq_true rfl⟩ (Nat.le_of_ble_eq_true rfl) 0 0 ⟨rfl, rfl⟩ ⟨Nat.zero_le _, Nat.zero_le _⟩ (by decide +kernel) _ rfl (fun q2 => [ai q2.2]) (fun _ => rfl) (fun q2 => ?_)
  refine x_istore C (i := 5) (Nat.le_of_ble_eq_true rfl) (by decide +kernel) (lv2 := [(5, ai q2.2), (0, ar this), (1, ai p0), (2, ai p1), (3, ai p2), (4, ai p3)]) rfl ?_
  refine x_iload C 0 (i := 5) rfl (by decide +kernel) ?_
  refine x_bipush C (n := 31) (by decide +kernel) (by decide +kernel) ?_
  show X z 0 0 σ 27 [(5, ai q2.2), (0, ar this), (1, ai p0), (2, ai p1), (3, ai p2), (4, ai p3)] [ai 31, ai q2.2] _
  refine x_ic_ne C (tgt := 35) (off := 8) (by decide) (by decide +kernel) (fun h4 => ?_) (fun h4 => ?_)
  · skip
    refine x_iconst C (n := 0) (by decide +kernel) ?_
    refine x_iload C 0 (i := 5) rfl (by decide +kernel) ?_
    refine x_aload_n C 1 (i := 0) (k0 := 0) rfl rfl (by decide +kernel) ?_
    refine x_gI C fl_RX5_35 (fun _ _ _ => rfl) (by decide +kernel) (fun grant_3 => ?_)
    refine x_isub C (by decide +kernel) ?_
    refine x_max C mth_max ml_RX5_64 ⟨Nat.le_of_ble_eq_true rfl, Nat.le_of_ble_eq_true rfl⟩ ⟨Nat.zero_le _, Nat.zero_le _⟩ (by decide +kernel) ?_
    exact x_iret C ⟨Nat.zero_le _, Nat.zero_le _⟩ (by decide +kernel)
  · skip
    refine x_bipush C (n := 31) (by decide +kernel) (by decide +kernel) ?_
    refine x_goto C (tgt := 46) (off := 14) (by decide) (by decide +kernel) ?_
    exact x_iret C ⟨Nat.zero_le _, Nat.zero_le _⟩ (by decide +kernel)
theorem p_X5_leastWaiting (N : Nat) (σ : St) (this : Nat) (p0 : Int) (p1 : Int) (p2 : Int) (p3 : Int) : Pu σ (f_X5_leastWaiting N σ this p0 p1 p2 p3) := by
  unfold f_X5_leastWaiting
  refine pu_bind (fun _ => ?_)
  refine pu_bind (fun _ => ?_)
  refine pu_ifs ?_ ?_
  · skip
    refine pu_bind (fun _ => ?_)
    exact pu_some
  · skip
    exact pu_some

def rm_X5_findGame : Room := { frames := 3, cells := 0, slots := 0, locals := 75 }
def f_X5_findGame (N : Nat) (σ : St) (this : Nat) (p0 : Int) (p1 : Int) : Option (St × Int) :=
 Lt (Int.tmod (wr p1) 31) fun x1 =>
 Lt (Int.tmod (wr (Int.tdiv (wr p1) 31)) 7) fun x2 =>
 Lt (Int.tdiv (wr (Int.tdiv (wr p1) 31)) 7) fun x3 =>
 Option.bind (rcv shx σ 5 this (f_X5_leastGoingOn N σ this p0 x3 x2 x1)) fun q4 =>
 Option.bind (gR shx σ 5 this 6) fun least_5 =>
 Option.bind (aR shx σ 6 least_5 (Int.tmod (wr p0) 2)) fun r6 =>
 Option.bind (rcv shx σ 5 this (f_X5_leastWaiting N σ this p0 x3 x2 x1)) fun q7 =>
 Option.bind (sI shx σ 1 r6 p1 (mnZ q4.2 q7.2)) fun σ8 =>
 some (σ8, 0)
set_option maxRecDepth 100000 in
set_option maxHeartbeats 4000000 in
theorem c_X5_findGame (l : Launch) (D : va_G) (ca : Nat → ClassId) (ra : Nat → Nat) (N : Nat) (σ : St) (this : Nat) (p0 : Int) (p1 : Int) : Ctr l (D, ca, ra, shx) false yX5_findGame cX5_findGame 7 none rm_X5_findGame σ [ar this, ai p0, ai p1] (f_X5_findGame N σ this p0 p1) := by
  refine ctr_of (by decide) (Nat.le_of_ble_eq_true rfl) (fun z C => ?_)
  show X z 0 0 σ 0 [(0, ar this), (1, ai p0), (2, ai p1)] [] _
  unfold f_X5_findGame
  refine x_iload_n C 2 (i := 2) (k0 := 2) rfl rfl (by decide +kernel) ?_
  refine x_bipush C (n := 31) (by decide +kernel) (by decide +kernel) ?_
  refine x_iremC C (by decide) (by decide) (by decide +kernel) ?_
  refine x_istore_nL C (i := 3) (k0 := 3) rfl (Nat.le_of_ble_eq_true rfl) (by decide +kernel) (lv2 := fun x1 => [(3, ai x1), (0, ar this), (1, ai p0), (2, ai p1)]) (fun _ => rfl) (fun x1 => ?_)
  refine x_iload_n C 3 (i := 2) (k0 := 2) rfl rfl (by decide +kernel) ?_
  refine x_bipush C (n := 31) (by decide +kernel) (by decide +kernel) ?_
  refine x_idivC C (by decide) (by decide) (by decide +kernel) ?_
  refine x_bipush C (n := 7) (by decide +kernel) (by decide +kernel) ?_
  show X z 0 0 σ 11 [(3, ai x1), (0, ar this), (1, ai p0), (2, ai p1)] [ai 7, ai (Int.tdiv (wr p1) 31)] _
  refine x_iremC C (by decide) (by decide) (by decide +kernel) ?_
  refine x_istoreL C (i := 4) (Nat.le_of_ble_eq_true rfl) (by decide +kernel) (lv2 := fun x2 => [(4, ai x2), (3, ai x1), (0, ar this), (1, ai p0), (2, ai p1)]) (fun _ => rfl) (fun x2 => ?_)
  refine x_iload_n C 4 (i := 2) (k0 := 2) rfl rfl (by decide +kernel) ?_
  refine x_bipush C (n := 31) (by decide +kernel) (by decide +kernel) ?_
  refine x_idivC C (by decide) (by decide) (by decide +kernel) ?_
  refine x_bipush C (n := 7) (by decide +kernel) (by decide +kernel) ?_
  refine x_idivC C (by decide) (by decide) (by decide +kernel) ?_
  refine x_istoreL C (i := 5) (Nat.le_of_ble_eq_true rfl) (by decide +kernel) (lv2 := fun x3 => [(5, ai x3), (4, ai x2), (3, ai x1), (0, ar this), (1, ai p0), (2, ai p1)]) (fun _ => rfl) (fun x3 => ?_)
  show X z 0 0 σ 23 [(5, ai x3), (4, ai x2), (3, ai x1), (0, ar this), (1, ai p0), (2, ai p1)] [] _
  refine x_aload_n C 3 (i := 0) (k0 := 0) rfl rfl (by decide +kernel) ?_
  refine x_iload_n C 4 (i := 1) (k0 := 1) rfl rfl (by decide +kernel) ?_
  refine x_iload C 0 (i := 5) rfl (by decide +kernel) ?_
  refine x_iload C 1 (i := 4) rfl (by decide +kernel) ?_
  refine x_iload_n C 2 (i := 3) (k0 := 3) rfl rfl (by decide +kernel) ?_
  refine x_callVp C (ci := 5) (c_X5_leastGoingOn l D ca ra N σ this p0 x3 x2 x1) (p_X5_leastGoingOn N σ this p0 x3 x2 x1) mt_X5_leastGoingOn mv_X5_leastGoingOn rfl ml_RX5_48 rfl (fun h => Bool.noConfusion h) ⟨Nat.le_of_ble_eq_true rfl, Nat.le_of_ble_eq_true rfl⟩ (Nat.le_of_ble_eq_true rfl) 0 0 ⟨rfl, rfl⟩ ⟨Nat.zero_le _, Nat.zero_le _⟩ (by decide +kernel) _ rfl (fun q4 => [ai q4.2]) (fun _ => rfl) (fun q4 => ?_)
  refine x_istore C (i := 6) (Nat.le_of_ble_eq_true rfl) (by decide +kernel) (lv2 := [(6, ai q4.2), (5, ai x3), (4, ai x2), (3, ai x1), (0, ar this), (1, ai p0), (2, ai p1)]) rfl ?_
  refine x_aload_n C 4 (i := 0) (k0 := 0) rfl rfl (by decide +kernel) ?_
  show X z 0 0 σ 36 [(6, ai q4.2), (5, ai x3), (4, ai x2), (3, ai x1), (0, ar this), (1, ai p0), (2, ai p1)] [ar this] _
  refine x_gR C fl_RX5_20 (fun _ _ _ => rfl) (by decide +kernel) (fun least_5 => ?_)
  refine x_iload_n C 5 (i := 1) (k0 := 1) rfl rfl (by decide +kernel) ?_
  refine x_iconst C (n := 2) (by decide +kernel) ?_
  refine x_iremC C (by decide) (by decide) (by decide +kernel) ?_
  refine x_aldR6 C (by decide +kernel) (fun r6 => ?_)
  refine x_iload_n C 6 (i := 2) (k0 := 2) rfl rfl (by decide +kernel) ?_
  refine x_iload C 0 (i := 6) rfl (by decide +kernel) ?_
  refine x_aload_n C 4 (i := 0) (k0 := 0) rfl rfl (by decide +kernel) ?_
  show X z 0 0 σ 47 [(6, ai q4.2), (5, ai x3), (4, ai x2), (3, ai x1), (0, ar this), (1, ai p0), (2, ai p1)] [ar this, ai q4.2, ai p1, ar r6] _
  refine x_iload_n C 5 (i := 1) (k0 := 1) rfl rfl (by decide +kernel) ?_
  refine x_iload C 1 (i := 5) rfl (by decide +kernel) ?_
  refine x_iload C 2 (i := 4) rfl (by decide +kernel) ?_
  refine x_iload_n C 3 (i := 3) (k0 := 3) rfl rfl (by decide +kernel) ?_
  refine x_callVp C (ci := 5) (c_X5_leastWaiting l D ca ra N σ this p0 x3 x2 x1) (p_X5_leastWaiting N σ this p0 x3 x2 x1) mt_X5_leastWaiting mv_X5_leastWaiting rfl ml_RX5_51 rfl (fun h => Bool.noConfusion h) ⟨Nat.le_of_ble_eq_true rfl, Nat.le_of_ble_eq_true rfl⟩ (Nat.le_of_ble_eq_true rfl) 0 0 ⟨rfl, rfl⟩ ⟨Nat.zero_le _, Nat.zero_le _⟩ (by decide +kernel) _ rfl (fun q7 => [ai q7.2, ai q4.2, ai p1, ar r6]) (fun _ => rfl) (fun q7 => ?_)
  refine x_min C mth_min ml_RX5_58 ⟨Nat.le_of_ble_eq_true rfl, Nat.le_of_ble_eq_true rfl⟩ ⟨Nat.zero_le _, Nat.zero_le _⟩ (by decide +kernel) ?_
  refine x_astI C (by decide +kernel) (fun σ8 => ?_)
  exact x_vret C ⟨Nat.zero_le _, Nat.zero_le _⟩ (by decide +kernel)

def L_X5_findLeast_26 (N : Nat) (this : Nat) (t5 : St × Int) (J45_8 : (St → Option (St × Int))) : (St × Int) → Option (St × Int) := fixN N fun b26_10 t10 =>
 (if wr t10.2 < wr 1085 then Option.bind (rcv shx t10.1 5 this (f_X5_findGame N t10.1 this t5.2 t10.2)) fun q12 =>
 Lt (t10.2 + 1) fun x13 =>
 b26_10 (q12.1, x13) else J45_8 t10.1)
def L_X5_findLeast_20 (N : Nat) (this : Nat) : (St × Int) → Option (St × Int) := fixN N fun b20_5 t5 =>
 (if wr t5.2 < 0 then some (t5.1, 0) else Jn (fun t7 : St => Lt (t5.2 + (-1)) fun x8 =>
 b20_5 (t7, x8)) fun J45_8 =>
 L_X5_findLeast_26 N this t5 J45_8 (t5.1, 0))
def rm_X5_findLeast : Room := { frames := 4, cells := 0, slots := 0, locals := 101 }
def f_X5_findLeast (N : Nat) (σ : St) (this : Nat) : Option (St × Int) :=
 Option.bind (gI shx σ 5 this 3) fun known_1 =>
 (if wr known_1 = 0 then Option.bind (pI shx σ 5 this 3 1) fun σ2 =>
 Option.bind (gI shx σ2 5 this 0) fun count_3 =>
 Lt (count_3 - 1) fun x4 =>
 L_X5_findLeast_20 N this (σ2, x4) else some (σ, 0))
set_option maxRecDepth 100000 in
set_option maxHeartbeats 4000000 in
theorem c_X5_findLeast (l : Launch) (D : va_G) (ca : Nat → ClassId) (ra : Nat → Nat) (N : Nat) (σ : St) (this : Nat) : Ctr l (D, ca, ra, shx) false yX5_findLeast cX5_findLeast 3 none rm_X5_findLeast σ [ar this] (f_X5_findLeast N σ this) := by
  refine ctr_of (by decide) (Nat.le_of_ble_eq_true rfl) (fun z C => ?_)
  show X z 0 0 σ 0 [(0, ar this)] [] _
  unfold f_X5_findLeast
  refine x_aload_n C 0 (i := 0) (k0 := 0) rfl rfl (by decide +kernel) ?_
  refine x_gI C fl_RX5_31 (fun _ _ _ => rfl) (by decide +kernel) (fun known_1 => ?_)
  refine x_if_eq C (tgt := 8) (off := 4) (by decide) (by decide +kernel) (fun h16 => ?_) (fun h16 => ?_)
  · skip
    refine x_aload_n C 0 (i := 0) (k0 := 0) rfl rfl (by decide +kernel) ?_
    refine x_iconst C (n := 1) (by decide +kernel) ?_
    refine x_pZ C fl_RX5_31 rfl (Or.inr rfl) (fun q h => by cases h; rfl) (by decide +kernel) (fun σ2 => ?_)
    refine x_aload_n C 0 (i := 0) (k0 := 0) rfl rfl (by decide +kernel) ?_
    refine x_gI C fl_RX5_27 (fun _ _ _ => rfl) (by decide +kernel) (fun count_3 => ?_)
    refine x_iconst C (n := 1) (by decide +kernel) ?_
    refine x_isub C (by decide +kernel) ?_
    refine x_istore_nL C (i := 1) (k0 := 1) rfl (Nat.le_of_ble_eq_true rfl) (by decide +kernel) (lv2 := fun x4 => [(1, ai x4), (0, ar this)]) (fun _ => rfl) (fun x4 => ?_)
    show X z 0 0 σ2 20 [(1, ai x4), (0, ar this)] [] _
    refine x_sub [1, 0] (lv2 := [(0, ar this), (1, ai x4)]) rfl ?_
    -- LOOP L_X5_findLeast_20 hb20_5
    refine x_loop (T := St × Int) (fun t => t.1) (fun t => [(0, ar this), (1, ai t.2)]) (σ2, x4) rfl (fun b20_5 hb20_5 t5 => ?_)
    show X z 0 0 t5.1 20 [(0, ar this), (1, ai t5.2)] [] _
    refine x_iload_n C 1 (i := 1) (k0 := 1) rfl rfl (by decide +kernel) ?_
    refine x_if_lt C (tgt := 51) (off := 30) (by decide) (by decide +kernel) (fun h15 => ?_) (fun h15 => ?_)
    · skip
      exact x_vret C ⟨Nat.zero_le _, Nat.zero_le _⟩ (by decide +kernel)
    · skip
      refine x_iconst C (n := 0) (by decide +kernel) ?_
      refine x_istore_n C (i := 2) (k0 := 2) rfl (Nat.le_of_ble_eq_true rfl) (by decide +kernel) (lv2 := [(2, ai 0), (0, ar this), (1, ai t5.2)]) rfl ?_
      refine x_join (T := St) (fun t => t) 45 (fun t => [(0, ar this), (1, ai t5.2)]) (fun t => []) (fun t7 => ?_) (fun J45_8 hJ45_8 => ?_)
      · show X z 0 0 t7 45 [(0, ar this), (1, ai t5.2)] [] _
        refine x_iinc C 1 (i := 1) (n := (-1)) (Nat.le_of_ble_eq_true rfl) rfl (by decide +kernel) (lv2 := fun x8 => [(1, ai x8), (0, ar this)]) (fun _ => rfl) (fun x8 => ?_)
        refine x_goto C (tgt := 20) (off := (-28)) (by decide) (by decide +kernel) ?_
        refine x_sub [1, 0] (lv2 := [(0, ar this), (1, ai x8)]) rfl ?_
        exact hb20_5 (t7, x8)
      · skip
        refine x_sub [1, 2, 0] (lv2 := [(0, ar this), (1, ai t5.2), (2, ai 0)]) rfl ?_
        -- LOOP L_X5_findLeast_26 hb26_10
        refine x_loop (T := St × Int) (fun t => t.1) (fun t => [(0, ar this), (1, ai t5.2), (2, ai t.2)]) (t5.1, 0) rfl (fun b26_10 hb26_10 t10 => ?_)
        show X z 0 0 t10.1 26 [(0, ar this), (1, ai t5.2), (2, ai t10.2)] [] _
        refine x_iload_n C 2 (i := 2) (k0 := 2) rfl rfl (by decide +kernel) ?_
        refine x_sipush C (n := 1085) (by decide +kernel) (by decide +kernel) ?_
        refine x_ic_ge C (tgt := 45) (off := 15) (by decide) (by decide +kernel) (fun h14 => ?_) (fun h14 => ?_)
        · skip
          refine x_sub [0, 1] (lv2 := [(0, ar this), (1, ai t5.2)]) rfl ?_
          exact hJ45_8 t10.1
        · skip
          refine x_aload_n C 0 (i := 0) (k0 := 0) rfl rfl (by decide +kernel) ?_
          refine x_iload_n C 1 (i := 1) (k0 := 1) rfl rfl (by decide +kernel) ?_
          refine x_iload_n C 2 (i := 2) (k0 := 2) rfl rfl (by decide +kernel) ?_
          refine x_callV C (ci := 5) (c_X5_findGame l D ca ra N t10.1 this t5.2 t10.2) mt_X5_findGame mv_X5_findGame rfl ml_RX5_54 rfl (fun h => Bool.noConfusion h) ⟨Nat.le_of_ble_eq_true rfl, Nat.le_of_ble_eq_true rfl⟩ (Nat.le_of_ble_eq_true rfl) 0 0 ⟨rfl, rfl⟩ ⟨Nat.zero_le _, Nat.zero_le _⟩ (by decide +kernel) _ rfl (fun q12 => []) (fun _ => rfl) (fun q12 => ?_)
          refine x_iinc C 2 (i := 2) (n := 1) (Nat.le_of_ble_eq_true rfl) rfl (by decide +kernel) (lv2 := fun x13 => [(2, ai x13), (0, ar this), (1, ai t5.2)]) (fun _ => rfl) (fun x13 => ?_)
          refine x_goto C (tgt := 26) (off := (-16)) (by decide) (by decide +kernel) ?_
          refine x_sub [1, 2, 0] (lv2 := [(0, ar this), (1, ai t5.2), (2, ai x13)]) rfl ?_
          exact hb26_10 (q12.1, x13)
  · skip
    exact x_vret C ⟨Nat.zero_le _, Nat.zero_le _⟩ (by decide +kernel)

def rm_X5_isSafe : Room := { frames := 5, cells := 0, slots := 0, locals := 123 }
def f_X5_isSafe (N : Nat) (σ : St) (this : Nat) (p0 : Int) (p1 : Int) (p2 : Int) : Option (St × Int) :=
 Option.bind (rcv shx σ 5 this (f_X5_findLeast N σ this)) fun q1 =>
 Option.bind (gI shx q1.1 5 this 2) fun slack_2 =>
 Option.bind (rcv shx q1.1 5 this (f_X5_leastAt N q1.1 this 0 slack_2 p2 p0)) fun q3 =>
 (if wr p1 < wr q3.2 then some (q1.1, 0) else some (q1.1, 1))
set_option maxRecDepth 100000 in
set_option maxHeartbeats 4000000 in
theorem c_X5_isSafe (l : Launch) (D : va_G) (ca : Nat → ClassId) (ra : Nat → Nat) (N : Nat) (σ : St) (this : Nat) (p0 : Int) (p1 : Int) (p2 : Int) : Ctr l (D, ca, ra, shx) false yX5_isSafe cX5_isSafe 4 (some .boolean) rm_X5_isSafe σ [ar this, ai p0, ai p1, ai p2] (f_X5_isSafe N σ this p0 p1 p2) := by
  refine ctr_of (by decide) (Nat.le_of_ble_eq_true rfl) (fun z C => ?_)
  show X z 0 0 σ 0 [(0, ar this), (1, ai p0), (2, ai p1), (3, ai p2)] [] _
  unfold f_X5_isSafe
  refine x_aload_n C 0 (i := 0) (k0 := 0) rfl rfl (by decide +kernel) ?_
  refine x_callV C (ci := 5) (c_X5_findLeast l D ca ra N σ this) mt_X5_findLeast mv_X5_findLeast rfl ml_RX5_41 rfl (fun h => Bool.noConfusion h) ⟨Nat.le_of_ble_eq_true rfl, Nat.le_of_ble_eq_true rfl⟩ (Nat.le_of_ble_eq_true rfl) 0 0 ⟨rfl, rfl⟩ ⟨Nat.zero_le _, Nat.zero_le _⟩ (by decide +kernel) _ rfl (fun q1 => []) (fun _ => rfl) (fun q1 => ?_)
  refine x_iload_n C 2 (i := 2) (k0 := 2) rfl rfl (by decide +kernel) ?_
  refine x_aload_n C 0 (i := 0) (k0 := 0) rfl rfl (by decide +kernel) ?_
  refine x_iconst C (n := 0) (by decide +kernel) ?_
  refine x_aload_n C 0 (i := 0) (k0 := 0) rfl rfl (by decide +kernel) ?_
  refine x_gI C fl_RX5_38 (fun _ _ _ => rfl) (by decide +kernel) (fun slack_2 => ?_)
  refine x_iload_n C 3 (i := 3) (k0 := 3) rfl rfl (by decide +kernel) ?_
  show X z 0 0 q1.1 12 [(0, ar this), (1, ai p0), (2, ai p1), (3, ai p2)] [ai p2, ai slack_2, ai 0, ar this, ai p1] _
  refine x_iload_n C 1 (i := 1) (k0 := 1) rfl rfl (by decide +kernel) ?_
  refine x_callVp C (ci := 5) (c_X5_leastAt l D ca ra N q1.1 this 0 slack_2 p2 p0) (p_X5_leastAt N q1.1 this 0 slack_2 p2 p0) mt_X5_leastAt mv_X5_leastAt rfl ml_RX5_44 rfl (fun h => Bool.noConfusion h) ⟨Nat.le_of_ble_eq_true rfl, Nat.le_of_ble_eq_true rfl⟩ (Nat.le_of_ble_eq_true rfl) 0 0 ⟨rfl, rfl⟩ ⟨Nat.zero_le _, Nat.zero_le _⟩ (by decide +kernel) _ rfl (fun q3 => [ai q3.2, ai p1]) (fun _ => rfl) (fun q3 => ?_)
  refine x_ic_lt C (tgt := 23) (off := 7) (by decide) (by decide +kernel) (fun h4 => ?_) (fun h4 => ?_)
  · skip
    refine x_iconst C (n := 0) (by decide +kernel) ?_
    exact x_zret C (Or.inl rfl) ⟨Nat.zero_le _, Nat.zero_le _⟩ (by decide +kernel)
  · skip
    refine x_iconst C (n := 1) (by decide +kernel) ?_
    refine x_goto C (tgt := 24) (off := 4) (by decide) (by decide +kernel) ?_
    exact x_zret C (Or.inr rfl) ⟨Nat.zero_le _, Nat.zero_le _⟩ (by decide +kernel)

def rm_X5_firstYear : Room := { frames := 5, cells := 0, slots := 0, locals := 123 }
def f_X5_firstYear (N : Nat) (σ : St) (this : Nat) (p0 : Int) (p1 : Int) (p2 : Int) : Option (St × Int) :=
 Option.bind (rcv shx σ 5 this (f_X5_findLeast N σ this)) fun q1 =>
 Option.bind (gI shx q1.1 5 this 0) fun count_2 =>
 (if wr count_2 = 0 then some (q1.1, (-1)) else Option.bind (gI shx q1.1 5 this 2) fun slack_3 =>
 Option.bind (rcv shx q1.1 5 this (f_X5_leastGoingOn N q1.1 this 0 slack_3 p2 p0)) fun q4 =>
 (if wr p1 < wr q4.2 then Option.bind (gI shx q1.1 5 this 2) fun slack_5 =>
 Option.bind (rcv shx q1.1 5 this (f_X5_leastWaiting N q1.1 this 0 slack_5 p2 p0)) fun q6 =>
 (if wr p1 < wr q6.2 then some (q1.1, (-1)) else some (q1.1, 0)) else some (q1.1, 1)))
set_option maxRecDepth 100000 in
set_option maxHeartbeats 4000000 in
theorem c_X5_firstYear (l : Launch) (D : va_G) (ca : Nat → ClassId) (ra : Nat → Nat) (N : Nat) (σ : St) (this : Nat) (p0 : Int) (p1 : Int) (p2 : Int) : Ctr l (D, ca, ra, shx) false yX5_firstYear cX5_firstYear 4 (some .int) rm_X5_firstYear σ [ar this, ai p0, ai p1, ai p2] (f_X5_firstYear N σ this p0 p1 p2) := by
  refine ctr_of (by decide) (Nat.le_of_ble_eq_true rfl) (fun z C => ?_)
  show X z 0 0 σ 0 [(0, ar this), (1, ai p0), (2, ai p1), (3, ai p2)] [] _
  unfold f_X5_firstYear
  refine x_aload_n C 0 (i := 0) (k0 := 0) rfl rfl (by decide +kernel) ?_
  refine x_callV C (ci := 5) (c_X5_findLeast l D ca ra N σ this) mt_X5_findLeast mv_X5_findLeast rfl ml_RX5_41 rfl (fun h => Bool.noConfusion h) ⟨Nat.le_of_ble_eq_true rfl, Nat.le_of_ble_eq_true rfl⟩ (Nat.le_of_ble_eq_true rfl) 0 0 ⟨rfl, rfl⟩ ⟨Nat.zero_le _, Nat.zero_le _⟩ (by decide +kernel) _ rfl (fun q1 => []) (fun _ => rfl) (fun q1 => ?_)
  refine x_aload_n C 0 (i := 0) (k0 := 0) rfl rfl (by decide +kernel) ?_
  refine x_gI C fl_RX5_27 (fun _ _ _ => rfl) (by decide +kernel) (fun count_2 => ?_)
  refine x_if_ne C (tgt := 13) (off := 5) (by decide) (by decide +kernel) (fun h9 => ?_) (fun h9 => ?_)
  · skip
    refine x_iload_n C 2 (i := 2) (k0 := 2) rfl rfl (by decide +kernel) ?_
    refine x_aload_n C 0 (i := 0) (k0 := 0) rfl rfl (by decide +kernel) ?_
    refine x_iconst C (n := 0) (by decide +kernel) ?_
    refine x_aload_n C 0 (i := 0) (k0 := 0) rfl rfl (by decide +kernel) ?_
    refine x_gI C fl_RX5_38 (fun _ _ _ => rfl) (by decide +kernel) (fun slack_3 => ?_)
    refine x_iload_n C 3 (i := 3) (k0 := 3) rfl rfl (by decide +kernel) ?_
    refine x_iload_n C 1 (i := 1) (k0 := 1) rfl rfl (by decide +kernel) ?_
    refine x_callVp C (ci := 5) (c_X5_leastGoingOn l D ca ra N q1.1 this 0 slack_3 p2 p0) (p_X5_leastGoingOn N q1.1 this 0 slack_3 p2 p0) mt_X5_leastGoingOn mv_X5_leastGoingOn rfl ml_RX5_48 rfl (fun h => Bool.noConfusion h) ⟨Nat.le_of_ble_eq_true rfl, Nat.le_of_ble_eq_true rfl⟩ (Nat.le_of_ble_eq_true rfl) 0 0 ⟨rfl, rfl⟩ ⟨Nat.zero_le _, Nat.zero_le _⟩ (by decide +kernel) _ rfl (fun q4 => [ai q4.2, ai p1]) (fun _ => rfl) (fun q4 => ?_)
    show X z 0 0 q1.1 25 [(0, ar this), (1, ai p0), (2, ai p1), (3, ai p2)] [ai q4.2, ai p1] _
    refine x_ic_lt C (tgt := 30) (off := 5) (by decide) (by decide +kernel) (fun h8 => ?_) (fun h8 => ?_)
    · skip
      refine x_iload_n C 2 (i := 2) (k0 := 2) rfl rfl (by decide +kernel) ?_
      refine x_aload_n C 0 (i := 0) (k0 := 0) rfl rfl (by decide +kernel) ?_
      refine x_iconst C (n := 0) (by decide +kernel) ?_
      refine x_aload_n C 0 (i := 0) (k0 := 0) rfl rfl (by decide +kernel) ?_
      refine x_gI C fl_RX5_38 (fun _ _ _ => rfl) (by decide +kernel) (fun slack_5 => ?_)
      refine x_iload_n C 3 (i := 3) (k0 := 3) rfl rfl (by decide +kernel) ?_
      refine x_iload_n C 1 (i := 1) (k0 := 1) rfl rfl (by decide +kernel) ?_
      refine x_callVp C (ci := 5) (c_X5_leastWaiting l D ca ra N q1.1 this 0 slack_5 p2 p0) (p_X5_leastWaiting N q1.1 this 0 slack_5 p2 p0) mt_X5_leastWaiting mv_X5_leastWaiting rfl ml_RX5_51 rfl (fun h => Bool.noConfusion h) ⟨Nat.le_of_ble_eq_true rfl, Nat.le_of_ble_eq_true rfl⟩ (Nat.le_of_ble_eq_true rfl) 0 0 ⟨rfl, rfl⟩ ⟨Nat.zero_le _, Nat.zero_le _⟩ (by decide +kernel) _ rfl (fun q6 => [ai q6.2, ai p1]) (fun _ => rfl) (fun q6 => ?_)
      show X z 0 0 q1.1 42 [(0, ar this), (1, ai p0), (2, ai p1), (3, ai p2)] [ai q6.2, ai p1] _
      refine x_ic_lt C (tgt := 49) (off := 7) (by decide) (by decide +kernel) (fun h7 => ?_) (fun h7 => ?_)
      · skip
        refine x_iconst C (n := (-1)) (by decide +kernel) ?_
        exact x_iret C ⟨Nat.zero_le _, Nat.zero_le _⟩ (by decide +kernel)
      · skip
        refine x_iconst C (n := 0) (by decide +kernel) ?_
        refine x_goto C (tgt := 50) (off := 4) (by decide) (by decide +kernel) ?_
        exact x_iret C ⟨Nat.zero_le _, Nat.zero_le _⟩ (by decide +kernel)
    · skip
      refine x_iconst C (n := 1) (by decide +kernel) ?_
      exact x_iret C ⟨Nat.zero_le _, Nat.zero_le _⟩ (by decide +kernel)
  · skip
    refine x_iconst C (n := (-1)) (by decide +kernel) ?_
    exact x_iret C ⟨Nat.zero_le _, Nat.zero_le _⟩ (by decide +kernel)

def rm_X8_forget : Room := { frames := 1, cells := 0, slots := 0, locals := 23 }
def f_X8_forget (N : Nat) (σ : St) (this : Nat) : Option (St × Int) :=
 Option.bind (gR shx σ 8 this 0) fun found_1 =>
 Option.bind (f_J7_fill_53178 N σ found_1 (-2)) fun q2 =>
 some (q2.1, 0)
set_option maxRecDepth 100000 in
set_option maxHeartbeats 4000000 in
theorem c_X8_forget (l : Launch) (D : va_G) (ca : Nat → ClassId) (ra : Nat → Nat) (N : Nat) (σ : St) (this : Nat) : Ctr l (D, ca, ra, shx) false yX8_forget cX8_forget 1 none rm_X8_forget σ [ar this] (f_X8_forget N σ this) := by
  refine ctr_of (by decide) (Nat.le_of_ble_eq_true rfl) (fun z C => ?_)
  show X z 0 0 σ 0 [(0, ar this)] [] _
  unfold f_X8_forget
  refine x_aload_n C 0 (i := 0) (k0 := 0) rfl rfl (by decide +kernel) ?_
  refine x_gR C fl_RX8_11 (fun _ _ _ => rfl) (by decide +kernel) (fun found_1 => ?_)
  refine x_bipush C (n := (-2)) (by decide +kernel) (by decide +kernel) ?_
  refine x_callS C (c_J7_fill_53178 l D ca ra N σ found_1 (-2)) mt_J7_fill_53178 ms_J7_fill_53178 ml_RX8_15 rfl (fun h => Bool.noConfusion h) ⟨Nat.le_of_ble_eq_true rfl, Nat.le_of_ble_eq_true rfl⟩ (Nat.le_of_ble_eq_true rfl) 0 0 ⟨rfl, rfl⟩ ⟨Nat.zero_le _, Nat.zero_le _⟩ (by decide +kernel) _ rfl (fun q2 => []) (fun _ => rfl) (fun q2 => ?_)
  exact x_vret C ⟨Nat.zero_le _, Nat.zero_le _⟩ (by decide +kernel)

def rm_X8_tries : Room := { frames := 3, cells := 0, slots := 0, locals := 66 }
def f_X8_tries (N : Nat) (σ : St) (p0 : Nat) (p1 : Nat) (p2 : Int) (p3 : Int) (p4 : Int) : Option (St × Int) :=
 Option.bind (rcv shx σ 7 p0 (f_X7_asks N σ p0 p2 p3)) fun q1 =>
 (if wr q1.2 = 0 then Option.bind (rcv shx σ 7 p1 (f_X7_asks N σ p1 p2 p3)) fun q2 =>
 (if wr q2.2 = 0 then some (σ, 1) else some (σ, p4)) else some (σ, p4))
set_option maxRecDepth 100000 in
set_option maxHeartbeats 4000000 in
theorem c_X8_tries (l : Launch) (D : va_G) (ca : Nat → ClassId) (ra : Nat → Nat) (N : Nat) (σ : St) (p0 : Nat) (p1 : Nat) (p2 : Int) (p3 : Int) (p4 : Int) : Ctr l (D, ca, ra, shx) false yX8_tries cX8_tries 5 (some .int) rm_X8_tries σ [ar p0, ar p1, ai p2, ai p3, ai p4] (f_X8_tries N σ p0 p1 p2 p3 p4) := by
  refine ctr_of (by decide) (Nat.le_of_ble_eq_true rfl) (fun z C => ?_)
  show X z 0 0 σ 0 [(0, ar p0), (1, ar p1), (2, ai p2), (3, ai p3), (4, ai p4)] [] _
  unfold f_X8_tries
  refine x_aload_n C 0 (i := 0) (k0 := 0) rfl rfl (by decide +kernel) ?_
  refine x_iload_n C 2 (i := 2) (k0 := 2) rfl rfl (by decide +kernel) ?_
  refine x_iload_n C 3 (i := 3) (k0 := 3) rfl rfl (by decide +kernel) ?_
  refine x_callVp C (ci := 7) (c_X7_asks l D ca ra N σ p0 p2 p3) (p_X7_asks N σ p0 p2 p3) mt_X7_asks mv_X7_asks rfl ml_RX8_48 rfl (fun h => Bool.noConfusion h) ⟨Nat.le_of_ble_eq_true rfl, Nat.le_of_ble_eq_true rfl⟩ (Nat.le_of_ble_eq_true rfl) 0 0 ⟨rfl, rfl⟩ ⟨Nat.zero_le _, Nat.zero_le _⟩ (by decide +kernel) _ rfl (fun q1 => [ai q1.2]) (fun _ => rfl) (fun q1 => ?_)
  refine x_if_ne C (tgt := 18) (off := 12) (by decide) (by decide +kernel) (fun h4 => ?_) (fun h4 => ?_)
  · skip
    refine x_iload C 4 (i := 4) rfl (by decide +kernel) ?_
    refine x_goto C (tgt := 24) (off := 4) (by decide) (by decide +kernel) ?_
    exact x_iret C ⟨Nat.zero_le _, Nat.zero_le _⟩ (by decide +kernel)
  · skip
    refine x_aload_n C 1 (i := 1) (k0 := 1) rfl rfl (by decide +kernel) ?_
    refine x_iload_n C 2 (i := 2) (k0 := 2) rfl rfl (by decide +kernel) ?_
    refine x_iload_n C 3 (i := 3) (k0 := 3) rfl rfl (by decide +kernel) ?_
    refine x_callVp C (ci := 7) (c_X7_asks l D ca ra N σ p1 p2 p3) (p_X7_asks N σ p1 p2 p3) mt_X7_asks mv_X7_asks rfl ml_RX8_48 rfl (fun h => Bool.noConfusion h) ⟨Nat.le_of_ble_eq_true rfl, Nat.le_of_ble_eq_true rfl⟩ (Nat.le_of_ble_eq_true rfl) 0 0 ⟨rfl, rfl⟩ ⟨Nat.zero_le _, Nat.zero_le _⟩ (by decide +kernel) _ rfl (fun q2 => [ai q2.2]) (fun _ => rfl) (fun q2 => ?_)
    refine x_if_eq C (tgt := 23) (off := 8) (by decide) (by decide +kernel) (fun h3 => ?_) (fun h3 => ?_)
    · skip
      refine x_iconst C (n := 1) (by decide +kernel) ?_
      exact x_iret C ⟨Nat.zero_le _, Nat.zero_le _⟩ (by decide +kernel)
    · skip
      refine x_iload C 4 (i := 4) rfl (by decide +kernel) ?_
      refine x_goto C (tgt := 24) (off := 4) (by decide) (by decide +kernel) ?_
      exact x_iret C ⟨Nat.zero_le _, Nat.zero_le _⟩ (by decide +kernel)
theorem p_X8_tries (N : Nat) (σ : St) (p0 : Nat) (p1 : Nat) (p2 : Int) (p3 : Int) (p4 : Int) : Pu σ (f_X8_tries N σ p0 p1 p2 p3 p4) := by
  unfold f_X8_tries
  refine pu_bind (fun _ => ?_)
  refine pu_ifs ?_ ?_
  · skip
    exact pu_some
  · skip
    refine pu_bind (fun _ => ?_)
    refine pu_if ?_ ?_
    · skip
      exact pu_some
    · skip
      exact pu_some

def L_X8_inFlying_55 (N : Nat) (p0 : Nat) (p1 : Nat) (q3 : (St × Int)) (J85_4 : (St × Int × Int × Int → Option (St × Int))) (t6 : St × Int) (t11 : St × Int) (J107_14 : (St → Option (St × Int))) : (St × Int) → Option (St × Int) := fixN N fun b55_16 t16 =>
 (if wr t16.2 < wr q3.2 then Option.bind (rcv shx t16.1 7 p0 (f_X7_mayFly N t16.1 p0 t6.2 t11.2 t16.2)) fun q18 =>
 Option.bind (rcv shx q18.1 7 p1 (f_X7_mayFly N q18.1 p1 t6.2 t11.2 t16.2)) fun q19 =>
 (if wr q18.2 = wr q19.2 then Lt (t16.2 + 1) fun x20 =>
 b55_16 (q19.1, x20) else J85_4 (q19.1, t6.2, t11.2, t16.2)) else J107_14 t16.1)
def L_X8_inFlying_46 (N : Nat) (p0 : Nat) (p1 : Nat) (q2 : (St × Int)) (q3 : (St × Int)) (J85_4 : (St × Int × Int × Int → Option (St × Int))) (t6 : St × Int) (J113_9 : (St → Option (St × Int))) : (St × Int) → Option (St × Int) := fixN N fun b46_11 t11 =>
 (if wr t11.2 < wr q2.2 then Jn (fun t13 : St => Lt (t11.2 + 1) fun x14 =>
 b46_11 (t13, x14)) fun J107_14 =>
 L_X8_inFlying_55 N p0 p1 q3 J85_4 t6 t11 J107_14 (t11.1, 0) else J113_9 t11.1)
def L_X8_inFlying_37 (N : Nat) (p0 : Nat) (p1 : Nat) (q1 : (St × Int)) (q2 : (St × Int)) (q3 : (St × Int)) (J85_4 : (St × Int × Int × Int → Option (St × Int))) : (St × Int) → Option (St × Int) := fixN N fun b37_6 t6 =>
 (if wr t6.2 < wr q1.2 then Jn (fun t8 : St => Lt (t6.2 + 1) fun x9 =>
 b37_6 (t8, x9)) fun J113_9 =>
 L_X8_inFlying_46 N p0 p1 q2 q3 J85_4 t6 J113_9 (t6.1, 0) else some (t6.1, (-1)))
def rm_X8_inFlying : Room := { frames := 4, cells := 0, slots := 0, locals := 91 }
def f_X8_inFlying (N : Nat) (σ : St) (p0 : Nat) (p1 : Nat) : Option (St × Int) :=
 Option.bind (f_X8_tries N σ p0 p1 2 27 8) fun q1 =>
 Option.bind (f_X8_tries N σ p0 p1 2 28 24) fun q2 =>
 Option.bind (f_X8_tries N σ p0 p1 2 29 31) fun q3 =>
 Jn (fun t4 : St × Int × Int × Int => some (t4.1, (((10000 * t4.2.1) + (100 * t4.2.2.1)) + t4.2.2.2))) fun J85_4 =>
 L_X8_inFlying_37 N p0 p1 q1 q2 q3 J85_4 (σ, 0)
set_option maxRecDepth 100000 in
set_option maxHeartbeats 4000000 in
theorem c_X8_inFlying (l : Launch) (D : va_G) (ca : Nat → ClassId) (ra : Nat → Nat) (N : Nat) (σ : St) (p0 : Nat) (p1 : Nat) : Ctr l (D, ca, ra, shx) false yX8_inFlying cX8_inFlying 8 (some .int) rm_X8_inFlying σ [ar p0, ar p1] (f_X8_inFlying N σ p0 p1) := by
  refine ctr_of (by decide) (Nat.le_of_ble_eq_true rfl) (fun z C => ?_)
  show X z 0 0 σ 0 [(0, ar p0), (1, ar p1)] [] _
  unfold f_X8_inFlying
  refine x_aload_n C 0 (i := 0) (k0 := 0) rfl rfl (by decide +kernel) ?_
  refine x_aload_n C 1 (i := 1) (k0 := 1) rfl rfl (by decide +kernel) ?_
  refine x_iconst C (n := 2) (by decide +kernel) ?_
  refine x_bipush C (n := 27) (by decide +kernel) (by decide +kernel) ?_
  refine x_bipush C (n := 8) (by decide +kernel) (by decide +kernel) ?_
  refine x_callSp C (c_X8_tries l D ca ra N σ p0 p1 2 27 8) (p_X8_tries N σ p0 p1 2 27 8) mt_X8_tries ms_X8_tries ml_RX8_36 rfl (fun h => Bool.noConfusion h) ⟨Nat.le_of_ble_eq_true rfl, Nat.le_of_ble_eq_true rfl⟩ (Nat.le_of_ble_eq_true rfl) 0 0 ⟨rfl, rfl⟩ ⟨Nat.zero_le _, Nat.zero_le _⟩ (by decide +kernel) _ rfl (fun q1 => [ai q1.2]) (fun _ => rfl) (fun q1 => ?_)
  refine x_istore_n C (i := 2) (k0 := 2) rfl (Nat.le_of_ble_eq_true rfl) (by decide +kernel) (lv2 := [(2, ai q1.2), (0, ar p0), (1, ar p1)]) rfl ?_
  refine x_aload_n C 1 (i := 0) (k0 := 0) rfl rfl (by decide +kernel) ?_
  show X z 0 0 σ 12 [(2, ai q1.2), (0, ar p0), (1, ar p1)] [ar p0] _
  refine x_aload_n C 2 (i := 1) (k0 := 1) rfl rfl (by decide +kernel) ?_
  refine x_iconst C (n := 2) (by decide +kernel) ?_
  refine x_bipush C (n := 28) (by decide +kernel) (by decide +kernel) ?_
  refine x_bipush C (n := 24) (by decide +kernel) (by decide +kernel) ?_
  refine x_callSp C (c_X8_tries l D ca ra N σ p0 p1 2 28 24) (p_X8_tries N σ p0 p1 2 28 24) mt_X8_tries ms_X8_tries ml_RX8_36 rfl (fun h => Bool.noConfusion h) ⟨Nat.le_of_ble_eq_true rfl, Nat.le_of_ble_eq_true rfl⟩ (Nat.le_of_ble_eq_true rfl) 0 0 ⟨rfl, rfl⟩ ⟨Nat.zero_le _, Nat.zero_le _⟩ (by decide +kernel) _ rfl (fun q2 => [ai q2.2]) (fun _ => rfl) (fun q2 => ?_)
  refine x_istore_n C (i := 3) (k0 := 3) rfl (Nat.le_of_ble_eq_true rfl) (by decide +kernel) (lv2 := [(3, ai q2.2), (2, ai q1.2), (0, ar p0), (1, ar p1)]) rfl ?_
  refine x_aload_n C 2 (i := 0) (k0 := 0) rfl rfl (by decide +kernel) ?_
  refine x_aload_n C 3 (i := 1) (k0 := 1) rfl rfl (by decide +kernel) ?_
  show X z 0 0 σ 24 [(3, ai q2.2), (2, ai q1.2), (0, ar p0), (1, ar p1)] [ar p1, ar p0] _
  refine x_iconst C (n := 2) (by decide +kernel) ?_
  refine x_bipush C (n := 29) (by decide +kernel) (by decide +kernel) ?_
  refine x_bipush C (n := 31) (by decide +kernel) (by decide +kernel) ?_
  refine x_callSp C (c_X8_tries l D ca ra N σ p0 p1 2 29 31) (p_X8_tries N σ p0 p1 2 29 31) mt_X8_tries ms_X8_tries ml_RX8_36 rfl (fun h => Bool.noConfusion h) ⟨Nat.le_of_ble_eq_true rfl, Nat.le_of_ble_eq_true rfl⟩ (Nat.le_of_ble_eq_true rfl) 0 0 ⟨rfl, rfl⟩ ⟨Nat.zero_le _, Nat.zero_le _⟩ (by decide +kernel) _ rfl (fun q3 => [ai q3.2]) (fun _ => rfl) (fun q3 => ?_)
  refine x_istore C (i := 4) (Nat.le_of_ble_eq_true rfl) (by decide +kernel) (lv2 := [(4, ai q3.2), (3, ai q2.2), (2, ai q1.2), (0, ar p0), (1, ar p1)]) rfl ?_
  refine x_iconst C (n := 0) (by decide +kernel) ?_
  refine x_istore C (i := 5) (Nat.le_of_ble_eq_true rfl) (by decide +kernel) (lv2 := [(5, ai 0), (4, ai q3.2), (3, ai q2.2), (2, ai q1.2), (0, ar p0), (1, ar p1)]) rfl ?_
  refine x_join (T := St × Int × Int × Int) (fun t => t.1) 85 (fun t => [(5, ai t.2.1), (6, ai t.2.2.1), (7, ai t.2.2.2)]) (fun t => []) (fun t4 => ?_) (fun J85_4 hJ85_4 => ?_)
  · show X z 0 0 t4.1 85 [(5, ai t4.2.1), (6, ai t4.2.2.1), (7, ai t4.2.2.2)] [] _
    refine x_sipush C (n := 10000) (by decide +kernel) (by decide +kernel) ?_
    refine x_iload C 0 (i := 5) rfl (by decide +kernel) ?_
    refine x_imul C (by decide +kernel) ?_
    refine x_bipush C (n := 100) (by decide +kernel) (by decide +kernel) ?_
    refine x_iload C 1 (i := 6) rfl (by decide +kernel) ?_
    refine x_imul C (by decide +kernel) ?_
    refine x_iadd C (by decide +kernel) ?_
    refine x_iload C 2 (i := 7) rfl (by decide +kernel) ?_
    show X z 0 0 t4.1 99 [(5, ai t4.2.1), (6, ai t4.2.2.1), (7, ai t4.2.2.2)] [ai t4.2.2.2, ai ((10000 * t4.2.1) + (100 * t4.2.2.1))] _
    refine x_iadd C (by decide +kernel) ?_
    exact x_iret C ⟨Nat.zero_le _, Nat.zero_le _⟩ (by decide +kernel)
  · skip
    refine x_sub [4, 5, 3, 2, 1, 0] (lv2 := [(0, ar p0), (1, ar p1), (2, ai q1.2), (3, ai q2.2), (4, ai q3.2), (5, ai 0)]) rfl ?_
    -- LOOP L_X8_inFlying_37 hb37_6
    refine x_loop (T := St × Int) (fun t => t.1) (fun t => [(0, ar p0), (1, ar p1), (2, ai q1.2), (3, ai q2.2), (4, ai q3.2), (5, ai t.2)]) (σ, 0) rfl (fun b37_6 hb37_6 t6 => ?_)
    show X z 0 0 t6.1 37 [(0, ar p0), (1, ar p1), (2, ai q1.2), (3, ai q2.2), (4, ai q3.2), (5, ai t6.2)] [] _
    refine x_iload C 5 (i := 5) rfl (by decide +kernel) ?_
    refine x_iload_n C 2 (i := 2) (k0 := 2) rfl rfl (by decide +kernel) ?_
    refine x_ic_ge C (tgt := 119) (off := 79) (by decide) (by decide +kernel) (fun h24 => ?_) (fun h24 => ?_)
    · skip
      refine x_iconst C (n := (-1)) (by decide +kernel) ?_
      exact x_iret C ⟨Nat.zero_le _, Nat.zero_le _⟩ (by decide +kernel)
    · skip
      refine x_iconst C (n := 0) (by decide +kernel) ?_
      refine x_istore C (i := 6) (Nat.le_of_ble_eq_true rfl) (by decide +kernel) (lv2 := [(6, ai 0), (0, ar p0), (1, ar p1), (2, ai q1.2), (3, ai q2.2), (4, ai q3.2), (5, ai t6.2)]) rfl ?_
      refine x_join (T := St) (fun t => t) 113 (fun t => [(0, ar p0), (1, ar p1), (2, ai q1.2), (3, ai q2.2), (4, ai q3.2), (5, ai t6.2)]) (fun t => []) (fun t8 => ?_) (fun J113_9 hJ113_9 => ?_)
      · show X z 0 0 t8 113 [(0, ar p0), (1, ar p1), (2, ai q1.2), (3, ai q2.2), (4, ai q3.2), (5, ai t6.2)] [] _
        refine x_iinc C 5 (i := 5) (n := 1) (Nat.le_of_ble_eq_true rfl) rfl (by decide +kernel) (lv2 := fun x9 => [(5, ai x9), (0, ar p0), (1, ar p1), (2, ai q1.2), (3, ai q2.2), (4, ai q3.2)]) (fun _ => rfl) (fun x9 => ?_)
        refine x_goto C (tgt := 37) (off := (-79)) (by decide) (by decide +kernel) ?_
        refine x_sub [1, 2, 3, 4, 5, 0] (lv2 := [(0, ar p0), (1, ar p1), (2, ai q1.2), (3, ai q2.2), (4, ai q3.2), (5, ai x9)]) rfl ?_
        exact hb37_6 (t8, x9)
      · skip
        refine x_sub [1, 2, 3, 4, 5, 6, 0] (lv2 := [(0, ar p0), (1, ar p1), (2, ai q1.2), (3, ai q2.2), (4, ai q3.2), (5, ai t6.2), (6, ai 0)]) rfl ?_
        -- LOOP L_X8_inFlying_46 hb46_11
        refine x_loop (T := St × Int) (fun t => t.1) (fun t => [(0, ar p0), (1, ar p1), (2, ai q1.2), (3, ai q2.2), (4, ai q3.2), (5, ai t6.2), (6, ai t.2)]) (t6.1, 0) rfl (fun b46_11 hb46_11 t11 => ?_)
        show X z 0 0 t11.1 46 [(0, ar p0), (1, ar p1), (2, ai q1.2), (3, ai q2.2), (4, ai q3.2), (5, ai t6.2), (6, ai t11.2)] [] _
        refine x_iload C 6 (i := 6) rfl (by decide +kernel) ?_
        refine x_iload_n C 3 (i := 3) (k0 := 3) rfl rfl (by decide +kernel) ?_
        refine x_ic_ge C (tgt := 113) (off := 64) (by decide) (by decide +kernel) (fun h23 => ?_) (fun h23 => ?_)
        · skip
          refine x_sub [0, 1, 2, 3, 4, 5] (lv2 := [(0, ar p0), (1, ar p1), (2, ai q1.2), (3, ai q2.2), (4, ai q3.2), (5, ai t6.2)]) rfl ?_
          exact hJ113_9 t11.1
        · skip
          refine x_iconst C (n := 0) (by decide +kernel) ?_
          refine x_istore C (i := 7) (Nat.le_of_ble_eq_true rfl) (by decide +kernel) (lv2 := [(7, ai 0), (0, ar p0), (1, ar p1), (2, ai q1.2), (3, ai q2.2), (4, ai q3.2), (5, ai t6.2), (6, ai t11.2)]) rfl ?_
          refine x_join (T := St) (fun t => t) 107 (fun t => [(0, ar p0), (1, ar p1), (2, ai q1.2), (3, ai q2.2), (4, ai q3.2), (5, ai t6.2), (6, ai t11.2)]) (fun t => []) (fun t13 => ?_) (fun J107_14 hJ107_14 => ?_)
          · show X z 0 0 t13 107 [(0, ar p0), (1, ar p1), (2, ai q1.2), (3, ai q2.2), (4, ai q3.2), (5, ai t6.2), (6, ai t11.2)] [] _
            refine x_iinc C 6 (i := 6) (n := 1) (Nat.le_of_ble_eq_true rfl) rfl (by decide +kernel) (lv2 := fun x14 => [(6, ai x14), (0, ar p0), (1, ar p1), (2, ai q1.2), (3, ai q2.2), (4, ai q3.2), (5, ai t6.2)]) (fun _ => rfl) (fun x14 => ?_)
            refine x_goto C (tgt := 46) (off := (-64)) (by decide) (by decide +kernel) ?_
            refine x_sub [1, 2, 3, 4, 5, 6, 0] (lv2 := [(0, ar p0), (1, ar p1), (2, ai q1.2), (3, ai q2.2), (4, ai q3.2), (5, ai t6.2), (6, ai x14)]) rfl ?_
            exact hb46_11 (t13, x14)
          · skip
            refine x_sub [1, 2, 3, 4, 5, 6, 7, 0] (lv2 := [(0, ar p0), (1, ar p1), (2, ai q1.2), (3, ai q2.2), (4, ai q3.2), (5, ai t6.2), (6, ai t11.2), (7, ai 0)]) rfl ?_
            -- LOOP L_X8_inFlying_55 hb55_16
            refine x_loop (T := St × Int) (fun t => t.1) (fun t => [(0, ar p0), (1, ar p1), (2, ai q1.2), (3, ai q2.2), (4, ai q3.2), (5, ai t6.2), (6, ai t11.2), (7, ai t.2)]) (t11.1, 0) rfl (fun b55_16 hb55_16 t16 => ?_)
            show X z 0 0 t16.1 55 [(0, ar p0), (1, ar p1), (2, ai q1.2), (3, ai q2.2), (4, ai q3.2), (5, ai t6.2), (6, ai t11.2), (7, ai t16.2)] [] _
            refine x_iload C 7 (i := 7) rfl (by decide +kernel) ?_
            refine x_iload C 4 (i := 4) rfl (by decide +kernel) ?_
            refine x_ic_ge C (tgt := 107) (off := 48) (by decide) (by decide +kernel) (fun h22 => ?_) (fun h22 => ?_)
            · skip
              refine x_sub [0, 1, 2, 3, 4, 5, 6] (lv2 := [(0, ar p0), (1, ar p1), (2, ai q1.2), (3, ai q2.2), (4, ai q3.2), (5, ai t6.2), (6, ai t11.2)]) rfl ?_
              exact hJ107_14 t16.1
            · skip
              refine x_aload_n C 0 (i := 0) (k0 := 0) rfl rfl (by decide +kernel) ?_
              refine x_iload C 5 (i := 5) rfl (by decide +kernel) ?_
              refine x_iload C 6 (i := 6) rfl (by decide +kernel) ?_
              refine x_iload C 7 (i := 7) rfl (by decide +kernel) ?_
              refine x_callV C (ci := 7) (c_X7_mayFly l D ca ra N t16.1 p0 t6.2 t11.2 t16.2) mt_X7_mayFly mv_X7_mayFly rfl ml_RX8_44 rfl (fun h => Bool.noConfusion h) ⟨Nat.le_of_ble_eq_true rfl, Nat.le_of_ble_eq_true rfl⟩ (Nat.le_of_ble_eq_true rfl) 0 0 ⟨rfl, rfl⟩ ⟨Nat.zero_le _, Nat.zero_le _⟩ (by decide +kernel) _ rfl (fun q18 => [ai q18.2]) (fun _ => rfl) (fun q18 => ?_)
              refine x_aload_n C 1 (i := 1) (k0 := 1) rfl rfl (by decide +kernel) ?_
              refine x_iload C 5 (i := 5) rfl (by decide +kernel) ?_
              refine x_iload C 6 (i := 6) rfl (by decide +kernel) ?_
              show X z 0 0 q18.1 77 [(0, ar p0), (1, ar p1), (2, ai q1.2), (3, ai q2.2), (4, ai q3.2), (5, ai t6.2), (6, ai t11.2), (7, ai t16.2)] [ai t11.2, ai t6.2, ar p1, ai q18.2] _
              refine x_iload C 7 (i := 7) rfl (by decide +kernel) ?_
              refine x_callV C (ci := 7) (c_X7_mayFly l D ca ra N q18.1 p1 t6.2 t11.2 t16.2) mt_X7_mayFly mv_X7_mayFly rfl ml_RX8_44 rfl (fun h => Bool.noConfusion h) ⟨Nat.le_of_ble_eq_true rfl, Nat.le_of_ble_eq_true rfl⟩ (Nat.le_of_ble_eq_true rfl) 0 0 ⟨rfl, rfl⟩ ⟨Nat.zero_le _, Nat.zero_le _⟩ (by decide +kernel) _ rfl (fun q19 => [ai q19.2, ai q18.2]) (fun _ => rfl) (fun q19 => ?_)
              refine x_ic_eq C (tgt := 101) (off := 19) (by decide) (by decide +kernel) (fun h21 => ?_) (fun h21 => ?_)
              · skip
                refine x_iinc C 7 (i := 7) (n := 1) (Nat.le_of_ble_eq_true rfl) rfl (by decide +kernel) (lv2 := fun x20 => [(7, ai x20), (0, ar p0), (1, ar p1), (2, ai q1.2), (3, ai q2.2), (4, ai q3.2), (5, ai t6.2), (6, ai t11.2)]) (fun _ => rfl) (fun x20 => ?_)
                refine x_goto C (tgt := 55) (off := (-49)) (by decide) (by decide +kernel) ?_
                refine x_sub [1, 2, 3, 4, 5, 6, 7, 0] (lv2 := [(0, ar p0), (1, ar p1), (2, ai q1.2), (3, ai q2.2), (4, ai q3.2), (5, ai t6.2), (6, ai t11.2), (7, ai x20)]) rfl ?_
                exact hb55_16 (q19.1, x20)
              · skip
                refine x_sub [5, 6, 7] (lv2 := [(5, ai t6.2), (6, ai t11.2), (7, ai t16.2)]) rfl ?_
                exact hJ85_4 (q19.1, t6.2, t11.2, t16.2)

def L_X8_inLeaving_35 (N : Nat) (p0 : Nat) (p1 : Nat) (q2 : (St × Int)) (J60_3 : (St × Int × Int → Option (St × Int))) (t5 : St × Int) (J75_8 : (St → Option (St × Int))) : (St × Int) → Option (St × Int) := fixN N fun b35_10 t10 =>
 (if wr t10.2 < wr q2.2 then Option.bind (rcv shx t10.1 7 p0 (f_X7_mayLeave N t10.1 p0 t5.2 t10.2)) fun q12 =>
 Option.bind (rcv shx q12.1 7 p1 (f_X7_mayLeave N q12.1 p1 t5.2 t10.2)) fun q13 =>
 (if wr q12.2 = wr q13.2 then Lt (t10.2 + 1) fun x14 =>
 b35_10 (q13.1, x14) else J60_3 (q13.1, t5.2, t10.2)) else J75_8 t10.1)
def L_X8_inLeaving_26 (N : Nat) (p0 : Nat) (p1 : Nat) (q1 : (St × Int)) (q2 : (St × Int)) (J60_3 : (St × Int × Int → Option (St × Int))) : (St × Int) → Option (St × Int) := fixN N fun b26_5 t5 =>
 (if wr t5.2 < wr q1.2 then Jn (fun t7 : St => Lt (t5.2 + 1) fun x8 =>
 b26_5 (t7, x8)) fun J75_8 =>
 L_X8_inLeaving_35 N p0 p1 q2 J60_3 t5 J75_8 (t5.1, 0) else some (t5.1, (-1)))
def rm_X8_inLeaving : Room := { frames := 4, cells := 0, slots := 0, locals := 90 }
def f_X8_inLeaving (N : Nat) (σ : St) (p0 : Nat) (p1 : Nat) : Option (St × Int) :=
 Option.bind (f_X8_tries N σ p0 p1 1 25 200) fun q1 =>
 Option.bind (f_X8_tries N σ p0 p1 1 26 100) fun q2 =>
 Jn (fun t3 : St × Int × Int => some (t3.1, ((100 * t3.2.1) + t3.2.2))) fun J60_3 =>
 L_X8_inLeaving_26 N p0 p1 q1 q2 J60_3 (σ, 0)
set_option maxRecDepth 100000 in
set_option maxHeartbeats 4000000 in
theorem c_X8_inLeaving (l : Launch) (D : va_G) (ca : Nat → ClassId) (ra : Nat → Nat) (N : Nat) (σ : St) (p0 : Nat) (p1 : Nat) : Ctr l (D, ca, ra, shx) false yX8_inLeaving cX8_inLeaving 6 (some .int) rm_X8_inLeaving σ [ar p0, ar p1] (f_X8_inLeaving N σ p0 p1) := by
  refine ctr_of (by decide) (Nat.le_of_ble_eq_true rfl) (fun z C => ?_)
  show X z 0 0 σ 0 [(0, ar p0), (1, ar p1)] [] _
  unfold f_X8_inLeaving
  refine x_aload_n C 0 (i := 0) (k0 := 0) rfl rfl (by decide +kernel) ?_
  refine x_aload_n C 1 (i := 1) (k0 := 1) rfl rfl (by decide +kernel) ?_
  refine x_iconst C (n := 1) (by decide +kernel) ?_
  refine x_bipush C (n := 25) (by decide +kernel) (by decide +kernel) ?_
  refine x_sipush C (n := 200) (by decide +kernel) (by decide +kernel) ?_
  refine x_callSp C (c_X8_tries l D ca ra N σ p0 p1 1 25 200) (p_X8_tries N σ p0 p1 1 25 200) mt_X8_tries ms_X8_tries ml_RX8_36 rfl (fun h => Bool.noConfusion h) ⟨Nat.le_of_ble_eq_true rfl, Nat.le_of_ble_eq_true rfl⟩ (Nat.le_of_ble_eq_true rfl) 0 0 ⟨rfl, rfl⟩ ⟨Nat.zero_le _, Nat.zero_le _⟩ (by decide +kernel) _ rfl (fun q1 => [ai q1.2]) (fun _ => rfl) (fun q1 => ?_)
  refine x_istore_n C (i := 2) (k0 := 2) rfl (Nat.le_of_ble_eq_true rfl) (by decide +kernel) (lv2 := [(2, ai q1.2), (0, ar p0), (1, ar p1)]) rfl ?_
  refine x_aload_n C 1 (i := 0) (k0 := 0) rfl rfl (by decide +kernel) ?_
  show X z 0 0 σ 13 [(2, ai q1.2), (0, ar p0), (1, ar p1)] [ar p0] _
  refine x_aload_n C 2 (i := 1) (k0 := 1) rfl rfl (by decide +kernel) ?_
  refine x_iconst C (n := 1) (by decide +kernel) ?_
  refine x_bipush C (n := 26) (by decide +kernel) (by decide +kernel) ?_
  refine x_bipush C (n := 100) (by decide +kernel) (by decide +kernel) ?_
  refine x_callSp C (c_X8_tries l D ca ra N σ p0 p1 1 26 100) (p_X8_tries N σ p0 p1 1 26 100) mt_X8_tries ms_X8_tries ml_RX8_36 rfl (fun h => Bool.noConfusion h) ⟨Nat.le_of_ble_eq_true rfl, Nat.le_of_ble_eq_true rfl⟩ (Nat.le_of_ble_eq_true rfl) 0 0 ⟨rfl, rfl⟩ ⟨Nat.zero_le _, Nat.zero_le _⟩ (by decide +kernel) _ rfl (fun q2 => [ai q2.2]) (fun _ => rfl) (fun q2 => ?_)
  refine x_istore_n C (i := 3) (k0 := 3) rfl (Nat.le_of_ble_eq_true rfl) (by decide +kernel) (lv2 := [(3, ai q2.2), (2, ai q1.2), (0, ar p0), (1, ar p1)]) rfl ?_
  refine x_iconst C (n := 0) (by decide +kernel) ?_
  refine x_istore C (i := 4) (Nat.le_of_ble_eq_true rfl) (by decide +kernel) (lv2 := [(4, ai 0), (3, ai q2.2), (2, ai q1.2), (0, ar p0), (1, ar p1)]) rfl ?_
  show X z 0 0 σ 26 [(4, ai 0), (3, ai q2.2), (2, ai q1.2), (0, ar p0), (1, ar p1)] [] _
  refine x_join (T := St × Int × Int) (fun t => t.1) 60 (fun t => [(4, ai t.2.1), (5, ai t.2.2)]) (fun t => []) (fun t3 => ?_) (fun J60_3 hJ60_3 => ?_)
  · show X z 0 0 t3.1 60 [(4, ai t3.2.1), (5, ai t3.2.2)] [] _
    refine x_bipush C (n := 100) (by decide +kernel) (by decide +kernel) ?_
    refine x_iload C 0 (i := 4) rfl (by decide +kernel) ?_
    refine x_imul C (by decide +kernel) ?_
    refine x_iload C 1 (i := 5) rfl (by decide +kernel) ?_
    refine x_iadd C (by decide +kernel) ?_
    exact x_iret C ⟨Nat.zero_le _, Nat.zero_le _⟩ (by decide +kernel)
  · skip
    refine x_sub [3, 4, 2, 1, 0] (lv2 := [(0, ar p0), (1, ar p1), (2, ai q1.2), (3, ai q2.2), (4, ai 0)]) rfl ?_
    -- LOOP L_X8_inLeaving_26 hb26_5
    refine x_loop (T := St × Int) (fun t => t.1) (fun t => [(0, ar p0), (1, ar p1), (2, ai q1.2), (3, ai q2.2), (4, ai t.2)]) (σ, 0) rfl (fun b26_5 hb26_5 t5 => ?_)
    show X z 0 0 t5.1 26 [(0, ar p0), (1, ar p1), (2, ai q1.2), (3, ai q2.2), (4, ai t5.2)] [] _
    refine x_iload C 4 (i := 4) rfl (by decide +kernel) ?_
    refine x_iload_n C 2 (i := 2) (k0 := 2) rfl rfl (by decide +kernel) ?_
    refine x_ic_ge C (tgt := 81) (off := 52) (by decide) (by decide +kernel) (fun h17 => ?_) (fun h17 => ?_)
    · skip
      refine x_iconst C (n := (-1)) (by decide +kernel) ?_
      exact x_iret C ⟨Nat.zero_le _, Nat.zero_le _⟩ (by decide +kernel)
    · skip
      refine x_iconst C (n := 0) (by decide +kernel) ?_
      refine x_istore C (i := 5) (Nat.le_of_ble_eq_true rfl) (by decide +kernel) (lv2 := [(5, ai 0), (0, ar p0), (1, ar p1), (2, ai q1.2), (3, ai q2.2), (4, ai t5.2)]) rfl ?_
      refine x_join (T := St) (fun t => t) 75 (fun t => [(0, ar p0), (1, ar p1), (2, ai q1.2), (3, ai q2.2), (4, ai t5.2)]) (fun t => []) (fun t7 => ?_) (fun J75_8 hJ75_8 => ?_)
      · show X z 0 0 t7 75 [(0, ar p0), (1, ar p1), (2, ai q1.2), (3, ai q2.2), (4, ai t5.2)] [] _
        refine x_iinc C 4 (i := 4) (n := 1) (Nat.le_of_ble_eq_true rfl) rfl (by decide +kernel) (lv2 := fun x8 => [(4, ai x8), (0, ar p0), (1, ar p1), (2, ai q1.2), (3, ai q2.2)]) (fun _ => rfl) (fun x8 => ?_)
        refine x_goto C (tgt := 26) (off := (-52)) (by decide) (by decide +kernel) ?_
        refine x_sub [1, 2, 3, 4, 0] (lv2 := [(0, ar p0), (1, ar p1), (2, ai q1.2), (3, ai q2.2), (4, ai x8)]) rfl ?_
        exact hb26_5 (t7, x8)
      · skip
        refine x_sub [1, 2, 3, 4, 5, 0] (lv2 := [(0, ar p0), (1, ar p1), (2, ai q1.2), (3, ai q2.2), (4, ai t5.2), (5, ai 0)]) rfl ?_
        -- LOOP L_X8_inLeaving_35 hb35_10
        refine x_loop (T := St × Int) (fun t => t.1) (fun t => [(0, ar p0), (1, ar p1), (2, ai q1.2), (3, ai q2.2), (4, ai t5.2), (5, ai t.2)]) (t5.1, 0) rfl (fun b35_10 hb35_10 t10 => ?_)
        show X z 0 0 t10.1 35 [(0, ar p0), (1, ar p1), (2, ai q1.2), (3, ai q2.2), (4, ai t5.2), (5, ai t10.2)] [] _
        refine x_iload C 5 (i := 5) rfl (by decide +kernel) ?_
        refine x_iload_n C 3 (i := 3) (k0 := 3) rfl rfl (by decide +kernel) ?_
        refine x_ic_ge C (tgt := 75) (off := 37) (by decide) (by decide +kernel) (fun h16 => ?_) (fun h16 => ?_)
        · skip
          refine x_sub [0, 1, 2, 3, 4] (lv2 := [(0, ar p0), (1, ar p1), (2, ai q1.2), (3, ai q2.2), (4, ai t5.2)]) rfl ?_
          exact hJ75_8 t10.1
        · skip
          refine x_aload_n C 0 (i := 0) (k0 := 0) rfl rfl (by decide +kernel) ?_
          refine x_iload C 4 (i := 4) rfl (by decide +kernel) ?_
          refine x_iload C 5 (i := 5) rfl (by decide +kernel) ?_
          refine x_callV C (ci := 7) (c_X7_mayLeave l D ca ra N t10.1 p0 t5.2 t10.2) mt_X7_mayLeave mv_X7_mayLeave rfl ml_RX8_40 rfl (fun h => Bool.noConfusion h) ⟨Nat.le_of_ble_eq_true rfl, Nat.le_of_ble_eq_true rfl⟩ (Nat.le_of_ble_eq_true rfl) 0 0 ⟨rfl, rfl⟩ ⟨Nat.zero_le _, Nat.zero_le _⟩ (by decide +kernel) _ rfl (fun q12 => [ai q12.2]) (fun _ => rfl) (fun q12 => ?_)
          refine x_aload_n C 1 (i := 1) (k0 := 1) rfl rfl (by decide +kernel) ?_
          refine x_iload C 4 (i := 4) rfl (by decide +kernel) ?_
          refine x_iload C 5 (i := 5) rfl (by decide +kernel) ?_
          refine x_callV C (ci := 7) (c_X7_mayLeave l D ca ra N q12.1 p1 t5.2 t10.2) mt_X7_mayLeave mv_X7_mayLeave rfl ml_RX8_40 rfl (fun h => Bool.noConfusion h) ⟨Nat.le_of_ble_eq_true rfl, Nat.le_of_ble_eq_true rfl⟩ (Nat.le_of_ble_eq_true rfl) 0 0 ⟨rfl, rfl⟩ ⟨Nat.zero_le _, Nat.zero_le _⟩ (by decide +kernel) _ rfl (fun q13 => [ai q13.2, ai q12.2]) (fun _ => rfl) (fun q13 => ?_)
          show X z 0 0 q13.1 57 [(0, ar p0), (1, ar p1), (2, ai q1.2), (3, ai q2.2), (4, ai t5.2), (5, ai t10.2)] [ai q13.2, ai q12.2] _
          refine x_ic_eq C (tgt := 69) (off := 12) (by decide) (by decide +kernel) (fun h15 => ?_) (fun h15 => ?_)
          · skip
            refine x_iinc C 5 (i := 5) (n := 1) (Nat.le_of_ble_eq_true rfl) rfl (by decide +kernel) (lv2 := fun x14 => [(5, ai x14), (0, ar p0), (1, ar p1), (2, ai q1.2), (3, ai q2.2), (4, ai t5.2)]) (fun _ => rfl) (fun x14 => ?_)
            refine x_goto C (tgt := 35) (off := (-37)) (by decide) (by decide +kernel) ?_
            refine x_sub [1, 2, 3, 4, 5, 0] (lv2 := [(0, ar p0), (1, ar p1), (2, ai q1.2), (3, ai q2.2), (4, ai t5.2), (5, ai x14)]) rfl ?_
            exact hb35_10 (q13.1, x14)
          · skip
            refine x_sub [4, 5] (lv2 := [(4, ai t5.2), (5, ai t10.2)]) rfl ?_
            exact hJ60_3 (q13.1, t5.2, t10.2)

def rm_X8_between : Room := { frames := 5, cells := 0, slots := 0, locals := 118 }
def f_X8_between (N : Nat) (σ : St) (this : Nat) (p0 : Nat) (p1 : Int) (p2 : Int) (p3 : Int) : Option (St × Int) :=
 Jn (fun t1 : Int => Lt (((3 * p1) + p2) + t1) fun x2 =>
 Option.bind (f_X11_isTongue N σ p1) fun q3 =>
 (if wr q3.2 = 0 then some (σ, (-1)) else Option.bind (f_X11_isTongue N σ p2) fun q4 =>
 (if wr q4.2 = 0 then some (σ, (-1)) else Jn (fun t5 : St => (if wr p1 = wr p2 then some (t5, (-1)) else Option.bind (gR shx t5 8 this 0) fun found_6 =>
 Option.bind (aI shx t5 1 found_6 x2) fun a7 =>
 some (t5, a7))) fun J91_8 =>
 (if wr p1 = wr p2 then J91_8 σ else Option.bind (gR shx σ 8 this 0) fun found_10 =>
 Option.bind (aI shx σ 1 found_10 x2) fun a11 =>
 (if wr a11 = wr (-2) then Option.bind (aR shx σ 5 p0 p1) fun r12 =>
 Option.bind (aR shx σ 5 p0 p2) fun r13 =>
 Option.bind (gR shx σ 8 this 0) fun found_14 =>
 Jn (fun t15 : St × Int => Option.bind (sI shx t15.1 1 found_14 x2 t15.2) fun σ16 =>
 J91_8 σ16) fun J90_16 =>
 (if wr p3 = 0 then Option.bind (f_X8_inLeaving N σ r12 r13) fun q18 =>
 J90_16 (q18.1, q18.2) else Option.bind (f_X8_inFlying N σ r12 r13) fun q19 =>
 J90_16 (q19.1, q19.2)) else J91_8 σ))))) fun J16_24 =>
 (if wr p3 = 0 then J16_24 0 else J16_24 9)
set_option maxRecDepth 100000 in
set_option maxHeartbeats 4000000 in
theorem c_X8_between (l : Launch) (D : va_G) (ca : Nat → ClassId) (ra : Nat → Nat) (N : Nat) (σ : St) (this : Nat) (p0 : Nat) (p1 : Int) (p2 : Int) (p3 : Int) : Ctr l (D, ca, ra, shx) false yX8_between cX8_between 8 (some .int) rm_X8_between σ [ar this, ar p0, ai p1, ai p2, ai p3] (f_X8_between N σ this p0 p1 p2 p3) := by
  refine ctr_of (by decide) (Nat.le_of_ble_eq_true rfl) (fun z C => ?_)
  show X z 0 0 σ 0 [(0, ar this), (1, ar p0), (2, ai p1), (3, ai p2), (4, ai p3)] [] _
  unfold f_X8_between
  refine x_iconst C (n := 3) (by decide +kernel) ?_
  refine x_iload_n C 2 (i := 2) (k0 := 2) rfl rfl (by decide +kernel) ?_
  refine x_imul C (by decide +kernel) ?_
  refine x_iload_n C 3 (i := 3) (k0 := 3) rfl rfl (by decide +kernel) ?_
  refine x_iadd C (by decide +kernel) ?_
  refine x_iload C 4 (i := 4) rfl (by decide +kernel) ?_
  refine x_join (T := Int) (fun t => σ) 16 (fun t => [(0, ar this), (1, ar p0), (2, ai p1), (3, ai p2), (4, ai p3)]) (fun t => [ai t, ai ((3 * p1) + p2)]) (fun t1 => ?_) (fun J16_24 hJ16_24 => ?_)
  · show X z 0 0 σ 16 [(0, ar this), (1, ar p0), (2, ai p1), (3, ai p2), (4, ai p3)] [ai t1, ai ((3 * p1) + p2)] _
    refine x_iadd C (by decide +kernel) ?_
    refine x_istoreL C (i := 5) (Nat.le_of_ble_eq_true rfl) (by decide +kernel) (lv2 := fun x2 => [(5, ai x2), (0, ar this), (1, ar p0), (2, ai p1), (3, ai p2), (4, ai p3)]) (fun _ => rfl) (fun x2 => ?_)
    refine x_iload_n C 3 (i := 2) (k0 := 2) rfl rfl (by decide +kernel) ?_
    refine x_callSNp C (c_X11_isTongue l D ca ra N σ p1) (p_X11_isTongue N σ p1) mt_X11_isTongue ms_X11_isTongue (List.mem_of_getElem? (i := 12) rfl) rfl (fun h => Bool.noConfusion h) ⟨Nat.le_of_ble_eq_true rfl, Nat.le_of_ble_eq_true rfl⟩ (Nat.le_of_ble_eq_true rfl) 0 0 ⟨rfl, rfl⟩ ⟨Nat.zero_le _, Nat.zero_le _⟩ (by decide +kernel) _ rfl (fun q3 => [ai q3.2]) (fun _ => rfl) (fun q3 => ?_)
    refine x_if_eq C (tgt := 33) (off := 10) (by decide) (by decide +kernel) (fun h24 => ?_) (fun h24 => ?_)
    · skip
      refine x_iconst C (n := (-1)) (by decide +kernel) ?_
      exact x_iret C ⟨Nat.zero_le _, Nat.zero_le _⟩ (by decide +kernel)
    · skip
      refine x_iload_n C 4 (i := 3) (k0 := 3) rfl rfl (by decide +kernel) ?_
      refine x_callSNp C (c_X11_isTongue l D ca ra N σ p2) (p_X11_isTongue N σ p2) mt_X11_isTongue ms_X11_isTongue (List.mem_of_getElem? (i := 12) rfl) rfl (fun h => Bool.noConfusion h) ⟨Nat.le_of_ble_eq_true rfl, Nat.le_of_ble_eq_true rfl⟩ (Nat.le_of_ble_eq_true rfl) 0 0 ⟨rfl, rfl⟩ ⟨Nat.zero_le _, Nat.zero_le _⟩ (by decide +kernel) _ rfl (fun q4 => [ai q4.2]) (fun _ => rfl) (fun q4 => ?_)
      refine x_if_ne C (tgt := 35) (off := 5) (by decide) (by decide +kernel) (fun h23 => ?_) (fun h23 => ?_)
      · skip
        refine x_iload_n C 3 (i := 2) (k0 := 2) rfl rfl (by decide +kernel) ?_
        refine x_iload_n C 4 (i := 3) (k0 := 3) rfl rfl (by decide +kernel) ?_
        refine x_join (T := St) (fun t => t) 91 (fun t => [(0, ar this), (2, ai p1), (3, ai p2), (5, ai x2)]) (fun t => []) (fun t5 => ?_) (fun J91_8 hJ91_8 => ?_)
        · show X z 0 0 t5 91 [(0, ar this), (2, ai p1), (3, ai p2), (5, ai x2)] [] _
          refine x_iload_n C 1 (i := 2) (k0 := 2) rfl rfl (by decide +kernel) ?_
          refine x_iload_n C 2 (i := 3) (k0 := 3) rfl rfl (by decide +kernel) ?_
          refine x_ic_eq C (tgt := 106) (off := 13) (by decide) (by decide +kernel) (fun h8 => ?_) (fun h8 => ?_)
          · skip
            refine x_iconst C (n := (-1)) (by decide +kernel) ?_
            exact x_iret C ⟨Nat.zero_le _, Nat.zero_le _⟩ (by decide +kernel)
          · skip
            refine x_aload_n C 0 (i := 0) (k0 := 0) rfl rfl (by decide +kernel) ?_
            refine x_gR C fl_RX8_11 (fun _ _ _ => rfl) (by decide +kernel) (fun found_6 => ?_)
            refine x_iload C 3 (i := 5) rfl (by decide +kernel) ?_
            refine x_aldI C (by decide +kernel) (fun a7 => ?_)
            refine x_goto C (tgt := 107) (off := 4) (by decide) (by decide +kernel) ?_
            exact x_iret C ⟨Nat.zero_le _, Nat.zero_le _⟩ (by decide +kernel)
        · skip
          refine x_ic_eq C (tgt := 91) (off := 54) (by decide) (by decide +kernel) (fun h22 => ?_) (fun h22 => ?_)
          · skip
            refine x_sub [1, 3, 4, 0] (lv2 := [(0, ar this), (2, ai p1), (3, ai p2), (5, ai x2)]) rfl ?_
            exact hJ91_8 σ
          · skip
            refine x_aload_n C 1 (i := 0) (k0 := 0) rfl rfl (by decide +kernel) ?_
            refine x_gR C fl_RX8_11 (fun _ _ _ => rfl) (by decide +kernel) (fun found_10 => ?_)
            refine x_iload C 0 (i := 5) rfl (by decide +kernel) ?_
            refine x_aldI C (by decide +kernel) (fun a11 => ?_)
            refine x_bipush C (n := (-2)) (by decide +kernel) (by decide +kernel) ?_
            refine x_ic_ne C (tgt := 91) (off := 42) (by decide) (by decide +kernel) (fun h21 => ?_) (fun h21 => ?_)
            · skip
              refine x_sub [1, 3, 4, 0] (lv2 := [(0, ar this), (2, ai p1), (3, ai p2), (5, ai x2)]) rfl ?_
              exact hJ91_8 σ
            · skip
              refine x_aload_n C 2 (i := 1) (k0 := 1) rfl rfl (by decide +kernel) ?_
              refine x_iload_n C 3 (i := 2) (k0 := 2) rfl rfl (by decide +kernel) ?_
              refine x_aldR5 C (by decide +kernel) (fun r12 => ?_)
              refine x_astore C (i := 6) (Nat.le_of_ble_eq_true rfl) (by decide +kernel) (lv2 := [(6, ar r12), (5, ai x2), (0, ar this), (1, ar p0), (2, ai p1), (3, ai p2), (4, ai p3)]) rfl ?_
              refine x_aload_n C 3 (i := 1) (k0 := 1) rfl rfl (by decide +kernel) ?_
              refine x_iload_n C 5 (i := 3) (k0 := 3) rfl rfl (by decide +kernel) ?_
              refine x_aldR5 C (by decide +kernel) (fun r13 => ?_)
              refine x_astore C (i := 7) (Nat.le_of_ble_eq_true rfl) (by decide +kernel) (lv2 := [(7, ar r13), (6, ar r12), (5, ai x2), (0, ar this), (1, ar p0), (2, ai p1), (3, ai p2), (4, ai p3)]) rfl ?_
              show X z 0 0 σ 62 [(7, ar r13), (6, ar r12), (5, ai x2), (0, ar this), (1, ar p0), (2, ai p1), (3, ai p2), (4, ai p3)] [] _
              refine x_aload_n C 3 (i := 0) (k0 := 0) rfl rfl (by decide +kernel) ?_
              refine x_gR C fl_RX8_11 (fun _ _ _ => rfl) (by decide +kernel) (fun found_14 => ?_)
              refine x_iload C 2 (i := 5) rfl (by decide +kernel) ?_
              refine x_iload C 7 (i := 4) rfl (by decide +kernel) ?_
              refine x_join (T := St × Int) (fun t => t.1) 90 (fun t => [(0, ar this), (2, ai p1), (3, ai p2), (5, ai x2)]) (fun t => [ai t.2, ai x2, ar found_14]) (fun t15 => ?_) (fun J90_16 hJ90_16 => ?_)
              · show X z 0 0 t15.1 90 [(0, ar this), (2, ai p1), (3, ai p2), (5, ai x2)] [ai t15.2, ai x2, ar found_14] _
                refine x_astI C (by decide +kernel) (fun σ16 => ?_)
                exact hJ91_8 σ16
              · skip
                refine x_if_eq C (tgt := 83) (off := 13) (by decide) (by decide +kernel) (fun h20 => ?_) (fun h20 => ?_)
                · skip
                  refine x_aload C 1 (i := 6) rfl (by decide +kernel) ?_
                  refine x_aload C 0 (i := 7) rfl (by decide +kernel) ?_
                  refine x_callS C (c_X8_inLeaving l D ca ra N σ r12 r13) mt_X8_inLeaving ms_X8_inLeaving ml_RX8_29 rfl (fun h => Bool.noConfusion h) ⟨Nat.le_of_ble_eq_true rfl, Nat.le_of_ble_eq_true rfl⟩ (Nat.le_of_ble_eq_true rfl) 0 0 ⟨rfl, rfl⟩ ⟨Nat.zero_le _, Nat.zero_le _⟩ (by decide +kernel) _ rfl (fun q18 => [ai q18.2, ai x2, ar found_14]) (fun _ => rfl) (fun q18 => ?_)
                  refine x_sub [3, 5, 6, 2] (lv2 := [(0, ar this), (2, ai p1), (3, ai p2), (5, ai x2)]) rfl ?_
                  exact hJ90_16 (q18.1, q18.2)
                · skip
                  refine x_aload C 1 (i := 6) rfl (by decide +kernel) ?_
                  refine x_aload C 0 (i := 7) rfl (by decide +kernel) ?_
                  refine x_callS C (c_X8_inFlying l D ca ra N σ r12 r13) mt_X8_inFlying ms_X8_inFlying ml_RX8_25 rfl (fun h => Bool.noConfusion h) ⟨Nat.le_of_ble_eq_true rfl, Nat.le_of_ble_eq_true rfl⟩ (Nat.le_of_ble_eq_true rfl) 0 0 ⟨rfl, rfl⟩ ⟨Nat.zero_le _, Nat.zero_le _⟩ (by decide +kernel) _ rfl (fun q19 => [ai q19.2, ai x2, ar found_14]) (fun _ => rfl) (fun q19 => ?_)
                  refine x_goto C (tgt := 90) (off := 10) (by decide) (by decide +kernel) ?_
                  refine x_sub [3, 5, 6, 2] (lv2 := [(0, ar this), (2, ai p1), (3, ai p2), (5, ai x2)]) rfl ?_
                  exact hJ90_16 (q19.1, q19.2)
      · skip
        refine x_iconst C (n := (-1)) (by decide +kernel) ?_
        exact x_iret C ⟨Nat.zero_le _, Nat.zero_le _⟩ (by decide +kernel)
  · skip
    refine x_if_eq C (tgt := 15) (off := 8) (by decide) (by decide +kernel) (fun h26 => ?_) (fun h26 => ?_)
    · skip
      refine x_iconst C (n := 0) (by decide +kernel) ?_
      exact hJ16_24 0
    · skip
      refine x_bipush C (n := 9) (by decide +kernel) (by decide +kernel) ?_
      refine x_goto C (tgt := 16) (off := 4) (by decide) (by decide +kernel) ?_
      exact hJ16_24 9

def L_X9_open_3 (N : Nat) (this : Nat) (p0 : Nat) (p1 : Int) (p2 : Int) : (St × Int) → Option (St × Int) := fixN N fun b3_1 t1 =>
 (if wr t1.2 < wr 8 then Jn (fun t3 : Int => Option.bind (gR shx t1.1 9 this 0) fun fast_4 =>
 Jn (fun t5 : St × Int => Option.bind (sI shx t5.1 3 fast_4 t1.2 t5.2) fun σ6 =>
 Option.bind (gR shx σ6 9 this 1) fun slow_7 =>
 Option.bind (rcv shx σ6 7 p0 (f_X7_mayFly N σ6 p0 t1.2 p1 9)) fun q8 =>
 Option.bind (sI shx q8.1 3 slow_7 t1.2 q8.2) fun σ9 =>
 Lt (t1.2 + 1) fun x10 =>
 b3_1 (σ9, x10)) fun J54_10 =>
 Jn (fun t12 : St => J54_10 (t12, 0)) fun J53_12 =>
 (if wr t3 = 0 then J53_12 t1.1 else Option.bind (rcv shx t1.1 7 p0 (f_X7_mayFly N t1.1 p0 t1.2 p1 20)) fun q14 =>
 (if wr q14.2 = 0 then J53_12 q14.1 else J54_10 (q14.1, 1)))) fun J24_16 =>
 (if wr (andZ (shrZ p2 t1.2) 1) = 0 then J24_16 1 else J24_16 0) else some (t1.1, 0))
def rm_X9_open : Room := { frames := 4, cells := 0, slots := 0, locals := 91 }
def f_X9_open (N : Nat) (σ : St) (this : Nat) (p0 : Nat) (p1 : Int) (p2 : Int) : Option (St × Int) :=
 L_X9_open_3 N this p0 p1 p2 (σ, 0)
set_option maxRecDepth 100000 in
set_option maxHeartbeats 4000000 in
theorem c_X9_open (l : Launch) (D : va_G) (ca : Nat → ClassId) (ra : Nat → Nat) (N : Nat) (σ : St) (this : Nat) (p0 : Nat) (p1 : Int) (p2 : Int) : Ctr l (D, ca, ra, shx) false yX9_open cX9_open 6 none rm_X9_open σ [ar this, ar p0, ai p1, ai p2] (f_X9_open N σ this p0 p1 p2) := by
  refine ctr_of (by decide) (Nat.le_of_ble_eq_true rfl) (fun z C => ?_)
  show X z 0 0 σ 0 [(0, ar this), (1, ar p0), (2, ai p1), (3, ai p2)] [] _
  unfold f_X9_open
  refine x_iconst C (n := 0) (by decide +kernel) ?_
  refine x_istore C (i := 4) (Nat.le_of_ble_eq_true rfl) (by decide +kernel) (lv2 := [(4, ai 0), (0, ar this), (1, ar p0), (2, ai p1), (3, ai p2)]) rfl ?_
  refine x_sub [1, 2, 3, 4, 0] (lv2 := [(0, ar this), (1, ar p0), (2, ai p1), (3, ai p2), (4, ai 0)]) rfl ?_
  -- LOOP L_X9_open_3 hb3_1
  refine x_loop (T := St × Int) (fun t => t.1) (fun t => [(0, ar this), (1, ar p0), (2, ai p1), (3, ai p2), (4, ai t.2)]) (σ, 0) rfl (fun b3_1 hb3_1 t1 => ?_)
  show X z 0 0 t1.1 3 [(0, ar this), (1, ar p0), (2, ai p1), (3, ai p2), (4, ai t1.2)] [] _
  refine x_iload C 4 (i := 4) rfl (by decide +kernel) ?_
  refine x_bipush C (n := 8) (by decide +kernel) (by decide +kernel) ?_
  refine x_ic_ge C (tgt := 77) (off := 70) (by decide) (by decide +kernel) (fun h19 => ?_) (fun h19 => ?_)
  · skip
    exact x_vret C ⟨Nat.zero_le _, Nat.zero_le _⟩ (by decide +kernel)
  · skip
    refine x_iload_n C 3 (i := 3) (k0 := 3) rfl rfl (by decide +kernel) ?_
    refine x_iload C 4 (i := 4) rfl (by decide +kernel) ?_
    refine x_ishr C (by decide +kernel) ?_
    refine x_iconst C (n := 1) (by decide +kernel) ?_
    refine x_iand C (by decide +kernel) ?_
    refine x_join (T := Int) (fun t => t1.1) 24 (fun t => [(0, ar this), (1, ar p0), (2, ai p1), (3, ai p2), (4, ai t1.2)]) (fun t => [ai t]) (fun t3 => ?_) (fun J24_16 hJ24_16 => ?_)
    · show X z 0 0 t1.1 24 [(0, ar this), (1, ar p0), (2, ai p1), (3, ai p2), (4, ai t1.2)] [ai t3] _
      refine x_istore C (i := 5) (Nat.le_of_ble_eq_true rfl) (by decide +kernel) (lv2 := [(5, ai t3), (0, ar this), (1, ar p0), (2, ai p1), (3, ai p2), (4, ai t1.2)]) rfl ?_
      refine x_aload_n C 1 (i := 0) (k0 := 0) rfl rfl (by decide +kernel) ?_
      refine x_gR C fl_RX9_11 (fun _ _ _ => rfl) (by decide +kernel) (fun fast_4 => ?_)
      refine x_iload C 5 (i := 4) rfl (by decide +kernel) ?_
      refine x_iload C 0 (i := 5) rfl (by decide +kernel) ?_
      refine x_join (T := St × Int) (fun t => t.1) 54 (fun t => [(0, ar this), (1, ar p0), (2, ai p1), (3, ai p2), (4, ai t1.2)]) (fun t => [ai t.2, ai t1.2, ar fast_4]) (fun t5 => ?_) (fun J54_10 hJ54_10 => ?_)
      · show X z 0 0 t5.1 54 [(0, ar this), (1, ar p0), (2, ai p1), (3, ai p2), (4, ai t1.2)] [ai t5.2, ai t1.2, ar fast_4] _
        refine x_astZ C (by decide +kernel) (fun σ6 => ?_)
        refine x_aload_n C 0 (i := 0) (k0 := 0) rfl rfl (by decide +kernel) ?_
        refine x_gR C fl_RX9_15 (fun _ _ _ => rfl) (by decide +kernel) (fun slow_7 => ?_)
        refine x_iload C 4 (i := 4) rfl (by decide +kernel) ?_
        refine x_aload_n C 1 (i := 1) (k0 := 1) rfl rfl (by decide +kernel) ?_
        refine x_iload C 4 (i := 4) rfl (by decide +kernel) ?_
        refine x_iload_n C 2 (i := 2) (k0 := 2) rfl rfl (by decide +kernel) ?_
        refine x_bipush C (n := 9) (by decide +kernel) (by decide +kernel) ?_
        show X z 0 0 σ6 67 [(0, ar this), (1, ar p0), (2, ai p1), (3, ai p2), (4, ai t1.2)] [ai 9, ai p1, ai t1.2, ar p0, ai t1.2, ar slow_7] _
        refine x_callV C (ci := 7) (c_X7_mayFly l D ca ra N σ6 p0 t1.2 p1 9) mt_X7_mayFly mv_X7_mayFly rfl ml_RX9_25 rfl (fun h => Bool.noConfusion h) ⟨Nat.le_of_ble_eq_true rfl, Nat.le_of_ble_eq_true rfl⟩ (Nat.le_of_ble_eq_true rfl) 0 0 ⟨rfl, rfl⟩ ⟨Nat.zero_le _, Nat.zero_le _⟩ (by decide +kernel) _ rfl (fun q8 => [ai q8.2, ai t1.2, ar slow_7]) (fun _ => rfl) (fun q8 => ?_)
        refine x_astZ C (by decide +kernel) (fun σ9 => ?_)
        refine x_iinc C 4 (i := 4) (n := 1) (Nat.le_of_ble_eq_true rfl) rfl (by decide +kernel) (lv2 := fun x10 => [(4, ai x10), (0, ar this), (1, ar p0), (2, ai p1), (3, ai p2)]) (fun _ => rfl) (fun x10 => ?_)
        refine x_goto C (tgt := 3) (off := (-71)) (by decide) (by decide +kernel) ?_
        refine x_sub [1, 2, 3, 4, 0] (lv2 := [(0, ar this), (1, ar p0), (2, ai p1), (3, ai p2), (4, ai x10)]) rfl ?_
        exact hb3_1 (σ9, x10)
      · skip
        refine x_join (T := St) (fun t => t) 53 (fun t => [(0, ar this), (1, ar p0), (2, ai p1), (3, ai p2), (4, ai t1.2)]) (fun t => [ai t1.2, ar fast_4]) (fun t12 => ?_) (fun J53_12 hJ53_12 => ?_)
        · show X z 0 0 t12 53 [(0, ar this), (1, ar p0), (2, ai p1), (3, ai p2), (4, ai t1.2)] [ai t1.2, ar fast_4] _
          refine x_iconst C (n := 0) (by decide +kernel) ?_
          exact hJ54_10 (t12, 0)
        · skip
          refine x_if_eq C (tgt := 53) (off := 19) (by decide) (by decide +kernel) (fun h16 => ?_) (fun h16 => ?_)
          · skip
            refine x_sub [1, 2, 3, 4, 5] (lv2 := [(0, ar this), (1, ar p0), (2, ai p1), (3, ai p2), (4, ai t1.2)]) rfl ?_
            exact hJ53_12 t1.1
          · skip
            refine x_aload_n C 2 (i := 1) (k0 := 1) rfl rfl (by decide +kernel) ?_
            refine x_iload C 5 (i := 4) rfl (by decide +kernel) ?_
            refine x_iload_n C 3 (i := 2) (k0 := 2) rfl rfl (by decide +kernel) ?_
            refine x_bipush C (n := 20) (by decide +kernel) (by decide +kernel) ?_
            refine x_callV C (ci := 7) (c_X7_mayFly l D ca ra N t1.1 p0 t1.2 p1 20) mt_X7_mayFly mv_X7_mayFly rfl ml_RX9_25 rfl (fun h => Bool.noConfusion h) ⟨Nat.le_of_ble_eq_true rfl, Nat.le_of_ble_eq_true rfl⟩ (Nat.le_of_ble_eq_true rfl) 0 0 ⟨rfl, rfl⟩ ⟨Nat.zero_le _, Nat.zero_le _⟩ (by decide +kernel) _ rfl (fun q14 => [ai q14.2, ai t1.2, ar fast_4]) (fun _ => rfl) (fun q14 => ?_)
            refine x_if_eq C (tgt := 53) (off := 7) (by decide) (by decide +kernel) (fun h15 => ?_) (fun h15 => ?_)
            · skip
              refine x_sub [1, 2, 3, 4, 5] (lv2 := [(0, ar this), (1, ar p0), (2, ai p1), (3, ai p2), (4, ai t1.2)]) rfl ?_
              exact hJ53_12 q14.1
            · skip
              refine x_iconst C (n := 1) (by decide +kernel) ?_
              refine x_goto C (tgt := 54) (off := 4) (by decide) (by decide +kernel) ?_
              refine x_sub [1, 2, 3, 4, 5] (lv2 := [(0, ar this), (1, ar p0), (2, ai p1), (3, ai p2), (4, ai t1.2)]) rfl ?_
              exact hJ54_10 (q14.1, 1)
    · skip
      refine x_if_ne C (tgt := 23) (off := 7) (by decide) (by decide +kernel) (fun h18 => ?_) (fun h18 => ?_)
      · skip
        refine x_iconst C (n := 0) (by decide +kernel) ?_
        exact hJ24_16 0
      · skip
        refine x_iconst C (n := 1) (by decide +kernel) ?_
        refine x_goto C (tgt := 24) (off := 4) (by decide) (by decide +kernel) ?_
        exact hJ24_16 1

def rm_X9_minutesAt : Room := { frames := 1, cells := 0, slots := 0, locals := 22 }
def f_X9_minutesAt (N : Nat) (σ : St) (this : Nat) (p0 : Int) (p1 : Int) : Option (St × Int) :=
 Jn (fun t1 : Int => (if wr t1 = 0 then some (σ, 100000) else Option.bind (gR shx σ 9 this 2) fun minutes_2 =>
 Option.bind (aR shx σ 6 minutes_2 (Int.tmod (wr p0) 4)) fun r3 =>
 Option.bind (aI shx σ 1 r3 p1) fun a4 =>
 some (σ, a4))) fun J19_5 =>
 Jn (fun t7 : Unit => J19_5 0) fun J18_7 =>
 (if wr p0 < 0 then J18_7 () else Option.bind (f_X11_within N σ p1 0 63) fun q9 =>
 (if wr q9.2 = 0 then J18_7 () else J19_5 1))
set_option maxRecDepth 100000 in
set_option maxHeartbeats 4000000 in
theorem c_X9_minutesAt (l : Launch) (D : va_G) (ca : Nat → ClassId) (ra : Nat → Nat) (N : Nat) (σ : St) (this : Nat) (p0 : Int) (p1 : Int) : Ctr l (D, ca, ra, shx) false yX9_minutesAt cX9_minutesAt 4 (some .int) rm_X9_minutesAt σ [ar this, ai p0, ai p1] (f_X9_minutesAt N σ this p0 p1) := by
  refine ctr_of (by decide) (Nat.le_of_ble_eq_true rfl) (fun z C => ?_)
  show X z 0 0 σ 0 [(0, ar this), (1, ai p0), (2, ai p1)] [] _
  unfold f_X9_minutesAt
  refine x_iload_n C 1 (i := 1) (k0 := 1) rfl rfl (by decide +kernel) ?_
  refine x_join (T := Int) (fun t => σ) 19 (fun t => [(0, ar this), (1, ai p0), (2, ai p1)]) (fun t => [ai t]) (fun t1 => ?_) (fun J19_5 hJ19_5 => ?_)
  · show X z 0 0 σ 19 [(0, ar this), (1, ai p0), (2, ai p1)] [ai t1] _
    refine x_istore_n C (i := 3) (k0 := 3) rfl (Nat.le_of_ble_eq_true rfl) (by decide +kernel) (lv2 := [(3, ai t1), (0, ar this), (1, ai p0), (2, ai p1)]) rfl ?_
    refine x_iload_n C 0 (i := 3) (k0 := 3) rfl rfl (by decide +kernel) ?_
    refine x_if_eq C (tgt := 37) (off := 16) (by decide) (by decide +kernel) (fun h5 => ?_) (fun h5 => ?_)
    · skip
      refine x_ldc C (n := 100000) (v := 100000) kc_RX9_34 (by decide +kernel) (by decide +kernel) ?_
      exact x_iret C ⟨Nat.zero_le _, Nat.zero_le _⟩ (by decide +kernel)
    · skip
      refine x_aload_n C 1 (i := 0) (k0 := 0) rfl rfl (by decide +kernel) ?_
      refine x_gR C fl_RX9_22 (fun _ _ _ => rfl) (by decide +kernel) (fun minutes_2 => ?_)
      refine x_iload_n C 2 (i := 1) (k0 := 1) rfl rfl (by decide +kernel) ?_
      refine x_iconst C (n := 4) (by decide +kernel) ?_
      refine x_iremC C (by decide) (by decide) (by decide +kernel) ?_
      refine x_aldR6 C (by decide +kernel) (fun r3 => ?_)
      refine x_iload_n C 3 (i := 2) (k0 := 2) rfl rfl (by decide +kernel) ?_
      refine x_aldI C (by decide +kernel) (fun a4 => ?_)
      show X z 0 0 σ 34 [(3, ai t1), (0, ar this), (1, ai p0), (2, ai p1)] [ai a4] _
      refine x_goto C (tgt := 39) (off := 5) (by decide) (by decide +kernel) ?_
      exact x_iret C ⟨Nat.zero_le _, Nat.zero_le _⟩ (by decide +kernel)
  · skip
    refine x_join (T := Unit) (fun t => σ) 18 (fun t => [(0, ar this), (1, ai p0), (2, ai p1)]) (fun t => []) (fun t7 => ?_) (fun J18_7 hJ18_7 => ?_)
    · show X z 0 0 σ 18 [(0, ar this), (1, ai p0), (2, ai p1)] [] _
      refine x_iconst C (n := 0) (by decide +kernel) ?_
      exact hJ19_5 0
    · skip
      refine x_if_lt C (tgt := 18) (off := 17) (by decide) (by decide +kernel) (fun h11 => ?_) (fun h11 => ?_)
      · skip
        exact hJ18_7 ()
      · skip
        refine x_iload_n C 2 (i := 2) (k0 := 2) rfl rfl (by decide +kernel) ?_
        refine x_iconst C (n := 0) (by decide +kernel) ?_
        refine x_bipush C (n := 63) (by decide +kernel) (by decide +kernel) ?_
        refine x_callSNp C (c_X11_within l D ca ra N σ p1 0 63) (p_X11_within N σ p1 0 63) mt_X11_within ms_X11_within (List.mem_of_getElem? (i := 15) rfl) rfl (fun h => Bool.noConfusion h) ⟨Nat.le_of_ble_eq_true rfl, Nat.le_of_ble_eq_true rfl⟩ (Nat.le_of_ble_eq_true rfl) 0 0 ⟨rfl, rfl⟩ ⟨Nat.zero_le _, Nat.zero_le _⟩ (by decide +kernel) _ rfl (fun q9 => [ai q9.2]) (fun _ => rfl) (fun q9 => ?_)
        refine x_if_eq C (tgt := 18) (off := 7) (by decide) (by decide +kernel) (fun h10 => ?_) (fun h10 => ?_)
        · skip
          exact hJ18_7 ()
        · skip
          refine x_iconst C (n := 1) (by decide +kernel) ?_
          refine x_goto C (tgt := 19) (off := 4) (by decide) (by decide +kernel) ?_
          exact hJ19_5 1
theorem p_X9_minutesAt (N : Nat) (σ : St) (this : Nat) (p0 : Int) (p1 : Int) : Pu σ (f_X9_minutesAt N σ this p0 p1) := by
  unfold f_X9_minutesAt
  refine pu_Jn (fun _ => ?_) (fun _ hJ19_5 => ?_)
  · skip
    refine pu_if ?_ ?_
    · skip
      exact pu_some
    · skip
      refine pu_bind (fun _ => ?_)
      refine pu_bind (fun _ => ?_)
      refine pu_bind (fun _ => ?_)
      exact pu_some
  · skip
    refine pu_Jn (fun _ => ?_) (fun _ hJ18_7 => ?_)
    · skip
      exact hJ19_5 _
    · skip
      refine pu_if ?_ ?_
      · skip
        exact hJ18_7 _
      · skip
        refine pu_bind (fun _ => ?_)
        refine pu_if ?_ ?_
        · skip
          exact hJ18_7 _
        · skip
          exact hJ19_5 _

def rm_X9_beside : Room := { frames := 2, cells := 0, slots := 0, locals := 45 }
def f_X9_beside (N : Nat) (σ : St) (this : Nat) (p0 : Int) (p1 : Int) : Option (St × Int) :=
 Lt (Int.tmod (wr p1) 8) fun x1 =>
 Jn (fun t2 : Int => Jn (fun t3 : Int => Option.bind (rcv shx σ 9 this (f_X9_minutesAt N σ this p0 (p1 - 8))) fun q4 =>
 Lt (mnZ t3 q4.2) fun x5 =>
 Option.bind (rcv shx σ 9 this (f_X9_minutesAt N σ this p0 (p1 + 8))) fun q6 =>
 some (σ, (mnZ x5 q6.2))) fun J44_6 =>
 (if wr x1 < wr 7 then Option.bind (rcv shx σ 9 this (f_X9_minutesAt N σ this p0 (p1 + 1))) fun q8 =>
 Lt (mnZ t2 q8.2) fun x9 =>
 J44_6 x9 else J44_6 t2)) fun J23_10 =>
 (if 0 < wr x1 then Option.bind (rcv shx σ 9 this (f_X9_minutesAt N σ this p0 (p1 - 1))) fun q12 =>
 J23_10 q12.2 else J23_10 100000)
set_option maxRecDepth 100000 in
set_option maxHeartbeats 4000000 in
theorem c_X9_beside (l : Launch) (D : va_G) (ca : Nat → ClassId) (ra : Nat → Nat) (N : Nat) (σ : St) (this : Nat) (p0 : Int) (p1 : Int) : Ctr l (D, ca, ra, shx) false yX9_beside cX9_beside 5 (some .int) rm_X9_beside σ [ar this, ai p0, ai p1] (f_X9_beside N σ this p0 p1) := by
  refine ctr_of (by decide) (Nat.le_of_ble_eq_true rfl) (fun z C => ?_)
  show X z 0 0 σ 0 [(0, ar this), (1, ai p0), (2, ai p1)] [] _
  unfold f_X9_beside
  refine x_iload_n C 2 (i := 2) (k0 := 2) rfl rfl (by decide +kernel) ?_
  refine x_bipush C (n := 8) (by decide +kernel) (by decide +kernel) ?_
  refine x_iremC C (by decide) (by decide) (by decide +kernel) ?_
  refine x_istore_nL C (i := 3) (k0 := 3) rfl (Nat.le_of_ble_eq_true rfl) (by decide +kernel) (lv2 := fun x1 => [(3, ai x1), (0, ar this), (1, ai p0), (2, ai p1)]) (fun _ => rfl) (fun x1 => ?_)
  refine x_ldc C (n := 100000) (v := 100000) kc_RX9_34 (by decide +kernel) (by decide +kernel) ?_
  refine x_istore C (i := 4) (Nat.le_of_ble_eq_true rfl) (by decide +kernel) (lv2 := [(4, ai 100000), (3, ai x1), (0, ar this), (1, ai p0), (2, ai p1)]) rfl ?_
  refine x_iload_n C 1 (i := 3) (k0 := 3) rfl rfl (by decide +kernel) ?_
  refine x_join (T := Int) (fun t => σ) 23 (fun t => [(0, ar this), (1, ai p0), (2, ai p1), (3, ai x1), (4, ai t)]) (fun t => []) (fun t2 => ?_) (fun J23_10 hJ23_10 => ?_)
  · show X z 0 0 σ 23 [(0, ar this), (1, ai p0), (2, ai p1), (3, ai x1), (4, ai t2)] [] _
    refine x_iload_n C 3 (i := 3) (k0 := 3) rfl rfl (by decide +kernel) ?_
    refine x_bipush C (n := 7) (by decide +kernel) (by decide +kernel) ?_
    refine x_join (T := Int) (fun t => σ) 44 (fun t => [(0, ar this), (1, ai p0), (2, ai p1), (4, ai t)]) (fun t => []) (fun t3 => ?_) (fun J44_6 hJ44_6 => ?_)
    · show X z 0 0 σ 44 [(0, ar this), (1, ai p0), (2, ai p1), (4, ai t3)] [] _
      refine x_iload C 3 (i := 4) rfl (by decide +kernel) ?_
      refine x_aload_n C 0 (i := 0) (k0 := 0) rfl rfl (by decide +kernel) ?_
      refine x_iload_n C 1 (i := 1) (k0 := 1) rfl rfl (by decide +kernel) ?_
      refine x_iload_n C 2 (i := 2) (k0 := 2) rfl rfl (by decide +kernel) ?_
      refine x_bipush C (n := 8) (by decide +kernel) (by decide +kernel) ?_
      refine x_isub C (by decide +kernel) ?_
      refine x_callVp C (ci := 9) (c_X9_minutesAt l D ca ra N σ this p0 (p1 - 8)) (p_X9_minutesAt N σ this p0 (p1 - 8)) mt_X9_minutesAt mv_X9_minutesAt rfl ml_RX9_58 rfl (fun h => Bool.noConfusion h) ⟨Nat.le_of_ble_eq_true rfl, Nat.le_of_ble_eq_true rfl⟩ (Nat.le_of_ble_eq_true rfl) 0 0 ⟨rfl, rfl⟩ ⟨Nat.zero_le _, Nat.zero_le _⟩ (by decide +kernel) _ rfl (fun q4 => [ai q4.2, ai t3]) (fun _ => rfl) (fun q4 => ?_)
      refine x_min C mth_min ml_RX9_53 ⟨Nat.le_of_ble_eq_true rfl, Nat.le_of_ble_eq_true rfl⟩ ⟨Nat.zero_le _, Nat.zero_le _⟩ (by decide +kernel) ?_
      show X z 0 0 σ 58 [(0, ar this), (1, ai p0), (2, ai p1), (4, ai t3)] [ai (mnZ t3 q4.2)] _
      refine x_istoreL C (i := 4) (Nat.le_of_ble_eq_true rfl) (by decide +kernel) (lv2 := fun x5 => [(4, ai x5), (0, ar this), (1, ai p0), (2, ai p1)]) (fun _ => rfl) (fun x5 => ?_)
      refine x_iload C 0 (i := 4) rfl (by decide +kernel) ?_
      refine x_aload_n C 1 (i := 0) (k0 := 0) rfl rfl (by decide +kernel) ?_
      refine x_iload_n C 2 (i := 1) (k0 := 1) rfl rfl (by decide +kernel) ?_
      refine x_iload_n C 3 (i := 2) (k0 := 2) rfl rfl (by decide +kernel) ?_
      refine x_bipush C (n := 8) (by decide +kernel) (by decide +kernel) ?_
      refine x_iadd C (by decide +kernel) ?_
      refine x_callVp C (ci := 9) (c_X9_minutesAt l D ca ra N σ this p0 (p1 + 8)) (p_X9_minutesAt N σ this p0 (p1 + 8)) mt_X9_minutesAt mv_X9_minutesAt rfl ml_RX9_58 rfl (fun h => Bool.noConfusion h) ⟨Nat.le_of_ble_eq_true rfl, Nat.le_of_ble_eq_true rfl⟩ (Nat.le_of_ble_eq_true rfl) 0 0 ⟨rfl, rfl⟩ ⟨Nat.zero_le _, Nat.zero_le _⟩ (by decide +kernel) _ rfl (fun q6 => [ai q6.2, ai x5]) (fun _ => rfl) (fun q6 => ?_)
      show X z 0 0 σ 71 [(4, ai x5), (0, ar this), (1, ai p0), (2, ai p1)] [ai q6.2, ai x5] _
      refine x_min C mth_min ml_RX9_53 ⟨Nat.le_of_ble_eq_true rfl, Nat.le_of_ble_eq_true rfl⟩ ⟨Nat.zero_le _, Nat.zero_le _⟩ (by decide +kernel) ?_
      exact x_iret C ⟨Nat.zero_le _, Nat.zero_le _⟩ (by decide +kernel)
    · skip
      refine x_ic_ge C (tgt := 44) (off := 18) (by decide) (by decide +kernel) (fun h10 => ?_) (fun h10 => ?_)
      · skip
        refine x_sub [0, 1, 2, 4] (lv2 := [(0, ar this), (1, ai p0), (2, ai p1), (4, ai t2)]) rfl ?_
        exact hJ44_6 t2
      · skip
        refine x_iload C 4 (i := 4) rfl (by decide +kernel) ?_
        refine x_aload_n C 0 (i := 0) (k0 := 0) rfl rfl (by decide +kernel) ?_
        refine x_iload_n C 1 (i := 1) (k0 := 1) rfl rfl (by decide +kernel) ?_
        refine x_iload_n C 2 (i := 2) (k0 := 2) rfl rfl (by decide +kernel) ?_
        refine x_iconst C (n := 1) (by decide +kernel) ?_
        refine x_iadd C (by decide +kernel) ?_
        refine x_callVp C (ci := 9) (c_X9_minutesAt l D ca ra N σ this p0 (p1 + 1)) (p_X9_minutesAt N σ this p0 (p1 + 1)) mt_X9_minutesAt mv_X9_minutesAt rfl ml_RX9_58 rfl (fun h => Bool.noConfusion h) ⟨Nat.le_of_ble_eq_true rfl, Nat.le_of_ble_eq_true rfl⟩ (Nat.le_of_ble_eq_true rfl) 0 0 ⟨rfl, rfl⟩ ⟨Nat.zero_le _, Nat.zero_le _⟩ (by decide +kernel) _ rfl (fun q8 => [ai q8.2, ai t2]) (fun _ => rfl) (fun q8 => ?_)
        refine x_min C mth_min ml_RX9_53 ⟨Nat.le_of_ble_eq_true rfl, Nat.le_of_ble_eq_true rfl⟩ ⟨Nat.zero_le _, Nat.zero_le _⟩ (by decide +kernel) ?_
        show X z 0 0 σ 42 [(0, ar this), (1, ai p0), (2, ai p1), (3, ai x1), (4, ai t2)] [ai (mnZ t2 q8.2)] _
        refine x_istoreL C (i := 4) (Nat.le_of_ble_eq_true rfl) (by decide +kernel) (lv2 := fun x9 => [(4, ai x9), (0, ar this), (1, ai p0), (2, ai p1), (3, ai x1)]) (fun _ => rfl) (fun x9 => ?_)
        refine x_sub [1, 2, 3, 0] (lv2 := [(0, ar this), (1, ai p0), (2, ai p1), (4, ai x9)]) rfl ?_
        exact hJ44_6 x9
  · skip
    refine x_if_le C (tgt := 23) (off := 13) (by decide) (by decide +kernel) (fun h13 => ?_) (fun h13 => ?_)
    · skip
      refine x_sub [2, 3, 4, 1, 0] (lv2 := [(0, ar this), (1, ai p0), (2, ai p1), (3, ai x1), (4, ai 100000)]) rfl ?_
      exact hJ23_10 100000
    · skip
      refine x_aload_n C 2 (i := 0) (k0 := 0) rfl rfl (by decide +kernel) ?_
      refine x_iload_n C 3 (i := 1) (k0 := 1) rfl rfl (by decide +kernel) ?_
      refine x_iload_n C 4 (i := 2) (k0 := 2) rfl rfl (by decide +kernel) ?_
      refine x_iconst C (n := 1) (by decide +kernel) ?_
      refine x_isub C (by decide +kernel) ?_
      refine x_callVp C (ci := 9) (c_X9_minutesAt l D ca ra N σ this p0 (p1 - 1)) (p_X9_minutesAt N σ this p0 (p1 - 1)) mt_X9_minutesAt mv_X9_minutesAt rfl ml_RX9_58 rfl (fun h => Bool.noConfusion h) ⟨Nat.le_of_ble_eq_true rfl, Nat.le_of_ble_eq_true rfl⟩ (Nat.le_of_ble_eq_true rfl) 0 0 ⟨rfl, rfl⟩ ⟨Nat.zero_le _, Nat.zero_le _⟩ (by decide +kernel) _ rfl (fun q12 => [ai q12.2]) (fun _ => rfl) (fun q12 => ?_)
      refine x_istore C (i := 4) (Nat.le_of_ble_eq_true rfl) (by decide +kernel) (lv2 := [(4, ai q12.2), (3, ai x1), (0, ar this), (1, ai p0), (2, ai p1)]) rfl ?_
      refine x_sub [2, 3, 4, 1, 0] (lv2 := [(0, ar this), (1, ai p0), (2, ai p1), (3, ai x1), (4, ai q12.2)]) rfl ?_
      exact hJ23_10 q12.2
theorem p_X9_beside (N : Nat) (σ : St) (this : Nat) (p0 : Int) (p1 : Int) : Pu σ (f_X9_beside N σ this p0 p1) := by
  unfold f_X9_beside
  refine pu_Lt (fun _ => ?_)
  refine pu_Jn (fun _ => ?_) (fun _ hJ23_10 => ?_)
  · skip
    refine pu_Jn (fun _ => ?_) (fun _ hJ44_6 => ?_)
    · skip
      refine pu_bind (fun _ => ?_)
      refine pu_Lt (fun _ => ?_)
      refine pu_bind (fun _ => ?_)
      exact pu_some
    · skip
      refine pu_ifs ?_ ?_
      · skip
        exact hJ44_6 _
      · skip
        refine pu_bind (fun _ => ?_)
        refine pu_Lt (fun _ => ?_)
        exact hJ44_6 _
  · skip
    refine pu_ifs ?_ ?_
    · skip
      exact hJ23_10 _
    · skip
      refine pu_bind (fun _ => ?_)
      exact hJ23_10 _

def L_X9_findRow_17 (N : Nat) (this : Nat) (p0 : Nat) (p1 : Int) (x1 : Int) : (St × Int) → Option (St × Int) := fixN N fun b17_3 t3 =>
 (if wr t3.2 < wr 64 then Option.bind (gR shx t3.1 3 p0 19) fun ground_5 =>
 Option.bind (aI shx t3.1 1 ground_5 t3.2) fun a6 =>
 Option.bind (f_X11_within N t3.1 a6 0 7) fun q7 =>
 Jn (fun t8 : Int => Option.bind (f_X11_within N t3.1 a6 0 7) fun q9 =>
 Jn (fun t10 : Int => Option.bind (gR shx t3.1 9 this 2) fun minutes_11 =>
 Option.bind (aR shx t3.1 6 minutes_11 x1) fun r12 =>
 Option.bind (sI shx t3.1 1 r12 t3.2 (mnZ t10 100000)) fun σ13 =>
 Lt (t3.2 + 1) fun x14 =>
 b17_3 (σ13, x14)) fun J110_14 =>
 (if wr q9.2 = 0 then J110_14 t8 else Option.bind (gR shx t3.1 9 this 1) fun slow_16 =>
 Option.bind (aI shx t3.1 3 slow_16 a6) fun a17 =>
 (if wr (wz a17) = 0 then J110_14 t8 else Option.bind (rcv shx t3.1 9 this (f_X9_beside N t3.1 this (p1 - 2) t3.2)) fun q18 =>
 Lt (mnZ t8 (q18.2 + 3)) fun x19 =>
 J110_14 x19))) fun J71_21 =>
 (if wr q7.2 = 0 then J71_21 100000 else Option.bind (gR shx t3.1 9 this 0) fun fast_23 =>
 Option.bind (aI shx t3.1 3 fast_23 a6) fun a24 =>
 (if wr (wz a24) = 0 then J71_21 100000 else Option.bind (rcv shx t3.1 9 this (f_X9_beside N t3.1 this (p1 - 3) t3.2)) fun q25 =>
 Lt (q25.2 + 1) fun x26 =>
 J71_21 x26)) else some (t3.1, 0))
def rm_X9_findRow : Room := { frames := 3, cells := 0, slots := 0, locals := 69 }
def f_X9_findRow (N : Nat) (σ : St) (this : Nat) (p0 : Nat) (p1 : Int) : Option (St × Int) :=
 Lt (Int.tmod (wr p1) 4) fun x1 =>
 Option.bind (f_X11_within N σ x1 0 3) fun q2 =>
 (if wr q2.2 = 0 then some (σ, 0) else L_X9_findRow_17 N this p0 p1 x1 (σ, 0))
set_option maxRecDepth 100000 in
set_option maxHeartbeats 4000000 in
theorem c_X9_findRow (l : Launch) (D : va_G) (ca : Nat → ClassId) (ra : Nat → Nat) (N : Nat) (σ : St) (this : Nat) (p0 : Nat) (p1 : Int) : Ctr l (D, ca, ra, shx) false yX9_findRow cX9_findRow 7 none rm_X9_findRow σ [ar this, ar p0, ai p1] (f_X9_findRow N σ this p0 p1) := by
  refine ctr_of (by decide) (Nat.le_of_ble_eq_true rfl) (fun z C => ?_)
  show X z 0 0 σ 0 [(0, ar this), (1, ar p0), (2, ai p1)] [] _
  unfold f_X9_findRow
  refine x_iload_n C 2 (i := 2) (k0 := 2) rfl rfl (by decide +kernel) ?_
  refine x_iconst C (n := 4) (by decide +kernel) ?_
  refine x_iremC C (by decide) (by decide) (by decide +kernel) ?_
  refine x_istore_nL C (i := 3) (k0 := 3) rfl (Nat.le_of_ble_eq_true rfl) (by decide +kernel) (lv2 := fun x1 => [(3, ai x1), (0, ar this), (1, ar p0), (2, ai p1)]) (fun _ => rfl) (fun x1 => ?_)
  refine x_iload_n C 0 (i := 3) (k0 := 3) rfl rfl (by decide +kernel) ?_
  refine x_iconst C (n := 0) (by decide +kernel) ?_
  refine x_iconst C (n := 3) (by decide +kernel) ?_
  refine x_callSNp C (c_X11_within l D ca ra N σ x1 0 3) (p_X11_within N σ x1 0 3) mt_X11_within ms_X11_within (List.mem_of_getElem? (i := 15) rfl) rfl (fun h => Bool.noConfusion h) ⟨Nat.le_of_ble_eq_true rfl, Nat.le_of_ble_eq_true rfl⟩ (Nat.le_of_ble_eq_true rfl) 0 0 ⟨rfl, rfl⟩ ⟨Nat.zero_le _, Nat.zero_le _⟩ (by decide +kernel) _ rfl (fun q2 => [ai q2.2]) (fun _ => rfl) (fun q2 => ?_)
  show X z 0 0 σ 10 [(3, ai x1), (0, ar this), (1, ar p0), (2, ai p1)] [ai q2.2] _
  refine x_if_ne C (tgt := 14) (off := 4) (by decide) (by decide +kernel) (fun h30 => ?_) (fun h30 => ?_)
  · skip
    refine x_iconst C (n := 0) (by decide +kernel) ?_
    refine x_istore C (i := 4) (Nat.le_of_ble_eq_true rfl) (by decide +kernel) (lv2 := [(4, ai 0), (3, ai x1), (0, ar this), (1, ar p0), (2, ai p1)]) rfl ?_
    refine x_sub [2, 3, 4, 1, 0] (lv2 := [(0, ar this), (1, ar p0), (2, ai p1), (3, ai x1), (4, ai 0)]) rfl ?_
    -- LOOP L_X9_findRow_17 hb17_3
    refine x_loop (T := St × Int) (fun t => t.1) (fun t => [(0, ar this), (1, ar p0), (2, ai p1), (3, ai x1), (4, ai t.2)]) (σ, 0) rfl (fun b17_3 hb17_3 t3 => ?_)
    show X z 0 0 t3.1 17 [(0, ar this), (1, ar p0), (2, ai p1), (3, ai x1), (4, ai t3.2)] [] _
    refine x_iload C 4 (i := 4) rfl (by decide +kernel) ?_
    refine x_bipush C (n := 64) (by decide +kernel) (by decide +kernel) ?_
    refine x_ic_ge C (tgt := 132) (off := 111) (by decide) (by decide +kernel) (fun h29 => ?_) (fun h29 => ?_)
    · skip
      exact x_vret C ⟨Nat.zero_le _, Nat.zero_le _⟩ (by decide +kernel)
    · skip
      refine x_ldc C (n := 100000) (v := 100000) kc_RX9_34 (by decide +kernel) (by decide +kernel) ?_
      refine x_istore C (i := 5) (Nat.le_of_ble_eq_true rfl) (by decide +kernel) (lv2 := [(5, ai 100000), (0, ar this), (1, ar p0), (2, ai p1), (3, ai x1), (4, ai t3.2)]) rfl ?_
      refine x_aload_n C 2 (i := 1) (k0 := 1) rfl rfl (by decide +kernel) ?_
      refine x_gR C fl_RX9_45 (fun _ _ _ => rfl) (by decide +kernel) (fun ground_5 => ?_)
      refine x_iload C 5 (i := 4) rfl (by decide +kernel) ?_
      refine x_aldI C (by decide +kernel) (fun a6 => ?_)
      refine x_istore C (i := 6) (Nat.le_of_ble_eq_true rfl) (by decide +kernel) (lv2 := [(6, ai a6), (5, ai 100000), (0, ar this), (1, ar p0), (2, ai p1), (3, ai x1), (4, ai t3.2)]) rfl ?_
      refine x_iload C 0 (i := 6) rfl (by decide +kernel) ?_
      show X z 0 0 t3.1 39 [(6, ai a6), (5, ai 100000), (0, ar this), (1, ar p0), (2, ai p1), (3, ai x1), (4, ai t3.2)] [ai a6] _
      refine x_iconst C (n := 0) (by decide +kernel) ?_
      refine x_bipush C (n := 7) (by decide +kernel) (by decide +kernel) ?_
      refine x_callSNp C (c_X11_within l D ca ra N t3.1 a6 0 7) (p_X11_within N t3.1 a6 0 7) mt_X11_within ms_X11_within (List.mem_of_getElem? (i := 15) rfl) rfl (fun h => Bool.noConfusion h) ⟨Nat.le_of_ble_eq_true rfl, Nat.le_of_ble_eq_true rfl⟩ (Nat.le_of_ble_eq_true rfl) 0 0 ⟨rfl, rfl⟩ ⟨Nat.zero_le _, Nat.zero_le _⟩ (by decide +kernel) _ rfl (fun q7 => [ai q7.2]) (fun _ => rfl) (fun q7 => ?_)
      refine x_join (T := Int) (fun t => t3.1) 71 (fun t => [(0, ar this), (1, ar p0), (2, ai p1), (3, ai x1), (4, ai t3.2), (5, ai t), (6, ai a6)]) (fun t => []) (fun t8 => ?_) (fun J71_21 hJ71_21 => ?_)
      · show X z 0 0 t3.1 71 [(0, ar this), (1, ar p0), (2, ai p1), (3, ai x1), (4, ai t3.2), (5, ai t8), (6, ai a6)] [] _
        refine x_iload C 6 (i := 6) rfl (by decide +kernel) ?_
        refine x_iconst C (n := 0) (by decide +kernel) ?_
        refine x_bipush C (n := 7) (by decide +kernel) (by decide +kernel) ?_
        refine x_callSNp C (c_X11_within l D ca ra N t3.1 a6 0 7) (p_X11_within N t3.1 a6 0 7) mt_X11_within ms_X11_within (List.mem_of_getElem? (i := 15) rfl) rfl (fun h => Bool.noConfusion h) ⟨Nat.le_of_ble_eq_true rfl, Nat.le_of_ble_eq_true rfl⟩ (Nat.le_of_ble_eq_true rfl) 0 0 ⟨rfl, rfl⟩ ⟨Nat.zero_le _, Nat.zero_le _⟩ (by decide +kernel) _ rfl (fun q9 => [ai q9.2]) (fun _ => rfl) (fun q9 => ?_)
        refine x_join (T := Int) (fun t => t3.1) 110 (fun t => [(0, ar this), (1, ar p0), (2, ai p1), (3, ai x1), (4, ai t3.2), (5, ai t)]) (fun t => []) (fun t10 => ?_) (fun J110_14 hJ110_14 => ?_)
        · show X z 0 0 t3.1 110 [(0, ar this), (1, ar p0), (2, ai p1), (3, ai x1), (4, ai t3.2), (5, ai t10)] [] _
          refine x_aload_n C 0 (i := 0) (k0 := 0) rfl rfl (by decide +kernel) ?_
          refine x_gR C fl_RX9_22 (fun _ _ _ => rfl) (by decide +kernel) (fun minutes_11 => ?_)
          refine x_iload_n C 3 (i := 3) (k0 := 3) rfl rfl (by decide +kernel) ?_
          refine x_aldR6 C (by decide +kernel) (fun r12 => ?_)
          refine x_iload C 4 (i := 4) rfl (by decide +kernel) ?_
          refine x_iload C 5 (i := 5) rfl (by decide +kernel) ?_
          refine x_ldc C (n := 100000) (v := 100000) kc_RX9_34 (by decide +kernel) (by decide +kernel) ?_
          refine x_min C mth_min ml_RX9_53 ⟨Nat.le_of_ble_eq_true rfl, Nat.le_of_ble_eq_true rfl⟩ ⟨Nat.zero_le _, Nat.zero_le _⟩ (by decide +kernel) ?_
          show X z 0 0 t3.1 125 [(0, ar this), (1, ar p0), (2, ai p1), (3, ai x1), (4, ai t3.2), (5, ai t10)] [ai (mnZ t10 100000), ai t3.2, ar r12] _
          refine x_astI C (by decide +kernel) (fun σ13 => ?_)
          refine x_iinc C 4 (i := 4) (n := 1) (Nat.le_of_ble_eq_true rfl) rfl (by decide +kernel) (lv2 := fun x14 => [(4, ai x14), (0, ar this), (1, ar p0), (2, ai p1), (3, ai x1), (5, ai t10)]) (fun _ => rfl) (fun x14 => ?_)
          refine x_goto C (tgt := 17) (off := (-112)) (by decide) (by decide +kernel) ?_
          refine x_sub [1, 2, 3, 4, 0] (lv2 := [(0, ar this), (1, ar p0), (2, ai p1), (3, ai x1), (4, ai x14)]) rfl ?_
          exact hb17_3 (σ13, x14)
        · skip
          refine x_if_eq C (tgt := 110) (off := 31) (by decide) (by decide +kernel) (fun h21 => ?_) (fun h21 => ?_)
          · skip
            refine x_sub [0, 1, 2, 3, 4, 5] (lv2 := [(0, ar this), (1, ar p0), (2, ai p1), (3, ai x1), (4, ai t3.2), (5, ai t8)]) rfl ?_
            exact hJ110_14 t8
          · skip
            refine x_aload_n C 0 (i := 0) (k0 := 0) rfl rfl (by decide +kernel) ?_
            refine x_gR C fl_RX9_15 (fun _ _ _ => rfl) (by decide +kernel) (fun slow_16 => ?_)
            refine x_iload C 6 (i := 6) rfl (by decide +kernel) ?_
            refine x_aldZ C (by decide +kernel) (fun a17 => ?_)
            refine x_if_eq C (tgt := 110) (off := 21) (by decide) (by decide +kernel) (fun h20 => ?_) (fun h20 => ?_)
            · skip
              refine x_sub [0, 1, 2, 3, 4, 5] (lv2 := [(0, ar this), (1, ar p0), (2, ai p1), (3, ai x1), (4, ai t3.2), (5, ai t8)]) rfl ?_
              exact hJ110_14 t8
            · skip
              refine x_iload C 5 (i := 5) rfl (by decide +kernel) ?_
              refine x_aload_n C 0 (i := 0) (k0 := 0) rfl rfl (by decide +kernel) ?_
              refine x_iload_n C 2 (i := 2) (k0 := 2) rfl rfl (by decide +kernel) ?_
              refine x_iconst C (n := 2) (by decide +kernel) ?_
              refine x_isub C (by decide +kernel) ?_
              refine x_iload C 4 (i := 4) rfl (by decide +kernel) ?_
              refine x_callVp C (ci := 9) (c_X9_beside l D ca ra N t3.1 this (p1 - 2) t3.2) (p_X9_beside N t3.1 this (p1 - 2) t3.2) mt_X9_beside mv_X9_beside rfl ml_RX9_49 rfl (fun h => Bool.noConfusion h) ⟨Nat.le_of_ble_eq_true rfl, Nat.le_of_ble_eq_true rfl⟩ (Nat.le_of_ble_eq_true rfl) 0 0 ⟨rfl, rfl⟩ ⟨Nat.zero_le _, Nat.zero_le _⟩ (by decide +kernel) _ rfl (fun q18 => [ai q18.2, ai t8]) (fun _ => rfl) (fun q18 => ?_)
              refine x_iconst C (n := 3) (by decide +kernel) ?_
              show X z 0 0 t3.1 104 [(0, ar this), (1, ar p0), (2, ai p1), (3, ai x1), (4, ai t3.2), (5, ai t8), (6, ai a6)] [ai 3, ai q18.2, ai t8] _
              refine x_iadd C (by decide +kernel) ?_
              refine x_min C mth_min ml_RX9_53 ⟨Nat.le_of_ble_eq_true rfl, Nat.le_of_ble_eq_true rfl⟩ ⟨Nat.zero_le _, Nat.zero_le _⟩ (by decide +kernel) ?_
              refine x_istoreL C (i := 5) (Nat.le_of_ble_eq_true rfl) (by decide +kernel) (lv2 := fun x19 => [(5, ai x19), (0, ar this), (1, ar p0), (2, ai p1), (3, ai x1), (4, ai t3.2), (6, ai a6)]) (fun _ => rfl) (fun x19 => ?_)
              refine x_sub [1, 2, 3, 4, 5, 0] (lv2 := [(0, ar this), (1, ar p0), (2, ai p1), (3, ai x1), (4, ai t3.2), (5, ai x19)]) rfl ?_
              exact hJ110_14 x19
      · skip
        refine x_if_eq C (tgt := 71) (off := 26) (by decide) (by decide +kernel) (fun h28 => ?_) (fun h28 => ?_)
        · skip
          refine x_sub [2, 3, 4, 5, 6, 1, 0] (lv2 := [(0, ar this), (1, ar p0), (2, ai p1), (3, ai x1), (4, ai t3.2), (5, ai 100000), (6, ai a6)]) rfl ?_
          exact hJ71_21 100000
        · skip
          refine x_aload_n C 2 (i := 0) (k0 := 0) rfl rfl (by decide +kernel) ?_
          refine x_gR C fl_RX9_11 (fun _ _ _ => rfl) (by decide +kernel) (fun fast_23 => ?_)
          refine x_iload C 0 (i := 6) rfl (by decide +kernel) ?_
          refine x_aldZ C (by decide +kernel) (fun a24 => ?_)
          refine x_if_eq C (tgt := 71) (off := 16) (by decide) (by decide +kernel) (fun h27 => ?_) (fun h27 => ?_)
          · skip
            refine x_sub [2, 3, 4, 5, 6, 1, 0] (lv2 := [(0, ar this), (1, ar p0), (2, ai p1), (3, ai x1), (4, ai t3.2), (5, ai 100000), (6, ai a6)]) rfl ?_
            exact hJ71_21 100000
          · skip
            refine x_aload_n C 2 (i := 0) (k0 := 0) rfl rfl (by decide +kernel) ?_
            refine x_iload_n C 4 (i := 2) (k0 := 2) rfl rfl (by decide +kernel) ?_
            refine x_iconst C (n := 3) (by decide +kernel) ?_
            refine x_isub C (by decide +kernel) ?_
            refine x_iload C 6 (i := 4) rfl (by decide +kernel) ?_
            refine x_callVp C (ci := 9) (c_X9_beside l D ca ra N t3.1 this (p1 - 3) t3.2) (p_X9_beside N t3.1 this (p1 - 3) t3.2) mt_X9_beside mv_X9_beside rfl ml_RX9_49 rfl (fun h => Bool.noConfusion h) ⟨Nat.le_of_ble_eq_true rfl, Nat.le_of_ble_eq_true rfl⟩ (Nat.le_of_ble_eq_true rfl) 0 0 ⟨rfl, rfl⟩ ⟨Nat.zero_le _, Nat.zero_le _⟩ (by decide +kernel) _ rfl (fun q25 => [ai q25.2]) (fun _ => rfl) (fun q25 => ?_)
            refine x_iconst C (n := 1) (by decide +kernel) ?_
            refine x_iadd C (by decide +kernel) ?_
            show X z 0 0 t3.1 69 [(6, ai a6), (5, ai 100000), (0, ar this), (1, ar p0), (2, ai p1), (3, ai x1), (4, ai t3.2)] [ai (q25.2 + 1)] _
            refine x_istoreL C (i := 5) (Nat.le_of_ble_eq_true rfl) (by decide +kernel) (lv2 := fun x26 => [(5, ai x26), (6, ai a6), (0, ar this), (1, ar p0), (2, ai p1), (3, ai x1), (4, ai t3.2)]) (fun _ => rfl) (fun x26 => ?_)
            refine x_sub [2, 3, 4, 5, 6, 0, 1] (lv2 := [(0, ar this), (1, ar p0), (2, ai p1), (3, ai x1), (4, ai t3.2), (5, ai x26), (6, ai a6)]) rfl ?_
            exact hJ71_21 x26
  · skip
    exact x_vret C ⟨Nat.zero_le _, Nat.zero_le _⟩ (by decide +kernel)

def L_X9_fewestMinutes_74 (N : Nat) (this : Nat) (p0 : Nat) (p2 : Int) (p3 : Int) (J127_11 : (St × Int × Int → Option (St × Int))) : (St × Int × Int × Int) → Option (St × Int) := fixN N fun b74_13 t13 =>
 (if wr p3 < wr t13.2.2.2 then J127_11 (t13.1, t13.2.1, t13.2.2.1) else Option.bind (rcv shx t13.1 9 this (f_X9_findRow N t13.1 this p0 t13.2.2.2)) fun q15 =>
 Option.bind (gR shx q15.1 9 this 2) fun minutes_16 =>
 Option.bind (aR shx q15.1 6 minutes_16 (Int.tmod (wr t13.2.2.2) 4)) fun r17 =>
 Option.bind (aI shx q15.1 1 r17 p2) fun a18 =>
 Jn (fun t19 : Int × Int => Lt (t13.2.2.2 + 1) fun x20 =>
 b74_13 (q15.1, t19.1, t19.2, x20)) fun J121_20 =>
 (if wr a18 < wr t13.2.1 then Option.bind (gR shx q15.1 9 this 2) fun minutes_22 =>
 Option.bind (aR shx q15.1 6 minutes_22 (Int.tmod (wr t13.2.2.2) 4)) fun r23 =>
 Option.bind (aI shx q15.1 1 r23 p2) fun a24 =>
 J121_20 (a24, t13.2.2.2) else J121_20 (t13.2.1, t13.2.2.1)))
def L_X9_fewestMinutes_25 (N : Nat) (this : Nat) (J49_26 : (St → Option (St × Int))) : (St × Int) → Option (St × Int) := fixN N fun b25_28 t28 =>
 (if wr t28.2 < wr 4 then Option.bind (gR shx t28.1 9 this 2) fun minutes_30 =>
 Option.bind (aR shx t28.1 6 minutes_30 t28.2) fun r31 =>
 Option.bind (f_J7_fill_53178 N t28.1 r31 100000) fun q32 =>
 Lt (t28.2 + 1) fun x33 =>
 b25_28 (q32.1, x33) else J49_26 t28.1)
def rm_X9_fewestMinutes : Room := { frames := 4, cells := 0, slots := 0, locals := 95 }
def f_X9_fewestMinutes (N : Nat) (σ : St) (this : Nat) (p0 : Nat) (p1 : Int) (p2 : Int) (p3 : Int) : Option (St × Int) :=
 Option.bind (f_X11_within N σ p1 0 63) fun q1 =>
 (if wr q1.2 = 0 then some (σ, (-1)) else Option.bind (f_X11_within N σ p2 0 63) fun q2 =>
 (if wr q2.2 = 0 then some (σ, (-1)) else Jn (fun t3 : St => Option.bind (gR shx t3 9 this 2) fun minutes_4 =>
 Option.bind (aR shx t3 6 minutes_4 0) fun r5 =>
 Option.bind (sI shx t3 1 r5 p1 0) fun σ6 =>
 Option.bind (gR shx σ6 9 this 2) fun minutes_7 =>
 Option.bind (aR shx σ6 6 minutes_7 0) fun r8 =>
 Option.bind (aI shx σ6 1 r8 p2) fun a9 =>
 Jn (fun t10 : St × Int × Int => (if wr t10.2.1 < wr 100000 then some (t10.1, ((100 * t10.2.1) + t10.2.2)) else some (t10.1, (-1)))) fun J127_11 =>
 L_X9_fewestMinutes_74 N this p0 p2 p3 J127_11 (σ6, a9, 0, 1)) fun J49_26 =>
 L_X9_fewestMinutes_25 N this J49_26 (σ, 0)))
set_option maxRecDepth 100000 in
set_option maxHeartbeats 4000000 in
theorem c_X9_fewestMinutes (l : Launch) (D : va_G) (ca : Nat → ClassId) (ra : Nat → Nat) (N : Nat) (σ : St) (this : Nat) (p0 : Nat) (p1 : Int) (p2 : Int) (p3 : Int) : Ctr l (D, ca, ra, shx) false yX9_fewestMinutes cX9_fewestMinutes 8 (some .int) rm_X9_fewestMinutes σ [ar this, ar p0, ai p1, ai p2, ai p3] (f_X9_fewestMinutes N σ this p0 p1 p2 p3) := by
  refine ctr_of (by decide) (Nat.le_of_ble_eq_true rfl) (fun z C => ?_)
  show X z 0 0 σ 0 [(0, ar this), (1, ar p0), (2, ai p1), (3, ai p2), (4, ai p3)] [] _
  unfold f_X9_fewestMinutes
  refine x_iload_n C 2 (i := 2) (k0 := 2) rfl rfl (by decide +kernel) ?_
  refine x_iconst C (n := 0) (by decide +kernel) ?_
  refine x_bipush C (n := 63) (by decide +kernel) (by decide +kernel) ?_
  refine x_callSNp C (c_X11_within l D ca ra N σ p1 0 63) (p_X11_within N σ p1 0 63) mt_X11_within ms_X11_within (List.mem_of_getElem? (i := 15) rfl) rfl (fun h => Bool.noConfusion h) ⟨Nat.le_of_ble_eq_true rfl, Nat.le_of_ble_eq_true rfl⟩ (Nat.le_of_ble_eq_true rfl) 0 0 ⟨rfl, rfl⟩ ⟨Nat.zero_le _, Nat.zero_le _⟩ (by decide +kernel) _ rfl (fun q1 => [ai q1.2]) (fun _ => rfl) (fun q1 => ?_)
  refine x_if_eq C (tgt := 20) (off := 13) (by decide) (by decide +kernel) (fun h36 => ?_) (fun h36 => ?_)
  · skip
    refine x_iconst C (n := (-1)) (by decide +kernel) ?_
    exact x_iret C ⟨Nat.zero_le _, Nat.zero_le _⟩ (by decide +kernel)
  · skip
    refine x_iload_n C 3 (i := 3) (k0 := 3) rfl rfl (by decide +kernel) ?_
    refine x_iconst C (n := 0) (by decide +kernel) ?_
    refine x_bipush C (n := 63) (by decide +kernel) (by decide +kernel) ?_
    refine x_callSNp C (c_X11_within l D ca ra N σ p2 0 63) (p_X11_within N σ p2 0 63) mt_X11_within ms_X11_within (List.mem_of_getElem? (i := 15) rfl) rfl (fun h => Bool.noConfusion h) ⟨Nat.le_of_ble_eq_true rfl, Nat.le_of_ble_eq_true rfl⟩ (Nat.le_of_ble_eq_true rfl) 0 0 ⟨rfl, rfl⟩ ⟨Nat.zero_le _, Nat.zero_le _⟩ (by decide +kernel) _ rfl (fun q2 => [ai q2.2]) (fun _ => rfl) (fun q2 => ?_)
    refine x_if_ne C (tgt := 22) (off := 5) (by decide) (by decide +kernel) (fun h35 => ?_) (fun h35 => ?_)
    · skip
      refine x_iconst C (n := 0) (by decide +kernel) ?_
      refine x_istore C (i := 5) (Nat.le_of_ble_eq_true rfl) (by decide +kernel) (lv2 := [(5, ai 0), (0, ar this), (1, ar p0), (2, ai p1), (3, ai p2), (4, ai p3)]) rfl ?_
      refine x_join (T := St) (fun t => t) 49 (fun t => [(0, ar this), (1, ar p0), (2, ai p1), (3, ai p2), (4, ai p3)]) (fun t => []) (fun t3 => ?_) (fun J49_26 hJ49_26 => ?_)
      · show X z 0 0 t3 49 [(0, ar this), (1, ar p0), (2, ai p1), (3, ai p2), (4, ai p3)] [] _
        refine x_aload_n C 0 (i := 0) (k0 := 0) rfl rfl (by decide +kernel) ?_
        refine x_gR C fl_RX9_22 (fun _ _ _ => rfl) (by decide +kernel) (fun minutes_4 => ?_)
        refine x_iconst C (n := 0) (by decide +kernel) ?_
        refine x_aldR6 C (by decide +kernel) (fun r5 => ?_)
        refine x_iload_n C 2 (i := 2) (k0 := 2) rfl rfl (by decide +kernel) ?_
        refine x_iconst C (n := 0) (by decide +kernel) ?_
        refine x_astI C (by decide +kernel) (fun σ6 => ?_)
        refine x_aload_n C 0 (i := 0) (k0 := 0) rfl rfl (by decide +kernel) ?_
        show X z 0 0 σ6 59 [(0, ar this), (1, ar p0), (2, ai p1), (3, ai p2), (4, ai p3)] [ar this] _
        refine x_gR C fl_RX9_22 (fun _ _ _ => rfl) (by decide +kernel) (fun minutes_7 => ?_)
        refine x_iconst C (n := 0) (by decide +kernel) ?_
        refine x_aldR6 C (by decide +kernel) (fun r8 => ?_)
        refine x_iload_n C 3 (i := 3) (k0 := 3) rfl rfl (by decide +kernel) ?_
        refine x_aldI C (by decide +kernel) (fun a9 => ?_)
        refine x_istore C (i := 5) (Nat.le_of_ble_eq_true rfl) (by decide +kernel) (lv2 := [(5, ai a9), (0, ar this), (1, ar p0), (2, ai p1), (3, ai p2), (4, ai p3)]) rfl ?_
        refine x_iconst C (n := 0) (by decide +kernel) ?_
        refine x_istore C (i := 6) (Nat.le_of_ble_eq_true rfl) (by decide +kernel) (lv2 := [(6, ai 0), (5, ai a9), (0, ar this), (1, ar p0), (2, ai p1), (3, ai p2), (4, ai p3)]) rfl ?_
        show X z 0 0 σ6 71 [(6, ai 0), (5, ai a9), (0, ar this), (1, ar p0), (2, ai p1), (3, ai p2), (4, ai p3)] [] _
        refine x_iconst C (n := 1) (by decide +kernel) ?_
        refine x_istore C (i := 7) (Nat.le_of_ble_eq_true rfl) (by decide +kernel) (lv2 := [(7, ai 1), (6, ai 0), (5, ai a9), (0, ar this), (1, ar p0), (2, ai p1), (3, ai p2), (4, ai p3)]) rfl ?_
        refine x_join (T := St × Int × Int) (fun t => t.1) 127 (fun t => [(5, ai t.2.1), (6, ai t.2.2)]) (fun t => []) (fun t10 => ?_) (fun J127_11 hJ127_11 => ?_)
        · show X z 0 0 t10.1 127 [(5, ai t10.2.1), (6, ai t10.2.2)] [] _
          refine x_iload C 0 (i := 5) rfl (by decide +kernel) ?_
          refine x_ldc C (n := 100000) (v := 100000) kc_RX9_34 (by decide +kernel) (by decide +kernel) ?_
          refine x_ic_lt C (tgt := 138) (off := 7) (by decide) (by decide +kernel) (fun h11 => ?_) (fun h11 => ?_)
          · skip
            refine x_bipush C (n := 100) (by decide +kernel) (by decide +kernel) ?_
            refine x_iload C 0 (i := 5) rfl (by decide +kernel) ?_
            refine x_imul C (by decide +kernel) ?_
            refine x_iload C 1 (i := 6) rfl (by decide +kernel) ?_
            refine x_iadd C (by decide +kernel) ?_
            exact x_iret C ⟨Nat.zero_le _, Nat.zero_le _⟩ (by decide +kernel)
          · skip
            refine x_iconst C (n := (-1)) (by decide +kernel) ?_
            refine x_goto C (tgt := 146) (off := 11) (by decide) (by decide +kernel) ?_
            exact x_iret C ⟨Nat.zero_le _, Nat.zero_le _⟩ (by decide +kernel)
        · skip
          refine x_sub [3, 4, 6, 7, 2, 1, 0] (lv2 := [(0, ar this), (1, ar p0), (3, ai p2), (4, ai p3), (5, ai a9), (6, ai 0), (7, ai 1)]) rfl ?_
          -- LOOP L_X9_fewestMinutes_74 hb74_13
          refine x_loop (T := St × Int × Int × Int) (fun t => t.1) (fun t => [(0, ar this), (1, ar p0), (3, ai p2), (4, ai p3), (5, ai t.2.1), (6, ai t.2.2.1), (7, ai t.2.2.2)]) (σ6, a9, 0, 1) rfl (fun b74_13 hb74_13 t13 => ?_)
          show X z 0 0 t13.1 74 [(0, ar this), (1, ar p0), (3, ai p2), (4, ai p3), (5, ai t13.2.1), (6, ai t13.2.2.1), (7, ai t13.2.2.2)] [] _
          refine x_iload C 6 (i := 7) rfl (by decide +kernel) ?_
          refine x_iload C 3 (i := 4) rfl (by decide +kernel) ?_
          refine x_ic_gt C (tgt := 127) (off := 49) (by decide) (by decide +kernel) (fun h26 => ?_) (fun h26 => ?_)
          · skip
            refine x_sub [4, 5] (lv2 := [(5, ai t13.2.1), (6, ai t13.2.2.1)]) rfl ?_
            exact hJ127_11 (t13.1, t13.2.1, t13.2.2.1)
          · skip
            refine x_aload_n C 0 (i := 0) (k0 := 0) rfl rfl (by decide +kernel) ?_
            refine x_aload_n C 1 (i := 1) (k0 := 1) rfl rfl (by decide +kernel) ?_
            refine x_iload C 6 (i := 7) rfl (by decide +kernel) ?_
            refine x_callV C (ci := 9) (c_X9_findRow l D ca ra N t13.1 this p0 t13.2.2.2) mt_X9_findRow mv_X9_findRow rfl ml_RX9_41 rfl (fun h => Bool.noConfusion h) ⟨Nat.le_of_ble_eq_true rfl, Nat.le_of_ble_eq_true rfl⟩ (Nat.le_of_ble_eq_true rfl) 0 0 ⟨rfl, rfl⟩ ⟨Nat.zero_le _, Nat.zero_le _⟩ (by decide +kernel) _ rfl (fun q15 => []) (fun _ => rfl) (fun q15 => ?_)
            refine x_aload_n C 0 (i := 0) (k0 := 0) rfl rfl (by decide +kernel) ?_
            refine x_gR C fl_RX9_22 (fun _ _ _ => rfl) (by decide +kernel) (fun minutes_16 => ?_)
            refine x_iload C 6 (i := 7) rfl (by decide +kernel) ?_
            refine x_iconst C (n := 4) (by decide +kernel) ?_
            show X z 0 0 q15.1 95 [(0, ar this), (1, ar p0), (3, ai p2), (4, ai p3), (5, ai t13.2.1), (6, ai t13.2.2.1), (7, ai t13.2.2.2)] [ai 4, ai t13.2.2.2, ar minutes_16] _
            refine x_iremC C (by decide) (by decide) (by decide +kernel) ?_
            refine x_aldR6 C (by decide +kernel) (fun r17 => ?_)
            refine x_iload_n C 2 (i := 3) (k0 := 3) rfl rfl (by decide +kernel) ?_
            refine x_aldI C (by decide +kernel) (fun a18 => ?_)
            refine x_iload C 4 (i := 5) rfl (by decide +kernel) ?_
            refine x_join (T := Int × Int) (fun t => q15.1) 121 (fun t => [(0, ar this), (1, ar p0), (3, ai p2), (4, ai p3), (5, ai t.1), (6, ai t.2), (7, ai t13.2.2.2)]) (fun t => []) (fun t19 => ?_) (fun J121_20 hJ121_20 => ?_)
            · show X z 0 0 q15.1 121 [(0, ar this), (1, ar p0), (3, ai p2), (4, ai p3), (5, ai t19.1), (6, ai t19.2), (7, ai t13.2.2.2)] [] _
              refine x_iinc C 6 (i := 7) (n := 1) (Nat.le_of_ble_eq_true rfl) rfl (by decide +kernel) (lv2 := fun x20 => [(7, ai x20), (0, ar this), (1, ar p0), (3, ai p2), (4, ai p3), (5, ai t19.1), (6, ai t19.2)]) (fun _ => rfl) (fun x20 => ?_)
              refine x_goto C (tgt := 74) (off := (-50)) (by decide) (by decide +kernel) ?_
              refine x_sub [1, 2, 3, 4, 5, 6, 0] (lv2 := [(0, ar this), (1, ar p0), (3, ai p2), (4, ai p3), (5, ai t19.1), (6, ai t19.2), (7, ai x20)]) rfl ?_
              exact hb74_13 (q15.1, t19.1, t19.2, x20)
            · skip
              refine x_ic_ge C (tgt := 121) (off := 20) (by decide) (by decide +kernel) (fun h25 => ?_) (fun h25 => ?_)
              · skip
                exact hJ121_20 (t13.2.1, t13.2.2.1)
              · skip
                refine x_aload_n C 0 (i := 0) (k0 := 0) rfl rfl (by decide +kernel) ?_
                refine x_gR C fl_RX9_22 (fun _ _ _ => rfl) (by decide +kernel) (fun minutes_22 => ?_)
                refine x_iload C 6 (i := 7) rfl (by decide +kernel) ?_
                refine x_iconst C (n := 4) (by decide +kernel) ?_
                refine x_iremC C (by decide) (by decide) (by decide +kernel) ?_
                refine x_aldR6 C (by decide +kernel) (fun r23 => ?_)
                refine x_iload_n C 2 (i := 3) (k0 := 3) rfl rfl (by decide +kernel) ?_
                refine x_aldI C (by decide +kernel) (fun a24 => ?_)
                show X z 0 0 q15.1 115 [(0, ar this), (1, ar p0), (3, ai p2), (4, ai p3), (5, ai t13.2.1), (6, ai t13.2.2.1), (7, ai t13.2.2.2)] [ai a24] _
                refine x_istore C (i := 5) (Nat.le_of_ble_eq_true rfl) (by decide +kernel) (lv2 := [(5, ai a24), (0, ar this), (1, ar p0), (3, ai p2), (4, ai p3), (6, ai t13.2.2.1), (7, ai t13.2.2.2)]) rfl ?_
                refine x_iload C 6 (i := 7) rfl (by decide +kernel) ?_
                refine x_istore C (i := 6) (Nat.le_of_ble_eq_true rfl) (by decide +kernel) (lv2 := [(6, ai t13.2.2.2), (5, ai a24), (0, ar this), (1, ar p0), (3, ai p2), (4, ai p3), (7, ai t13.2.2.2)]) rfl ?_
                refine x_sub [2, 3, 4, 5, 1, 0, 6] (lv2 := [(0, ar this), (1, ar p0), (3, ai p2), (4, ai p3), (5, ai a24), (6, ai t13.2.2.2), (7, ai t13.2.2.2)]) rfl ?_
                exact hJ121_20 (a24, t13.2.2.2)
      · skip
        refine x_sub [1, 2, 3, 4, 5, 0] (lv2 := [(0, ar this), (1, ar p0), (2, ai p1), (3, ai p2), (4, ai p3), (5, ai 0)]) rfl ?_
        -- LOOP L_X9_fewestMinutes_25 hb25_28
        refine x_loop (T := St × Int) (fun t => t.1) (fun t => [(0, ar this), (1, ar p0), (2, ai p1), (3, ai p2), (4, ai p3), (5, ai t.2)]) (σ, 0) rfl (fun b25_28 hb25_28 t28 => ?_)
        show X z 0 0 t28.1 25 [(0, ar this), (1, ar p0), (2, ai p1), (3, ai p2), (4, ai p3), (5, ai t28.2)] [] _
        refine x_iload C 5 (i := 5) rfl (by decide +kernel) ?_
        refine x_iconst C (n := 4) (by decide +kernel) ?_
        refine x_ic_ge C (tgt := 49) (off := 21) (by decide) (by decide +kernel) (fun h34 => ?_) (fun h34 => ?_)
        · skip
          refine x_sub [0, 1, 2, 3, 4] (lv2 := [(0, ar this), (1, ar p0), (2, ai p1), (3, ai p2), (4, ai p3)]) rfl ?_
          exact hJ49_26 t28.1
        · skip
          refine x_aload_n C 0 (i := 0) (k0 := 0) rfl rfl (by decide +kernel) ?_
          refine x_gR C fl_RX9_22 (fun _ _ _ => rfl) (by decide +kernel) (fun minutes_30 => ?_)
          refine x_iload C 5 (i := 5) rfl (by decide +kernel) ?_
          refine x_aldR6 C (by decide +kernel) (fun r31 => ?_)
          refine x_ldc C (n := 100000) (v := 100000) kc_RX9_34 (by decide +kernel) (by decide +kernel) ?_
          refine x_callS C (c_J7_fill_53178 l D ca ra N t28.1 r31 100000) mt_J7_fill_53178 ms_J7_fill_53178 ml_RX9_35 rfl (fun h => Bool.noConfusion h) ⟨Nat.le_of_ble_eq_true rfl, Nat.le_of_ble_eq_true rfl⟩ (Nat.le_of_ble_eq_true rfl) 0 0 ⟨rfl, rfl⟩ ⟨Nat.zero_le _, Nat.zero_le _⟩ (by decide +kernel) _ rfl (fun q32 => []) (fun _ => rfl) (fun q32 => ?_)
          refine x_iinc C 5 (i := 5) (n := 1) (Nat.le_of_ble_eq_true rfl) rfl (by decide +kernel) (lv2 := fun x33 => [(5, ai x33), (0, ar this), (1, ar p0), (2, ai p1), (3, ai p2), (4, ai p3)]) (fun _ => rfl) (fun x33 => ?_)
          refine x_goto C (tgt := 25) (off := (-21)) (by decide) (by decide +kernel) ?_
          refine x_sub [1, 2, 3, 4, 5, 0] (lv2 := [(0, ar this), (1, ar p0), (2, ai p1), (3, ai p2), (4, ai p3), (5, ai x33)]) rfl ?_
          exact hb25_28 (q32.1, x33)
    · skip
      refine x_iconst C (n := (-1)) (by decide +kernel) ?_
      exact x_iret C ⟨Nat.zero_le _, Nat.zero_le _⟩ (by decide +kernel)

def rm_X10_forget : Room := { frames := 0, cells := 0, slots := 0, locals := 0 }
def f_X10_forget (N : Nat) (σ : St) (this : Nat) : Option (St × Int) :=
 Option.bind (pI shx σ 10 this 1 (-1)) fun σ1 =>
 some (σ1, 0)
set_option maxRecDepth 100000 in
set_option maxHeartbeats 4000000 in
theorem c_X10_forget (l : Launch) (D : va_G) (ca : Nat → ClassId) (ra : Nat → Nat) (N : Nat) (σ : St) (this : Nat) : Ctr l (D, ca, ra, shx) false yX10_forget cX10_forget 1 none rm_X10_forget σ [ar this] (f_X10_forget N σ this) := by
  refine ctr_of (by decide) (Nat.le_of_ble_eq_true rfl) (fun z C => ?_)
  show X z 0 0 σ 0 [(0, ar this)] [] _
  unfold f_X10_forget
  refine x_aload_n C 0 (i := 0) (k0 := 0) rfl rfl (by decide +kernel) ?_
  refine x_iconst C (n := (-1)) (by decide +kernel) ?_
  refine x_pI C fl_RX10_11 rfl (fun q h => by cases h; rfl) (by decide +kernel) (fun σ1 => ?_)
  exact x_vret C ⟨Nat.zero_le _, Nat.zero_le _⟩ (by decide +kernel)

def rm_X10_makerOf : Room := { frames := 1, cells := 0, slots := 0, locals := 22 }
def f_X10_makerOf (N : Nat) (σ : St) (this : Nat) (p0 : Int) : Option (St × Int) :=
 Option.bind (f_X11_within N σ p0 0 11) fun q1 =>
 (if wr q1.2 = 0 then some (σ, (-1)) else Option.bind (gR shx σ 10 this 2) fun madeBy_2 =>
 Option.bind (aI shx σ 1 madeBy_2 p0) fun a3 =>
 some (σ, a3))
set_option maxRecDepth 100000 in
set_option maxHeartbeats 4000000 in
theorem c_X10_makerOf (l : Launch) (D : va_G) (ca : Nat → ClassId) (ra : Nat → Nat) (N : Nat) (σ : St) (this : Nat) (p0 : Int) : Ctr l (D, ca, ra, shx) false yX10_makerOf cX10_makerOf 2 (some .int) rm_X10_makerOf σ [ar this, ai p0] (f_X10_makerOf N σ this p0) := by
  refine ctr_of (by decide) (Nat.le_of_ble_eq_true rfl) (fun z C => ?_)
  show X z 0 0 σ 0 [(0, ar this), (1, ai p0)] [] _
  unfold f_X10_makerOf
  refine x_iload_n C 1 (i := 1) (k0 := 1) rfl rfl (by decide +kernel) ?_
  refine x_iconst C (n := 0) (by decide +kernel) ?_
  refine x_bipush C (n := 11) (by decide +kernel) (by decide +kernel) ?_
  refine x_callSNp C (c_X11_within l D ca ra N σ p0 0 11) (p_X11_within N σ p0 0 11) mt_X11_within ms_X11_within (List.mem_of_getElem? (i := 17) rfl) rfl (fun h => Bool.noConfusion h) ⟨Nat.le_of_ble_eq_true rfl, Nat.le_of_ble_eq_true rfl⟩ (Nat.le_of_ble_eq_true rfl) 0 0 ⟨rfl, rfl⟩ ⟨Nat.zero_le _, Nat.zero_le _⟩ (by decide +kernel) _ rfl (fun q1 => [ai q1.2]) (fun _ => rfl) (fun q1 => ?_)
  refine x_if_eq C (tgt := 19) (off := 12) (by decide) (by decide +kernel) (fun h4 => ?_) (fun h4 => ?_)
  · skip
    refine x_iconst C (n := (-1)) (by decide +kernel) ?_
    exact x_iret C ⟨Nat.zero_le _, Nat.zero_le _⟩ (by decide +kernel)
  · skip
    refine x_aload_n C 0 (i := 0) (k0 := 0) rfl rfl (by decide +kernel) ?_
    refine x_gR C fl_RX10_17 (fun _ _ _ => rfl) (by decide +kernel) (fun madeBy_2 => ?_)
    refine x_iload_n C 1 (i := 1) (k0 := 1) rfl rfl (by decide +kernel) ?_
    refine x_aldI C (by decide +kernel) (fun a3 => ?_)
    refine x_goto C (tgt := 20) (off := 4) (by decide) (by decide +kernel) ?_
    exact x_iret C ⟨Nat.zero_le _, Nat.zero_le _⟩ (by decide +kernel)
theorem p_X10_makerOf (N : Nat) (σ : St) (this : Nat) (p0 : Int) : Pu σ (f_X10_makerOf N σ this p0) := by
  unfold f_X10_makerOf
  refine pu_bind (fun _ => ?_)
  refine pu_if ?_ ?_
  · skip
    exact pu_some
  · skip
    refine pu_bind (fun _ => ?_)
    refine pu_bind (fun _ => ?_)
    exact pu_some

def L_X10_mostWithin_22 (N : Nat) (σ : St) (this : Nat) (p0 : Int) : (Int × Int) → Option (St × Int) := fixN N fun b22_3 t3 =>
 (if wr t3.2 < wr 12 then Lt (shlZ 1 t3.2) fun x5 =>
 Jn (fun t6 : Int => Lt (t3.2 + 1) fun x7 =>
 b22_3 (t6, x7)) fun J56_7 =>
 (if wr (andZ p0 x5) = 0 then J56_7 t3.1 else Option.bind (gR shx σ 10 this 4) fun most_9 =>
 Option.bind (aI shx σ 1 most_9 (p0 - x5)) fun a10 =>
 Lt (mxZ t3.1 a10) fun x11 =>
 J56_7 x11) else some (σ, t3.1))
def rm_X10_mostWithin : Room := { frames := 1, cells := 0, slots := 0, locals := 21 }
def f_X10_mostWithin (N : Nat) (σ : St) (this : Nat) (p0 : Int) (p1 : Int) : Option (St × Int) :=
 Option.bind (gR shx σ 10 this 3) fun sum_1 =>
 Option.bind (aI shx σ 1 sum_1 p0) fun a2 =>
 (if wr p1 < wr a2 then L_X10_mostWithin_22 N σ this p0 (0, 0) else Option.bind (gR shx σ 10 this 3) fun sum_14 =>
 Option.bind (aI shx σ 1 sum_14 p0) fun a15 =>
 some (σ, a15))
set_option maxRecDepth 100000 in
set_option maxHeartbeats 4000000 in
theorem c_X10_mostWithin (l : Launch) (D : va_G) (ca : Nat → ClassId) (ra : Nat → Nat) (N : Nat) (σ : St) (this : Nat) (p0 : Int) (p1 : Int) : Ctr l (D, ca, ra, shx) false yX10_mostWithin cX10_mostWithin 6 (some .int) rm_X10_mostWithin σ [ar this, ai p0, ai p1] (f_X10_mostWithin N σ this p0 p1) := by
  refine ctr_of (by decide) (Nat.le_of_ble_eq_true rfl) (fun z C => ?_)
  show X z 0 0 σ 0 [(0, ar this), (1, ai p0), (2, ai p1)] [] _
  unfold f_X10_mostWithin
  refine x_aload_n C 0 (i := 0) (k0 := 0) rfl rfl (by decide +kernel) ?_
  refine x_gR C fl_RX10_21 (fun _ _ _ => rfl) (by decide +kernel) (fun sum_1 => ?_)
  refine x_iload_n C 1 (i := 1) (k0 := 1) rfl rfl (by decide +kernel) ?_
  refine x_aldI C (by decide +kernel) (fun a2 => ?_)
  refine x_iload_n C 2 (i := 2) (k0 := 2) rfl rfl (by decide +kernel) ?_
  refine x_ic_gt C (tgt := 17) (off := 10) (by decide) (by decide +kernel) (fun h16 => ?_) (fun h16 => ?_)
  · skip
    refine x_iconst C (n := 0) (by decide +kernel) ?_
    refine x_istore_n C (i := 3) (k0 := 3) rfl (Nat.le_of_ble_eq_true rfl) (by decide +kernel) (lv2 := [(3, ai 0), (0, ar this), (1, ai p0), (2, ai p1)]) rfl ?_
    refine x_iconst C (n := 0) (by decide +kernel) ?_
    refine x_istore C (i := 4) (Nat.le_of_ble_eq_true rfl) (by decide +kernel) (lv2 := [(4, ai 0), (3, ai 0), (0, ar this), (1, ai p0), (2, ai p1)]) rfl ?_
    refine x_sub [2, 3, 1, 0] (lv2 := [(0, ar this), (1, ai p0), (3, ai 0), (4, ai 0)]) rfl ?_
    -- LOOP L_X10_mostWithin_22 hb22_3
    refine x_loop (T := Int × Int) (fun t => σ) (fun t => [(0, ar this), (1, ai p0), (3, ai t.1), (4, ai t.2)]) (0, 0) rfl (fun b22_3 hb22_3 t3 => ?_)
    show X z 0 0 σ 22 [(0, ar this), (1, ai p0), (3, ai t3.1), (4, ai t3.2)] [] _
    refine x_iload C 3 (i := 4) rfl (by decide +kernel) ?_
    refine x_bipush C (n := 12) (by decide +kernel) (by decide +kernel) ?_
    refine x_ic_ge C (tgt := 62) (off := 36) (by decide) (by decide +kernel) (fun h13 => ?_) (fun h13 => ?_)
    · skip
      refine x_iload_n C 2 (i := 3) (k0 := 3) rfl rfl (by decide +kernel) ?_
      exact x_iret C ⟨Nat.zero_le _, Nat.zero_le _⟩ (by decide +kernel)
    · skip
      refine x_iconst C (n := 1) (by decide +kernel) ?_
      refine x_iload C 3 (i := 4) rfl (by decide +kernel) ?_
      refine x_ishl C (by decide +kernel) ?_
      refine x_istoreL C (i := 5) (Nat.le_of_ble_eq_true rfl) (by decide +kernel) (lv2 := fun x5 => [(5, ai x5), (0, ar this), (1, ai p0), (3, ai t3.1), (4, ai t3.2)]) (fun _ => rfl) (fun x5 => ?_)
      refine x_iload_n C 2 (i := 1) (k0 := 1) rfl rfl (by decide +kernel) ?_
      refine x_iload C 0 (i := 5) rfl (by decide +kernel) ?_
      refine x_iand C (by decide +kernel) ?_
      refine x_join (T := Int) (fun t => σ) 56 (fun t => [(0, ar this), (1, ai p0), (3, ai t), (4, ai t3.2)]) (fun t => []) (fun t6 => ?_) (fun J56_7 hJ56_7 => ?_)
      · show X z 0 0 σ 56 [(0, ar this), (1, ai p0), (3, ai t6), (4, ai t3.2)] [] _
        refine x_iinc C 3 (i := 4) (n := 1) (Nat.le_of_ble_eq_true rfl) rfl (by decide +kernel) (lv2 := fun x7 => [(4, ai x7), (0, ar this), (1, ai p0), (3, ai t6)]) (fun _ => rfl) (fun x7 => ?_)
        refine x_goto C (tgt := 22) (off := (-37)) (by decide) (by decide +kernel) ?_
        refine x_sub [1, 2, 3, 0] (lv2 := [(0, ar this), (1, ai p0), (3, ai t6), (4, ai x7)]) rfl ?_
        exact hb22_3 (t6, x7)
      · skip
        refine x_if_eq C (tgt := 56) (off := 17) (by decide) (by decide +kernel) (fun h12 => ?_) (fun h12 => ?_)
        · skip
          refine x_sub [1, 2, 3, 4] (lv2 := [(0, ar this), (1, ai p0), (3, ai t3.1), (4, ai t3.2)]) rfl ?_
          exact hJ56_7 t3.1
        · skip
          refine x_iload_n C 3 (i := 3) (k0 := 3) rfl rfl (by decide +kernel) ?_
          refine x_aload_n C 1 (i := 0) (k0 := 0) rfl rfl (by decide +kernel) ?_
          refine x_gR C fl_RX10_24 (fun _ _ _ => rfl) (by decide +kernel) (fun most_9 => ?_)
          refine x_iload_n C 2 (i := 1) (k0 := 1) rfl rfl (by decide +kernel) ?_
          refine x_iload C 0 (i := 5) rfl (by decide +kernel) ?_
          refine x_isub C (by decide +kernel) ?_
          refine x_aldI C (by decide +kernel) (fun a10 => ?_)
          refine x_max C mth_max ml_RX10_52 ⟨Nat.le_of_ble_eq_true rfl, Nat.le_of_ble_eq_true rfl⟩ ⟨Nat.zero_le _, Nat.zero_le _⟩ (by decide +kernel) ?_
          show X z 0 0 σ 55 [(5, ai x5), (0, ar this), (1, ai p0), (3, ai t3.1), (4, ai t3.2)] [ai (mxZ t3.1 a10)] _
          refine x_istore_nL C (i := 3) (k0 := 3) rfl (Nat.le_of_ble_eq_true rfl) (by decide +kernel) (lv2 := fun x11 => [(3, ai x11), (5, ai x5), (0, ar this), (1, ai p0), (4, ai t3.2)]) (fun _ => rfl) (fun x11 => ?_)
          refine x_sub [2, 3, 0, 4] (lv2 := [(0, ar this), (1, ai p0), (3, ai x11), (4, ai t3.2)]) rfl ?_
          exact hJ56_7 x11
  · skip
    refine x_aload_n C 0 (i := 0) (k0 := 0) rfl rfl (by decide +kernel) ?_
    refine x_gR C fl_RX10_21 (fun _ _ _ => rfl) (by decide +kernel) (fun sum_14 => ?_)
    refine x_iload_n C 1 (i := 1) (k0 := 1) rfl rfl (by decide +kernel) ?_
    refine x_aldI C (by decide +kernel) (fun a15 => ?_)
    exact x_iret C ⟨Nat.zero_le _, Nat.zero_le _⟩ (by decide +kernel)
theorem p_X10_mostWithin (N : Nat) (σ : St) (this : Nat) (p0 : Int) (p1 : Int) : Pu σ (f_X10_mostWithin N σ this p0 p1) := by
  unfold f_X10_mostWithin
  refine pu_bind (fun _ => ?_)
  refine pu_bind (fun _ => ?_)
  refine pu_if ?_ ?_
  · skip
    unfold L_X10_mostWithin_22
    refine pu_fix (fun _ hb22_3 _ => ?_) _
    refine pu_ifs ?_ ?_
    · skip
      exact pu_some
    · skip
      refine pu_Lt (fun _ => ?_)
      refine pu_Jn (fun _ => ?_) (fun _ hJ56_7 => ?_)
      · skip
        refine pu_Lt (fun _ => ?_)
        exact hb22_3 _
      · skip
        refine pu_if ?_ ?_
        · skip
          exact hJ56_7 _
        · skip
          refine pu_bind (fun _ => ?_)
          refine pu_bind (fun _ => ?_)
          refine pu_Lt (fun _ => ?_)
          exact hJ56_7 _
  · skip
    refine pu_bind (fun _ => ?_)
    refine pu_bind (fun _ => ?_)
    exact pu_some

def L_X10_mostAlone_128 (N : Nat) (this : Nat) (p2 : Int) (t5 : St × Int) (t6 : St) : (Int × Int) → Option (St × Int) := fixN N fun b128_7 t7 =>
 (if wr t7.2 < wr t5.2 then Option.bind (gR shx t6 10 this 3) fun sum_9 =>
 Option.bind (aI shx t6 1 sum_9 t7.2) fun a10 =>
 Jn (fun t11 : Int => Lt (t7.2 + 1) fun x12 =>
 b128_7 (t11, x12)) fun J173_12 =>
 (if wr p2 < wr a10 then J173_12 t7.1 else Option.bind (gR shx t6 10 this 3) fun sum_14 =>
 Option.bind (aI shx t6 1 sum_14 t7.2) fun a15 =>
 Option.bind (gR shx t6 10 this 4) fun most_16 =>
 Option.bind (aI shx t6 1 most_16 ((t5.2 - 1) - t7.2)) fun a17 =>
 Lt (mxZ t7.1 (a15 + a17)) fun x18 =>
 J173_12 x18) else some (t6, t7.1))
def L_X10_mostAlone_97 (N : Nat) (this : Nat) (p3 : Int) (t5 : St × Int) (J125_20 : (St → Option (St × Int))) : (St × Int) → Option (St × Int) := fixN N fun b97_22 t22 =>
 (if wr t22.2 < wr t5.2 then Option.bind (gR shx t22.1 10 this 4) fun most_24 =>
 Option.bind (rcv shx t22.1 10 this (f_X10_mostWithin N t22.1 this t22.2 p3)) fun q25 =>
 Option.bind (sI shx t22.1 1 most_24 t22.2 q25.2) fun σ26 =>
 Lt (t22.2 + 1) fun x27 =>
 b97_22 (σ26, x27) else J125_20 t22.1)
def L_X10_mostAlone_40 (N : Nat) (this : Nat) (p0 : Nat) (t30 : St × Int × Int) (J78_35 : (St → Option (St × Int))) : (St × Int) → Option (St × Int) := fixN N fun b40_37 t37 =>
 (if wr t37.2 < wr t30.2.1 then Option.bind (gR shx t37.1 10 this 3) fun sum_39 =>
 Option.bind (gR shx t37.1 10 this 3) fun sum_40 =>
 Option.bind (aI shx t37.1 1 sum_40 t37.2) fun a41 =>
 Option.bind (gR shx t37.1 3 p0 6) fun costs_42 =>
 Option.bind (aI shx t37.1 1 costs_42 t30.2.2) fun a43 =>
 Option.bind (sI shx t37.1 1 sum_39 (t30.2.1 + t37.2) (a41 + a43)) fun σ44 =>
 Lt (t37.2 + 1) fun x45 =>
 b40_37 (σ44, x45) else J78_35 t37.1)
def L_X10_mostAlone_20 (N : Nat) (this : Nat) (p0 : Nat) (J91_28 : (St × Int → Option (St × Int))) : (St × Int × Int) → Option (St × Int) := fixN N fun b20_30 t30 =>
 Option.bind (gI shx t30.1 3 p0 1) fun parts_32 =>
 (if wr t30.2.2 < wr parts_32 then (if wr t30.2.1 < wr 4096 then Jn (fun t33 : St => Lt (t30.2.1 + t30.2.1) fun x34 =>
 Lt (t30.2.2 + 1) fun x35 =>
 b20_30 (t33, x34, x35)) fun J78_35 =>
 L_X10_mostAlone_40 N this p0 t30 J78_35 (t30.1, 0) else J91_28 (t30.1, t30.2.1)) else J91_28 (t30.1, t30.2.1))
def rm_X10_mostAlone : Room := { frames := 2, cells := 0, slots := 0, locals := 46 }
def f_X10_mostAlone (N : Nat) (σ : St) (this : Nat) (p0 : Nat) (p1 : Int) (p2 : Int) (p3 : Int) : Option (St × Int) :=
 Option.bind (gR shx σ 10 this 3) fun sum_1 =>
 Option.bind (sI shx σ 1 sum_1 0 0) fun σ2 =>
 Option.bind (gR shx σ2 10 this 4) fun most_3 =>
 Option.bind (sI shx σ2 1 most_3 0 0) fun σ4 =>
 Jn (fun t5 : St × Int => Jn (fun t6 : St => L_X10_mostAlone_128 N this p2 t5 t6 (0, 0)) fun J125_20 =>
 L_X10_mostAlone_97 N this p3 t5 J125_20 (t5.1, 0)) fun J91_28 =>
 L_X10_mostAlone_20 N this p0 J91_28 (σ4, 1, p1)
set_option maxRecDepth 100000 in
set_option maxHeartbeats 4000000 in
theorem c_X10_mostAlone (l : Launch) (D : va_G) (ca : Nat → ClassId) (ra : Nat → Nat) (N : Nat) (σ : St) (this : Nat) (p0 : Nat) (p1 : Int) (p2 : Int) (p3 : Int) : Ctr l (D, ca, ra, shx) false yX10_mostAlone cX10_mostAlone 8 (some .int) rm_X10_mostAlone σ [ar this, ar p0, ai p1, ai p2, ai p3] (f_X10_mostAlone N σ this p0 p1 p2 p3) := by
  refine ctr_of (by decide) (Nat.le_of_ble_eq_true rfl) (fun z C => ?_)
  show X z 0 0 σ 0 [(0, ar this), (1, ar p0), (2, ai p1), (3, ai p2), (4, ai p3)] [] _
  unfold f_X10_mostAlone
  refine x_iconst C (n := 1) (by decide +kernel) ?_
  refine x_istore C (i := 5) (Nat.le_of_ble_eq_true rfl) (by decide +kernel) (lv2 := [(5, ai 1), (0, ar this), (1, ar p0), (2, ai p1), (3, ai p2), (4, ai p3)]) rfl ?_
  refine x_aload_n C 1 (i := 0) (k0 := 0) rfl rfl (by decide +kernel) ?_
  refine x_gR C fl_RX10_21 (fun _ _ _ => rfl) (by decide +kernel) (fun sum_1 => ?_)
  refine x_iconst C (n := 0) (by decide +kernel) ?_
  refine x_iconst C (n := 0) (by decide +kernel) ?_
  refine x_astI C (by decide +kernel) (fun σ2 => ?_)
  refine x_aload_n C 1 (i := 0) (k0 := 0) rfl rfl (by decide +kernel) ?_
  show X z 0 0 σ2 11 [(5, ai 1), (0, ar this), (1, ar p0), (2, ai p1), (3, ai p2), (4, ai p3)] [ar this] _
  refine x_gR C fl_RX10_24 (fun _ _ _ => rfl) (by decide +kernel) (fun most_3 => ?_)
  refine x_iconst C (n := 0) (by decide +kernel) ?_
  refine x_iconst C (n := 0) (by decide +kernel) ?_
  refine x_astI C (by decide +kernel) (fun σ4 => ?_)
  refine x_iload_n C 3 (i := 2) (k0 := 2) rfl rfl (by decide +kernel) ?_
  refine x_istore C (i := 6) (Nat.le_of_ble_eq_true rfl) (by decide +kernel) (lv2 := [(6, ai p1), (5, ai 1), (0, ar this), (1, ar p0), (2, ai p1), (3, ai p2), (4, ai p3)]) rfl ?_
  refine x_join (T := St × Int) (fun t => t.1) 91 (fun t => [(0, ar this), (3, ai p2), (4, ai p3), (5, ai t.2)]) (fun t => []) (fun t5 => ?_) (fun J91_28 hJ91_28 => ?_)
  · show X z 0 0 t5.1 91 [(0, ar this), (3, ai p2), (4, ai p3), (5, ai t5.2)] [] _
    refine x_iconst C (n := 0) (by decide +kernel) ?_
    refine x_istore C (i := 6) (Nat.le_of_ble_eq_true rfl) (by decide +kernel) (lv2 := [(6, ai 0), (0, ar this), (3, ai p2), (4, ai p3), (5, ai t5.2)]) rfl ?_
    refine x_iconst C (n := 0) (by decide +kernel) ?_
    refine x_istore C (i := 7) (Nat.le_of_ble_eq_true rfl) (by decide +kernel) (lv2 := [(7, ai 0), (6, ai 0), (0, ar this), (3, ai p2), (4, ai p3), (5, ai t5.2)]) rfl ?_
    refine x_join (T := St) (fun t => t) 125 (fun t => [(0, ar this), (3, ai p2), (5, ai t5.2), (6, ai 0)]) (fun t => []) (fun t6 => ?_) (fun J125_20 hJ125_20 => ?_)
    · show X z 0 0 t6 125 [(0, ar this), (3, ai p2), (5, ai t5.2), (6, ai 0)] [] _
      refine x_iconst C (n := 0) (by decide +kernel) ?_
      refine x_istore C (i := 7) (Nat.le_of_ble_eq_true rfl) (by decide +kernel) (lv2 := [(7, ai 0), (0, ar this), (3, ai p2), (5, ai t5.2), (6, ai 0)]) rfl ?_
      refine x_sub [1, 2, 3, 4, 0] (lv2 := [(0, ar this), (3, ai p2), (5, ai t5.2), (6, ai 0), (7, ai 0)]) rfl ?_
      -- LOOP L_X10_mostAlone_128 hb128_7
      refine x_loop (T := Int × Int) (fun t => t6) (fun t => [(0, ar this), (3, ai p2), (5, ai t5.2), (6, ai t.1), (7, ai t.2)]) (0, 0) rfl (fun b128_7 hb128_7 t7 => ?_)
      show X z 0 0 t6 128 [(0, ar this), (3, ai p2), (5, ai t5.2), (6, ai t7.1), (7, ai t7.2)] [] _
      refine x_iload C 4 (i := 7) rfl (by decide +kernel) ?_
      refine x_iload C 2 (i := 5) rfl (by decide +kernel) ?_
      refine x_ic_ge C (tgt := 179) (off := 47) (by decide) (by decide +kernel) (fun h20 => ?_) (fun h20 => ?_)
      · skip
        refine x_iload C 3 (i := 6) rfl (by decide +kernel) ?_
        exact x_iret C ⟨Nat.zero_le _, Nat.zero_le _⟩ (by decide +kernel)
      · skip
        refine x_aload_n C 0 (i := 0) (k0 := 0) rfl rfl (by decide +kernel) ?_
        refine x_gR C fl_RX10_21 (fun _ _ _ => rfl) (by decide +kernel) (fun sum_9 => ?_)
        refine x_iload C 4 (i := 7) rfl (by decide +kernel) ?_
        refine x_aldI C (by decide +kernel) (fun a10 => ?_)
        refine x_iload_n C 1 (i := 3) (k0 := 3) rfl rfl (by decide +kernel) ?_
        refine x_join (T := Int) (fun t => t6) 173 (fun t => [(0, ar this), (3, ai p2), (5, ai t5.2), (6, ai t), (7, ai t7.2)]) (fun t => []) (fun t11 => ?_) (fun J173_12 hJ173_12 => ?_)
        · show X z 0 0 t6 173 [(0, ar this), (3, ai p2), (5, ai t5.2), (6, ai t11), (7, ai t7.2)] [] _
          refine x_iinc C 4 (i := 7) (n := 1) (Nat.le_of_ble_eq_true rfl) rfl (by decide +kernel) (lv2 := fun x12 => [(7, ai x12), (0, ar this), (3, ai p2), (5, ai t5.2), (6, ai t11)]) (fun _ => rfl) (fun x12 => ?_)
          refine x_goto C (tgt := 128) (off := (-48)) (by decide) (by decide +kernel) ?_
          refine x_sub [1, 2, 3, 4, 0] (lv2 := [(0, ar this), (3, ai p2), (5, ai t5.2), (6, ai t11), (7, ai x12)]) rfl ?_
          exact hb128_7 (t11, x12)
        · skip
          refine x_ic_gt C (tgt := 173) (off := 30) (by decide) (by decide +kernel) (fun h19 => ?_) (fun h19 => ?_)
          · skip
            exact hJ173_12 t7.1
          · skip
            refine x_iload C 3 (i := 6) rfl (by decide +kernel) ?_
            refine x_aload_n C 0 (i := 0) (k0 := 0) rfl rfl (by decide +kernel) ?_
            refine x_gR C fl_RX10_21 (fun _ _ _ => rfl) (by decide +kernel) (fun sum_14 => ?_)
            refine x_iload C 4 (i := 7) rfl (by decide +kernel) ?_
            refine x_aldI C (by decide +kernel) (fun a15 => ?_)
            refine x_aload_n C 0 (i := 0) (k0 := 0) rfl rfl (by decide +kernel) ?_
            refine x_gR C fl_RX10_24 (fun _ _ _ => rfl) (by decide +kernel) (fun most_16 => ?_)
            refine x_iload C 2 (i := 5) rfl (by decide +kernel) ?_
            show X z 0 0 t6 161 [(0, ar this), (3, ai p2), (5, ai t5.2), (6, ai t7.1), (7, ai t7.2)] [ai t5.2, ar most_16, ai a15, ai t7.1] _
            refine x_iconst C (n := 1) (by decide +kernel) ?_
            refine x_isub C (by decide +kernel) ?_
            refine x_iload C 4 (i := 7) rfl (by decide +kernel) ?_
            refine x_isub C (by decide +kernel) ?_
            refine x_aldI C (by decide +kernel) (fun a17 => ?_)
            refine x_iadd C (by decide +kernel) ?_
            refine x_max C mth_max ml_RX10_52 ⟨Nat.le_of_ble_eq_true rfl, Nat.le_of_ble_eq_true rfl⟩ ⟨Nat.zero_le _, Nat.zero_le _⟩ (by decide +kernel) ?_
            refine x_istoreL C (i := 6) (Nat.le_of_ble_eq_true rfl) (by decide +kernel) (lv2 := fun x18 => [(6, ai x18), (0, ar this), (3, ai p2), (5, ai t5.2), (7, ai t7.2)]) (fun _ => rfl) (fun x18 => ?_)
            show X z 0 0 t6 173 [(6, ai x18), (0, ar this), (3, ai p2), (5, ai t5.2), (7, ai t7.2)] [] _
            refine x_sub [1, 2, 3, 0, 4] (lv2 := [(0, ar this), (3, ai p2), (5, ai t5.2), (6, ai x18), (7, ai t7.2)]) rfl ?_
            exact hJ173_12 x18
    · skip
      refine x_sub [2, 3, 4, 5, 1, 0] (lv2 := [(0, ar this), (3, ai p2), (4, ai p3), (5, ai t5.2), (6, ai 0), (7, ai 0)]) rfl ?_
      -- LOOP L_X10_mostAlone_97 hb97_22
      refine x_loop (T := St × Int) (fun t => t.1) (fun t => [(0, ar this), (3, ai p2), (4, ai p3), (5, ai t5.2), (6, ai 0), (7, ai t.2)]) (t5.1, 0) rfl (fun b97_22 hb97_22 t22 => ?_)
      show X z 0 0 t22.1 97 [(0, ar this), (3, ai p2), (4, ai p3), (5, ai t5.2), (6, ai 0), (7, ai t22.2)] [] _
      refine x_iload C 5 (i := 7) rfl (by decide +kernel) ?_
      refine x_iload C 3 (i := 5) rfl (by decide +kernel) ?_
      refine x_ic_ge C (tgt := 125) (off := 24) (by decide) (by decide +kernel) (fun h28 => ?_) (fun h28 => ?_)
      · skip
        refine x_sub [0, 1, 3, 4] (lv2 := [(0, ar this), (3, ai p2), (5, ai t5.2), (6, ai 0)]) rfl ?_
        exact hJ125_20 t22.1
      · skip
        refine x_aload_n C 0 (i := 0) (k0 := 0) rfl rfl (by decide +kernel) ?_
        refine x_gR C fl_RX10_24 (fun _ _ _ => rfl) (by decide +kernel) (fun most_24 => ?_)
        refine x_iload C 5 (i := 7) rfl (by decide +kernel) ?_
        refine x_aload_n C 0 (i := 0) (k0 := 0) rfl rfl (by decide +kernel) ?_
        refine x_iload C 5 (i := 7) rfl (by decide +kernel) ?_
        refine x_iload C 2 (i := 4) rfl (by decide +kernel) ?_
        refine x_callVp C (ci := 10) (c_X10_mostWithin l D ca ra N t22.1 this t22.2 p3) (p_X10_mostWithin N t22.1 this t22.2 p3) mt_X10_mostWithin mv_X10_mostWithin rfl ml_RX10_48 rfl (fun h => Bool.noConfusion h) ⟨Nat.le_of_ble_eq_true rfl, Nat.le_of_ble_eq_true rfl⟩ (Nat.le_of_ble_eq_true rfl) 0 0 ⟨rfl, rfl⟩ ⟨Nat.zero_le _, Nat.zero_le _⟩ (by decide +kernel) _ rfl (fun q25 => [ai q25.2, ai t22.2, ar most_24]) (fun _ => rfl) (fun q25 => ?_)
        refine x_astI C (by decide +kernel) (fun σ26 => ?_)
        show X z 0 0 σ26 119 [(0, ar this), (3, ai p2), (4, ai p3), (5, ai t5.2), (6, ai 0), (7, ai t22.2)] [] _
        refine x_iinc C 5 (i := 7) (n := 1) (Nat.le_of_ble_eq_true rfl) rfl (by decide +kernel) (lv2 := fun x27 => [(7, ai x27), (0, ar this), (3, ai p2), (4, ai p3), (5, ai t5.2), (6, ai 0)]) (fun _ => rfl) (fun x27 => ?_)
        refine x_goto C (tgt := 97) (off := (-25)) (by decide) (by decide +kernel) ?_
        refine x_sub [1, 2, 3, 4, 5, 0] (lv2 := [(0, ar this), (3, ai p2), (4, ai p3), (5, ai t5.2), (6, ai 0), (7, ai x27)]) rfl ?_
        exact hb97_22 (σ26, x27)
  · skip
    refine x_sub [2, 3, 5, 6, 1, 0] (lv2 := [(0, ar this), (1, ar p0), (3, ai p2), (4, ai p3), (5, ai 1), (6, ai p1)]) rfl ?_
    -- LOOP L_X10_mostAlone_20 hb20_30
    refine x_loop (T := St × Int × Int) (fun t => t.1) (fun t => [(0, ar this), (1, ar p0), (3, ai p2), (4, ai p3), (5, ai t.2.1), (6, ai t.2.2)]) (σ4, 1, p1) rfl (fun b20_30 hb20_30 t30 => ?_)
    show X z 0 0 t30.1 20 [(0, ar this), (1, ar p0), (3, ai p2), (4, ai p3), (5, ai t30.2.1), (6, ai t30.2.2)] [] _
    refine x_iload C 5 (i := 6) rfl (by decide +kernel) ?_
    refine x_aload_n C 1 (i := 1) (k0 := 1) rfl rfl (by decide +kernel) ?_
    refine x_gI C fl_RX10_31 (fun _ _ _ => rfl) (by decide +kernel) (fun parts_32 => ?_)
    refine x_ic_ge C (tgt := 91) (off := 65) (by decide) (by decide +kernel) (fun h48 => ?_) (fun h48 => ?_)
    · skip
      refine x_sub [0, 2, 3, 4] (lv2 := [(0, ar this), (3, ai p2), (4, ai p3), (5, ai t30.2.1)]) rfl ?_
      exact hJ91_28 (t30.1, t30.2.1)
    · skip
      refine x_iload C 4 (i := 5) rfl (by decide +kernel) ?_
      refine x_sipush C (n := 4096) (by decide +kernel) (by decide +kernel) ?_
      refine x_ic_ge C (tgt := 91) (off := 57) (by decide) (by decide +kernel) (fun h47 => ?_) (fun h47 => ?_)
      · skip
        refine x_sub [0, 2, 3, 4] (lv2 := [(0, ar this), (3, ai p2), (4, ai p3), (5, ai t30.2.1)]) rfl ?_
        exact hJ91_28 (t30.1, t30.2.1)
      · skip
        refine x_iconst C (n := 0) (by decide +kernel) ?_
        refine x_istore C (i := 7) (Nat.le_of_ble_eq_true rfl) (by decide +kernel) (lv2 := [(7, ai 0), (0, ar this), (1, ar p0), (3, ai p2), (4, ai p3), (5, ai t30.2.1), (6, ai t30.2.2)]) rfl ?_
        refine x_join (T := St) (fun t => t) 78 (fun t => [(0, ar this), (1, ar p0), (3, ai p2), (4, ai p3), (5, ai t30.2.1), (6, ai t30.2.2)]) (fun t => []) (fun t33 => ?_) (fun J78_35 hJ78_35 => ?_)
        · show X z 0 0 t33 78 [(0, ar this), (1, ar p0), (3, ai p2), (4, ai p3), (5, ai t30.2.1), (6, ai t30.2.2)] [] _
          refine x_iload C 4 (i := 5) rfl (by decide +kernel) ?_
          refine x_iload C 4 (i := 5) rfl (by decide +kernel) ?_
          refine x_iadd C (by decide +kernel) ?_
          refine x_istoreL C (i := 5) (Nat.le_of_ble_eq_true rfl) (by decide +kernel) (lv2 := fun x34 => [(5, ai x34), (0, ar this), (1, ar p0), (3, ai p2), (4, ai p3), (6, ai t30.2.2)]) (fun _ => rfl) (fun x34 => ?_)
          refine x_iinc C 5 (i := 6) (n := 1) (Nat.le_of_ble_eq_true rfl) rfl (by decide +kernel) (lv2 := fun x35 => [(6, ai x35), (5, ai x34), (0, ar this), (1, ar p0), (3, ai p2), (4, ai p3)]) (fun _ => rfl) (fun x35 => ?_)
          refine x_goto C (tgt := 20) (off := (-68)) (by decide) (by decide +kernel) ?_
          refine x_sub [2, 3, 4, 5, 1, 0] (lv2 := [(0, ar this), (1, ar p0), (3, ai p2), (4, ai p3), (5, ai x34), (6, ai x35)]) rfl ?_
          exact hb20_30 (t33, x34, x35)
        · skip
          refine x_sub [1, 2, 3, 4, 5, 6, 0] (lv2 := [(0, ar this), (1, ar p0), (3, ai p2), (4, ai p3), (5, ai t30.2.1), (6, ai t30.2.2), (7, ai 0)]) rfl ?_
          -- LOOP L_X10_mostAlone_40 hb40_37
          refine x_loop (T := St × Int) (fun t => t.1) (fun t => [(0, ar this), (1, ar p0), (3, ai p2), (4, ai p3), (5, ai t30.2.1), (6, ai t30.2.2), (7, ai t.2)]) (t30.1, 0) rfl (fun b40_37 hb40_37 t37 => ?_)
          show X z 0 0 t37.1 40 [(0, ar this), (1, ar p0), (3, ai p2), (4, ai p3), (5, ai t30.2.1), (6, ai t30.2.2), (7, ai t37.2)] [] _
          refine x_iload C 6 (i := 7) rfl (by decide +kernel) ?_
          refine x_iload C 4 (i := 5) rfl (by decide +kernel) ?_
          refine x_ic_ge C (tgt := 78) (off := 34) (by decide) (by decide +kernel) (fun h46 => ?_) (fun h46 => ?_)
          · skip
            refine x_sub [0, 1, 2, 3, 4, 5] (lv2 := [(0, ar this), (1, ar p0), (3, ai p2), (4, ai p3), (5, ai t30.2.1), (6, ai t30.2.2)]) rfl ?_
            exact hJ78_35 t37.1
          · skip
            refine x_aload_n C 0 (i := 0) (k0 := 0) rfl rfl (by decide +kernel) ?_
            refine x_gR C fl_RX10_21 (fun _ _ _ => rfl) (by decide +kernel) (fun sum_39 => ?_)
            refine x_iload C 4 (i := 5) rfl (by decide +kernel) ?_
            refine x_iload C 6 (i := 7) rfl (by decide +kernel) ?_
            refine x_iadd C (by decide +kernel) ?_
            refine x_aload_n C 0 (i := 0) (k0 := 0) rfl rfl (by decide +kernel) ?_
            refine x_gR C fl_RX10_21 (fun _ _ _ => rfl) (by decide +kernel) (fun sum_40 => ?_)
            refine x_iload C 6 (i := 7) rfl (by decide +kernel) ?_
            show X z 0 0 t37.1 62 [(0, ar this), (1, ar p0), (3, ai p2), (4, ai p3), (5, ai t30.2.1), (6, ai t30.2.2), (7, ai t37.2)] [ai t37.2, ar sum_40, ai (t30.2.1 + t37.2), ar sum_39] _
            refine x_aldI C (by decide +kernel) (fun a41 => ?_)
            refine x_aload_n C 1 (i := 1) (k0 := 1) rfl rfl (by decide +kernel) ?_
            refine x_gR C fl_RX10_34 (fun _ _ _ => rfl) (by decide +kernel) (fun costs_42 => ?_)
            refine x_iload C 5 (i := 6) rfl (by decide +kernel) ?_
            refine x_aldI C (by decide +kernel) (fun a43 => ?_)
            refine x_iadd C (by decide +kernel) ?_
            refine x_astI C (by decide +kernel) (fun σ44 => ?_)
            refine x_iinc C 6 (i := 7) (n := 1) (Nat.le_of_ble_eq_true rfl) rfl (by decide +kernel) (lv2 := fun x45 => [(7, ai x45), (0, ar this), (1, ar p0), (3, ai p2), (4, ai p3), (5, ai t30.2.1), (6, ai t30.2.2)]) (fun _ => rfl) (fun x45 => ?_)
            show X z 0 0 σ44 75 [(7, ai x45), (0, ar this), (1, ar p0), (3, ai p2), (4, ai p3), (5, ai t30.2.1), (6, ai t30.2.2)] [] _
            refine x_goto C (tgt := 40) (off := (-35)) (by decide) (by decide +kernel) ?_
            refine x_sub [1, 2, 3, 4, 5, 6, 0] (lv2 := [(0, ar this), (1, ar p0), (3, ai p2), (4, ai p3), (5, ai t30.2.1), (6, ai t30.2.2), (7, ai x45)]) rfl ?_
            exact hb40_37 (σ44, x45)

def L_X10_choose_12 (N : Nat) (this : Nat) (p0 : Nat) : (St × Int × Int × Int × Int) → Option (St × Int) := fixN N fun b12_1 t1 =>
 Option.bind (gI shx t1.1 3 p0 1) fun parts_3 =>
 (if wr t1.2.2.2.2 < wr parts_3 then Option.bind (gR shx t1.1 3 p0 6) fun costs_4 =>
 Option.bind (aI shx t1.1 1 costs_4 t1.2.2.2.2) fun a5 =>
 Option.bind (gR shx t1.1 10 this 2) fun madeBy_6 =>
 Option.bind (sI shx t1.1 1 madeBy_6 t1.2.2.2.2 2) fun σ7 =>
 Jn (fun t8 : St × Int × Int × Int => Lt (t1.2.2.2.2 + 1) fun x9 =>
 b12_1 (t8.1, t8.2.1, t8.2.2.1, t8.2.2.2, x9)) fun J147_9 =>
 Jn (fun t11 : St => (if wr t1.2.2.1 < wr a5 then J147_9 (t11, t1.2.1, t1.2.2.1, t1.2.2.2.1) else Option.bind (rcv shx t11 10 this (f_X10_mostAlone N t11 this p0 (t1.2.2.2.2 + 1) t1.2.1 (t1.2.2.1 - a5))) fun q12 =>
 (if wr (a5 + q12.2) = wr t1.2.2.2.1 then Option.bind (gR shx q12.1 10 this 2) fun madeBy_13 =>
 Option.bind (sI shx q12.1 1 madeBy_13 t1.2.2.2.2 1) fun σ14 =>
 Lt (t1.2.2.1 - a5) fun x15 =>
 Lt (t1.2.2.2.1 - a5) fun x16 =>
 J147_9 (σ14, t1.2.1, x15, x16) else J147_9 (q12.1, t1.2.1, t1.2.2.1, t1.2.2.2.1)))) fun J94_18 =>
 (if wr t1.2.1 < wr a5 then J94_18 σ7 else Option.bind (rcv shx σ7 10 this (f_X10_mostAlone N σ7 this p0 (t1.2.2.2.2 + 1) (t1.2.1 - a5) t1.2.2.1)) fun q20 =>
 (if wr (a5 + q20.2) = wr t1.2.2.2.1 then Option.bind (gR shx q20.1 10 this 2) fun madeBy_21 =>
 Option.bind (sI shx q20.1 1 madeBy_21 t1.2.2.2.2 0) fun σ22 =>
 Lt (t1.2.1 - a5) fun x23 =>
 Lt (t1.2.2.2.1 - a5) fun x24 =>
 J147_9 (σ22, x23, t1.2.2.1, x24) else J94_18 q20.1)) else some (t1.1, 0))
def rm_X10_choose : Room := { frames := 3, cells := 0, slots := 0, locals := 73 }
def f_X10_choose (N : Nat) (σ : St) (this : Nat) (p0 : Nat) (p1 : Int) (p2 : Int) : Option (St × Int) :=
 L_X10_choose_12 N this p0 (σ, p1, p1, p2, 0)
set_option maxRecDepth 100000 in
set_option maxHeartbeats 4000000 in
theorem c_X10_choose (l : Launch) (D : va_G) (ca : Nat → ClassId) (ra : Nat → Nat) (N : Nat) (σ : St) (this : Nat) (p0 : Nat) (p1 : Int) (p2 : Int) : Ctr l (D, ca, ra, shx) false yX10_choose cX10_choose 9 none rm_X10_choose σ [ar this, ar p0, ai p1, ai p2] (f_X10_choose N σ this p0 p1 p2) := by
  refine ctr_of (by decide) (Nat.le_of_ble_eq_true rfl) (fun z C => ?_)
  show X z 0 0 σ 0 [(0, ar this), (1, ar p0), (2, ai p1), (3, ai p2)] [] _
  unfold f_X10_choose
  refine x_iload_n C 2 (i := 2) (k0 := 2) rfl rfl (by decide +kernel) ?_
  refine x_istore C (i := 4) (Nat.le_of_ble_eq_true rfl) (by decide +kernel) (lv2 := [(4, ai p1), (0, ar this), (1, ar p0), (2, ai p1), (3, ai p2)]) rfl ?_
  refine x_iload_n C 3 (i := 2) (k0 := 2) rfl rfl (by decide +kernel) ?_
  refine x_istore C (i := 5) (Nat.le_of_ble_eq_true rfl) (by decide +kernel) (lv2 := [(5, ai p1), (4, ai p1), (0, ar this), (1, ar p0), (2, ai p1), (3, ai p2)]) rfl ?_
  refine x_iload_n C 5 (i := 3) (k0 := 3) rfl rfl (by decide +kernel) ?_
  refine x_istore C (i := 6) (Nat.le_of_ble_eq_true rfl) (by decide +kernel) (lv2 := [(6, ai p2), (5, ai p1), (4, ai p1), (0, ar this), (1, ar p0), (2, ai p1), (3, ai p2)]) rfl ?_
  refine x_iconst C (n := 0) (by decide +kernel) ?_
  refine x_istore C (i := 7) (Nat.le_of_ble_eq_true rfl) (by decide +kernel) (lv2 := [(7, ai 0), (6, ai p2), (5, ai p1), (4, ai p1), (0, ar this), (1, ar p0), (2, ai p1), (3, ai p2)]) rfl ?_
  show X z 0 0 σ 12 [(7, ai 0), (6, ai p2), (5, ai p1), (4, ai p1), (0, ar this), (1, ar p0), (2, ai p1), (3, ai p2)] [] _
  refine x_sub [4, 5, 3, 2, 1, 0] (lv2 := [(0, ar this), (1, ar p0), (4, ai p1), (5, ai p1), (6, ai p2), (7, ai 0)]) rfl ?_
  -- LOOP L_X10_choose_12 hb12_1
  refine x_loop (T := St × Int × Int × Int × Int) (fun t => t.1) (fun t => [(0, ar this), (1, ar p0), (4, ai t.2.1), (5, ai t.2.2.1), (6, ai t.2.2.2.1), (7, ai t.2.2.2.2)]) (σ, p1, p1, p2, 0) rfl (fun b12_1 hb12_1 t1 => ?_)
  show X z 0 0 t1.1 12 [(0, ar this), (1, ar p0), (4, ai t1.2.1), (5, ai t1.2.2.1), (6, ai t1.2.2.2.1), (7, ai t1.2.2.2.2)] [] _
  refine x_iload C 5 (i := 7) rfl (by decide +kernel) ?_
  refine x_aload_n C 1 (i := 1) (k0 := 1) rfl rfl (by decide +kernel) ?_
  refine x_gI C fl_RX10_31 (fun _ _ _ => rfl) (by decide +kernel) (fun parts_3 => ?_)
  refine x_ic_ge C (tgt := 153) (off := 135) (by decide) (by decide +kernel) (fun h27 => ?_) (fun h27 => ?_)
  · skip
    exact x_vret C ⟨Nat.zero_le _, Nat.zero_le _⟩ (by decide +kernel)
  · skip
    refine x_aload_n C 1 (i := 1) (k0 := 1) rfl rfl (by decide +kernel) ?_
    refine x_gR C fl_RX10_34 (fun _ _ _ => rfl) (by decide +kernel) (fun costs_4 => ?_)
    refine x_iload C 5 (i := 7) rfl (by decide +kernel) ?_
    refine x_aldI C (by decide +kernel) (fun a5 => ?_)
    refine x_istore C (i := 8) (Nat.le_of_ble_eq_true rfl) (by decide +kernel) (lv2 := [(8, ai a5), (0, ar this), (1, ar p0), (4, ai t1.2.1), (5, ai t1.2.2.1), (6, ai t1.2.2.2.1), (7, ai t1.2.2.2.2)]) rfl ?_
    refine x_aload_n C 1 (i := 0) (k0 := 0) rfl rfl (by decide +kernel) ?_
    refine x_gR C fl_RX10_17 (fun _ _ _ => rfl) (by decide +kernel) (fun madeBy_6 => ?_)
    refine x_iload C 6 (i := 7) rfl (by decide +kernel) ?_
    show X z 0 0 t1.1 36 [(8, ai a5), (0, ar this), (1, ar p0), (4, ai t1.2.1), (5, ai t1.2.2.1), (6, ai t1.2.2.2.1), (7, ai t1.2.2.2.2)] [ai t1.2.2.2.2, ar madeBy_6] _
    refine x_iconst C (n := 2) (by decide +kernel) ?_
    refine x_astI C (by decide +kernel) (fun σ7 => ?_)
    refine x_iload C 0 (i := 8) rfl (by decide +kernel) ?_
    refine x_iload C 3 (i := 4) rfl (by decide +kernel) ?_
    refine x_join (T := St × Int × Int × Int) (fun t => t.1) 147 (fun t => [(0, ar this), (1, ar p0), (4, ai t.2.1), (5, ai t.2.2.1), (6, ai t.2.2.2), (7, ai t1.2.2.2.2)]) (fun t => []) (fun t8 => ?_) (fun J147_9 hJ147_9 => ?_)
    · show X z 0 0 t8.1 147 [(0, ar this), (1, ar p0), (4, ai t8.2.1), (5, ai t8.2.2.1), (6, ai t8.2.2.2), (7, ai t1.2.2.2.2)] [] _
      refine x_iinc C 5 (i := 7) (n := 1) (Nat.le_of_ble_eq_true rfl) rfl (by decide +kernel) (lv2 := fun x9 => [(7, ai x9), (0, ar this), (1, ar p0), (4, ai t8.2.1), (5, ai t8.2.2.1), (6, ai t8.2.2.2)]) (fun _ => rfl) (fun x9 => ?_)
      refine x_goto C (tgt := 12) (off := (-138)) (by decide) (by decide +kernel) ?_
      refine x_sub [1, 2, 3, 4, 5, 0] (lv2 := [(0, ar this), (1, ar p0), (4, ai t8.2.1), (5, ai t8.2.2.1), (6, ai t8.2.2.2), (7, ai x9)]) rfl ?_
      exact hb12_1 (t8.1, t8.2.1, t8.2.2.1, t8.2.2.2, x9)
    · skip
      refine x_join (T := St) (fun t => t) 94 (fun t => [(0, ar this), (1, ar p0), (4, ai t1.2.1), (5, ai t1.2.2.1), (6, ai t1.2.2.2.1), (7, ai t1.2.2.2.2), (8, ai a5)]) (fun t => []) (fun t11 => ?_) (fun J94_18 hJ94_18 => ?_)
      · show X z 0 0 t11 94 [(0, ar this), (1, ar p0), (4, ai t1.2.1), (5, ai t1.2.2.1), (6, ai t1.2.2.2.1), (7, ai t1.2.2.2.2), (8, ai a5)] [] _
        refine x_iload C 6 (i := 8) rfl (by decide +kernel) ?_
        refine x_iload C 3 (i := 5) rfl (by decide +kernel) ?_
        refine x_ic_gt C (tgt := 147) (off := 49) (by decide) (by decide +kernel) (fun h18 => ?_) (fun h18 => ?_)
        · skip
          refine x_sub [0, 1, 2, 3, 4, 5] (lv2 := [(0, ar this), (1, ar p0), (4, ai t1.2.1), (5, ai t1.2.2.1), (6, ai t1.2.2.2.1), (7, ai t1.2.2.2.2)]) rfl ?_
          exact hJ147_9 (t11, t1.2.1, t1.2.2.1, t1.2.2.2.1)
        · skip
          refine x_iload C 6 (i := 8) rfl (by decide +kernel) ?_
          refine x_aload_n C 0 (i := 0) (k0 := 0) rfl rfl (by decide +kernel) ?_
          refine x_aload_n C 1 (i := 1) (k0 := 1) rfl rfl (by decide +kernel) ?_
          refine x_iload C 5 (i := 7) rfl (by decide +kernel) ?_
          refine x_iconst C (n := 1) (by decide +kernel) ?_
          refine x_iadd C (by decide +kernel) ?_
          refine x_iload C 2 (i := 4) rfl (by decide +kernel) ?_
          refine x_iload C 3 (i := 5) rfl (by decide +kernel) ?_
          show X z 0 0 t11 113 [(0, ar this), (1, ar p0), (4, ai t1.2.1), (5, ai t1.2.2.1), (6, ai t1.2.2.2.1), (7, ai t1.2.2.2.2), (8, ai a5)] [ai t1.2.2.1, ai t1.2.1, ai (t1.2.2.2.2 + 1), ar p0, ar this, ai a5] _
          refine x_iload C 6 (i := 8) rfl (by decide +kernel) ?_
          refine x_isub C (by decide +kernel) ?_
          refine x_callV C (ci := 10) (c_X10_mostAlone l D ca ra N t11 this p0 (t1.2.2.2.2 + 1) t1.2.1 (t1.2.2.1 - a5)) mt_X10_mostAlone mv_X10_mostAlone rfl ml_RX10_37 rfl (fun h => Bool.noConfusion h) ⟨Nat.le_of_ble_eq_true rfl, Nat.le_of_ble_eq_true rfl⟩ (Nat.le_of_ble_eq_true rfl) 0 0 ⟨rfl, rfl⟩ ⟨Nat.zero_le _, Nat.zero_le _⟩ (by decide +kernel) _ rfl (fun q12 => [ai q12.2, ai a5]) (fun _ => rfl) (fun q12 => ?_)
          refine x_iadd C (by decide +kernel) ?_
          refine x_iload C 4 (i := 6) rfl (by decide +kernel) ?_
          refine x_ic_ne C (tgt := 147) (off := 25) (by decide) (by decide +kernel) (fun h17 => ?_) (fun h17 => ?_)
          · skip
            refine x_sub [0, 1, 2, 3, 4, 5] (lv2 := [(0, ar this), (1, ar p0), (4, ai t1.2.1), (5, ai t1.2.2.1), (6, ai t1.2.2.2.1), (7, ai t1.2.2.2.2)]) rfl ?_
            exact hJ147_9 (q12.1, t1.2.1, t1.2.2.1, t1.2.2.2.1)
          · skip
            refine x_aload_n C 0 (i := 0) (k0 := 0) rfl rfl (by decide +kernel) ?_
            refine x_gR C fl_RX10_17 (fun _ _ _ => rfl) (by decide +kernel) (fun madeBy_13 => ?_)
            refine x_iload C 5 (i := 7) rfl (by decide +kernel) ?_
            refine x_iconst C (n := 1) (by decide +kernel) ?_
            refine x_astI C (by decide +kernel) (fun σ14 => ?_)
            refine x_iload C 3 (i := 5) rfl (by decide +kernel) ?_
            refine x_iload C 6 (i := 8) rfl (by decide +kernel) ?_
            refine x_isub C (by decide +kernel) ?_
            show X z 0 0 σ14 138 [(0, ar this), (1, ar p0), (4, ai t1.2.1), (5, ai t1.2.2.1), (6, ai t1.2.2.2.1), (7, ai t1.2.2.2.2), (8, ai a5)] [ai (t1.2.2.1 - a5)] _
            refine x_istoreL C (i := 5) (Nat.le_of_ble_eq_true rfl) (by decide +kernel) (lv2 := fun x15 => [(5, ai x15), (0, ar this), (1, ar p0), (4, ai t1.2.1), (6, ai t1.2.2.2.1), (7, ai t1.2.2.2.2), (8, ai a5)]) (fun _ => rfl) (fun x15 => ?_)
            refine x_iload C 4 (i := 6) rfl (by decide +kernel) ?_
            refine x_iload C 6 (i := 8) rfl (by decide +kernel) ?_
            refine x_isub C (by decide +kernel) ?_
            refine x_istoreL C (i := 6) (Nat.le_of_ble_eq_true rfl) (by decide +kernel) (lv2 := fun x16 => [(6, ai x16), (5, ai x15), (0, ar this), (1, ar p0), (4, ai t1.2.1), (7, ai t1.2.2.2.2), (8, ai a5)]) (fun _ => rfl) (fun x16 => ?_)
            refine x_sub [2, 3, 4, 1, 0, 5] (lv2 := [(0, ar this), (1, ar p0), (4, ai t1.2.1), (5, ai x15), (6, ai x16), (7, ai t1.2.2.2.2)]) rfl ?_
            exact hJ147_9 (σ14, t1.2.1, x15, x16)
      · skip
        refine x_ic_gt C (tgt := 94) (off := 52) (by decide) (by decide +kernel) (fun h26 => ?_) (fun h26 => ?_)
        · skip
          refine x_sub [1, 2, 3, 4, 5, 6, 0] (lv2 := [(0, ar this), (1, ar p0), (4, ai t1.2.1), (5, ai t1.2.2.1), (6, ai t1.2.2.2.1), (7, ai t1.2.2.2.2), (8, ai a5)]) rfl ?_
          exact hJ94_18 σ7
        · skip
          refine x_iload C 0 (i := 8) rfl (by decide +kernel) ?_
          refine x_aload_n C 1 (i := 0) (k0 := 0) rfl rfl (by decide +kernel) ?_
          refine x_aload_n C 2 (i := 1) (k0 := 1) rfl rfl (by decide +kernel) ?_
          refine x_iload C 6 (i := 7) rfl (by decide +kernel) ?_
          refine x_iconst C (n := 1) (by decide +kernel) ?_
          refine x_iadd C (by decide +kernel) ?_
          refine x_iload C 3 (i := 4) rfl (by decide +kernel) ?_
          refine x_iload C 0 (i := 8) rfl (by decide +kernel) ?_
          show X z 0 0 σ7 57 [(8, ai a5), (0, ar this), (1, ar p0), (4, ai t1.2.1), (5, ai t1.2.2.1), (6, ai t1.2.2.2.1), (7, ai t1.2.2.2.2)] [ai a5, ai t1.2.1, ai (t1.2.2.2.2 + 1), ar p0, ar this, ai a5] _
          refine x_isub C (by decide +kernel) ?_
          refine x_iload C 4 (i := 5) rfl (by decide +kernel) ?_
          refine x_callV C (ci := 10) (c_X10_mostAlone l D ca ra N σ7 this p0 (t1.2.2.2.2 + 1) (t1.2.1 - a5) t1.2.2.1) mt_X10_mostAlone mv_X10_mostAlone rfl ml_RX10_37 rfl (fun h => Bool.noConfusion h) ⟨Nat.le_of_ble_eq_true rfl, Nat.le_of_ble_eq_true rfl⟩ (Nat.le_of_ble_eq_true rfl) 0 0 ⟨rfl, rfl⟩ ⟨Nat.zero_le _, Nat.zero_le _⟩ (by decide +kernel) _ rfl (fun q20 => [ai q20.2, ai a5]) (fun _ => rfl) (fun q20 => ?_)
          refine x_iadd C (by decide +kernel) ?_
          refine x_iload C 5 (i := 6) rfl (by decide +kernel) ?_
          refine x_ic_ne C (tgt := 94) (off := 28) (by decide) (by decide +kernel) (fun h25 => ?_) (fun h25 => ?_)
          · skip
            refine x_sub [1, 2, 3, 4, 5, 6, 0] (lv2 := [(0, ar this), (1, ar p0), (4, ai t1.2.1), (5, ai t1.2.2.1), (6, ai t1.2.2.2.1), (7, ai t1.2.2.2.2), (8, ai a5)]) rfl ?_
            exact hJ94_18 q20.1
          · skip
            refine x_aload_n C 1 (i := 0) (k0 := 0) rfl rfl (by decide +kernel) ?_
            refine x_gR C fl_RX10_17 (fun _ _ _ => rfl) (by decide +kernel) (fun madeBy_21 => ?_)
            refine x_iload C 6 (i := 7) rfl (by decide +kernel) ?_
            refine x_iconst C (n := 0) (by decide +kernel) ?_
            refine x_astI C (by decide +kernel) (fun σ22 => ?_)
            refine x_iload C 3 (i := 4) rfl (by decide +kernel) ?_
            refine x_iload C 0 (i := 8) rfl (by decide +kernel) ?_
            refine x_isub C (by decide +kernel) ?_
            show X z 0 0 σ22 82 [(8, ai a5), (0, ar this), (1, ar p0), (4, ai t1.2.1), (5, ai t1.2.2.1), (6, ai t1.2.2.2.1), (7, ai t1.2.2.2.2)] [ai (t1.2.1 - a5)] _
            refine x_istoreL C (i := 4) (Nat.le_of_ble_eq_true rfl) (by decide +kernel) (lv2 := fun x23 => [(4, ai x23), (8, ai a5), (0, ar this), (1, ar p0), (5, ai t1.2.2.1), (6, ai t1.2.2.2.1), (7, ai t1.2.2.2.2)]) (fun _ => rfl) (fun x23 => ?_)
            refine x_iload C 5 (i := 6) rfl (by decide +kernel) ?_
            refine x_iload C 1 (i := 8) rfl (by decide +kernel) ?_
            refine x_isub C (by decide +kernel) ?_
            refine x_istoreL C (i := 6) (Nat.le_of_ble_eq_true rfl) (by decide +kernel) (lv2 := fun x24 => [(6, ai x24), (4, ai x23), (8, ai a5), (0, ar this), (1, ar p0), (5, ai t1.2.2.1), (7, ai t1.2.2.2.2)]) (fun _ => rfl) (fun x24 => ?_)
            refine x_goto C (tgt := 147) (off := 56) (by decide) (by decide +kernel) ?_
            refine x_sub [3, 4, 1, 5, 0, 6] (lv2 := [(0, ar this), (1, ar p0), (4, ai x23), (5, ai t1.2.2.1), (6, ai x24), (7, ai t1.2.2.2.2)]) rfl ?_
            exact hJ147_9 (σ22, x23, t1.2.2.1, x24)

def L_X10_divide_19 (N : Nat) (p0 : Nat) (σ2 : St) (J44_7 : (Int → Option (St × Int))) : (Int × Int) → Option (St × Int) := fixN N fun b19_9 t9 =>
 Option.bind (gI shx σ2 3 p0 1) fun parts_11 =>
 (if wr t9.2 < wr parts_11 then Option.bind (gR shx σ2 3 p0 6) fun costs_12 =>
 Option.bind (aI shx σ2 1 costs_12 t9.2) fun a13 =>
 Lt (t9.1 + a13) fun x14 =>
 Lt (t9.2 + 1) fun x15 =>
 b19_9 (x14, x15) else J44_7 t9.1)
def rm_X10_divide : Room := { frames := 4, cells := 0, slots := 0, locals := 101 }
def f_X10_divide (N : Nat) (σ : St) (this : Nat) (p0 : Nat) (p1 : Int) : Option (St × Int) :=
 Option.bind (gI shx σ 10 this 1) fun divided_1 =>
 (if wr divided_1 = wr p1 then some (σ, 0) else Option.bind (pI shx σ 10 this 1 p1) fun σ2 =>
 Jn (fun t3 : Int => Lt (Int.tdiv (wr ((100 - p1) * t3)) 100) fun x4 =>
 Option.bind (rcv shx σ2 10 this (f_X10_mostAlone N σ2 this p0 0 x4 x4)) fun q5 =>
 Option.bind (pI shx q5.1 10 this 0 (t3 - q5.2)) fun σ6 =>
 Option.bind (rcv shx σ6 10 this (f_X10_choose N σ6 this p0 x4 q5.2)) fun q7 =>
 some (q7.1, 0)) fun J44_7 =>
 L_X10_divide_19 N p0 σ2 J44_7 (0, 0))
set_option maxRecDepth 100000 in
set_option maxHeartbeats 4000000 in
theorem c_X10_divide (l : Launch) (D : va_G) (ca : Nat → ClassId) (ra : Nat → Nat) (N : Nat) (σ : St) (this : Nat) (p0 : Nat) (p1 : Int) : Ctr l (D, ca, ra, shx) false yX10_divide cX10_divide 6 none rm_X10_divide σ [ar this, ar p0, ai p1] (f_X10_divide N σ this p0 p1) := by
  refine ctr_of (by decide) (Nat.le_of_ble_eq_true rfl) (fun z C => ?_)
  show X z 0 0 σ 0 [(0, ar this), (1, ar p0), (2, ai p1)] [] _
  unfold f_X10_divide
  refine x_aload_n C 0 (i := 0) (k0 := 0) rfl rfl (by decide +kernel) ?_
  refine x_gI C fl_RX10_11 (fun _ _ _ => rfl) (by decide +kernel) (fun divided_1 => ?_)
  refine x_iload_n C 2 (i := 2) (k0 := 2) rfl rfl (by decide +kernel) ?_
  refine x_ic_ne C (tgt := 9) (off := 4) (by decide) (by decide +kernel) (fun h17 => ?_) (fun h17 => ?_)
  · skip
    refine x_aload_n C 0 (i := 0) (k0 := 0) rfl rfl (by decide +kernel) ?_
    refine x_iload_n C 2 (i := 2) (k0 := 2) rfl rfl (by decide +kernel) ?_
    refine x_pI C fl_RX10_11 rfl (fun q h => by cases h; rfl) (by decide +kernel) (fun σ2 => ?_)
    refine x_iconst C (n := 0) (by decide +kernel) ?_
    refine x_istore_n C (i := 3) (k0 := 3) rfl (Nat.le_of_ble_eq_true rfl) (by decide +kernel) (lv2 := [(3, ai 0), (0, ar this), (1, ar p0), (2, ai p1)]) rfl ?_
    refine x_iconst C (n := 0) (by decide +kernel) ?_
    refine x_istore C (i := 4) (Nat.le_of_ble_eq_true rfl) (by decide +kernel) (lv2 := [(4, ai 0), (3, ai 0), (0, ar this), (1, ar p0), (2, ai p1)]) rfl ?_
    refine x_join (T := Int) (fun t => σ2) 44 (fun t => [(0, ar this), (1, ar p0), (2, ai p1), (3, ai t)]) (fun t => []) (fun t3 => ?_) (fun J44_7 hJ44_7 => ?_)
    · show X z 0 0 σ2 44 [(0, ar this), (1, ar p0), (2, ai p1), (3, ai t3)] [] _
      refine x_bipush C (n := 100) (by decide +kernel) (by decide +kernel) ?_
      refine x_iload_n C 2 (i := 2) (k0 := 2) rfl rfl (by decide +kernel) ?_
      refine x_isub C (by decide +kernel) ?_
      refine x_iload_n C 3 (i := 3) (k0 := 3) rfl rfl (by decide +kernel) ?_
      refine x_imul C (by decide +kernel) ?_
      refine x_bipush C (n := 100) (by decide +kernel) (by decide +kernel) ?_
      refine x_idivC C (by decide) (by decide) (by decide +kernel) ?_
      refine x_istoreL C (i := 4) (Nat.le_of_ble_eq_true rfl) (by decide +kernel) (lv2 := fun x4 => [(4, ai x4), (0, ar this), (1, ar p0), (2, ai p1), (3, ai t3)]) (fun _ => rfl) (fun x4 => ?_)
      show X z 0 0 σ2 55 [(4, ai x4), (0, ar this), (1, ar p0), (2, ai p1), (3, ai t3)] [] _
      refine x_aload_n C 1 (i := 0) (k0 := 0) rfl rfl (by decide +kernel) ?_
      refine x_aload_n C 2 (i := 1) (k0 := 1) rfl rfl (by decide +kernel) ?_
      refine x_iconst C (n := 0) (by decide +kernel) ?_
      refine x_iload C 0 (i := 4) rfl (by decide +kernel) ?_
      refine x_iload C 0 (i := 4) rfl (by decide +kernel) ?_
      refine x_callV C (ci := 10) (c_X10_mostAlone l D ca ra N σ2 this p0 0 x4 x4) mt_X10_mostAlone mv_X10_mostAlone rfl ml_RX10_37 rfl (fun h => Bool.noConfusion h) ⟨Nat.le_of_ble_eq_true rfl, Nat.le_of_ble_eq_true rfl⟩ (Nat.le_of_ble_eq_true rfl) 0 0 ⟨rfl, rfl⟩ ⟨Nat.zero_le _, Nat.zero_le _⟩ (by decide +kernel) _ rfl (fun q5 => [ai q5.2]) (fun _ => rfl) (fun q5 => ?_)
      refine x_istore C (i := 5) (Nat.le_of_ble_eq_true rfl) (by decide +kernel) (lv2 := [(5, ai q5.2), (4, ai x4), (0, ar this), (1, ar p0), (2, ai p1), (3, ai t3)]) rfl ?_
      refine x_aload_n C 2 (i := 0) (k0 := 0) rfl rfl (by decide +kernel) ?_
      show X z 0 0 q5.1 68 [(5, ai q5.2), (4, ai x4), (0, ar this), (1, ar p0), (2, ai p1), (3, ai t3)] [ar this] _
      refine x_iload_n C 5 (i := 3) (k0 := 3) rfl rfl (by decide +kernel) ?_
      refine x_iload C 0 (i := 5) rfl (by decide +kernel) ?_
      refine x_isub C (by decide +kernel) ?_
      refine x_pI C fl_RX10_41 rfl (fun q h => by cases h; rfl) (by decide +kernel) (fun σ6 => ?_)
      refine x_aload_n C 2 (i := 0) (k0 := 0) rfl rfl (by decide +kernel) ?_
      refine x_aload_n C 3 (i := 1) (k0 := 1) rfl rfl (by decide +kernel) ?_
      refine x_iload C 1 (i := 4) rfl (by decide +kernel) ?_
      refine x_iload C 0 (i := 5) rfl (by decide +kernel) ?_
      show X z 0 0 σ6 81 [(5, ai q5.2), (4, ai x4), (0, ar this), (1, ar p0), (2, ai p1), (3, ai t3)] [ai q5.2, ai x4, ar p0, ar this] _
      refine x_callV C (ci := 10) (c_X10_choose l D ca ra N σ6 this p0 x4 q5.2) mt_X10_choose mv_X10_choose rfl ml_RX10_44 rfl (fun h => Bool.noConfusion h) ⟨Nat.le_of_ble_eq_true rfl, Nat.le_of_ble_eq_true rfl⟩ (Nat.le_of_ble_eq_true rfl) 0 0 ⟨rfl, rfl⟩ ⟨Nat.zero_le _, Nat.zero_le _⟩ (by decide +kernel) _ rfl (fun q7 => []) (fun _ => rfl) (fun q7 => ?_)
      exact x_vret C ⟨Nat.zero_le _, Nat.zero_le _⟩ (by decide +kernel)
    · skip
      refine x_sub [2, 3, 4, 1, 0] (lv2 := [(0, ar this), (1, ar p0), (2, ai p1), (3, ai 0), (4, ai 0)]) rfl ?_
      -- LOOP L_X10_divide_19 hb19_9
      refine x_loop (T := Int × Int) (fun t => σ2) (fun t => [(0, ar this), (1, ar p0), (2, ai p1), (3, ai t.1), (4, ai t.2)]) (0, 0) rfl (fun b19_9 hb19_9 t9 => ?_)
      show X z 0 0 σ2 19 [(0, ar this), (1, ar p0), (2, ai p1), (3, ai t9.1), (4, ai t9.2)] [] _
      refine x_iload C 4 (i := 4) rfl (by decide +kernel) ?_
      refine x_aload_n C 1 (i := 1) (k0 := 1) rfl rfl (by decide +kernel) ?_
      refine x_gI C fl_RX10_31 (fun _ _ _ => rfl) (by decide +kernel) (fun parts_11 => ?_)
      refine x_ic_ge C (tgt := 44) (off := 19) (by decide) (by decide +kernel) (fun h16 => ?_) (fun h16 => ?_)
      · skip
        refine x_sub [0, 1, 2, 3] (lv2 := [(0, ar this), (1, ar p0), (2, ai p1), (3, ai t9.1)]) rfl ?_
        exact hJ44_7 t9.1
      · skip
        refine x_iload_n C 3 (i := 3) (k0 := 3) rfl rfl (by decide +kernel) ?_
        refine x_aload_n C 1 (i := 1) (k0 := 1) rfl rfl (by decide +kernel) ?_
        refine x_gR C fl_RX10_34 (fun _ _ _ => rfl) (by decide +kernel) (fun costs_12 => ?_)
        refine x_iload C 4 (i := 4) rfl (by decide +kernel) ?_
        refine x_aldI C (by decide +kernel) (fun a13 => ?_)
        refine x_iadd C (by decide +kernel) ?_
        refine x_istore_nL C (i := 3) (k0 := 3) rfl (Nat.le_of_ble_eq_true rfl) (by decide +kernel) (lv2 := fun x14 => [(3, ai x14), (0, ar this), (1, ar p0), (2, ai p1), (4, ai t9.2)]) (fun _ => rfl) (fun x14 => ?_)
        refine x_iinc C 4 (i := 4) (n := 1) (Nat.le_of_ble_eq_true rfl) rfl (by decide +kernel) (lv2 := fun x15 => [(4, ai x15), (3, ai x14), (0, ar this), (1, ar p0), (2, ai p1)]) (fun _ => rfl) (fun x15 => ?_)
        show X z 0 0 σ2 41 [(4, ai x15), (3, ai x14), (0, ar this), (1, ar p0), (2, ai p1)] [] _
        refine x_goto C (tgt := 19) (off := (-22)) (by decide) (by decide +kernel) ?_
        refine x_sub [2, 3, 4, 1, 0] (lv2 := [(0, ar this), (1, ar p0), (2, ai p1), (3, ai x14), (4, ai x15)]) rfl ?_
        exact hb19_9 (x14, x15)
  · skip
    exact x_vret C ⟨Nat.zero_le _, Nat.zero_le _⟩ (by decide +kernel)
