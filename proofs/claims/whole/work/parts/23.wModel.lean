def L_X12_move_42 (N : Nat) (this : Nat) (p3 : Int) (J84_6 : (St → Option (St × Int))) : (St × Int × Int) → Option (St × Int) := fixN N fun b42_8 t8 =>
 (if wr p3 < wr t8.2.2 then J84_6 t8.1 else Option.bind (rcv shm t8.1 12 this (f_X12_bestMove N t8.1 this t8.2.2 t8.2.1)) fun q10 =>
 Jn (fun t11 : Int => Lt (t8.2.2 + 1) fun x12 =>
 b42_8 (q10.1, t11, x12)) fun J76_12 =>
 (if wr q10.2 < wr 1000000 then Option.bind (gI shm q10.1 12 this 76) fun moveState_14 =>
 J76_12 moveState_14 else J76_12 t8.2.1))
def rm_X12_move : Room := { frames := 5, cells := 0, slots := 0, locals := 126 }
def f_X12_move (N : Nat) (σ : St) (this : Nat) (p0 : Int) (p1 : Int) (p2 : Int) (p3 : Int) : Option (St × Int) :=
 Option.bind (rcv shm σ 12 this (f_X12_planOf N σ this p0 p1 p2)) fun q1 =>
 (if wr q1.2 < 0 then some (q1.1, (-1)) else Option.bind (gI shm q1.1 12 this 73) fun steps_2 =>
 Option.bind (f_X12_isIn N q1.1 p3 0 (steps_2 - 1)) fun q3 =>
 (if wr q3.2 = 0 then some (q1.1, (-1)) else Lt (orZ (orZ p0 (shlZ p1 4)) (shlZ p2 8)) fun x4 =>
 Jn (fun t5 : St => Option.bind (gI shm t5 12 this 75) fun moveNumber_6 =>
 some (t5, moveNumber_6)) fun J84_6 =>
 L_X12_move_42 N this p3 J84_6 (q1.1, x4, 0)))
set_option maxRecDepth 100000 in
set_option maxHeartbeats 4000000 in
theorem c_X12_move (l : Launch) (D : va_G) (ca : Nat → ClassId) (ra : Nat → Nat) (N : Nat) (σ : St) (this : Nat) (p0 : Int) (p1 : Int) (p2 : Int) (p3 : Int) : Ctr l (D, ca, ra, shm) false yX12_move cX12_move 8 (some .int) rm_X12_move σ [ar this, ai p0, ai p1, ai p2, ai p3] (f_X12_move N σ this p0 p1 p2 p3) := by
  refine ctr_of (by decide) (Nat.le_of_ble_eq_true rfl) (fun z C => ?_)
  show X z 0 0 σ 0 [(0, ar this), (1, ai p0), (2, ai p1), (3, ai p2), (4, ai p3)] [] _
  unfold f_X12_move
  refine x_aload_n C 0 (i := 0) (k0 := 0) rfl rfl (by decide +kernel) ?_
  refine x_iload_n C 1 (i := 1) (k0 := 1) rfl rfl (by decide +kernel) ?_
  refine x_iload_n C 2 (i := 2) (k0 := 2) rfl rfl (by decide +kernel) ?_
  refine x_iload_n C 3 (i := 3) (k0 := 3) rfl rfl (by decide +kernel) ?_
  refine x_callV C (ci := 12) (c_X12_planOf l D ca ra N σ this p0 p1 p2) mt_X12_planOf mv_X12_planOf rfl ml_RX12_545 rfl (fun h => Bool.noConfusion h) ⟨Nat.le_of_ble_eq_true rfl, Nat.le_of_ble_eq_true rfl⟩ (Nat.le_of_ble_eq_true rfl) 0 0 ⟨rfl, rfl⟩ ⟨Nat.zero_le _, Nat.zero_le _⟩ (by decide +kernel) _ rfl (fun q1 => [ai q1.2]) (fun _ => rfl) (fun q1 => ?_)
  refine x_if_lt C (tgt := 25) (off := 18) (by decide) (by decide +kernel) (fun h18 => ?_) (fun h18 => ?_)
  · skip
    refine x_iconst C (n := (-1)) (by decide +kernel) ?_
    exact x_iret C ⟨Nat.zero_le _, Nat.zero_le _⟩ (by decide +kernel)
  · skip
    refine x_iload C 4 (i := 4) rfl (by decide +kernel) ?_
    refine x_iconst C (n := 0) (by decide +kernel) ?_
    refine x_aload_n C 0 (i := 0) (k0 := 0) rfl rfl (by decide +kernel) ?_
    refine x_gI C fl_RX12_312 (fun _ _ _ => rfl) (by decide +kernel) (fun steps_2 => ?_)
    refine x_iconst C (n := 1) (by decide +kernel) ?_
    refine x_isub C (by decide +kernel) ?_
    refine x_callSp C (c_X12_isIn l D ca ra N q1.1 p3 0 (steps_2 - 1)) (p_X12_isIn N q1.1 p3 0 (steps_2 - 1)) mt_X12_isIn ms_X12_isIn ml_RX12_354 rfl (fun h => Bool.noConfusion h) ⟨Nat.le_of_ble_eq_true rfl, Nat.le_of_ble_eq_true rfl⟩ (Nat.le_of_ble_eq_true rfl) 0 0 ⟨rfl, rfl⟩ ⟨Nat.zero_le _, Nat.zero_le _⟩ (by decide +kernel) _ rfl (fun q3 => [ai q3.2]) (fun _ => rfl) (fun q3 => ?_)
    refine x_if_ne C (tgt := 27) (off := 5) (by decide) (by decide +kernel) (fun h17 => ?_) (fun h17 => ?_)
    · skip
      refine x_iload_n C 1 (i := 1) (k0 := 1) rfl rfl (by decide +kernel) ?_
      refine x_iload_n C 2 (i := 2) (k0 := 2) rfl rfl (by decide +kernel) ?_
      refine x_iconst C (n := 4) (by decide +kernel) ?_
      refine x_ishl C (by decide +kernel) ?_
      refine x_ior C (by decide +kernel) ?_
      refine x_iload_n C 3 (i := 3) (k0 := 3) rfl rfl (by decide +kernel) ?_
      refine x_bipush C (n := 8) (by decide +kernel) (by decide +kernel) ?_
      refine x_ishl C (by decide +kernel) ?_
      show X z 0 0 q1.1 36 [(0, ar this), (1, ai p0), (2, ai p1), (3, ai p2), (4, ai p3)] [ai (shlZ p2 8), ai (orZ p0 (shlZ p1 4))] _
      refine x_ior C (by decide +kernel) ?_
      refine x_istoreL C (i := 5) (Nat.le_of_ble_eq_true rfl) (by decide +kernel) (lv2 := fun x4 => [(5, ai x4), (0, ar this), (1, ai p0), (2, ai p1), (3, ai p2), (4, ai p3)]) (fun _ => rfl) (fun x4 => ?_)
      refine x_iconst C (n := 0) (by decide +kernel) ?_
      refine x_istore C (i := 6) (Nat.le_of_ble_eq_true rfl) (by decide +kernel) (lv2 := [(6, ai 0), (5, ai x4), (0, ar this), (1, ai p0), (2, ai p1), (3, ai p2), (4, ai p3)]) rfl ?_
      refine x_join (T := St) (fun t => t) 84 (fun t => [(0, ar this)]) (fun t => []) (fun t5 => ?_) (fun J84_6 hJ84_6 => ?_)
      · show X z 0 0 t5 84 [(0, ar this)] [] _
        refine x_aload_n C 0 (i := 0) (k0 := 0) rfl rfl (by decide +kernel) ?_
        refine x_gI C fl_RX12_526 (fun _ _ _ => rfl) (by decide +kernel) (fun moveNumber_6 => ?_)
        exact x_iret C ⟨Nat.zero_le _, Nat.zero_le _⟩ (by decide +kernel)
      · skip
        refine x_sub [2, 6, 1, 0] (lv2 := [(0, ar this), (4, ai p3), (5, ai x4), (6, ai 0)]) rfl ?_
        -- LOOP L_X12_move_42 hb42_8
        refine x_loop (T := St × Int × Int) (fun t => t.1) (fun t => [(0, ar this), (4, ai p3), (5, ai t.2.1), (6, ai t.2.2)]) (q1.1, x4, 0) rfl (fun b42_8 hb42_8 t8 => ?_)
        show X z 0 0 t8.1 42 [(0, ar this), (4, ai p3), (5, ai t8.2.1), (6, ai t8.2.2)] [] _
        refine x_iload C 3 (i := 6) rfl (by decide +kernel) ?_
        refine x_iload C 1 (i := 4) rfl (by decide +kernel) ?_
        refine x_ic_gt C (tgt := 84) (off := 38) (by decide) (by decide +kernel) (fun h16 => ?_) (fun h16 => ?_)
        · skip
          refine x_sub [0] (lv2 := [(0, ar this)]) rfl ?_
          exact hJ84_6 t8.1
        · skip
          refine x_aload_n C 0 (i := 0) (k0 := 0) rfl rfl (by decide +kernel) ?_
          refine x_iload C 3 (i := 6) rfl (by decide +kernel) ?_
          refine x_iload C 2 (i := 5) rfl (by decide +kernel) ?_
          refine x_callV C (ci := 12) (c_X12_bestMove l D ca ra N t8.1 this t8.2.2 t8.2.1) mt_X12_bestMove mv_X12_bestMove rfl ml_RX12_536 rfl (fun h => Bool.noConfusion h) ⟨Nat.le_of_ble_eq_true rfl, Nat.le_of_ble_eq_true rfl⟩ (Nat.le_of_ble_eq_true rfl) 0 0 ⟨rfl, rfl⟩ ⟨Nat.zero_le _, Nat.zero_le _⟩ (by decide +kernel) _ rfl (fun q10 => [ai q10.2]) (fun _ => rfl) (fun q10 => ?_)
          refine x_istore C (i := 7) (Nat.le_of_ble_eq_true rfl) (by decide +kernel) (lv2 := [(7, ai q10.2), (0, ar this), (4, ai p3), (5, ai t8.2.1), (6, ai t8.2.2)]) rfl ?_
          refine x_iload C 0 (i := 7) rfl (by decide +kernel) ?_
          refine x_ldcw C (n := 1000000) (v := 1000000) kc_RX12_503 (by decide +kernel) (by decide +kernel) ?_
          refine x_join (T := Int) (fun t => q10.1) 76 (fun t => [(0, ar this), (4, ai p3), (6, ai t8.2.2)]) (fun t => [ai t]) (fun t11 => ?_) (fun J76_12 hJ76_12 => ?_)
          · show X z 0 0 q10.1 76 [(0, ar this), (4, ai p3), (6, ai t8.2.2)] [ai t11] _
            refine x_istore C (i := 5) (Nat.le_of_ble_eq_true rfl) (by decide +kernel) (lv2 := [(5, ai t11), (0, ar this), (4, ai p3), (6, ai t8.2.2)]) rfl ?_
            refine x_iinc C 3 (i := 6) (n := 1) (Nat.le_of_ble_eq_true rfl) rfl (by decide +kernel) (lv2 := fun x12 => [(6, ai x12), (5, ai t11), (0, ar this), (4, ai p3)]) (fun _ => rfl) (fun x12 => ?_)
            refine x_goto C (tgt := 42) (off := (-39)) (by decide) (by decide +kernel) ?_
            refine x_sub [2, 3, 1, 0] (lv2 := [(0, ar this), (4, ai p3), (5, ai t11), (6, ai x12)]) rfl ?_
            exact hb42_8 (q10.1, t11, x12)
          · skip
            refine x_ic_ge C (tgt := 74) (off := 10) (by decide) (by decide +kernel) (fun h15 => ?_) (fun h15 => ?_)
            · skip
              refine x_iload C 3 (i := 5) rfl (by decide +kernel) ?_
              refine x_sub [1, 2, 4] (lv2 := [(0, ar this), (4, ai p3), (6, ai t8.2.2)]) rfl ?_
              exact hJ76_12 t8.2.1
            · skip
              refine x_aload_n C 1 (i := 0) (k0 := 0) rfl rfl (by decide +kernel) ?_
              refine x_gI C fl_RX12_533 (fun _ _ _ => rfl) (by decide +kernel) (fun moveState_14 => ?_)
              refine x_goto C (tgt := 76) (off := 5) (by decide) (by decide +kernel) ?_
              refine x_sub [1, 2, 4] (lv2 := [(0, ar this), (4, ai p3), (6, ai t8.2.2)]) rfl ?_
              exact hJ76_12 moveState_14
    · skip
      refine x_iconst C (n := (-1)) (by decide +kernel) ?_
      exact x_iret C ⟨Nat.zero_le _, Nat.zero_le _⟩ (by decide +kernel)

def rm_X12_enter : Room := { frames := 3, cells := 0, slots := 0, locals := 72 }
def f_X12_enter (N : Nat) (σ : St) (this : Nat) (p0 : Int) (p1 : Int) (p2 : Int) (p3 : Int) (p4 : Int) (p5 : Int) (p6 : Int) : Option (St × Int) :=
 Option.bind (gR shm σ 12 this 28) fun grounds_1 =>
 Option.bind (gI shm σ 12 this 31) fun bank_2 =>
 Option.bind (aI shm σ 1 grounds_1 ((64 * bank_2) + p0)) fun a3 =>
 Jn (fun t4 : St × Int => Option.bind (rcv shm t4.1 12 this (f_X12_flies N t4.1 this p3 a3 p4 9)) fun q5 =>
 Jn (fun t6 : St => (if wr q5.2 = 0 then some (t6, 0) else (if wr p6 < wr (p1 + 2) then some (t6, 0) else Option.bind (gR shm t6 12 this 77) fun minutes_7 =>
 Option.bind (aI shm t6 1 minutes_7 (((100 * p0) + p1) + 2)) fun a8 =>
 (if wr (p2 + 3) < wr a8 then Option.bind (gR shm t6 12 this 77) fun minutes_9 =>
 Option.bind (sI shm t6 1 minutes_9 (((100 * p0) + p1) + 2) (p2 + 3)) fun σ10 =>
 some (σ10, 0) else some (t6, 0))))) fun J110_13 =>
 (if wr t4.2 = 0 then J110_13 q5.1 else (if wr p6 < wr (p1 + 3) then J110_13 q5.1 else Option.bind (gR shm q5.1 12 this 77) fun minutes_15 =>
 Option.bind (aI shm q5.1 1 minutes_15 (((100 * p0) + p1) + 3)) fun a16 =>
 (if wr (p2 + 1) < wr a16 then Option.bind (gR shm q5.1 12 this 77) fun minutes_17 =>
 Option.bind (sI shm q5.1 1 minutes_17 (((100 * p0) + p1) + 3) (p2 + 1)) fun σ18 =>
 J110_13 σ18 else J110_13 q5.1)))) fun J46_21 =>
 Jn (fun t23 : St => J46_21 (t23, 0)) fun J45_23 =>
 (if wr (andZ (shrZ p5 a3) 1) = 0 then Option.bind (rcv shm σ 12 this (f_X12_flies N σ this p3 a3 p4 20)) fun q25 =>
 (if wr q25.2 = 0 then J45_23 q25.1 else J46_21 (q25.1, 1)) else J45_23 σ)
set_option maxRecDepth 100000 in
set_option maxHeartbeats 4000000 in
theorem c_X12_enter (l : Launch) (D : va_G) (ca : Nat → ClassId) (ra : Nat → Nat) (N : Nat) (σ : St) (this : Nat) (p0 : Int) (p1 : Int) (p2 : Int) (p3 : Int) (p4 : Int) (p5 : Int) (p6 : Int) : Ctr l (D, ca, ra, shm) false yX12_enter cX12_enter 11 none rm_X12_enter σ [ar this, ai p0, ai p1, ai p2, ai p3, ai p4, ai p5, ai p6] (f_X12_enter N σ this p0 p1 p2 p3 p4 p5 p6) := by
  refine ctr_of (by decide) (Nat.le_of_ble_eq_true rfl) (fun z C => ?_)
  show X z 0 0 σ 0 [(0, ar this), (1, ai p0), (2, ai p1), (3, ai p2), (4, ai p3), (5, ai p4), (6, ai p5), (7, ai p6)] [] _
  unfold f_X12_enter
  refine x_aload_n C 0 (i := 0) (k0 := 0) rfl rfl (by decide +kernel) ?_
  refine x_gR C fl_RX12_72 (fun _ _ _ => rfl) (by decide +kernel) (fun grounds_1 => ?_)
  refine x_bipush C (n := 64) (by decide +kernel) (by decide +kernel) ?_
  refine x_aload_n C 0 (i := 0) (k0 := 0) rfl rfl (by decide +kernel) ?_
  refine x_gI C fl_RX12_300 (fun _ _ _ => rfl) (by decide +kernel) (fun bank_2 => ?_)
  refine x_imul C (by decide +kernel) ?_
  refine x_iload_n C 1 (i := 1) (k0 := 1) rfl rfl (by decide +kernel) ?_
  refine x_iadd C (by decide +kernel) ?_
  show X z 0 0 σ 13 [(0, ar this), (1, ai p0), (2, ai p1), (3, ai p2), (4, ai p3), (5, ai p4), (6, ai p5), (7, ai p6)] [ai ((64 * bank_2) + p0), ar grounds_1] _
  refine x_aldI C (by decide +kernel) (fun a3 => ?_)
  refine x_istore C (i := 8) (Nat.le_of_ble_eq_true rfl) (by decide +kernel) (lv2 := [(8, ai a3), (0, ar this), (1, ai p0), (2, ai p1), (3, ai p2), (4, ai p3), (5, ai p4), (6, ai p5), (7, ai p6)]) rfl ?_
  refine x_iload C 7 (i := 6) rfl (by decide +kernel) ?_
  refine x_iload C 0 (i := 8) rfl (by decide +kernel) ?_
  refine x_ishr C (by decide +kernel) ?_
  refine x_iconst C (n := 1) (by decide +kernel) ?_
  refine x_iand C (by decide +kernel) ?_
  refine x_join (T := St × Int) (fun t => t.1) 46 (fun t => [(0, ar this), (1, ai p0), (2, ai p1), (3, ai p2), (4, ai p3), (5, ai p4), (7, ai p6), (8, ai a3)]) (fun t => [ai t.2]) (fun t4 => ?_) (fun J46_21 hJ46_21 => ?_)
  · show X z 0 0 t4.1 46 [(0, ar this), (1, ai p0), (2, ai p1), (3, ai p2), (4, ai p3), (5, ai p4), (7, ai p6), (8, ai a3)] [ai t4.2] _
    refine x_istore C (i := 9) (Nat.le_of_ble_eq_true rfl) (by decide +kernel) (lv2 := [(9, ai t4.2), (0, ar this), (1, ai p0), (2, ai p1), (3, ai p2), (4, ai p3), (5, ai p4), (7, ai p6), (8, ai a3)]) rfl ?_
    refine x_aload_n C 1 (i := 0) (k0 := 0) rfl rfl (by decide +kernel) ?_
    refine x_iload C 5 (i := 4) rfl (by decide +kernel) ?_
    refine x_iload C 8 (i := 8) rfl (by decide +kernel) ?_
    refine x_iload C 6 (i := 5) rfl (by decide +kernel) ?_
    refine x_bipush C (n := 9) (by decide +kernel) (by decide +kernel) ?_
    refine x_callV C (ci := 12) (c_X12_flies l D ca ra N t4.1 this p3 a3 p4 9) mt_X12_flies mv_X12_flies rfl ml_RX12_482 rfl (fun h => Bool.noConfusion h) ⟨Nat.le_of_ble_eq_true rfl, Nat.le_of_ble_eq_true rfl⟩ (Nat.le_of_ble_eq_true rfl) 0 0 ⟨rfl, rfl⟩ ⟨Nat.zero_le _, Nat.zero_le _⟩ (by decide +kernel) _ rfl (fun q5 => [ai q5.2]) (fun _ => rfl) (fun q5 => ?_)
    refine x_istore C (i := 10) (Nat.le_of_ble_eq_true rfl) (by decide +kernel) (lv2 := [(10, ai q5.2), (9, ai t4.2), (0, ar this), (1, ai p0), (2, ai p1), (3, ai p2), (4, ai p3), (5, ai p4), (7, ai p6), (8, ai a3)]) rfl ?_
    show X z 0 0 q5.1 62 [(10, ai q5.2), (9, ai t4.2), (0, ar this), (1, ai p0), (2, ai p1), (3, ai p2), (4, ai p3), (5, ai p4), (7, ai p6), (8, ai a3)] [] _
    refine x_iload C 1 (i := 9) rfl (by decide +kernel) ?_
    refine x_join (T := St) (fun t => t) 110 (fun t => [(0, ar this), (1, ai p0), (2, ai p1), (3, ai p2), (7, ai p6), (10, ai q5.2)]) (fun t => []) (fun t6 => ?_) (fun J110_13 hJ110_13 => ?_)
    · show X z 0 0 t6 110 [(0, ar this), (1, ai p0), (2, ai p1), (3, ai p2), (7, ai p6), (10, ai q5.2)] [] _
      refine x_iload C 5 (i := 10) rfl (by decide +kernel) ?_
      refine x_if_eq C (tgt := 158) (off := 46) (by decide) (by decide +kernel) (fun h13 => ?_) (fun h13 => ?_)
      · skip
        exact x_vret C ⟨Nat.zero_le _, Nat.zero_le _⟩ (by decide +kernel)
      · skip
        refine x_iload_n C 2 (i := 2) (k0 := 2) rfl rfl (by decide +kernel) ?_
        refine x_iconst C (n := 2) (by decide +kernel) ?_
        refine x_iadd C (by decide +kernel) ?_
        refine x_iload C 4 (i := 7) rfl (by decide +kernel) ?_
        refine x_ic_gt C (tgt := 158) (off := 38) (by decide) (by decide +kernel) (fun h12 => ?_) (fun h12 => ?_)
        · skip
          exact x_vret C ⟨Nat.zero_le _, Nat.zero_le _⟩ (by decide +kernel)
        · skip
          refine x_iload_n C 3 (i := 3) (k0 := 3) rfl rfl (by decide +kernel) ?_
          refine x_iconst C (n := 3) (by decide +kernel) ?_
          refine x_iadd C (by decide +kernel) ?_
          refine x_aload_n C 0 (i := 0) (k0 := 0) rfl rfl (by decide +kernel) ?_
          refine x_gR C fl_RX12_144 (fun _ _ _ => rfl) (by decide +kernel) (fun minutes_7 => ?_)
          refine x_bipush C (n := 100) (by decide +kernel) (by decide +kernel) ?_
          refine x_iload_n C 1 (i := 1) (k0 := 1) rfl rfl (by decide +kernel) ?_
          refine x_imul C (by decide +kernel) ?_
          show X z 0 0 t6 134 [(0, ar this), (1, ai p0), (2, ai p1), (3, ai p2), (7, ai p6), (10, ai q5.2)] [ai (100 * p0), ar minutes_7, ai (p2 + 3)] _
          refine x_iload_n C 2 (i := 2) (k0 := 2) rfl rfl (by decide +kernel) ?_
          refine x_iadd C (by decide +kernel) ?_
          refine x_iconst C (n := 2) (by decide +kernel) ?_
          refine x_iadd C (by decide +kernel) ?_
          refine x_aldI C (by decide +kernel) (fun a8 => ?_)
          refine x_ic_ge C (tgt := 158) (off := 19) (by decide) (by decide +kernel) (fun h11 => ?_) (fun h11 => ?_)
          · skip
            exact x_vret C ⟨Nat.zero_le _, Nat.zero_le _⟩ (by decide +kernel)
          · skip
            refine x_aload_n C 0 (i := 0) (k0 := 0) rfl rfl (by decide +kernel) ?_
            refine x_gR C fl_RX12_144 (fun _ _ _ => rfl) (by decide +kernel) (fun minutes_9 => ?_)
            refine x_bipush C (n := 100) (by decide +kernel) (by decide +kernel) ?_
            refine x_iload_n C 1 (i := 1) (k0 := 1) rfl rfl (by decide +kernel) ?_
            refine x_imul C (by decide +kernel) ?_
            refine x_iload_n C 2 (i := 2) (k0 := 2) rfl rfl (by decide +kernel) ?_
            refine x_iadd C (by decide +kernel) ?_
            refine x_iconst C (n := 2) (by decide +kernel) ?_
            show X z 0 0 t6 153 [(0, ar this), (1, ai p0), (2, ai p1), (3, ai p2), (7, ai p6), (10, ai q5.2)] [ai 2, ai ((100 * p0) + p1), ar minutes_9] _
            refine x_iadd C (by decide +kernel) ?_
            refine x_iload_n C 3 (i := 3) (k0 := 3) rfl rfl (by decide +kernel) ?_
            refine x_iconst C (n := 3) (by decide +kernel) ?_
            refine x_iadd C (by decide +kernel) ?_
            refine x_astI C (by decide +kernel) (fun σ10 => ?_)
            exact x_vret C ⟨Nat.zero_le _, Nat.zero_le _⟩ (by decide +kernel)
    · skip
      refine x_if_eq C (tgt := 110) (off := 46) (by decide) (by decide +kernel) (fun h21 => ?_) (fun h21 => ?_)
      · skip
        refine x_sub [2, 3, 4, 5, 8, 0] (lv2 := [(0, ar this), (1, ai p0), (2, ai p1), (3, ai p2), (7, ai p6), (10, ai q5.2)]) rfl ?_
        exact hJ110_13 q5.1
      · skip
        refine x_iload_n C 4 (i := 2) (k0 := 2) rfl rfl (by decide +kernel) ?_
        refine x_iconst C (n := 3) (by decide +kernel) ?_
        refine x_iadd C (by decide +kernel) ?_
        refine x_iload C 8 (i := 7) rfl (by decide +kernel) ?_
        refine x_ic_gt C (tgt := 110) (off := 38) (by decide) (by decide +kernel) (fun h20 => ?_) (fun h20 => ?_)
        · skip
          refine x_sub [2, 3, 4, 5, 8, 0] (lv2 := [(0, ar this), (1, ai p0), (2, ai p1), (3, ai p2), (7, ai p6), (10, ai q5.2)]) rfl ?_
          exact hJ110_13 q5.1
        · skip
          refine x_iload_n C 5 (i := 3) (k0 := 3) rfl rfl (by decide +kernel) ?_
          refine x_iconst C (n := 1) (by decide +kernel) ?_
          refine x_iadd C (by decide +kernel) ?_
          refine x_aload_n C 2 (i := 0) (k0 := 0) rfl rfl (by decide +kernel) ?_
          refine x_gR C fl_RX12_144 (fun _ _ _ => rfl) (by decide +kernel) (fun minutes_15 => ?_)
          refine x_bipush C (n := 100) (by decide +kernel) (by decide +kernel) ?_
          refine x_iload_n C 3 (i := 1) (k0 := 1) rfl rfl (by decide +kernel) ?_
          refine x_imul C (by decide +kernel) ?_
          show X z 0 0 q5.1 86 [(10, ai q5.2), (9, ai t4.2), (0, ar this), (1, ai p0), (2, ai p1), (3, ai p2), (4, ai p3), (5, ai p4), (7, ai p6), (8, ai a3)] [ai (100 * p0), ar minutes_15, ai (p2 + 1)] _
          refine x_iload_n C 4 (i := 2) (k0 := 2) rfl rfl (by decide +kernel) ?_
          refine x_iadd C (by decide +kernel) ?_
          refine x_iconst C (n := 3) (by decide +kernel) ?_
          refine x_iadd C (by decide +kernel) ?_
          refine x_aldI C (by decide +kernel) (fun a16 => ?_)
          refine x_ic_ge C (tgt := 110) (off := 19) (by decide) (by decide +kernel) (fun h19 => ?_) (fun h19 => ?_)
          · skip
            refine x_sub [2, 3, 4, 5, 8, 0] (lv2 := [(0, ar this), (1, ai p0), (2, ai p1), (3, ai p2), (7, ai p6), (10, ai q5.2)]) rfl ?_
            exact hJ110_13 q5.1
          · skip
            refine x_aload_n C 2 (i := 0) (k0 := 0) rfl rfl (by decide +kernel) ?_
            refine x_gR C fl_RX12_144 (fun _ _ _ => rfl) (by decide +kernel) (fun minutes_17 => ?_)
            refine x_bipush C (n := 100) (by decide +kernel) (by decide +kernel) ?_
            refine x_iload_n C 3 (i := 1) (k0 := 1) rfl rfl (by decide +kernel) ?_
            refine x_imul C (by decide +kernel) ?_
            refine x_iload_n C 4 (i := 2) (k0 := 2) rfl rfl (by decide +kernel) ?_
            refine x_iadd C (by decide +kernel) ?_
            refine x_iconst C (n := 3) (by decide +kernel) ?_
            show X z 0 0 q5.1 105 [(10, ai q5.2), (9, ai t4.2), (0, ar this), (1, ai p0), (2, ai p1), (3, ai p2), (4, ai p3), (5, ai p4), (7, ai p6), (8, ai a3)] [ai 3, ai ((100 * p0) + p1), ar minutes_17] _
            refine x_iadd C (by decide +kernel) ?_
            refine x_iload_n C 5 (i := 3) (k0 := 3) rfl rfl (by decide +kernel) ?_
            refine x_iconst C (n := 1) (by decide +kernel) ?_
            refine x_iadd C (by decide +kernel) ?_
            refine x_astI C (by decide +kernel) (fun σ18 => ?_)
            refine x_sub [2, 3, 4, 5, 8, 0] (lv2 := [(0, ar this), (1, ai p0), (2, ai p1), (3, ai p2), (7, ai p6), (10, ai q5.2)]) rfl ?_
            exact hJ110_13 σ18
  · skip
    refine x_join (T := St) (fun t => t) 45 (fun t => [(0, ar this), (1, ai p0), (2, ai p1), (3, ai p2), (4, ai p3), (5, ai p4), (7, ai p6), (8, ai a3)]) (fun t => []) (fun t23 => ?_) (fun J45_23 hJ45_23 => ?_)
    · show X z 0 0 t23 45 [(0, ar this), (1, ai p0), (2, ai p1), (3, ai p2), (4, ai p3), (5, ai p4), (7, ai p6), (8, ai a3)] [] _
      refine x_iconst C (n := 0) (by decide +kernel) ?_
      exact hJ46_21 (t23, 0)
    · skip
      refine x_if_ne C (tgt := 45) (off := 22) (by decide) (by decide +kernel) (fun h27 => ?_) (fun h27 => ?_)
      · skip
        refine x_sub [1, 2, 3, 4, 5, 6, 8, 0] (lv2 := [(0, ar this), (1, ai p0), (2, ai p1), (3, ai p2), (4, ai p3), (5, ai p4), (7, ai p6), (8, ai a3)]) rfl ?_
        exact hJ45_23 σ
      · skip
        refine x_aload_n C 1 (i := 0) (k0 := 0) rfl rfl (by decide +kernel) ?_
        refine x_iload C 5 (i := 4) rfl (by decide +kernel) ?_
        refine x_iload C 0 (i := 8) rfl (by decide +kernel) ?_
        refine x_iload C 6 (i := 5) rfl (by decide +kernel) ?_
        refine x_bipush C (n := 20) (by decide +kernel) (by decide +kernel) ?_
        refine x_callV C (ci := 12) (c_X12_flies l D ca ra N σ this p3 a3 p4 20) mt_X12_flies mv_X12_flies rfl ml_RX12_482 rfl (fun h => Bool.noConfusion h) ⟨Nat.le_of_ble_eq_true rfl, Nat.le_of_ble_eq_true rfl⟩ (Nat.le_of_ble_eq_true rfl) 0 0 ⟨rfl, rfl⟩ ⟨Nat.zero_le _, Nat.zero_le _⟩ (by decide +kernel) _ rfl (fun q25 => [ai q25.2]) (fun _ => rfl) (fun q25 => ?_)
        refine x_if_eq C (tgt := 45) (off := 7) (by decide) (by decide +kernel) (fun h26 => ?_) (fun h26 => ?_)
        · skip
          refine x_sub [1, 2, 3, 4, 5, 6, 8, 0] (lv2 := [(0, ar this), (1, ai p0), (2, ai p1), (3, ai p2), (4, ai p3), (5, ai p4), (7, ai p6), (8, ai a3)]) rfl ?_
          exact hJ45_23 q25.1
        · skip
          refine x_iconst C (n := 1) (by decide +kernel) ?_
          refine x_goto C (tgt := 46) (off := 4) (by decide) (by decide +kernel) ?_
          refine x_sub [1, 2, 3, 4, 5, 6, 8, 0] (lv2 := [(0, ar this), (1, ai p0), (2, ai p1), (3, ai p2), (4, ai p3), (5, ai p4), (7, ai p6), (8, ai a3)]) rfl ?_
          exact hJ46_21 (q25.1, 1)

def L_X12_soonest_274 (N : Nat) (this : Nat) (p1 : Int) (p5 : Int) (t10 : St) (J341_14 : (Int → Option (St × Int))) : (Int × Int) → Option (St × Int) := fixN N fun b274_16 t16 =>
 (if wr p5 < wr t16.2 then J341_14 t16.1 else Option.bind (gR shm t10 12 this 77) fun minutes_18 =>
 Option.bind (aI shm t10 1 minutes_18 ((100 * p1) + t16.2)) fun a19 =>
 Jn (fun t20 : Int => Lt (t16.2 + 1) fun x21 =>
 b274_16 (t20, x21)) fun J335_21 =>
 (if wr a19 < wr 1000000 then Jn (fun t23 : Unit => J335_21 t16.2) fun J331_23 =>
 (if wr t16.1 < 0 then J331_23 () else Option.bind (gR shm t10 12 this 77) fun minutes_25 =>
 Option.bind (aI shm t10 1 minutes_25 ((100 * p1) + t16.2)) fun a26 =>
 Option.bind (gR shm t10 12 this 77) fun minutes_27 =>
 Option.bind (aI shm t10 1 minutes_27 ((100 * p1) + t16.1)) fun a28 =>
 (if wr a26 < wr a28 then J331_23 () else J335_21 t16.1)) else J335_21 t16.1))
def L_X12_soonest_113 (N : Nat) (this : Nat) (p2 : Int) (p3 : Int) (p4 : Int) (p5 : Int) (t34 : St × Int) (J262_37 : (St → Option (St × Int))) : (St × Int) → Option (St × Int) := fixN N fun b113_39 t39 =>
 (if wr t39.2 < wr 64 then Option.bind (gR shm t39.1 12 this 77) fun minutes_41 =>
 Option.bind (aI shm t39.1 1 minutes_41 ((100 * t39.2) + t34.2)) fun a42 =>
 Jn (fun t43 : St => Lt (t39.2 + 1) fun x44 =>
 b113_39 (t43, x44)) fun J256_44 =>
 (if wr a42 < wr 1000000 then Jn (fun t46 : St => Jn (fun t47 : St => Jn (fun t48 : St => (if wr t39.2 < wr 56 then Option.bind (rcv shm t48 12 this (f_X12_enter N t48 this (t39.2 + 8) t34.2 a42 p2 p3 p4 p5)) fun q49 =>
 J256_44 q49.1 else J256_44 t48)) fun J229_50 =>
 (if wr 7 < wr t39.2 then Option.bind (rcv shm t47 12 this (f_X12_enter N t47 this (t39.2 - 8) t34.2 a42 p2 p3 p4 p5)) fun q52 =>
 J229_50 q52.1 else J229_50 t47)) fun J202_53 =>
 (if wr (Int.tmod (wr t39.2) 8) < wr 7 then Option.bind (rcv shm t46 12 this (f_X12_enter N t46 this (t39.2 + 1) t34.2 a42 p2 p3 p4 p5)) fun q55 =>
 J202_53 q55.1 else J202_53 t46)) fun J173_56 =>
 (if 0 < wr (Int.tmod (wr t39.2) 8) then Option.bind (rcv shm t39.1 12 this (f_X12_enter N t39.1 this (t39.2 - 1) t34.2 a42 p2 p3 p4 p5)) fun q58 =>
 J173_56 q58.1 else J173_56 t39.1) else J256_44 t39.1) else J262_37 t39.1)
def L_X12_soonest_103 (N : Nat) (this : Nat) (p2 : Int) (p3 : Int) (p4 : Int) (p5 : Int) (J268_32 : (St → Option (St × Int))) : (St × Int) → Option (St × Int) := fixN N fun b103_34 t34 =>
 (if wr p5 < wr t34.2 then J268_32 t34.1 else Jn (fun t36 : St => Lt (t34.2 + 1) fun x37 =>
 b103_34 (t36, x37)) fun J262_37 =>
 L_X12_soonest_113 N this p2 p3 p4 p5 t34 J262_37 (t34.1, 0))
def L_X12_soonest_66 (N : Nat) (this : Nat) (J90_62 : (St → Option (St × Int))) : (St × Int) → Option (St × Int) := fixN N fun b66_64 t64 =>
 (if wr t64.2 < wr 6400 then Option.bind (gR shm t64.1 12 this 77) fun minutes_66 =>
 Option.bind (sI shm t64.1 1 minutes_66 t64.2 1000000) fun σ67 =>
 Lt (t64.2 + 1) fun x68 =>
 b66_64 (σ67, x68) else J90_62 t64.1)
def rm_X12_soonest : Room := { frames := 4, cells := 0, slots := 0, locals := 102 }
def f_X12_soonest (N : Nat) (σ : St) (this : Nat) (p0 : Int) (p1 : Int) (p2 : Int) (p3 : Int) (p4 : Int) (p5 : Int) : Option (St × Int) :=
 Option.bind (f_X12_isIn N σ p0 0 63) fun q1 =>
 (if wr q1.2 = 0 then some (σ, (-1)) else Option.bind (f_X12_isIn N σ p1 0 63) fun q2 =>
 (if wr q2.2 = 0 then some (σ, (-1)) else Option.bind (f_X12_isTongue N σ p2) fun q3 =>
 (if wr q3.2 = 0 then some (σ, (-1)) else Option.bind (f_X12_isIn N σ p3 0 23) fun q4 =>
 (if wr q4.2 = 0 then some (σ, (-1)) else Option.bind (f_X12_isIn N σ p4 0 255) fun q5 =>
 (if wr q5.2 = 0 then some (σ, (-1)) else Option.bind (f_X12_isIn N σ p5 0 99) fun q6 =>
 (if wr q6.2 = 0 then some (σ, (-1)) else Jn (fun t7 : St => Option.bind (gR shm t7 12 this 77) fun minutes_8 =>
 Option.bind (sI shm t7 1 minutes_8 (100 * p0) 0) fun σ9 =>
 Jn (fun t10 : St => Jn (fun t11 : Int => (if wr t11 < 0 then some (t10, (-1)) else Option.bind (gR shm t10 12 this 77) fun minutes_12 =>
 Option.bind (aI shm t10 1 minutes_12 ((100 * p1) + t11)) fun a13 =>
 some (t10, ((100 * a13) + t11)))) fun J341_14 =>
 L_X12_soonest_274 N this p1 p5 t10 J341_14 ((-1), 0)) fun J268_32 =>
 L_X12_soonest_103 N this p2 p3 p4 p5 J268_32 (σ9, 0)) fun J90_62 =>
 L_X12_soonest_66 N this J90_62 (σ, 0)))))))
set_option maxRecDepth 100000 in
set_option maxHeartbeats 4000000 in
theorem c_X12_soonest (l : Launch) (D : va_G) (ca : Nat → ClassId) (ra : Nat → Nat) (N : Nat) (σ : St) (this : Nat) (p0 : Int) (p1 : Int) (p2 : Int) (p3 : Int) (p4 : Int) (p5 : Int) : Ctr l (D, ca, ra, shm) false yX12_soonest cX12_soonest 10 (some .int) rm_X12_soonest σ [ar this, ai p0, ai p1, ai p2, ai p3, ai p4, ai p5] (f_X12_soonest N σ this p0 p1 p2 p3 p4 p5) := by
  refine ctr_of (by decide) (Nat.le_of_ble_eq_true rfl) (fun z C => ?_)
  show X z 0 0 σ 0 [(0, ar this), (1, ai p0), (2, ai p1), (3, ai p2), (4, ai p3), (5, ai p4), (6, ai p5)] [] _
  unfold f_X12_soonest
  refine x_iload_n C 1 (i := 1) (k0 := 1) rfl rfl (by decide +kernel) ?_
  refine x_iconst C (n := 0) (by decide +kernel) ?_
  refine x_bipush C (n := 63) (by decide +kernel) (by decide +kernel) ?_
  refine x_callSp C (c_X12_isIn l D ca ra N σ p0 0 63) (p_X12_isIn N σ p0 0 63) mt_X12_isIn ms_X12_isIn ml_RX12_354 rfl (fun h => Bool.noConfusion h) ⟨Nat.le_of_ble_eq_true rfl, Nat.le_of_ble_eq_true rfl⟩ (Nat.le_of_ble_eq_true rfl) 0 0 ⟨rfl, rfl⟩ ⟨Nat.zero_le _, Nat.zero_le _⟩ (by decide +kernel) _ rfl (fun q1 => [ai q1.2]) (fun _ => rfl) (fun q1 => ?_)
  refine x_if_eq C (tgt := 61) (off := 54) (by decide) (by decide +kernel) (fun h75 => ?_) (fun h75 => ?_)
  · skip
    refine x_iconst C (n := (-1)) (by decide +kernel) ?_
    exact x_iret C ⟨Nat.zero_le _, Nat.zero_le _⟩ (by decide +kernel)
  · skip
    refine x_iload_n C 2 (i := 2) (k0 := 2) rfl rfl (by decide +kernel) ?_
    refine x_iconst C (n := 0) (by decide +kernel) ?_
    refine x_bipush C (n := 63) (by decide +kernel) (by decide +kernel) ?_
    refine x_callSp C (c_X12_isIn l D ca ra N σ p1 0 63) (p_X12_isIn N σ p1 0 63) mt_X12_isIn ms_X12_isIn ml_RX12_354 rfl (fun h => Bool.noConfusion h) ⟨Nat.le_of_ble_eq_true rfl, Nat.le_of_ble_eq_true rfl⟩ (Nat.le_of_ble_eq_true rfl) 0 0 ⟨rfl, rfl⟩ ⟨Nat.zero_le _, Nat.zero_le _⟩ (by decide +kernel) _ rfl (fun q2 => [ai q2.2]) (fun _ => rfl) (fun q2 => ?_)
    refine x_if_eq C (tgt := 61) (off := 44) (by decide) (by decide +kernel) (fun h74 => ?_) (fun h74 => ?_)
    · skip
      refine x_iconst C (n := (-1)) (by decide +kernel) ?_
      exact x_iret C ⟨Nat.zero_le _, Nat.zero_le _⟩ (by decide +kernel)
    · skip
      refine x_iload_n C 3 (i := 3) (k0 := 3) rfl rfl (by decide +kernel) ?_
      refine x_callSp C (c_X12_isTongue l D ca ra N σ p2) (p_X12_isTongue N σ p2) mt_X12_isTongue ms_X12_isTongue ml_RX12_391 rfl (fun h => Bool.noConfusion h) ⟨Nat.le_of_ble_eq_true rfl, Nat.le_of_ble_eq_true rfl⟩ (Nat.le_of_ble_eq_true rfl) 0 0 ⟨rfl, rfl⟩ ⟨Nat.zero_le _, Nat.zero_le _⟩ (by decide +kernel) _ rfl (fun q3 => [ai q3.2]) (fun _ => rfl) (fun q3 => ?_)
      refine x_if_eq C (tgt := 61) (off := 37) (by decide) (by decide +kernel) (fun h73 => ?_) (fun h73 => ?_)
      · skip
        refine x_iconst C (n := (-1)) (by decide +kernel) ?_
        exact x_iret C ⟨Nat.zero_le _, Nat.zero_le _⟩ (by decide +kernel)
      · skip
        refine x_iload C 4 (i := 4) rfl (by decide +kernel) ?_
        refine x_iconst C (n := 0) (by decide +kernel) ?_
        refine x_bipush C (n := 23) (by decide +kernel) (by decide +kernel) ?_
        refine x_callSp C (c_X12_isIn l D ca ra N σ p3 0 23) (p_X12_isIn N σ p3 0 23) mt_X12_isIn ms_X12_isIn ml_RX12_354 rfl (fun h => Bool.noConfusion h) ⟨Nat.le_of_ble_eq_true rfl, Nat.le_of_ble_eq_true rfl⟩ (Nat.le_of_ble_eq_true rfl) 0 0 ⟨rfl, rfl⟩ ⟨Nat.zero_le _, Nat.zero_le _⟩ (by decide +kernel) _ rfl (fun q4 => [ai q4.2]) (fun _ => rfl) (fun q4 => ?_)
        refine x_if_eq C (tgt := 61) (off := 26) (by decide) (by decide +kernel) (fun h72 => ?_) (fun h72 => ?_)
        · skip
          refine x_iconst C (n := (-1)) (by decide +kernel) ?_
          exact x_iret C ⟨Nat.zero_le _, Nat.zero_le _⟩ (by decide +kernel)
        · skip
          refine x_iload C 5 (i := 5) rfl (by decide +kernel) ?_
          refine x_iconst C (n := 0) (by decide +kernel) ?_
          refine x_sipush C (n := 255) (by decide +kernel) (by decide +kernel) ?_
          refine x_callSp C (c_X12_isIn l D ca ra N σ p4 0 255) (p_X12_isIn N σ p4 0 255) mt_X12_isIn ms_X12_isIn ml_RX12_354 rfl (fun h => Bool.noConfusion h) ⟨Nat.le_of_ble_eq_true rfl, Nat.le_of_ble_eq_true rfl⟩ (Nat.le_of_ble_eq_true rfl) 0 0 ⟨rfl, rfl⟩ ⟨Nat.zero_le _, Nat.zero_le _⟩ (by decide +kernel) _ rfl (fun q5 => [ai q5.2]) (fun _ => rfl) (fun q5 => ?_)
          refine x_if_eq C (tgt := 61) (off := 14) (by decide) (by decide +kernel) (fun h71 => ?_) (fun h71 => ?_)
          · skip
            refine x_iconst C (n := (-1)) (by decide +kernel) ?_
            exact x_iret C ⟨Nat.zero_le _, Nat.zero_le _⟩ (by decide +kernel)
          · skip
            refine x_iload C 6 (i := 6) rfl (by decide +kernel) ?_
            refine x_iconst C (n := 0) (by decide +kernel) ?_
            refine x_bipush C (n := 99) (by decide +kernel) (by decide +kernel) ?_
            refine x_callSp C (c_X12_isIn l D ca ra N σ p5 0 99) (p_X12_isIn N σ p5 0 99) mt_X12_isIn ms_X12_isIn ml_RX12_354 rfl (fun h => Bool.noConfusion h) ⟨Nat.le_of_ble_eq_true rfl, Nat.le_of_ble_eq_true rfl⟩ (Nat.le_of_ble_eq_true rfl) 0 0 ⟨rfl, rfl⟩ ⟨Nat.zero_le _, Nat.zero_le _⟩ (by decide +kernel) _ rfl (fun q6 => [ai q6.2]) (fun _ => rfl) (fun q6 => ?_)
            refine x_if_ne C (tgt := 63) (off := 5) (by decide) (by decide +kernel) (fun h70 => ?_) (fun h70 => ?_)
            · skip
              refine x_iconst C (n := 0) (by decide +kernel) ?_
              refine x_istore C (i := 7) (Nat.le_of_ble_eq_true rfl) (by decide +kernel) (lv2 := [(7, ai 0), (0, ar this), (1, ai p0), (2, ai p1), (3, ai p2), (4, ai p3), (5, ai p4), (6, ai p5)]) rfl ?_
              refine x_join (T := St) (fun t => t) 90 (fun t => [(0, ar this), (1, ai p0), (2, ai p1), (3, ai p2), (4, ai p3), (5, ai p4), (6, ai p5)]) (fun t => []) (fun t7 => ?_) (fun J90_62 hJ90_62 => ?_)
              · show X z 0 0 t7 90 [(0, ar this), (1, ai p0), (2, ai p1), (3, ai p2), (4, ai p3), (5, ai p4), (6, ai p5)] [] _
                refine x_aload_n C 0 (i := 0) (k0 := 0) rfl rfl (by decide +kernel) ?_
                refine x_gR C fl_RX12_144 (fun _ _ _ => rfl) (by decide +kernel) (fun minutes_8 => ?_)
                refine x_bipush C (n := 100) (by decide +kernel) (by decide +kernel) ?_
                refine x_iload_n C 1 (i := 1) (k0 := 1) rfl rfl (by decide +kernel) ?_
                refine x_imul C (by decide +kernel) ?_
                refine x_iconst C (n := 0) (by decide +kernel) ?_
                refine x_astI C (by decide +kernel) (fun σ9 => ?_)
                refine x_iconst C (n := 0) (by decide +kernel) ?_
                show X z 0 0 σ9 101 [(0, ar this), (1, ai p0), (2, ai p1), (3, ai p2), (4, ai p3), (5, ai p4), (6, ai p5)] [ai 0] _
                refine x_istore C (i := 7) (Nat.le_of_ble_eq_true rfl) (by decide +kernel) (lv2 := [(7, ai 0), (0, ar this), (1, ai p0), (2, ai p1), (3, ai p2), (4, ai p3), (5, ai p4), (6, ai p5)]) rfl ?_
                refine x_join (T := St) (fun t => t) 268 (fun t => [(0, ar this), (2, ai p1), (6, ai p5)]) (fun t => []) (fun t10 => ?_) (fun J268_32 hJ268_32 => ?_)
                · show X z 0 0 t10 268 [(0, ar this), (2, ai p1), (6, ai p5)] [] _
                  refine x_iconst C (n := (-1)) (by decide +kernel) ?_
                  refine x_istore C (i := 7) (Nat.le_of_ble_eq_true rfl) (by decide +kernel) (lv2 := [(7, ai (-1)), (0, ar this), (2, ai p1), (6, ai p5)]) rfl ?_
                  refine x_iconst C (n := 0) (by decide +kernel) ?_
                  refine x_istore C (i := 8) (Nat.le_of_ble_eq_true rfl) (by decide +kernel) (lv2 := [(8, ai 0), (7, ai (-1)), (0, ar this), (2, ai p1), (6, ai p5)]) rfl ?_
                  refine x_join (T := Int) (fun t => t10) 341 (fun t => [(0, ar this), (2, ai p1), (7, ai t)]) (fun t => []) (fun t11 => ?_) (fun J341_14 hJ341_14 => ?_)
                  · show X z 0 0 t10 341 [(0, ar this), (2, ai p1), (7, ai t11)] [] _
                    refine x_iload C 2 (i := 7) rfl (by decide +kernel) ?_
                    refine x_if_ge C (tgt := 350) (off := 7) (by decide) (by decide +kernel) (fun h14 => ?_) (fun h14 => ?_)
                    · skip
                      refine x_bipush C (n := 100) (by decide +kernel) (by decide +kernel) ?_
                      refine x_aload_n C 0 (i := 0) (k0 := 0) rfl rfl (by decide +kernel) ?_
                      refine x_gR C fl_RX12_144 (fun _ _ _ => rfl) (by decide +kernel) (fun minutes_12 => ?_)
                      refine x_bipush C (n := 100) (by decide +kernel) (by decide +kernel) ?_
                      refine x_iload_n C 1 (i := 2) (k0 := 2) rfl rfl (by decide +kernel) ?_
                      refine x_imul C (by decide +kernel) ?_
                      refine x_iload C 2 (i := 7) rfl (by decide +kernel) ?_
                      refine x_iadd C (by decide +kernel) ?_
                      show X z 0 0 t10 363 [(0, ar this), (2, ai p1), (7, ai t11)] [ai ((100 * p1) + t11), ar minutes_12, ai 100] _
                      refine x_aldI C (by decide +kernel) (fun a13 => ?_)
                      refine x_imul C (by decide +kernel) ?_
                      refine x_iload C 2 (i := 7) rfl (by decide +kernel) ?_
                      refine x_iadd C (by decide +kernel) ?_
                      exact x_iret C ⟨Nat.zero_le _, Nat.zero_le _⟩ (by decide +kernel)
                    · skip
                      refine x_iconst C (n := (-1)) (by decide +kernel) ?_
                      refine x_goto C (tgt := 368) (off := 21) (by decide) (by decide +kernel) ?_
                      exact x_iret C ⟨Nat.zero_le _, Nat.zero_le _⟩ (by decide +kernel)
                  · skip
                    refine x_sub [2, 3, 4, 1, 0] (lv2 := [(0, ar this), (2, ai p1), (6, ai p5), (7, ai (-1)), (8, ai 0)]) rfl ?_
                    -- LOOP L_X12_soonest_274 hb274_16
                    refine x_loop (T := Int × Int) (fun t => t10) (fun t => [(0, ar this), (2, ai p1), (6, ai p5), (7, ai t.1), (8, ai t.2)]) ((-1), 0) rfl (fun b274_16 hb274_16 t16 => ?_)
                    show X z 0 0 t10 274 [(0, ar this), (2, ai p1), (6, ai p5), (7, ai t16.1), (8, ai t16.2)] [] _
                    refine x_iload C 4 (i := 8) rfl (by decide +kernel) ?_
                    refine x_iload C 2 (i := 6) rfl (by decide +kernel) ?_
                    refine x_ic_gt C (tgt := 341) (off := 63) (by decide) (by decide +kernel) (fun h32 => ?_) (fun h32 => ?_)
                    · skip
                      refine x_sub [0, 1, 3] (lv2 := [(0, ar this), (2, ai p1), (7, ai t16.1)]) rfl ?_
                      exact hJ341_14 t16.1
                    · skip
                      refine x_aload_n C 0 (i := 0) (k0 := 0) rfl rfl (by decide +kernel) ?_
                      refine x_gR C fl_RX12_144 (fun _ _ _ => rfl) (by decide +kernel) (fun minutes_18 => ?_)
                      refine x_bipush C (n := 100) (by decide +kernel) (by decide +kernel) ?_
                      refine x_iload_n C 1 (i := 2) (k0 := 2) rfl rfl (by decide +kernel) ?_
                      refine x_imul C (by decide +kernel) ?_
                      refine x_iload C 4 (i := 8) rfl (by decide +kernel) ?_
                      refine x_iadd C (by decide +kernel) ?_
                      refine x_aldI C (by decide +kernel) (fun a19 => ?_)
                      show X z 0 0 t10 293 [(0, ar this), (2, ai p1), (6, ai p5), (7, ai t16.1), (8, ai t16.2)] [ai a19] _
                      refine x_ldcw C (n := 1000000) (v := 1000000) kc_RX12_503 (by decide +kernel) (by decide +kernel) ?_
                      refine x_join (T := Int) (fun t => t10) 335 (fun t => [(0, ar this), (2, ai p1), (6, ai p5), (7, ai t), (8, ai t16.2)]) (fun t => []) (fun t20 => ?_) (fun J335_21 hJ335_21 => ?_)
                      · show X z 0 0 t10 335 [(0, ar this), (2, ai p1), (6, ai p5), (7, ai t20), (8, ai t16.2)] [] _
                        refine x_iinc C 4 (i := 8) (n := 1) (Nat.le_of_ble_eq_true rfl) rfl (by decide +kernel) (lv2 := fun x21 => [(8, ai x21), (0, ar this), (2, ai p1), (6, ai p5), (7, ai t20)]) (fun _ => rfl) (fun x21 => ?_)
                        refine x_goto C (tgt := 274) (off := (-64)) (by decide) (by decide +kernel) ?_
                        refine x_sub [1, 2, 3, 4, 0] (lv2 := [(0, ar this), (2, ai p1), (6, ai p5), (7, ai t20), (8, ai x21)]) rfl ?_
                        exact hb274_16 (t20, x21)
                      · skip
                        refine x_ic_ge C (tgt := 335) (off := 39) (by decide) (by decide +kernel) (fun h31 => ?_) (fun h31 => ?_)
                        · skip
                          exact hJ335_21 t16.1
                        · skip
                          refine x_iload C 3 (i := 7) rfl (by decide +kernel) ?_
                          refine x_join (T := Unit) (fun t => t10) 331 (fun t => [(0, ar this), (2, ai p1), (6, ai p5), (8, ai t16.2)]) (fun t => []) (fun t23 => ?_) (fun J331_23 hJ331_23 => ?_)
                          · show X z 0 0 t10 331 [(0, ar this), (2, ai p1), (6, ai p5), (8, ai t16.2)] [] _
                            refine x_iload C 3 (i := 8) rfl (by decide +kernel) ?_
                            refine x_istore C (i := 7) (Nat.le_of_ble_eq_true rfl) (by decide +kernel) (lv2 := [(7, ai t16.2), (0, ar this), (2, ai p1), (6, ai p5), (8, ai t16.2)]) rfl ?_
                            refine x_sub [1, 2, 3, 0, 4] (lv2 := [(0, ar this), (2, ai p1), (6, ai p5), (7, ai t16.2), (8, ai t16.2)]) rfl ?_
                            exact hJ335_21 t16.2
                          · skip
                            refine x_if_lt C (tgt := 331) (off := 30) (by decide) (by decide +kernel) (fun h30 => ?_) (fun h30 => ?_)
                            · skip
                              refine x_sub [0, 1, 2, 4] (lv2 := [(0, ar this), (2, ai p1), (6, ai p5), (8, ai t16.2)]) rfl ?_
                              exact hJ331_23 ()
                            · skip
                              refine x_aload_n C 0 (i := 0) (k0 := 0) rfl rfl (by decide +kernel) ?_
                              refine x_gR C fl_RX12_144 (fun _ _ _ => rfl) (by decide +kernel) (fun minutes_25 => ?_)
                              refine x_bipush C (n := 100) (by decide +kernel) (by decide +kernel) ?_
                              refine x_iload_n C 1 (i := 2) (k0 := 2) rfl rfl (by decide +kernel) ?_
                              refine x_imul C (by decide +kernel) ?_
                              refine x_iload C 4 (i := 8) rfl (by decide +kernel) ?_
                              refine x_iadd C (by decide +kernel) ?_
                              refine x_aldI C (by decide +kernel) (fun a26 => ?_)
                              show X z 0 0 t10 316 [(0, ar this), (2, ai p1), (6, ai p5), (7, ai t16.1), (8, ai t16.2)] [ai a26] _
                              refine x_aload_n C 0 (i := 0) (k0 := 0) rfl rfl (by decide +kernel) ?_
                              refine x_gR C fl_RX12_144 (fun _ _ _ => rfl) (by decide +kernel) (fun minutes_27 => ?_)
                              refine x_bipush C (n := 100) (by decide +kernel) (by decide +kernel) ?_
                              refine x_iload_n C 1 (i := 2) (k0 := 2) rfl rfl (by decide +kernel) ?_
                              refine x_imul C (by decide +kernel) ?_
                              refine x_iload C 3 (i := 7) rfl (by decide +kernel) ?_
                              refine x_iadd C (by decide +kernel) ?_
                              refine x_aldI C (by decide +kernel) (fun a28 => ?_)
                              show X z 0 0 t10 328 [(0, ar this), (2, ai p1), (6, ai p5), (7, ai t16.1), (8, ai t16.2)] [ai a28, ai a26] _
                              refine x_ic_ge C (tgt := 335) (off := 7) (by decide) (by decide +kernel) (fun h29 => ?_) (fun h29 => ?_)
                              · skip
                                exact hJ335_21 t16.1
                              · skip
                                refine x_sub [0, 1, 2, 4] (lv2 := [(0, ar this), (2, ai p1), (6, ai p5), (8, ai t16.2)]) rfl ?_
                                exact hJ331_23 ()
                · skip
                  refine x_sub [1, 3, 4, 5, 6, 7, 0] (lv2 := [(0, ar this), (2, ai p1), (3, ai p2), (4, ai p3), (5, ai p4), (6, ai p5), (7, ai 0)]) rfl ?_
                  -- LOOP L_X12_soonest_103 hb103_34
                  refine x_loop (T := St × Int) (fun t => t.1) (fun t => [(0, ar this), (2, ai p1), (3, ai p2), (4, ai p3), (5, ai p4), (6, ai p5), (7, ai t.2)]) (σ9, 0) rfl (fun b103_34 hb103_34 t34 => ?_)
                  show X z 0 0 t34.1 103 [(0, ar this), (2, ai p1), (3, ai p2), (4, ai p3), (5, ai p4), (6, ai p5), (7, ai t34.2)] [] _
                  refine x_iload C 6 (i := 7) rfl (by decide +kernel) ?_
                  refine x_iload C 5 (i := 6) rfl (by decide +kernel) ?_
                  refine x_ic_gt C (tgt := 268) (off := 161) (by decide) (by decide +kernel) (fun h62 => ?_) (fun h62 => ?_)
                  · skip
                    refine x_sub [0, 1, 5] (lv2 := [(0, ar this), (2, ai p1), (6, ai p5)]) rfl ?_
                    exact hJ268_32 t34.1
                  · skip
                    refine x_iconst C (n := 0) (by decide +kernel) ?_
                    refine x_istore C (i := 8) (Nat.le_of_ble_eq_true rfl) (by decide +kernel) (lv2 := [(8, ai 0), (0, ar this), (2, ai p1), (3, ai p2), (4, ai p3), (5, ai p4), (6, ai p5), (7, ai t34.2)]) rfl ?_
                    refine x_join (T := St) (fun t => t) 262 (fun t => [(0, ar this), (2, ai p1), (3, ai p2), (4, ai p3), (5, ai p4), (6, ai p5), (7, ai t34.2)]) (fun t => []) (fun t36 => ?_) (fun J262_37 hJ262_37 => ?_)
                    · show X z 0 0 t36 262 [(0, ar this), (2, ai p1), (3, ai p2), (4, ai p3), (5, ai p4), (6, ai p5), (7, ai t34.2)] [] _
                      refine x_iinc C 6 (i := 7) (n := 1) (Nat.le_of_ble_eq_true rfl) rfl (by decide +kernel) (lv2 := fun x37 => [(7, ai x37), (0, ar this), (2, ai p1), (3, ai p2), (4, ai p3), (5, ai p4), (6, ai p5)]) (fun _ => rfl) (fun x37 => ?_)
                      refine x_goto C (tgt := 103) (off := (-162)) (by decide) (by decide +kernel) ?_
                      refine x_sub [1, 2, 3, 4, 5, 6, 0] (lv2 := [(0, ar this), (2, ai p1), (3, ai p2), (4, ai p3), (5, ai p4), (6, ai p5), (7, ai x37)]) rfl ?_
                      exact hb103_34 (t36, x37)
                    · skip
                      refine x_sub [1, 2, 3, 4, 5, 6, 7, 0] (lv2 := [(0, ar this), (2, ai p1), (3, ai p2), (4, ai p3), (5, ai p4), (6, ai p5), (7, ai t34.2), (8, ai 0)]) rfl ?_
                      -- LOOP L_X12_soonest_113 hb113_39
                      refine x_loop (T := St × Int) (fun t => t.1) (fun t => [(0, ar this), (2, ai p1), (3, ai p2), (4, ai p3), (5, ai p4), (6, ai p5), (7, ai t34.2), (8, ai t.2)]) (t34.1, 0) rfl (fun b113_39 hb113_39 t39 => ?_)
                      show X z 0 0 t39.1 113 [(0, ar this), (2, ai p1), (3, ai p2), (4, ai p3), (5, ai p4), (6, ai p5), (7, ai t34.2), (8, ai t39.2)] [] _
                      refine x_iload C 7 (i := 8) rfl (by decide +kernel) ?_
                      refine x_bipush C (n := 64) (by decide +kernel) (by decide +kernel) ?_
                      refine x_ic_ge C (tgt := 262) (off := 145) (by decide) (by decide +kernel) (fun h61 => ?_) (fun h61 => ?_)
                      · skip
                        refine x_sub [0, 1, 2, 3, 4, 5, 6] (lv2 := [(0, ar this), (2, ai p1), (3, ai p2), (4, ai p3), (5, ai p4), (6, ai p5), (7, ai t34.2)]) rfl ?_
                        exact hJ262_37 t39.1
                      · skip
                        refine x_aload_n C 0 (i := 0) (k0 := 0) rfl rfl (by decide +kernel) ?_
                        refine x_gR C fl_RX12_144 (fun _ _ _ => rfl) (by decide +kernel) (fun minutes_41 => ?_)
                        refine x_bipush C (n := 100) (by decide +kernel) (by decide +kernel) ?_
                        refine x_iload C 7 (i := 8) rfl (by decide +kernel) ?_
                        refine x_imul C (by decide +kernel) ?_
                        refine x_iload C 6 (i := 7) rfl (by decide +kernel) ?_
                        refine x_iadd C (by decide +kernel) ?_
                        refine x_aldI C (by decide +kernel) (fun a42 => ?_)
                        show X z 0 0 t39.1 133 [(0, ar this), (2, ai p1), (3, ai p2), (4, ai p3), (5, ai p4), (6, ai p5), (7, ai t34.2), (8, ai t39.2)] [ai a42] _
                        refine x_istore C (i := 9) (Nat.le_of_ble_eq_true rfl) (by decide +kernel) (lv2 := [(9, ai a42), (0, ar this), (2, ai p1), (3, ai p2), (4, ai p3), (5, ai p4), (6, ai p5), (7, ai t34.2), (8, ai t39.2)]) rfl ?_
                        refine x_iload C 0 (i := 9) rfl (by decide +kernel) ?_
                        refine x_ldcw C (n := 1000000) (v := 1000000) kc_RX12_503 (by decide +kernel) (by decide +kernel) ?_
                        refine x_join (T := St) (fun t => t) 256 (fun t => [(0, ar this), (2, ai p1), (3, ai p2), (4, ai p3), (5, ai p4), (6, ai p5), (7, ai t34.2), (8, ai t39.2)]) (fun t => []) (fun t43 => ?_) (fun J256_44 hJ256_44 => ?_)
                        · show X z 0 0 t43 256 [(0, ar this), (2, ai p1), (3, ai p2), (4, ai p3), (5, ai p4), (6, ai p5), (7, ai t34.2), (8, ai t39.2)] [] _
                          refine x_iinc C 7 (i := 8) (n := 1) (Nat.le_of_ble_eq_true rfl) rfl (by decide +kernel) (lv2 := fun x44 => [(8, ai x44), (0, ar this), (2, ai p1), (3, ai p2), (4, ai p3), (5, ai p4), (6, ai p5), (7, ai t34.2)]) (fun _ => rfl) (fun x44 => ?_)
                          refine x_goto C (tgt := 113) (off := (-146)) (by decide) (by decide +kernel) ?_
                          refine x_sub [1, 2, 3, 4, 5, 6, 7, 0] (lv2 := [(0, ar this), (2, ai p1), (3, ai p2), (4, ai p3), (5, ai p4), (6, ai p5), (7, ai t34.2), (8, ai x44)]) rfl ?_
                          exact hb113_39 (t43, x44)
                        · skip
                          refine x_ic_lt C (tgt := 146) (off := 6) (by decide) (by decide +kernel) (fun h60 => ?_) (fun h60 => ?_)
                          · skip
                            refine x_iload C 8 (i := 8) rfl (by decide +kernel) ?_
                            refine x_bipush C (n := 8) (by decide +kernel) (by decide +kernel) ?_
                            refine x_iremC C (by decide) (by decide) (by decide +kernel) ?_
                            refine x_join (T := St) (fun t => t) 173 (fun t => [(0, ar this), (2, ai p1), (3, ai p2), (4, ai p3), (5, ai p4), (6, ai p5), (7, ai t34.2), (8, ai t39.2), (9, ai a42)]) (fun t => []) (fun t46 => ?_) (fun J173_56 hJ173_56 => ?_)
                            · show X z 0 0 t46 173 [(0, ar this), (2, ai p1), (3, ai p2), (4, ai p3), (5, ai p4), (6, ai p5), (7, ai t34.2), (8, ai t39.2), (9, ai a42)] [] _
                              refine x_iload C 7 (i := 8) rfl (by decide +kernel) ?_
                              refine x_bipush C (n := 8) (by decide +kernel) (by decide +kernel) ?_
                              refine x_iremC C (by decide) (by decide) (by decide +kernel) ?_
                              refine x_bipush C (n := 7) (by decide +kernel) (by decide +kernel) ?_
                              refine x_join (T := St) (fun t => t) 202 (fun t => [(0, ar this), (2, ai p1), (3, ai p2), (4, ai p3), (5, ai p4), (6, ai p5), (7, ai t34.2), (8, ai t39.2), (9, ai a42)]) (fun t => []) (fun t47 => ?_) (fun J202_53 hJ202_53 => ?_)
                              · show X z 0 0 t47 202 [(0, ar this), (2, ai p1), (3, ai p2), (4, ai p3), (5, ai p4), (6, ai p5), (7, ai t34.2), (8, ai t39.2), (9, ai a42)] [] _
                                refine x_iload C 7 (i := 8) rfl (by decide +kernel) ?_
                                refine x_bipush C (n := 7) (by decide +kernel) (by decide +kernel) ?_
                                refine x_join (T := St) (fun t => t) 229 (fun t => [(0, ar this), (2, ai p1), (3, ai p2), (4, ai p3), (5, ai p4), (6, ai p5), (7, ai t34.2), (8, ai t39.2), (9, ai a42)]) (fun t => []) (fun t48 => ?_) (fun J229_50 hJ229_50 => ?_)
                                · show X z 0 0 t48 229 [(0, ar this), (2, ai p1), (3, ai p2), (4, ai p3), (5, ai p4), (6, ai p5), (7, ai t34.2), (8, ai t39.2), (9, ai a42)] [] _
                                  refine x_iload C 7 (i := 8) rfl (by decide +kernel) ?_
                                  refine x_bipush C (n := 56) (by decide +kernel) (by decide +kernel) ?_
                                  refine x_ic_ge C (tgt := 256) (off := 23) (by decide) (by decide +kernel) (fun h50 => ?_) (fun h50 => ?_)
                                  · skip
                                    refine x_sub [0, 1, 2, 3, 4, 5, 6, 7] (lv2 := [(0, ar this), (2, ai p1), (3, ai p2), (4, ai p3), (5, ai p4), (6, ai p5), (7, ai t34.2), (8, ai t39.2)]) rfl ?_
                                    exact hJ256_44 t48
                                  · skip
                                    refine x_aload_n C 0 (i := 0) (k0 := 0) rfl rfl (by decide +kernel) ?_
                                    refine x_iload C 7 (i := 8) rfl (by decide +kernel) ?_
                                    refine x_bipush C (n := 8) (by decide +kernel) (by decide +kernel) ?_
                                    refine x_iadd C (by decide +kernel) ?_
                                    refine x_iload C 6 (i := 7) rfl (by decide +kernel) ?_
                                    refine x_iload C 8 (i := 9) rfl (by decide +kernel) ?_
                                    refine x_iload_n C 2 (i := 3) (k0 := 3) rfl rfl (by decide +kernel) ?_
                                    refine x_iload C 3 (i := 4) rfl (by decide +kernel) ?_
                                    show X z 0 0 t48 249 [(0, ar this), (2, ai p1), (3, ai p2), (4, ai p3), (5, ai p4), (6, ai p5), (7, ai t34.2), (8, ai t39.2), (9, ai a42)] [ai p3, ai p2, ai a42, ai t34.2, ai (t39.2 + 8), ar this] _
                                    refine x_iload C 4 (i := 5) rfl (by decide +kernel) ?_
                                    refine x_iload C 5 (i := 6) rfl (by decide +kernel) ?_
                                    refine x_callV C (ci := 12) (c_X12_enter l D ca ra N t48 this (t39.2 + 8) t34.2 a42 p2 p3 p4 p5) mt_X12_enter mv_X12_enter rfl ml_RX12_548 rfl (fun h => Bool.noConfusion h) ⟨Nat.le_of_ble_eq_true rfl, Nat.le_of_ble_eq_true rfl⟩ (Nat.le_of_ble_eq_true rfl) 0 0 ⟨rfl, rfl⟩ ⟨Nat.zero_le _, Nat.zero_le _⟩ (by decide +kernel) _ rfl (fun q49 => []) (fun _ => rfl) (fun q49 => ?_)
                                    refine x_sub [0, 1, 2, 3, 4, 5, 6, 7] (lv2 := [(0, ar this), (2, ai p1), (3, ai p2), (4, ai p3), (5, ai p4), (6, ai p5), (7, ai t34.2), (8, ai t39.2)]) rfl ?_
                                    exact hJ256_44 q49.1
                                · skip
                                  refine x_ic_le C (tgt := 229) (off := 23) (by decide) (by decide +kernel) (fun h53 => ?_) (fun h53 => ?_)
                                  · skip
                                    exact hJ229_50 t47
                                  · skip
                                    refine x_aload_n C 0 (i := 0) (k0 := 0) rfl rfl (by decide +kernel) ?_
                                    refine x_iload C 7 (i := 8) rfl (by decide +kernel) ?_
                                    refine x_bipush C (n := 8) (by decide +kernel) (by decide +kernel) ?_
                                    refine x_isub C (by decide +kernel) ?_
                                    refine x_iload C 6 (i := 7) rfl (by decide +kernel) ?_
                                    refine x_iload C 8 (i := 9) rfl (by decide +kernel) ?_
                                    refine x_iload_n C 2 (i := 3) (k0 := 3) rfl rfl (by decide +kernel) ?_
                                    refine x_iload C 3 (i := 4) rfl (by decide +kernel) ?_
                                    show X z 0 0 t47 222 [(0, ar this), (2, ai p1), (3, ai p2), (4, ai p3), (5, ai p4), (6, ai p5), (7, ai t34.2), (8, ai t39.2), (9, ai a42)] [ai p3, ai p2, ai a42, ai t34.2, ai (t39.2 - 8), ar this] _
                                    refine x_iload C 4 (i := 5) rfl (by decide +kernel) ?_
                                    refine x_iload C 5 (i := 6) rfl (by decide +kernel) ?_
                                    refine x_callV C (ci := 12) (c_X12_enter l D ca ra N t47 this (t39.2 - 8) t34.2 a42 p2 p3 p4 p5) mt_X12_enter mv_X12_enter rfl ml_RX12_548 rfl (fun h => Bool.noConfusion h) ⟨Nat.le_of_ble_eq_true rfl, Nat.le_of_ble_eq_true rfl⟩ (Nat.le_of_ble_eq_true rfl) 0 0 ⟨rfl, rfl⟩ ⟨Nat.zero_le _, Nat.zero_le _⟩ (by decide +kernel) _ rfl (fun q52 => []) (fun _ => rfl) (fun q52 => ?_)
                                    exact hJ229_50 q52.1
                              · skip
                                refine x_ic_ge C (tgt := 202) (off := 22) (by decide) (by decide +kernel) (fun h56 => ?_) (fun h56 => ?_)
                                · skip
                                  exact hJ202_53 t46
                                · skip
                                  refine x_aload_n C 0 (i := 0) (k0 := 0) rfl rfl (by decide +kernel) ?_
                                  refine x_iload C 7 (i := 8) rfl (by decide +kernel) ?_
                                  refine x_iconst C (n := 1) (by decide +kernel) ?_
                                  refine x_iadd C (by decide +kernel) ?_
                                  refine x_iload C 6 (i := 7) rfl (by decide +kernel) ?_
                                  refine x_iload C 8 (i := 9) rfl (by decide +kernel) ?_
                                  refine x_iload_n C 2 (i := 3) (k0 := 3) rfl rfl (by decide +kernel) ?_
                                  refine x_iload C 3 (i := 4) rfl (by decide +kernel) ?_
                                  show X z 0 0 t46 195 [(0, ar this), (2, ai p1), (3, ai p2), (4, ai p3), (5, ai p4), (6, ai p5), (7, ai t34.2), (8, ai t39.2), (9, ai a42)] [ai p3, ai p2, ai a42, ai t34.2, ai (t39.2 + 1), ar this] _
                                  refine x_iload C 4 (i := 5) rfl (by decide +kernel) ?_
                                  refine x_iload C 5 (i := 6) rfl (by decide +kernel) ?_
                                  refine x_callV C (ci := 12) (c_X12_enter l D ca ra N t46 this (t39.2 + 1) t34.2 a42 p2 p3 p4 p5) mt_X12_enter mv_X12_enter rfl ml_RX12_548 rfl (fun h => Bool.noConfusion h) ⟨Nat.le_of_ble_eq_true rfl, Nat.le_of_ble_eq_true rfl⟩ (Nat.le_of_ble_eq_true rfl) 0 0 ⟨rfl, rfl⟩ ⟨Nat.zero_le _, Nat.zero_le _⟩ (by decide +kernel) _ rfl (fun q55 => []) (fun _ => rfl) (fun q55 => ?_)
                                  exact hJ202_53 q55.1
                            · skip
                              refine x_if_le C (tgt := 173) (off := 22) (by decide) (by decide +kernel) (fun h59 => ?_) (fun h59 => ?_)
                              · skip
                                refine x_sub [1, 2, 3, 4, 5, 6, 7, 8, 0] (lv2 := [(0, ar this), (2, ai p1), (3, ai p2), (4, ai p3), (5, ai p4), (6, ai p5), (7, ai t34.2), (8, ai t39.2), (9, ai a42)]) rfl ?_
                                exact hJ173_56 t39.1
                              · skip
                                refine x_aload_n C 1 (i := 0) (k0 := 0) rfl rfl (by decide +kernel) ?_
                                refine x_iload C 8 (i := 8) rfl (by decide +kernel) ?_
                                refine x_iconst C (n := 1) (by decide +kernel) ?_
                                refine x_isub C (by decide +kernel) ?_
                                refine x_iload C 7 (i := 7) rfl (by decide +kernel) ?_
                                refine x_iload C 0 (i := 9) rfl (by decide +kernel) ?_
                                refine x_iload_n C 3 (i := 3) (k0 := 3) rfl rfl (by decide +kernel) ?_
                                refine x_iload C 4 (i := 4) rfl (by decide +kernel) ?_
                                show X z 0 0 t39.1 166 [(9, ai a42), (0, ar this), (2, ai p1), (3, ai p2), (4, ai p3), (5, ai p4), (6, ai p5), (7, ai t34.2), (8, ai t39.2)] [ai p3, ai p2, ai a42, ai t34.2, ai (t39.2 - 1), ar this] _
                                refine x_iload C 5 (i := 5) rfl (by decide +kernel) ?_
                                refine x_iload C 6 (i := 6) rfl (by decide +kernel) ?_
                                refine x_callV C (ci := 12) (c_X12_enter l D ca ra N t39.1 this (t39.2 - 1) t34.2 a42 p2 p3 p4 p5) mt_X12_enter mv_X12_enter rfl ml_RX12_548 rfl (fun h => Bool.noConfusion h) ⟨Nat.le_of_ble_eq_true rfl, Nat.le_of_ble_eq_true rfl⟩ (Nat.le_of_ble_eq_true rfl) 0 0 ⟨rfl, rfl⟩ ⟨Nat.zero_le _, Nat.zero_le _⟩ (by decide +kernel) _ rfl (fun q58 => []) (fun _ => rfl) (fun q58 => ?_)
                                refine x_sub [1, 2, 3, 4, 5, 6, 7, 8, 0] (lv2 := [(0, ar this), (2, ai p1), (3, ai p2), (4, ai p3), (5, ai p4), (6, ai p5), (7, ai t34.2), (8, ai t39.2), (9, ai a42)]) rfl ?_
                                exact hJ173_56 q58.1
                          · skip
                            refine x_goto C (tgt := 256) (off := 113) (by decide) (by decide +kernel) ?_
                            refine x_sub [1, 2, 3, 4, 5, 6, 7, 8] (lv2 := [(0, ar this), (2, ai p1), (3, ai p2), (4, ai p3), (5, ai p4), (6, ai p5), (7, ai t34.2), (8, ai t39.2)]) rfl ?_
                            exact hJ256_44 t39.1
              · skip
                refine x_sub [1, 2, 3, 4, 5, 6, 7, 0] (lv2 := [(0, ar this), (1, ai p0), (2, ai p1), (3, ai p2), (4, ai p3), (5, ai p4), (6, ai p5), (7, ai 0)]) rfl ?_
                -- LOOP L_X12_soonest_66 hb66_64
                refine x_loop (T := St × Int) (fun t => t.1) (fun t => [(0, ar this), (1, ai p0), (2, ai p1), (3, ai p2), (4, ai p3), (5, ai p4), (6, ai p5), (7, ai t.2)]) (σ, 0) rfl (fun b66_64 hb66_64 t64 => ?_)
                show X z 0 0 t64.1 66 [(0, ar this), (1, ai p0), (2, ai p1), (3, ai p2), (4, ai p3), (5, ai p4), (6, ai p5), (7, ai t64.2)] [] _
                refine x_iload C 7 (i := 7) rfl (by decide +kernel) ?_
                refine x_sipush C (n := 6400) (by decide +kernel) (by decide +kernel) ?_
                refine x_ic_ge C (tgt := 90) (off := 19) (by decide) (by decide +kernel) (fun h69 => ?_) (fun h69 => ?_)
                · skip
                  refine x_sub [0, 1, 2, 3, 4, 5, 6] (lv2 := [(0, ar this), (1, ai p0), (2, ai p1), (3, ai p2), (4, ai p3), (5, ai p4), (6, ai p5)]) rfl ?_
                  exact hJ90_62 t64.1
                · skip
                  refine x_aload_n C 0 (i := 0) (k0 := 0) rfl rfl (by decide +kernel) ?_
                  refine x_gR C fl_RX12_144 (fun _ _ _ => rfl) (by decide +kernel) (fun minutes_66 => ?_)
                  refine x_iload C 7 (i := 7) rfl (by decide +kernel) ?_
                  refine x_ldcw C (n := 1000000) (v := 1000000) kc_RX12_503 (by decide +kernel) (by decide +kernel) ?_
                  refine x_astI C (by decide +kernel) (fun σ67 => ?_)
                  refine x_iinc C 7 (i := 7) (n := 1) (Nat.le_of_ble_eq_true rfl) rfl (by decide +kernel) (lv2 := fun x68 => [(7, ai x68), (0, ar this), (1, ai p0), (2, ai p1), (3, ai p2), (4, ai p3), (5, ai p4), (6, ai p5)]) (fun _ => rfl) (fun x68 => ?_)
                  refine x_goto C (tgt := 66) (off := (-21)) (by decide) (by decide +kernel) ?_
                  refine x_sub [1, 2, 3, 4, 5, 6, 7, 0] (lv2 := [(0, ar this), (1, ai p0), (2, ai p1), (3, ai p2), (4, ai p3), (5, ai p4), (6, ai p5), (7, ai x68)]) rfl ?_
                  exact hb66_64 (σ67, x68)
            · skip
              refine x_iconst C (n := (-1)) (by decide +kernel) ?_
              exact x_iret C ⟨Nat.zero_le _, Nat.zero_le _⟩ (by decide +kernel)

def rm_X12_airline : Room := { frames := 2, cells := 0, slots := 0, locals := 42 }
def f_X12_airline (N : Nat) (σ : St) (this : Nat) (p0 : Int) (p1 : Int) : Option (St × Int) :=
 Option.bind (f_X12_isIn N σ p0 0 999) fun q1 =>
 (if wr q1.2 = 0 then some (σ, (-1)) else Option.bind (f_X12_isMonth N σ p1) fun q2 =>
 (if wr q2.2 = 0 then some (σ, (-1)) else Option.bind (gI shm σ 12 this 81) fun airlines_3 =>
 (if wr airlines_3 = wr 10 then some (σ, (-1)) else Option.bind (gR shm σ 12 this 78) fun aPrice_4 =>
 Option.bind (gI shm σ 12 this 81) fun airlines_5 =>
 Option.bind (sI shm σ 1 aPrice_4 airlines_5 p0) fun σ6 =>
 Option.bind (gR shm σ6 12 this 79) fun aMonth_7 =>
 Option.bind (gI shm σ6 12 this 81) fun airlines_8 =>
 Option.bind (sI shm σ6 1 aMonth_7 airlines_8 p1) fun σ9 =>
 Option.bind (gI shm σ9 12 this 81) fun airlines_10 =>
 Option.bind (pI shm σ9 12 this 81 (airlines_10 + 1)) fun σ11 =>
 Option.bind (gI shm σ11 12 this 81) fun airlines_12 =>
 some (σ11, (airlines_12 - 1)))))
set_option maxRecDepth 100000 in
set_option maxHeartbeats 4000000 in
theorem c_X12_airline (l : Launch) (D : va_G) (ca : Nat → ClassId) (ra : Nat → Nat) (N : Nat) (σ : St) (this : Nat) (p0 : Int) (p1 : Int) : Ctr l (D, ca, ra, shm) false yX12_airline cX12_airline 3 (some .int) rm_X12_airline σ [ar this, ai p0, ai p1] (f_X12_airline N σ this p0 p1) := by
  refine ctr_of (by decide) (Nat.le_of_ble_eq_true rfl) (fun z C => ?_)
  show X z 0 0 σ 0 [(0, ar this), (1, ai p0), (2, ai p1)] [] _
  unfold f_X12_airline
  refine x_iload_n C 1 (i := 1) (k0 := 1) rfl rfl (by decide +kernel) ?_
  refine x_iconst C (n := 0) (by decide +kernel) ?_
  refine x_sipush C (n := 999) (by decide +kernel) (by decide +kernel) ?_
  refine x_callSp C (c_X12_isIn l D ca ra N σ p0 0 999) (p_X12_isIn N σ p0 0 999) mt_X12_isIn ms_X12_isIn ml_RX12_354 rfl (fun h => Bool.noConfusion h) ⟨Nat.le_of_ble_eq_true rfl, Nat.le_of_ble_eq_true rfl⟩ (Nat.le_of_ble_eq_true rfl) 0 0 ⟨rfl, rfl⟩ ⟨Nat.zero_le _, Nat.zero_le _⟩ (by decide +kernel) _ rfl (fun q1 => [ai q1.2]) (fun _ => rfl) (fun q1 => ?_)
  refine x_if_eq C (tgt := 27) (off := 19) (by decide) (by decide +kernel) (fun h15 => ?_) (fun h15 => ?_)
  · skip
    refine x_iconst C (n := (-1)) (by decide +kernel) ?_
    exact x_iret C ⟨Nat.zero_le _, Nat.zero_le _⟩ (by decide +kernel)
  · skip
    refine x_iload_n C 2 (i := 2) (k0 := 2) rfl rfl (by decide +kernel) ?_
    refine x_callSp C (c_X12_isMonth l D ca ra N σ p1) (p_X12_isMonth N σ p1) mt_X12_isMonth ms_X12_isMonth ml_RX12_495 rfl (fun h => Bool.noConfusion h) ⟨Nat.le_of_ble_eq_true rfl, Nat.le_of_ble_eq_true rfl⟩ (Nat.le_of_ble_eq_true rfl) 0 0 ⟨rfl, rfl⟩ ⟨Nat.zero_le _, Nat.zero_le _⟩ (by decide +kernel) _ rfl (fun q2 => [ai q2.2]) (fun _ => rfl) (fun q2 => ?_)
    refine x_if_eq C (tgt := 27) (off := 12) (by decide) (by decide +kernel) (fun h14 => ?_) (fun h14 => ?_)
    · skip
      refine x_iconst C (n := (-1)) (by decide +kernel) ?_
      exact x_iret C ⟨Nat.zero_le _, Nat.zero_le _⟩ (by decide +kernel)
    · skip
      refine x_aload_n C 0 (i := 0) (k0 := 0) rfl rfl (by decide +kernel) ?_
      refine x_gI C fl_RX12_552 (fun _ _ _ => rfl) (by decide +kernel) (fun airlines_3 => ?_)
      refine x_bipush C (n := 10) (by decide +kernel) (by decide +kernel) ?_
      refine x_ic_ne C (tgt := 29) (off := 5) (by decide) (by decide +kernel) (fun h13 => ?_) (fun h13 => ?_)
      · skip
        refine x_aload_n C 0 (i := 0) (k0 := 0) rfl rfl (by decide +kernel) ?_
        refine x_gR C fl_RX12_147 (fun _ _ _ => rfl) (by decide +kernel) (fun aPrice_4 => ?_)
        refine x_aload_n C 0 (i := 0) (k0 := 0) rfl rfl (by decide +kernel) ?_
        refine x_gI C fl_RX12_552 (fun _ _ _ => rfl) (by decide +kernel) (fun airlines_5 => ?_)
        refine x_iload_n C 1 (i := 1) (k0 := 1) rfl rfl (by decide +kernel) ?_
        refine x_astI C (by decide +kernel) (fun σ6 => ?_)
        refine x_aload_n C 0 (i := 0) (k0 := 0) rfl rfl (by decide +kernel) ?_
        refine x_gR C fl_RX12_150 (fun _ _ _ => rfl) (by decide +kernel) (fun aMonth_7 => ?_)
        show X z 0 0 σ6 43 [(0, ar this), (1, ai p0), (2, ai p1)] [ar aMonth_7] _
        refine x_aload_n C 0 (i := 0) (k0 := 0) rfl rfl (by decide +kernel) ?_
        refine x_gI C fl_RX12_552 (fun _ _ _ => rfl) (by decide +kernel) (fun airlines_8 => ?_)
        refine x_iload_n C 2 (i := 2) (k0 := 2) rfl rfl (by decide +kernel) ?_
        refine x_astI C (by decide +kernel) (fun σ9 => ?_)
        refine x_aload_n C 0 (i := 0) (k0 := 0) rfl rfl (by decide +kernel) ?_
        refine x_dup C rfl (by decide +kernel) ?_
        refine x_gI C fl_RX12_552 (fun _ _ _ => rfl) (by decide +kernel) (fun airlines_10 => ?_)
        refine x_iconst C (n := 1) (by decide +kernel) ?_
        show X z 0 0 σ9 55 [(0, ar this), (1, ai p0), (2, ai p1)] [ai 1, ai airlines_10, ar this] _
        refine x_iadd C (by decide +kernel) ?_
        refine x_pI C fl_RX12_552 rfl (fun q h => by cases h; rfl) (by decide +kernel) (fun σ11 => ?_)
        refine x_aload_n C 0 (i := 0) (k0 := 0) rfl rfl (by decide +kernel) ?_
        refine x_gI C fl_RX12_552 (fun _ _ _ => rfl) (by decide +kernel) (fun airlines_12 => ?_)
        refine x_iconst C (n := 1) (by decide +kernel) ?_
        refine x_isub C (by decide +kernel) ?_
        exact x_iret C ⟨Nat.zero_le _, Nat.zero_le _⟩ (by decide +kernel)
      · skip
        refine x_iconst C (n := (-1)) (by decide +kernel) ?_
        exact x_iret C ⟨Nat.zero_le _, Nat.zero_le _⟩ (by decide +kernel)

def L_X12_rounds_262 (N : Nat) (this : Nat) (t7 : St × Int) (J289_13 : (Int → Option (St × Int))) : (Int × Int) → Option (St × Int) := fixN N fun b262_15 t15 =>
 Option.bind (gI shm t7.1 12 this 81) fun airlines_17 =>
 (if wr t15.2 < wr airlines_17 then Lt (t15.1 - (andZ (shrZ t7.2 t15.2) 1)) fun x18 =>
 Lt (t15.2 + 1) fun x19 =>
 b262_15 (x18, x19) else J289_13 t15.1)
def L_X12_rounds_175 (N : Nat) (this : Nat) (p1 : Int) (t5 : St × Int × Int × Int × Int) (J259_20 : (St × Int → Option (St × Int))) : (St × Int × Int) → Option (St × Int) := fixN N fun b175_22 t22 =>
 Option.bind (gI shm t22.1 12 this 81) fun airlines_24 =>
 (if wr t22.2.2 < wr airlines_24 then Jn (fun t25 : St × Int => Lt (t22.2.2 + 1) fun x26 =>
 b175_22 (t25.1, t25.2, x26)) fun J253_26 =>
 (if wr (andZ (shrZ t5.2.1 t22.2.2) 1) = 0 then J253_26 (t22.1, t22.2.1) else Option.bind (pI shm t22.1 12 this 57 t22.2.2) fun σ28 =>
 Option.bind (gR shm σ28 12 this 78) fun aPrice_29 =>
 Option.bind (aI shm σ28 1 aPrice_29 t22.2.2) fun a30 =>
 Option.bind (pI shm σ28 12 this 60 a30) fun σ31 =>
 Option.bind (pI shm σ31 12 this 59 (t5.2.2.1 - 1)) fun σ32 =>
 Option.bind (rcv shm σ32 12 this (f_X12_work N σ32 this p1 3 1)) fun q33 =>
 (if wr q33.2 = 0 then Lt (orZ t22.2.1 (shlZ 1 t22.2.2)) fun x34 =>
 Option.bind (gR shm q33.1 12 this 80) fun lapsedIn_35 =>
 Option.bind (sI shm q33.1 1 lapsedIn_35 t22.2.2 t5.2.2.2.2) fun σ36 =>
 J253_26 (σ36, x34) else J253_26 (q33.1, t22.2.1))) else J259_20 (t22.1, t22.2.1))
def L_X12_rounds_164 (N : Nat) (this : Nat) (p1 : Int) : (St × Int × Int × Int × Int) → Option (St × Int) := fixN N fun b164_5 t5 =>
 (if wr t5.2.2.2.1 = 0 then some (t5.1, t5.2.1) else Jn (fun t7 : St × Int => Jn (fun t8 : Int => Lt (t5.2.1 - t7.2) fun x9 =>
 Jn (fun t10 : Int => Lt (t5.2.2.2.2 + 1) fun x11 =>
 b164_5 (t7.1, x9, t8, t10, x11)) fun J306_11 =>
 (if wr t7.2 = 0 then J306_11 0 else J306_11 1)) fun J289_13 =>
 L_X12_rounds_262 N this t7 J289_13 (t5.2.2.1, 0)) fun J259_20 =>
 L_X12_rounds_175 N this p1 t5 J259_20 (t5.1, 0, 0))
def L_X12_rounds_75 (N : Nat) (this : Nat) (p0 : Int) (J158_40 : (St × Int × Int → Option (St × Int))) : (St × Int × Int × Int) → Option (St × Int) := fixN N fun b75_42 t42 =>
 Option.bind (gI shm t42.1 12 this 81) fun airlines_44 =>
 (if wr t42.2.2.2 < wr airlines_44 then Option.bind (gR shm t42.1 12 this 79) fun aMonth_45 =>
 Option.bind (aI shm t42.1 1 aMonth_45 t42.2.2.2) fun a46 =>
 Jn (fun t47 : Int => Jn (fun t48 : Int => Lt (orZ t42.2.1 t48) fun x49 =>
 Jn (fun t50 : Int => Lt (t42.2.2.1 + t50) fun x51 =>
 Option.bind (gR shm t42.1 12 this 80) fun lapsedIn_52 =>
 Jn (fun t53 : Int => Option.bind (sI shm t42.1 1 lapsedIn_52 t42.2.2.2 t53) fun σ54 =>
 Lt (t42.2.2.2 + 1) fun x55 =>
 b75_42 (σ54, x49, x51, x55)) fun J151_55 =>
 (if wr t47 = 0 then J151_55 (-1) else J151_55 0)) fun J132_57 =>
 (if wr t47 = 0 then J132_57 0 else J132_57 1)) fun J117_59 =>
 (if wr t47 = 0 then J117_59 0 else J117_59 (shlZ 1 t42.2.2.2))) fun J100_61 =>
 (if wr p0 < wr a46 then J100_61 1 else J100_61 0) else J158_40 (t42.1, t42.2.1, t42.2.2.1))
def L_X12_rounds_19 (N : Nat) (this : Nat) (p0 : Int) (p2 : Int) (J72_64 : (St → Option (St × Int))) : (St × Int) → Option (St × Int) := fixN N fun b19_66 t66 =>
 Option.bind (gI shm t66.1 12 this 67) fun facts_68 =>
 (if wr t66.2 < wr facts_68 then Option.bind (rcv shm t66.1 12 this (f_X12_counts N t66.1 this t66.2 2 p2)) fun q69 =>
 Jn (fun t70 : St => Lt (t66.2 + 1) fun x71 =>
 b19_66 (t70, x71)) fun J66_71 =>
 (if wr q69.2 = 0 then J66_71 t66.1 else Option.bind (gR shm t66.1 12 this 62) fun fOne_73 =>
 Option.bind (aI shm t66.1 1 fOne_73 t66.2) fun a74 =>
 (if wr p0 < wr a74 then J66_71 t66.1 else Option.bind (gI shm t66.1 12 this 58) fun qShown_75 =>
 Option.bind (gR shm t66.1 12 this 63) fun fTwo_76 =>
 Option.bind (aI shm t66.1 1 fTwo_76 t66.2) fun a77 =>
 Option.bind (pI shm t66.1 12 this 58 (orZ qShown_75 a77)) fun σ78 =>
 J66_71 σ78)) else J72_64 t66.1)
def rm_X12_rounds : Room := { frames := 2, cells := 0, slots := 0, locals := 48 }
def f_X12_rounds (N : Nat) (σ : St) (this : Nat) (p0 : Int) (p1 : Int) (p2 : Int) : Option (St × Int) :=
 Option.bind (pI shm σ 12 this 58 0) fun σ1 =>
 Option.bind (pI shm σ1 12 this 52 p0) fun σ2 =>
 Jn (fun t3 : St => Jn (fun t4 : St × Int × Int => L_X12_rounds_164 N this p1 (t4.1, t4.2.1, t4.2.2, 1, 1)) fun J158_40 =>
 L_X12_rounds_75 N this p0 J158_40 (t3, 0, 0, 0)) fun J72_64 =>
 L_X12_rounds_19 N this p0 p2 J72_64 (σ2, 0)
set_option maxRecDepth 100000 in
set_option maxHeartbeats 4000000 in
theorem c_X12_rounds (l : Launch) (D : va_G) (ca : Nat → ClassId) (ra : Nat → Nat) (N : Nat) (σ : St) (this : Nat) (p0 : Int) (p1 : Int) (p2 : Int) : Ctr l (D, ca, ra, shm) false yX12_rounds cX12_rounds 10 (some .int) rm_X12_rounds σ [ar this, ai p0, ai p1, ai p2] (f_X12_rounds N σ this p0 p1 p2) := by
  refine ctr_of (by decide) (Nat.le_of_ble_eq_true rfl) (fun z C => ?_)
  show X z 0 0 σ 0 [(0, ar this), (1, ai p0), (2, ai p1), (3, ai p2)] [] _
  unfold f_X12_rounds
  refine x_iconst C (n := 0) (by decide +kernel) ?_
  refine x_istore C (i := 4) (Nat.le_of_ble_eq_true rfl) (by decide +kernel) (lv2 := [(4, ai 0), (0, ar this), (1, ai p0), (2, ai p1), (3, ai p2)]) rfl ?_
  refine x_iconst C (n := 0) (by decide +kernel) ?_
  refine x_istore C (i := 5) (Nat.le_of_ble_eq_true rfl) (by decide +kernel) (lv2 := [(5, ai 0), (4, ai 0), (0, ar this), (1, ai p0), (2, ai p1), (3, ai p2)]) rfl ?_
  refine x_aload_n C 2 (i := 0) (k0 := 0) rfl rfl (by decide +kernel) ?_
  refine x_iconst C (n := 0) (by decide +kernel) ?_
  refine x_pI C fl_RX12_463 rfl (fun q h => by cases h; rfl) (by decide +kernel) (fun σ1 => ?_)
  refine x_aload_n C 2 (i := 0) (k0 := 0) rfl rfl (by decide +kernel) ?_
  show X z 0 0 σ1 12 [(5, ai 0), (4, ai 0), (0, ar this), (1, ai p0), (2, ai p1), (3, ai p2)] [ar this] _
  refine x_iload_n C 3 (i := 1) (k0 := 1) rfl rfl (by decide +kernel) ?_
  refine x_pI C fl_RX12_445 rfl (fun q h => by cases h; rfl) (by decide +kernel) (fun σ2 => ?_)
  refine x_iconst C (n := 0) (by decide +kernel) ?_
  refine x_istore C (i := 6) (Nat.le_of_ble_eq_true rfl) (by decide +kernel) (lv2 := [(6, ai 0), (5, ai 0), (4, ai 0), (0, ar this), (1, ai p0), (2, ai p1), (3, ai p2)]) rfl ?_
  refine x_join (T := St) (fun t => t) 72 (fun t => [(0, ar this), (1, ai p0), (2, ai p1), (4, ai 0), (5, ai 0)]) (fun t => []) (fun t3 => ?_) (fun J72_64 hJ72_64 => ?_)
  · show X z 0 0 t3 72 [(0, ar this), (1, ai p0), (2, ai p1), (4, ai 0), (5, ai 0)] [] _
    refine x_iconst C (n := 0) (by decide +kernel) ?_
    refine x_istore C (i := 6) (Nat.le_of_ble_eq_true rfl) (by decide +kernel) (lv2 := [(6, ai 0), (0, ar this), (1, ai p0), (2, ai p1), (4, ai 0), (5, ai 0)]) rfl ?_
    refine x_join (T := St × Int × Int) (fun t => t.1) 158 (fun t => [(0, ar this), (2, ai p1), (4, ai t.2.1), (5, ai t.2.2)]) (fun t => []) (fun t4 => ?_) (fun J158_40 hJ158_40 => ?_)
    · show X z 0 0 t4.1 158 [(0, ar this), (2, ai p1), (4, ai t4.2.1), (5, ai t4.2.2)] [] _
      refine x_iconst C (n := 1) (by decide +kernel) ?_
      refine x_istore C (i := 6) (Nat.le_of_ble_eq_true rfl) (by decide +kernel) (lv2 := [(6, ai 1), (0, ar this), (2, ai p1), (4, ai t4.2.1), (5, ai t4.2.2)]) rfl ?_
      refine x_iconst C (n := 1) (by decide +kernel) ?_
      refine x_istore C (i := 7) (Nat.le_of_ble_eq_true rfl) (by decide +kernel) (lv2 := [(7, ai 1), (6, ai 1), (0, ar this), (2, ai p1), (4, ai t4.2.1), (5, ai t4.2.2)]) rfl ?_
      refine x_sub [2, 3, 4, 5, 1, 0] (lv2 := [(0, ar this), (2, ai p1), (4, ai t4.2.1), (5, ai t4.2.2), (6, ai 1), (7, ai 1)]) rfl ?_
      -- LOOP L_X12_rounds_164 hb164_5
      refine x_loop (T := St × Int × Int × Int × Int) (fun t => t.1) (fun t => [(0, ar this), (2, ai p1), (4, ai t.2.1), (5, ai t.2.2.1), (6, ai t.2.2.2.1), (7, ai t.2.2.2.2)]) (t4.1, t4.2.1, t4.2.2, 1, 1) rfl (fun b164_5 hb164_5 t5 => ?_)
      show X z 0 0 t5.1 164 [(0, ar this), (2, ai p1), (4, ai t5.2.1), (5, ai t5.2.2.1), (6, ai t5.2.2.2.1), (7, ai t5.2.2.2.2)] [] _
      refine x_iload C 4 (i := 6) rfl (by decide +kernel) ?_
      refine x_if_eq C (tgt := 314) (off := 148) (by decide) (by decide +kernel) (fun h40 => ?_) (fun h40 => ?_)
      · skip
        refine x_iload C 2 (i := 4) rfl (by decide +kernel) ?_
        exact x_iret C ⟨Nat.zero_le _, Nat.zero_le _⟩ (by decide +kernel)
      · skip
        refine x_iconst C (n := 0) (by decide +kernel) ?_
        refine x_istore C (i := 8) (Nat.le_of_ble_eq_true rfl) (by decide +kernel) (lv2 := [(8, ai 0), (0, ar this), (2, ai p1), (4, ai t5.2.1), (5, ai t5.2.2.1), (6, ai t5.2.2.2.1), (7, ai t5.2.2.2.2)]) rfl ?_
        refine x_iconst C (n := 0) (by decide +kernel) ?_
        refine x_istore C (i := 9) (Nat.le_of_ble_eq_true rfl) (by decide +kernel) (lv2 := [(9, ai 0), (8, ai 0), (0, ar this), (2, ai p1), (4, ai t5.2.1), (5, ai t5.2.2.1), (6, ai t5.2.2.2.1), (7, ai t5.2.2.2.2)]) rfl ?_
        refine x_join (T := St × Int) (fun t => t.1) 259 (fun t => [(0, ar this), (2, ai p1), (4, ai t5.2.1), (5, ai t5.2.2.1), (7, ai t5.2.2.2.2), (8, ai t.2)]) (fun t => []) (fun t7 => ?_) (fun J259_20 hJ259_20 => ?_)
        · show X z 0 0 t7.1 259 [(0, ar this), (2, ai p1), (4, ai t5.2.1), (5, ai t5.2.2.1), (7, ai t5.2.2.2.2), (8, ai t7.2)] [] _
          refine x_iconst C (n := 0) (by decide +kernel) ?_
          refine x_istore C (i := 9) (Nat.le_of_ble_eq_true rfl) (by decide +kernel) (lv2 := [(9, ai 0), (0, ar this), (2, ai p1), (4, ai t5.2.1), (5, ai t5.2.2.1), (7, ai t5.2.2.2.2), (8, ai t7.2)]) rfl ?_
          refine x_join (T := Int) (fun t => t7.1) 289 (fun t => [(0, ar this), (2, ai p1), (4, ai t5.2.1), (5, ai t), (7, ai t5.2.2.2.2), (8, ai t7.2)]) (fun t => []) (fun t8 => ?_) (fun J289_13 hJ289_13 => ?_)
          · show X z 0 0 t7.1 289 [(0, ar this), (2, ai p1), (4, ai t5.2.1), (5, ai t8), (7, ai t5.2.2.2.2), (8, ai t7.2)] [] _
            refine x_iload C 2 (i := 4) rfl (by decide +kernel) ?_
            refine x_iload C 5 (i := 8) rfl (by decide +kernel) ?_
            refine x_isub C (by decide +kernel) ?_
            refine x_istoreL C (i := 4) (Nat.le_of_ble_eq_true rfl) (by decide +kernel) (lv2 := fun x9 => [(4, ai x9), (0, ar this), (2, ai p1), (5, ai t8), (7, ai t5.2.2.2.2), (8, ai t7.2)]) (fun _ => rfl) (fun x9 => ?_)
            refine x_iload C 5 (i := 8) rfl (by decide +kernel) ?_
            refine x_join (T := Int) (fun t => t7.1) 306 (fun t => [(0, ar this), (2, ai p1), (4, ai x9), (5, ai t8), (7, ai t5.2.2.2.2)]) (fun t => [ai t]) (fun t10 => ?_) (fun J306_11 hJ306_11 => ?_)
            · show X z 0 0 t7.1 306 [(0, ar this), (2, ai p1), (4, ai x9), (5, ai t8), (7, ai t5.2.2.2.2)] [ai t10] _
              refine x_istore C (i := 6) (Nat.le_of_ble_eq_true rfl) (by decide +kernel) (lv2 := [(6, ai t10), (0, ar this), (2, ai p1), (4, ai x9), (5, ai t8), (7, ai t5.2.2.2.2)]) rfl ?_
              refine x_iinc C 5 (i := 7) (n := 1) (Nat.le_of_ble_eq_true rfl) rfl (by decide +kernel) (lv2 := fun x11 => [(7, ai x11), (6, ai t10), (0, ar this), (2, ai p1), (4, ai x9), (5, ai t8)]) (fun _ => rfl) (fun x11 => ?_)
              refine x_goto C (tgt := 164) (off := (-147)) (by decide) (by decide +kernel) ?_
              refine x_sub [2, 3, 4, 5, 1, 0] (lv2 := [(0, ar this), (2, ai p1), (4, ai x9), (5, ai t8), (6, ai t10), (7, ai x11)]) rfl ?_
              exact hb164_5 (t7.1, x9, t8, t10, x11)
            · skip
              refine x_if_eq C (tgt := 305) (off := 7) (by decide) (by decide +kernel) (fun h13 => ?_) (fun h13 => ?_)
              · skip
                refine x_iconst C (n := 0) (by decide +kernel) ?_
                refine x_sub [1, 2, 0, 3, 4] (lv2 := [(0, ar this), (2, ai p1), (4, ai x9), (5, ai t8), (7, ai t5.2.2.2.2)]) rfl ?_
                exact hJ306_11 0
              · skip
                refine x_iconst C (n := 1) (by decide +kernel) ?_
                refine x_goto C (tgt := 306) (off := 4) (by decide) (by decide +kernel) ?_
                refine x_sub [1, 2, 0, 3, 4] (lv2 := [(0, ar this), (2, ai p1), (4, ai x9), (5, ai t8), (7, ai t5.2.2.2.2)]) rfl ?_
                exact hJ306_11 1
          · skip
            refine x_sub [1, 2, 3, 4, 5, 6, 0] (lv2 := [(0, ar this), (2, ai p1), (4, ai t5.2.1), (5, ai t5.2.2.1), (7, ai t5.2.2.2.2), (8, ai t7.2), (9, ai 0)]) rfl ?_
            -- LOOP L_X12_rounds_262 hb262_15
            refine x_loop (T := Int × Int) (fun t => t7.1) (fun t => [(0, ar this), (2, ai p1), (4, ai t5.2.1), (5, ai t.1), (7, ai t5.2.2.2.2), (8, ai t7.2), (9, ai t.2)]) (t5.2.2.1, 0) rfl (fun b262_15 hb262_15 t15 => ?_)
            show X z 0 0 t7.1 262 [(0, ar this), (2, ai p1), (4, ai t5.2.1), (5, ai t15.1), (7, ai t5.2.2.2.2), (8, ai t7.2), (9, ai t15.2)] [] _
            refine x_iload C 6 (i := 9) rfl (by decide +kernel) ?_
            refine x_aload_n C 0 (i := 0) (k0 := 0) rfl rfl (by decide +kernel) ?_
            refine x_gI C fl_RX12_552 (fun _ _ _ => rfl) (by decide +kernel) (fun airlines_17 => ?_)
            refine x_ic_ge C (tgt := 289) (off := 21) (by decide) (by decide +kernel) (fun h20 => ?_) (fun h20 => ?_)
            · skip
              refine x_sub [0, 1, 2, 3, 4, 5] (lv2 := [(0, ar this), (2, ai p1), (4, ai t5.2.1), (5, ai t15.1), (7, ai t5.2.2.2.2), (8, ai t7.2)]) rfl ?_
              exact hJ289_13 t15.1
            · skip
              refine x_iload C 3 (i := 5) rfl (by decide +kernel) ?_
              refine x_iload C 5 (i := 8) rfl (by decide +kernel) ?_
              refine x_iload C 6 (i := 9) rfl (by decide +kernel) ?_
              refine x_ishr C (by decide +kernel) ?_
              refine x_iconst C (n := 1) (by decide +kernel) ?_
              refine x_iand C (by decide +kernel) ?_
              refine x_isub C (by decide +kernel) ?_
              refine x_istoreL C (i := 5) (Nat.le_of_ble_eq_true rfl) (by decide +kernel) (lv2 := fun x18 => [(5, ai x18), (0, ar this), (2, ai p1), (4, ai t5.2.1), (7, ai t5.2.2.2.2), (8, ai t7.2), (9, ai t15.2)]) (fun _ => rfl) (fun x18 => ?_)
              show X z 0 0 t7.1 283 [(5, ai x18), (0, ar this), (2, ai p1), (4, ai t5.2.1), (7, ai t5.2.2.2.2), (8, ai t7.2), (9, ai t15.2)] [] _
              refine x_iinc C 6 (i := 9) (n := 1) (Nat.le_of_ble_eq_true rfl) rfl (by decide +kernel) (lv2 := fun x19 => [(9, ai x19), (5, ai x18), (0, ar this), (2, ai p1), (4, ai t5.2.1), (7, ai t5.2.2.2.2), (8, ai t7.2)]) (fun _ => rfl) (fun x19 => ?_)
              refine x_goto C (tgt := 262) (off := (-24)) (by decide) (by decide +kernel) ?_
              refine x_sub [2, 3, 4, 1, 5, 6, 0] (lv2 := [(0, ar this), (2, ai p1), (4, ai t5.2.1), (5, ai x18), (7, ai t5.2.2.2.2), (8, ai t7.2), (9, ai x19)]) rfl ?_
              exact hb262_15 (x18, x19)
        · skip
          refine x_sub [2, 3, 4, 5, 7, 1, 0] (lv2 := [(0, ar this), (2, ai p1), (4, ai t5.2.1), (5, ai t5.2.2.1), (7, ai t5.2.2.2.2), (8, ai 0), (9, ai 0)]) rfl ?_
          -- LOOP L_X12_rounds_175 hb175_22
          refine x_loop (T := St × Int × Int) (fun t => t.1) (fun t => [(0, ar this), (2, ai p1), (4, ai t5.2.1), (5, ai t5.2.2.1), (7, ai t5.2.2.2.2), (8, ai t.2.1), (9, ai t.2.2)]) (t5.1, 0, 0) rfl (fun b175_22 hb175_22 t22 => ?_)
          show X z 0 0 t22.1 175 [(0, ar this), (2, ai p1), (4, ai t5.2.1), (5, ai t5.2.2.1), (7, ai t5.2.2.2.2), (8, ai t22.2.1), (9, ai t22.2.2)] [] _
          refine x_iload C 6 (i := 9) rfl (by decide +kernel) ?_
          refine x_aload_n C 0 (i := 0) (k0 := 0) rfl rfl (by decide +kernel) ?_
          refine x_gI C fl_RX12_552 (fun _ _ _ => rfl) (by decide +kernel) (fun airlines_24 => ?_)
          refine x_ic_ge C (tgt := 259) (off := 78) (by decide) (by decide +kernel) (fun h39 => ?_) (fun h39 => ?_)
          · skip
            refine x_sub [0, 1, 2, 3, 4, 5] (lv2 := [(0, ar this), (2, ai p1), (4, ai t5.2.1), (5, ai t5.2.2.1), (7, ai t5.2.2.2.2), (8, ai t22.2.1)]) rfl ?_
            exact hJ259_20 (t22.1, t22.2.1)
          · skip
            refine x_iload C 2 (i := 4) rfl (by decide +kernel) ?_
            refine x_iload C 6 (i := 9) rfl (by decide +kernel) ?_
            refine x_ishr C (by decide +kernel) ?_
            refine x_iconst C (n := 1) (by decide +kernel) ?_
            refine x_iand C (by decide +kernel) ?_
            refine x_join (T := St × Int) (fun t => t.1) 253 (fun t => [(0, ar this), (2, ai p1), (4, ai t5.2.1), (5, ai t5.2.2.1), (7, ai t5.2.2.2.2), (8, ai t.2), (9, ai t22.2.2)]) (fun t => []) (fun t25 => ?_) (fun J253_26 hJ253_26 => ?_)
            · show X z 0 0 t25.1 253 [(0, ar this), (2, ai p1), (4, ai t5.2.1), (5, ai t5.2.2.1), (7, ai t5.2.2.2.2), (8, ai t25.2), (9, ai t22.2.2)] [] _
              refine x_iinc C 6 (i := 9) (n := 1) (Nat.le_of_ble_eq_true rfl) rfl (by decide +kernel) (lv2 := fun x26 => [(9, ai x26), (0, ar this), (2, ai p1), (4, ai t5.2.1), (5, ai t5.2.2.1), (7, ai t5.2.2.2.2), (8, ai t25.2)]) (fun _ => rfl) (fun x26 => ?_)
              refine x_goto C (tgt := 175) (off := (-81)) (by decide) (by decide +kernel) ?_
              refine x_sub [1, 2, 3, 4, 5, 6, 0] (lv2 := [(0, ar this), (2, ai p1), (4, ai t5.2.1), (5, ai t5.2.2.1), (7, ai t5.2.2.2.2), (8, ai t25.2), (9, ai x26)]) rfl ?_
              exact hb175_22 (t25.1, t25.2, x26)
            · skip
              refine x_if_ne C (tgt := 197) (off := 6) (by decide) (by decide +kernel) (fun h38 => ?_) (fun h38 => ?_)
              · skip
                refine x_aload_n C 0 (i := 0) (k0 := 0) rfl rfl (by decide +kernel) ?_
                refine x_iload C 6 (i := 9) rfl (by decide +kernel) ?_
                refine x_pI C fl_RX12_460 rfl (fun q h => by cases h; rfl) (by decide +kernel) (fun σ28 => ?_)
                refine x_aload_n C 0 (i := 0) (k0 := 0) rfl rfl (by decide +kernel) ?_
                refine x_aload_n C 0 (i := 0) (k0 := 0) rfl rfl (by decide +kernel) ?_
                refine x_gR C fl_RX12_147 (fun _ _ _ => rfl) (by decide +kernel) (fun aPrice_29 => ?_)
                refine x_iload C 6 (i := 9) rfl (by decide +kernel) ?_
                refine x_aldI C (by decide +kernel) (fun a30 => ?_)
                show X z 0 0 σ28 211 [(0, ar this), (2, ai p1), (4, ai t5.2.1), (5, ai t5.2.2.1), (7, ai t5.2.2.2.2), (8, ai t22.2.1), (9, ai t22.2.2)] [ai a30, ar this] _
                refine x_pI C fl_RX12_469 rfl (fun q h => by cases h; rfl) (by decide +kernel) (fun σ31 => ?_)
                refine x_aload_n C 0 (i := 0) (k0 := 0) rfl rfl (by decide +kernel) ?_
                refine x_iload C 3 (i := 5) rfl (by decide +kernel) ?_
                refine x_iconst C (n := 1) (by decide +kernel) ?_
                refine x_isub C (by decide +kernel) ?_
                refine x_pI C fl_RX12_466 rfl (fun q h => by cases h; rfl) (by decide +kernel) (fun σ32 => ?_)
                refine x_aload_n C 0 (i := 0) (k0 := 0) rfl rfl (by decide +kernel) ?_
                refine x_iload_n C 1 (i := 2) (k0 := 2) rfl rfl (by decide +kernel) ?_
                show X z 0 0 σ32 224 [(0, ar this), (2, ai p1), (4, ai t5.2.1), (5, ai t5.2.2.1), (7, ai t5.2.2.2.2), (8, ai t22.2.1), (9, ai t22.2.2)] [ai p1, ar this] _
                refine x_iconst C (n := 3) (by decide +kernel) ?_
                refine x_iconst C (n := 1) (by decide +kernel) ?_
                refine x_callV C (ci := 12) (c_X12_work l D ca ra N σ32 this p1 3 1) mt_X12_work mv_X12_work rfl ml_RX12_479 rfl (fun h => Bool.noConfusion h) ⟨Nat.le_of_ble_eq_true rfl, Nat.le_of_ble_eq_true rfl⟩ (Nat.le_of_ble_eq_true rfl) 0 0 ⟨rfl, rfl⟩ ⟨Nat.zero_le _, Nat.zero_le _⟩ (by decide +kernel) _ rfl (fun q33 => [ai q33.2]) (fun _ => rfl) (fun q33 => ?_)
                refine x_if_eq C (tgt := 235) (off := 6) (by decide) (by decide +kernel) (fun h37 => ?_) (fun h37 => ?_)
                · skip
                  refine x_iload C 5 (i := 8) rfl (by decide +kernel) ?_
                  refine x_iconst C (n := 1) (by decide +kernel) ?_
                  refine x_iload C 6 (i := 9) rfl (by decide +kernel) ?_
                  refine x_ishl C (by decide +kernel) ?_
                  refine x_ior C (by decide +kernel) ?_
                  refine x_istoreL C (i := 8) (Nat.le_of_ble_eq_true rfl) (by decide +kernel) (lv2 := fun x34 => [(8, ai x34), (0, ar this), (2, ai p1), (4, ai t5.2.1), (5, ai t5.2.2.1), (7, ai t5.2.2.2.2), (9, ai t22.2.2)]) (fun _ => rfl) (fun x34 => ?_)
                  refine x_aload_n C 1 (i := 0) (k0 := 0) rfl rfl (by decide +kernel) ?_
                  refine x_gR C fl_RX12_153 (fun _ _ _ => rfl) (by decide +kernel) (fun lapsedIn_35 => ?_)
                  show X z 0 0 q33.1 248 [(8, ai x34), (0, ar this), (2, ai p1), (4, ai t5.2.1), (5, ai t5.2.2.1), (7, ai t5.2.2.2.2), (9, ai t22.2.2)] [ar lapsedIn_35] _
                  refine x_iload C 6 (i := 9) rfl (by decide +kernel) ?_
                  refine x_iload C 5 (i := 7) rfl (by decide +kernel) ?_
                  refine x_astI C (by decide +kernel) (fun σ36 => ?_)
                  refine x_sub [1, 2, 3, 4, 5, 0, 6] (lv2 := [(0, ar this), (2, ai p1), (4, ai t5.2.1), (5, ai t5.2.2.1), (7, ai t5.2.2.2.2), (8, ai x34), (9, ai t22.2.2)]) rfl ?_
                  exact hJ253_26 (σ36, x34)
                · skip
                  refine x_goto C (tgt := 253) (off := 21) (by decide) (by decide +kernel) ?_
                  exact hJ253_26 (q33.1, t22.2.1)
              · skip
                refine x_goto C (tgt := 253) (off := 59) (by decide) (by decide +kernel) ?_
                exact hJ253_26 (t22.1, t22.2.1)
    · skip
      refine x_sub [1, 2, 3, 4, 5, 0] (lv2 := [(0, ar this), (1, ai p0), (2, ai p1), (4, ai 0), (5, ai 0), (6, ai 0)]) rfl ?_
      -- LOOP L_X12_rounds_75 hb75_42
      refine x_loop (T := St × Int × Int × Int) (fun t => t.1) (fun t => [(0, ar this), (1, ai p0), (2, ai p1), (4, ai t.2.1), (5, ai t.2.2.1), (6, ai t.2.2.2)]) (t3, 0, 0, 0) rfl (fun b75_42 hb75_42 t42 => ?_)
      show X z 0 0 t42.1 75 [(0, ar this), (1, ai p0), (2, ai p1), (4, ai t42.2.1), (5, ai t42.2.2.1), (6, ai t42.2.2.2)] [] _
      refine x_iload C 5 (i := 6) rfl (by decide +kernel) ?_
      refine x_aload_n C 0 (i := 0) (k0 := 0) rfl rfl (by decide +kernel) ?_
      refine x_gI C fl_RX12_552 (fun _ _ _ => rfl) (by decide +kernel) (fun airlines_44 => ?_)
      refine x_ic_ge C (tgt := 158) (off := 77) (by decide) (by decide +kernel) (fun h64 => ?_) (fun h64 => ?_)
      · skip
        refine x_sub [0, 2, 3, 4] (lv2 := [(0, ar this), (2, ai p1), (4, ai t42.2.1), (5, ai t42.2.2.1)]) rfl ?_
        exact hJ158_40 (t42.1, t42.2.1, t42.2.2.1)
      · skip
        refine x_iload_n C 1 (i := 1) (k0 := 1) rfl rfl (by decide +kernel) ?_
        refine x_aload_n C 0 (i := 0) (k0 := 0) rfl rfl (by decide +kernel) ?_
        refine x_gR C fl_RX12_150 (fun _ _ _ => rfl) (by decide +kernel) (fun aMonth_45 => ?_)
        refine x_iload C 5 (i := 6) rfl (by decide +kernel) ?_
        refine x_aldI C (by decide +kernel) (fun a46 => ?_)
        refine x_join (T := Int) (fun t => t42.1) 100 (fun t => [(0, ar this), (1, ai p0), (2, ai p1), (4, ai t42.2.1), (5, ai t42.2.2.1), (6, ai t42.2.2.2)]) (fun t => [ai t]) (fun t47 => ?_) (fun J100_61 hJ100_61 => ?_)
        · show X z 0 0 t42.1 100 [(0, ar this), (1, ai p0), (2, ai p1), (4, ai t42.2.1), (5, ai t42.2.2.1), (6, ai t42.2.2.2)] [ai t47] _
          refine x_istore C (i := 7) (Nat.le_of_ble_eq_true rfl) (by decide +kernel) (lv2 := [(7, ai t47), (0, ar this), (1, ai p0), (2, ai p1), (4, ai t42.2.1), (5, ai t42.2.2.1), (6, ai t42.2.2.2)]) rfl ?_
          refine x_iload C 4 (i := 4) rfl (by decide +kernel) ?_
          refine x_iload C 0 (i := 7) rfl (by decide +kernel) ?_
          refine x_join (T := Int) (fun t => t42.1) 117 (fun t => [(0, ar this), (1, ai p0), (2, ai p1), (5, ai t42.2.2.1), (6, ai t42.2.2.2), (7, ai t47)]) (fun t => [ai t, ai t42.2.1]) (fun t48 => ?_) (fun J117_59 hJ117_59 => ?_)
          · show X z 0 0 t42.1 117 [(0, ar this), (1, ai p0), (2, ai p1), (5, ai t42.2.2.1), (6, ai t42.2.2.2), (7, ai t47)] [ai t48, ai t42.2.1] _
            refine x_ior C (by decide +kernel) ?_
            refine x_istoreL C (i := 4) (Nat.le_of_ble_eq_true rfl) (by decide +kernel) (lv2 := fun x49 => [(4, ai x49), (0, ar this), (1, ai p0), (2, ai p1), (5, ai t42.2.2.1), (6, ai t42.2.2.2), (7, ai t47)]) (fun _ => rfl) (fun x49 => ?_)
            refine x_iload C 4 (i := 5) rfl (by decide +kernel) ?_
            refine x_iload C 6 (i := 7) rfl (by decide +kernel) ?_
            refine x_join (T := Int) (fun t => t42.1) 132 (fun t => [(0, ar this), (1, ai p0), (2, ai p1), (4, ai x49), (6, ai t42.2.2.2), (7, ai t47)]) (fun t => [ai t, ai t42.2.2.1]) (fun t50 => ?_) (fun J132_57 hJ132_57 => ?_)
            · show X z 0 0 t42.1 132 [(0, ar this), (1, ai p0), (2, ai p1), (4, ai x49), (6, ai t42.2.2.2), (7, ai t47)] [ai t50, ai t42.2.2.1] _
              refine x_iadd C (by decide +kernel) ?_
              refine x_istoreL C (i := 5) (Nat.le_of_ble_eq_true rfl) (by decide +kernel) (lv2 := fun x51 => [(5, ai x51), (0, ar this), (1, ai p0), (2, ai p1), (4, ai x49), (6, ai t42.2.2.2), (7, ai t47)]) (fun _ => rfl) (fun x51 => ?_)
              refine x_aload_n C 1 (i := 0) (k0 := 0) rfl rfl (by decide +kernel) ?_
              refine x_gR C fl_RX12_153 (fun _ _ _ => rfl) (by decide +kernel) (fun lapsedIn_52 => ?_)
              refine x_iload C 5 (i := 6) rfl (by decide +kernel) ?_
              refine x_iload C 6 (i := 7) rfl (by decide +kernel) ?_
              refine x_join (T := Int) (fun t => t42.1) 151 (fun t => [(0, ar this), (1, ai p0), (2, ai p1), (4, ai x49), (5, ai x51), (6, ai t42.2.2.2)]) (fun t => [ai t, ai t42.2.2.2, ar lapsedIn_52]) (fun t53 => ?_) (fun J151_55 hJ151_55 => ?_)
              · show X z 0 0 t42.1 151 [(0, ar this), (1, ai p0), (2, ai p1), (4, ai x49), (5, ai x51), (6, ai t42.2.2.2)] [ai t53, ai t42.2.2.2, ar lapsedIn_52] _
                refine x_astI C (by decide +kernel) (fun σ54 => ?_)
                refine x_iinc C 5 (i := 6) (n := 1) (Nat.le_of_ble_eq_true rfl) rfl (by decide +kernel) (lv2 := fun x55 => [(6, ai x55), (0, ar this), (1, ai p0), (2, ai p1), (4, ai x49), (5, ai x51)]) (fun _ => rfl) (fun x55 => ?_)
                refine x_goto C (tgt := 75) (off := (-80)) (by decide) (by decide +kernel) ?_
                refine x_sub [1, 2, 3, 4, 5, 0] (lv2 := [(0, ar this), (1, ai p0), (2, ai p1), (4, ai x49), (5, ai x51), (6, ai x55)]) rfl ?_
                exact hb75_42 (σ54, x49, x51, x55)
              · skip
                refine x_if_eq C (tgt := 150) (off := 7) (by decide) (by decide +kernel) (fun h57 => ?_) (fun h57 => ?_)
                · skip
                  refine x_iconst C (n := (-1)) (by decide +kernel) ?_
                  refine x_sub [1, 2, 3, 4, 0, 5] (lv2 := [(0, ar this), (1, ai p0), (2, ai p1), (4, ai x49), (5, ai x51), (6, ai t42.2.2.2)]) rfl ?_
                  exact hJ151_55 (-1)
                · skip
                  refine x_iconst C (n := 0) (by decide +kernel) ?_
                  refine x_goto C (tgt := 151) (off := 4) (by decide) (by decide +kernel) ?_
                  refine x_sub [1, 2, 3, 4, 0, 5] (lv2 := [(0, ar this), (1, ai p0), (2, ai p1), (4, ai x49), (5, ai x51), (6, ai t42.2.2.2)]) rfl ?_
                  exact hJ151_55 0
            · skip
              refine x_if_eq C (tgt := 131) (off := 7) (by decide) (by decide +kernel) (fun h59 => ?_) (fun h59 => ?_)
              · skip
                refine x_iconst C (n := 0) (by decide +kernel) ?_
                refine x_sub [1, 2, 3, 0, 5, 6] (lv2 := [(0, ar this), (1, ai p0), (2, ai p1), (4, ai x49), (6, ai t42.2.2.2), (7, ai t47)]) rfl ?_
                exact hJ132_57 0
              · skip
                refine x_iconst C (n := 1) (by decide +kernel) ?_
                refine x_goto C (tgt := 132) (off := 4) (by decide) (by decide +kernel) ?_
                refine x_sub [1, 2, 3, 0, 5, 6] (lv2 := [(0, ar this), (1, ai p0), (2, ai p1), (4, ai x49), (6, ai t42.2.2.2), (7, ai t47)]) rfl ?_
                exact hJ132_57 1
          · skip
            refine x_if_eq C (tgt := 116) (off := 10) (by decide) (by decide +kernel) (fun h61 => ?_) (fun h61 => ?_)
            · skip
              refine x_iconst C (n := 0) (by decide +kernel) ?_
              refine x_sub [1, 2, 3, 5, 6, 0] (lv2 := [(0, ar this), (1, ai p0), (2, ai p1), (5, ai t42.2.2.1), (6, ai t42.2.2.2), (7, ai t47)]) rfl ?_
              exact hJ117_59 0
            · skip
              refine x_iconst C (n := 1) (by decide +kernel) ?_
              refine x_iload C 6 (i := 6) rfl (by decide +kernel) ?_
              refine x_ishl C (by decide +kernel) ?_
              refine x_goto C (tgt := 117) (off := 4) (by decide) (by decide +kernel) ?_
              refine x_sub [1, 2, 3, 5, 6, 0] (lv2 := [(0, ar this), (1, ai p0), (2, ai p1), (5, ai t42.2.2.1), (6, ai t42.2.2.2), (7, ai t47)]) rfl ?_
              exact hJ117_59 (shlZ 1 t42.2.2.2)
        · skip
          refine x_ic_ge C (tgt := 99) (off := 7) (by decide) (by decide +kernel) (fun h63 => ?_) (fun h63 => ?_)
          · skip
            refine x_iconst C (n := 0) (by decide +kernel) ?_
            exact hJ100_61 0
          · skip
            refine x_iconst C (n := 1) (by decide +kernel) ?_
            refine x_goto C (tgt := 100) (off := 4) (by decide) (by decide +kernel) ?_
            exact hJ100_61 1
  · skip
    refine x_sub [3, 4, 5, 6, 2, 1, 0] (lv2 := [(0, ar this), (1, ai p0), (2, ai p1), (3, ai p2), (4, ai 0), (5, ai 0), (6, ai 0)]) rfl ?_
    -- LOOP L_X12_rounds_19 hb19_66
    refine x_loop (T := St × Int) (fun t => t.1) (fun t => [(0, ar this), (1, ai p0), (2, ai p1), (3, ai p2), (4, ai 0), (5, ai 0), (6, ai t.2)]) (σ2, 0) rfl (fun b19_66 hb19_66 t66 => ?_)
    show X z 0 0 t66.1 19 [(0, ar this), (1, ai p0), (2, ai p1), (3, ai p2), (4, ai 0), (5, ai 0), (6, ai t66.2)] [] _
    refine x_iload C 6 (i := 6) rfl (by decide +kernel) ?_
    refine x_aload_n C 0 (i := 0) (k0 := 0) rfl rfl (by decide +kernel) ?_
    refine x_gI C fl_RX12_309 (fun _ _ _ => rfl) (by decide +kernel) (fun facts_68 => ?_)
    refine x_ic_ge C (tgt := 72) (off := 47) (by decide) (by decide +kernel) (fun h81 => ?_) (fun h81 => ?_)
    · skip
      refine x_sub [0, 1, 2, 4, 5] (lv2 := [(0, ar this), (1, ai p0), (2, ai p1), (4, ai 0), (5, ai 0)]) rfl ?_
      exact hJ72_64 t66.1
    · skip
      refine x_aload_n C 0 (i := 0) (k0 := 0) rfl rfl (by decide +kernel) ?_
      refine x_iload C 6 (i := 6) rfl (by decide +kernel) ?_
      refine x_iconst C (n := 2) (by decide +kernel) ?_
      refine x_iload_n C 3 (i := 3) (k0 := 3) rfl rfl (by decide +kernel) ?_
      refine x_callVp C (ci := 12) (c_X12_counts l D ca ra N t66.1 this t66.2 2 p2) (p_X12_counts N t66.1 this t66.2 2 p2) mt_X12_counts mv_X12_counts rfl ml_RX12_504 rfl (fun h => Bool.noConfusion h) ⟨Nat.le_of_ble_eq_true rfl, Nat.le_of_ble_eq_true rfl⟩ (Nat.le_of_ble_eq_true rfl) 0 0 ⟨rfl, rfl⟩ ⟨Nat.zero_le _, Nat.zero_le _⟩ (by decide +kernel) _ rfl (fun q69 => [ai q69.2]) (fun _ => rfl) (fun q69 => ?_)
      refine x_join (T := St) (fun t => t) 66 (fun t => [(0, ar this), (1, ai p0), (2, ai p1), (3, ai p2), (4, ai 0), (5, ai 0), (6, ai t66.2)]) (fun t => []) (fun t70 => ?_) (fun J66_71 hJ66_71 => ?_)
      · show X z 0 0 t70 66 [(0, ar this), (1, ai p0), (2, ai p1), (3, ai p2), (4, ai 0), (5, ai 0), (6, ai t66.2)] [] _
        refine x_iinc C 6 (i := 6) (n := 1) (Nat.le_of_ble_eq_true rfl) rfl (by decide +kernel) (lv2 := fun x71 => [(6, ai x71), (0, ar this), (1, ai p0), (2, ai p1), (3, ai p2), (4, ai 0), (5, ai 0)]) (fun _ => rfl) (fun x71 => ?_)
        refine x_goto C (tgt := 19) (off := (-50)) (by decide) (by decide +kernel) ?_
        refine x_sub [1, 2, 3, 4, 5, 6, 0] (lv2 := [(0, ar this), (1, ai p0), (2, ai p1), (3, ai p2), (4, ai 0), (5, ai 0), (6, ai x71)]) rfl ?_
        exact hb19_66 (t70, x71)
      · skip
        refine x_if_eq C (tgt := 66) (off := 30) (by decide) (by decide +kernel) (fun h80 => ?_) (fun h80 => ?_)
        · skip
          exact hJ66_71 t66.1
        · skip
          refine x_aload_n C 0 (i := 0) (k0 := 0) rfl rfl (by decide +kernel) ?_
          refine x_gR C fl_RX12_113 (fun _ _ _ => rfl) (by decide +kernel) (fun fOne_73 => ?_)
          refine x_iload C 6 (i := 6) rfl (by decide +kernel) ?_
          refine x_aldI C (by decide +kernel) (fun a74 => ?_)
          refine x_iload_n C 1 (i := 1) (k0 := 1) rfl rfl (by decide +kernel) ?_
          refine x_ic_gt C (tgt := 66) (off := 19) (by decide) (by decide +kernel) (fun h79 => ?_) (fun h79 => ?_)
          · skip
            exact hJ66_71 t66.1
          · skip
            refine x_aload_n C 0 (i := 0) (k0 := 0) rfl rfl (by decide +kernel) ?_
            refine x_dup C rfl (by decide +kernel) ?_
            refine x_gI C fl_RX12_463 (fun _ _ _ => rfl) (by decide +kernel) (fun qShown_75 => ?_)
            refine x_aload_n C 0 (i := 0) (k0 := 0) rfl rfl (by decide +kernel) ?_
            refine x_gR C fl_RX12_116 (fun _ _ _ => rfl) (by decide +kernel) (fun fTwo_76 => ?_)
            refine x_iload C 6 (i := 6) rfl (by decide +kernel) ?_
            refine x_aldI C (by decide +kernel) (fun a77 => ?_)
            refine x_ior C (by decide +kernel) ?_
            show X z 0 0 t66.1 63 [(0, ar this), (1, ai p0), (2, ai p1), (3, ai p2), (4, ai 0), (5, ai 0), (6, ai t66.2)] [ai (orZ qShown_75 a77), ar this] _
            refine x_pI C fl_RX12_463 rfl (fun q h => by cases h; rfl) (by decide +kernel) (fun σ78 => ?_)
            exact hJ66_71 σ78

def rm_X12_hold : Room := { frames := 3, cells := 0, slots := 0, locals := 77 }
def f_X12_hold (N : Nat) (σ : St) (this : Nat) (p0 : Int) (p1 : Int) (p2 : Int) : Option (St × Int) :=
 Option.bind (f_X12_isMonth N σ p0) fun q1 =>
 (if wr q1.2 = 0 then some (σ, (-1)) else Option.bind (f_X12_isTongue N σ p1) fun q2 =>
 (if wr q2.2 = 0 then some (σ, (-1)) else Option.bind (rcv shm σ 12 this (f_X12_rounds N σ this p0 p1 p2)) fun q3 =>
 some (q3.1, q3.2)))
set_option maxRecDepth 100000 in
set_option maxHeartbeats 4000000 in
theorem c_X12_hold (l : Launch) (D : va_G) (ca : Nat → ClassId) (ra : Nat → Nat) (N : Nat) (σ : St) (this : Nat) (p0 : Int) (p1 : Int) (p2 : Int) : Ctr l (D, ca, ra, shm) false yX12_hold cX12_hold 4 (some .int) rm_X12_hold σ [ar this, ai p0, ai p1, ai p2] (f_X12_hold N σ this p0 p1 p2) := by
  refine ctr_of (by decide) (Nat.le_of_ble_eq_true rfl) (fun z C => ?_)
  show X z 0 0 σ 0 [(0, ar this), (1, ai p0), (2, ai p1), (3, ai p2)] [] _
  unfold f_X12_hold
  refine x_iload_n C 1 (i := 1) (k0 := 1) rfl rfl (by decide +kernel) ?_
  refine x_callSp C (c_X12_isMonth l D ca ra N σ p0) (p_X12_isMonth N σ p0) mt_X12_isMonth ms_X12_isMonth ml_RX12_495 rfl (fun h => Bool.noConfusion h) ⟨Nat.le_of_ble_eq_true rfl, Nat.le_of_ble_eq_true rfl⟩ (Nat.le_of_ble_eq_true rfl) 0 0 ⟨rfl, rfl⟩ ⟨Nat.zero_le _, Nat.zero_le _⟩ (by decide +kernel) _ rfl (fun q1 => [ai q1.2]) (fun _ => rfl) (fun q1 => ?_)
  refine x_if_eq C (tgt := 24) (off := 20) (by decide) (by decide +kernel) (fun h5 => ?_) (fun h5 => ?_)
  · skip
    refine x_iconst C (n := (-1)) (by decide +kernel) ?_
    exact x_iret C ⟨Nat.zero_le _, Nat.zero_le _⟩ (by decide +kernel)
  · skip
    refine x_iload_n C 2 (i := 2) (k0 := 2) rfl rfl (by decide +kernel) ?_
    refine x_callSp C (c_X12_isTongue l D ca ra N σ p1) (p_X12_isTongue N σ p1) mt_X12_isTongue ms_X12_isTongue ml_RX12_391 rfl (fun h => Bool.noConfusion h) ⟨Nat.le_of_ble_eq_true rfl, Nat.le_of_ble_eq_true rfl⟩ (Nat.le_of_ble_eq_true rfl) 0 0 ⟨rfl, rfl⟩ ⟨Nat.zero_le _, Nat.zero_le _⟩ (by decide +kernel) _ rfl (fun q2 => [ai q2.2]) (fun _ => rfl) (fun q2 => ?_)
    refine x_if_eq C (tgt := 24) (off := 13) (by decide) (by decide +kernel) (fun h4 => ?_) (fun h4 => ?_)
    · skip
      refine x_iconst C (n := (-1)) (by decide +kernel) ?_
      exact x_iret C ⟨Nat.zero_le _, Nat.zero_le _⟩ (by decide +kernel)
    · skip
      refine x_aload_n C 0 (i := 0) (k0 := 0) rfl rfl (by decide +kernel) ?_
      refine x_iload_n C 1 (i := 1) (k0 := 1) rfl rfl (by decide +kernel) ?_
      refine x_iload_n C 2 (i := 2) (k0 := 2) rfl rfl (by decide +kernel) ?_
      refine x_iload_n C 3 (i := 3) (k0 := 3) rfl rfl (by decide +kernel) ?_
      refine x_callV C (ci := 12) (c_X12_rounds l D ca ra N σ this p0 p1 p2) mt_X12_rounds mv_X12_rounds rfl ml_RX12_555 rfl (fun h => Bool.noConfusion h) ⟨Nat.le_of_ble_eq_true rfl, Nat.le_of_ble_eq_true rfl⟩ (Nat.le_of_ble_eq_true rfl) 0 0 ⟨rfl, rfl⟩ ⟨Nat.zero_le _, Nat.zero_le _⟩ (by decide +kernel) _ rfl (fun q3 => [ai q3.2]) (fun _ => rfl) (fun q3 => ?_)
      refine x_goto C (tgt := 25) (off := 4) (by decide) (by decide +kernel) ?_
      exact x_iret C ⟨Nat.zero_le _, Nat.zero_le _⟩ (by decide +kernel)

def rm_X12_lapse : Room := { frames := 4, cells := 0, slots := 0, locals := 100 }
def f_X12_lapse (N : Nat) (σ : St) (this : Nat) (p0 : Int) (p1 : Int) (p2 : Int) (p3 : Int) : Option (St × Int) :=
 Option.bind (gI shm σ 12 this 81) fun airlines_1 =>
 Option.bind (f_X12_isIn N σ p0 0 (airlines_1 - 1)) fun q2 =>
 (if wr q2.2 = 0 then some (σ, (-1)) else Option.bind (rcv shm σ 12 this (f_X12_hold N σ this p1 p2 p3)) fun q3 =>
 (if wr q3.2 < 0 then some (q3.1, (-1)) else Option.bind (gR shm q3.1 12 this 80) fun lapsedIn_4 =>
 Option.bind (aI shm q3.1 1 lapsedIn_4 p0) fun a5 =>
 some (q3.1, a5)))
set_option maxRecDepth 100000 in
set_option maxHeartbeats 4000000 in
theorem c_X12_lapse (l : Launch) (D : va_G) (ca : Nat → ClassId) (ra : Nat → Nat) (N : Nat) (σ : St) (this : Nat) (p0 : Int) (p1 : Int) (p2 : Int) (p3 : Int) : Ctr l (D, ca, ra, shm) false yX12_lapse cX12_lapse 5 (some .int) rm_X12_lapse σ [ar this, ai p0, ai p1, ai p2, ai p3] (f_X12_lapse N σ this p0 p1 p2 p3) := by
  refine ctr_of (by decide) (Nat.le_of_ble_eq_true rfl) (fun z C => ?_)
  show X z 0 0 σ 0 [(0, ar this), (1, ai p0), (2, ai p1), (3, ai p2), (4, ai p3)] [] _
  unfold f_X12_lapse
  refine x_iload_n C 1 (i := 1) (k0 := 1) rfl rfl (by decide +kernel) ?_
  refine x_iconst C (n := 0) (by decide +kernel) ?_
  refine x_aload_n C 0 (i := 0) (k0 := 0) rfl rfl (by decide +kernel) ?_
  refine x_gI C fl_RX12_552 (fun _ _ _ => rfl) (by decide +kernel) (fun airlines_1 => ?_)
  refine x_iconst C (n := 1) (by decide +kernel) ?_
  refine x_isub C (by decide +kernel) ?_
  refine x_callSp C (c_X12_isIn l D ca ra N σ p0 0 (airlines_1 - 1)) (p_X12_isIn N σ p0 0 (airlines_1 - 1)) mt_X12_isIn ms_X12_isIn ml_RX12_354 rfl (fun h => Bool.noConfusion h) ⟨Nat.le_of_ble_eq_true rfl, Nat.le_of_ble_eq_true rfl⟩ (Nat.le_of_ble_eq_true rfl) 0 0 ⟨rfl, rfl⟩ ⟨Nat.zero_le _, Nat.zero_le _⟩ (by decide +kernel) _ rfl (fun q2 => [ai q2.2]) (fun _ => rfl) (fun q2 => ?_)
  refine x_if_eq C (tgt := 25) (off := 14) (by decide) (by decide +kernel) (fun h7 => ?_) (fun h7 => ?_)
  · skip
    refine x_iconst C (n := (-1)) (by decide +kernel) ?_
    exact x_iret C ⟨Nat.zero_le _, Nat.zero_le _⟩ (by decide +kernel)
  · skip
    refine x_aload_n C 0 (i := 0) (k0 := 0) rfl rfl (by decide +kernel) ?_
    refine x_iload_n C 2 (i := 2) (k0 := 2) rfl rfl (by decide +kernel) ?_
    refine x_iload_n C 3 (i := 3) (k0 := 3) rfl rfl (by decide +kernel) ?_
    refine x_iload C 4 (i := 4) rfl (by decide +kernel) ?_
    refine x_callV C (ci := 12) (c_X12_hold l D ca ra N σ this p1 p2 p3) mt_X12_hold mv_X12_hold rfl ml_RX12_558 rfl (fun h => Bool.noConfusion h) ⟨Nat.le_of_ble_eq_true rfl, Nat.le_of_ble_eq_true rfl⟩ (Nat.le_of_ble_eq_true rfl) 0 0 ⟨rfl, rfl⟩ ⟨Nat.zero_le _, Nat.zero_le _⟩ (by decide +kernel) _ rfl (fun q3 => [ai q3.2]) (fun _ => rfl) (fun q3 => ?_)
    refine x_if_ge C (tgt := 27) (off := 5) (by decide) (by decide +kernel) (fun h6 => ?_) (fun h6 => ?_)
    · skip
      refine x_aload_n C 0 (i := 0) (k0 := 0) rfl rfl (by decide +kernel) ?_
      refine x_gR C fl_RX12_153 (fun _ _ _ => rfl) (by decide +kernel) (fun lapsedIn_4 => ?_)
      refine x_iload_n C 1 (i := 1) (k0 := 1) rfl rfl (by decide +kernel) ?_
      refine x_aldI C (by decide +kernel) (fun a5 => ?_)
      exact x_iret C ⟨Nat.zero_le _, Nat.zero_le _⟩ (by decide +kernel)
    · skip
      refine x_iconst C (n := (-1)) (by decide +kernel) ?_
      exact x_iret C ⟨Nat.zero_le _, Nat.zero_le _⟩ (by decide +kernel)

def rm_X12_give : Room := { frames := 0, cells := 0, slots := 0, locals := 0 }
def f_X12_give (N : Nat) (σ : St) (this : Nat) (p0 : Int) (p1 : Int) : Option (St × Int) :=
 Option.bind (gR shm σ 12 this 19) fun pCosts_1 =>
 Option.bind (gI shm σ 12 this 31) fun bank_2 =>
 Option.bind (aI shm σ 1 pCosts_1 ((12 * bank_2) + p0)) fun a3 =>
 Lt (p1 * a3) fun x4 =>
 Option.bind (gI shm σ 12 this 85) fun shareOne_5 =>
 Option.bind (gR shm σ 12 this 82) fun makes_6 =>
 Option.bind (aI shm σ 1 makes_6 p0) fun a7 =>
 Jn (fun t8 : Int => Option.bind (pI shm σ 12 this 85 (shareOne_5 + t8)) fun σ9 =>
 Option.bind (gI shm σ9 12 this 86) fun shareTwo_10 =>
 Option.bind (gR shm σ9 12 this 82) fun makes_11 =>
 Option.bind (aI shm σ9 1 makes_11 p0) fun a12 =>
 Jn (fun t13 : Int => Option.bind (pI shm σ9 12 this 86 (shareTwo_10 + t13)) fun σ14 =>
 Option.bind (gI shm σ14 12 this 87) fun shareBoth_15 =>
 Option.bind (gR shm σ14 12 this 82) fun makes_16 =>
 Option.bind (aI shm σ14 1 makes_16 p0) fun a17 =>
 Jn (fun t18 : Int => Option.bind (pI shm σ14 12 this 87 (shareBoth_15 + t18)) fun σ19 =>
 some (σ19, 0)) fun J84_19 =>
 (if wr a17 = wr 2 then J84_19 x4 else J84_19 0)) fun J60_21 =>
 (if wr a12 = 0 then J60_21 0 else J60_21 x4)) fun J37_23 =>
 (if wr a7 = wr 1 then J37_23 0 else J37_23 x4)
set_option maxRecDepth 100000 in
set_option maxHeartbeats 4000000 in
theorem c_X12_give (l : Launch) (D : va_G) (ca : Nat → ClassId) (ra : Nat → Nat) (N : Nat) (σ : St) (this : Nat) (p0 : Int) (p1 : Int) : Ctr l (D, ca, ra, shm) false yX12_give cX12_give 4 none rm_X12_give σ [ar this, ai p0, ai p1] (f_X12_give N σ this p0 p1) := by
  refine ctr_of (by decide) (Nat.le_of_ble_eq_true rfl) (fun z C => ?_)
  show X z 0 0 σ 0 [(0, ar this), (1, ai p0), (2, ai p1)] [] _
  unfold f_X12_give
  refine x_iload_n C 2 (i := 2) (k0 := 2) rfl rfl (by decide +kernel) ?_
  refine x_aload_n C 0 (i := 0) (k0 := 0) rfl rfl (by decide +kernel) ?_
  refine x_gR C fl_RX12_45 (fun _ _ _ => rfl) (by decide +kernel) (fun pCosts_1 => ?_)
  refine x_bipush C (n := 12) (by decide +kernel) (by decide +kernel) ?_
  refine x_aload_n C 0 (i := 0) (k0 := 0) rfl rfl (by decide +kernel) ?_
  refine x_gI C fl_RX12_300 (fun _ _ _ => rfl) (by decide +kernel) (fun bank_2 => ?_)
  refine x_imul C (by decide +kernel) ?_
  refine x_iload_n C 1 (i := 1) (k0 := 1) rfl rfl (by decide +kernel) ?_
  show X z 0 0 σ 13 [(0, ar this), (1, ai p0), (2, ai p1)] [ai p0, ai (12 * bank_2), ar pCosts_1, ai p1] _
  refine x_iadd C (by decide +kernel) ?_
  refine x_aldI C (by decide +kernel) (fun a3 => ?_)
  refine x_imul C (by decide +kernel) ?_
  refine x_istore_nL C (i := 3) (k0 := 3) rfl (Nat.le_of_ble_eq_true rfl) (by decide +kernel) (lv2 := fun x4 => [(3, ai x4), (0, ar this), (1, ai p0), (2, ai p1)]) (fun _ => rfl) (fun x4 => ?_)
  refine x_aload_n C 1 (i := 0) (k0 := 0) rfl rfl (by decide +kernel) ?_
  refine x_dup C rfl (by decide +kernel) ?_
  refine x_gI C fl_RX12_561 (fun _ _ _ => rfl) (by decide +kernel) (fun shareOne_5 => ?_)
  refine x_aload_n C 1 (i := 0) (k0 := 0) rfl rfl (by decide +kernel) ?_
  show X z 0 0 σ 23 [(3, ai x4), (0, ar this), (1, ai p0), (2, ai p1)] [ar this, ai shareOne_5, ar this] _
  refine x_gR C fl_RX12_156 (fun _ _ _ => rfl) (by decide +kernel) (fun makes_6 => ?_)
  refine x_iload_n C 2 (i := 1) (k0 := 1) rfl rfl (by decide +kernel) ?_
  refine x_aldI C (by decide +kernel) (fun a7 => ?_)
  refine x_iconst C (n := 1) (by decide +kernel) ?_
  refine x_join (T := Int) (fun t => σ) 37 (fun t => [(0, ar this), (1, ai p0), (3, ai x4)]) (fun t => [ai t, ai shareOne_5, ar this]) (fun t8 => ?_) (fun J37_23 hJ37_23 => ?_)
  · show X z 0 0 σ 37 [(0, ar this), (1, ai p0), (3, ai x4)] [ai t8, ai shareOne_5, ar this] _
    refine x_iadd C (by decide +kernel) ?_
    refine x_pI C fl_RX12_561 rfl (fun q h => by cases h; rfl) (by decide +kernel) (fun σ9 => ?_)
    refine x_aload_n C 0 (i := 0) (k0 := 0) rfl rfl (by decide +kernel) ?_
    refine x_dup C rfl (by decide +kernel) ?_
    refine x_gI C fl_RX12_564 (fun _ _ _ => rfl) (by decide +kernel) (fun shareTwo_10 => ?_)
    refine x_aload_n C 0 (i := 0) (k0 := 0) rfl rfl (by decide +kernel) ?_
    refine x_gR C fl_RX12_156 (fun _ _ _ => rfl) (by decide +kernel) (fun makes_11 => ?_)
    refine x_iload_n C 1 (i := 1) (k0 := 1) rfl rfl (by decide +kernel) ?_
    show X z 0 0 σ9 51 [(0, ar this), (1, ai p0), (3, ai x4)] [ai p0, ar makes_11, ai shareTwo_10, ar this] _
    refine x_aldI C (by decide +kernel) (fun a12 => ?_)
    refine x_join (T := Int) (fun t => σ9) 60 (fun t => [(0, ar this), (1, ai p0), (3, ai x4)]) (fun t => [ai t, ai shareTwo_10, ar this]) (fun t13 => ?_) (fun J60_21 hJ60_21 => ?_)
    · show X z 0 0 σ9 60 [(0, ar this), (1, ai p0), (3, ai x4)] [ai t13, ai shareTwo_10, ar this] _
      refine x_iadd C (by decide +kernel) ?_
      refine x_pI C fl_RX12_564 rfl (fun q h => by cases h; rfl) (by decide +kernel) (fun σ14 => ?_)
      refine x_aload_n C 0 (i := 0) (k0 := 0) rfl rfl (by decide +kernel) ?_
      refine x_dup C rfl (by decide +kernel) ?_
      refine x_gI C fl_RX12_567 (fun _ _ _ => rfl) (by decide +kernel) (fun shareBoth_15 => ?_)
      refine x_aload_n C 0 (i := 0) (k0 := 0) rfl rfl (by decide +kernel) ?_
      refine x_gR C fl_RX12_156 (fun _ _ _ => rfl) (by decide +kernel) (fun makes_16 => ?_)
      refine x_iload_n C 1 (i := 1) (k0 := 1) rfl rfl (by decide +kernel) ?_
      show X z 0 0 σ14 74 [(0, ar this), (1, ai p0), (3, ai x4)] [ai p0, ar makes_16, ai shareBoth_15, ar this] _
      refine x_aldI C (by decide +kernel) (fun a17 => ?_)
      refine x_iconst C (n := 2) (by decide +kernel) ?_
      refine x_join (T := Int) (fun t => σ14) 84 (fun t => []) (fun t => [ai t, ai shareBoth_15, ar this]) (fun t18 => ?_) (fun J84_19 hJ84_19 => ?_)
      · show X z 0 0 σ14 84 [] [ai t18, ai shareBoth_15, ar this] _
        refine x_iadd C (by decide +kernel) ?_
        refine x_pI C fl_RX12_567 rfl (fun q h => by cases h; rfl) (by decide +kernel) (fun σ19 => ?_)
        exact x_vret C ⟨Nat.zero_le _, Nat.zero_le _⟩ (by decide +kernel)
      · skip
        refine x_ic_ne C (tgt := 83) (off := 7) (by decide) (by decide +kernel) (fun h21 => ?_) (fun h21 => ?_)
        · skip
          refine x_iconst C (n := 0) (by decide +kernel) ?_
          refine x_sub [] (lv2 := []) rfl ?_
          exact hJ84_19 0
        · skip
          refine x_iload_n C 2 (i := 3) (k0 := 3) rfl rfl (by decide +kernel) ?_
          refine x_goto C (tgt := 84) (off := 4) (by decide) (by decide +kernel) ?_
          refine x_sub [] (lv2 := []) rfl ?_
          exact hJ84_19 x4
    · skip
      refine x_if_eq C (tgt := 59) (off := 7) (by decide) (by decide +kernel) (fun h23 => ?_) (fun h23 => ?_)
      · skip
        refine x_iconst C (n := 0) (by decide +kernel) ?_
        exact hJ60_21 0
      · skip
        refine x_iload_n C 2 (i := 3) (k0 := 3) rfl rfl (by decide +kernel) ?_
        refine x_goto C (tgt := 60) (off := 4) (by decide) (by decide +kernel) ?_
        exact hJ60_21 x4
  · skip
    refine x_ic_eq C (tgt := 36) (off := 7) (by decide) (by decide +kernel) (fun h25 => ?_) (fun h25 => ?_)
    · skip
      refine x_iconst C (n := 0) (by decide +kernel) ?_
      refine x_sub [1, 2, 0] (lv2 := [(0, ar this), (1, ai p0), (3, ai x4)]) rfl ?_
      exact hJ37_23 0
    · skip
      refine x_iload_n C 0 (i := 3) (k0 := 3) rfl rfl (by decide +kernel) ?_
      refine x_goto C (tgt := 37) (off := 4) (by decide) (by decide +kernel) ?_
      refine x_sub [1, 2, 0] (lv2 := [(0, ar this), (1, ai p0), (3, ai x4)]) rfl ?_
      exact hJ37_23 x4

def L_X12_seekShared_221 (N : Nat) (this : Nat) (J250_30 : (St → Option (St × Int))) : (St × Int) → Option (St × Int) := fixN N fun b221_32 t32 =>
 Option.bind (rcv shm t32.1 12 this (f_X12_parts N t32.1 this)) fun q34 =>
 (if wr t32.2 < wr q34.2 then Option.bind (gR shm t32.1 12 this 83) fun bestMakes_35 =>
 Option.bind (gR shm t32.1 12 this 82) fun makes_36 =>
 Option.bind (aI shm t32.1 1 makes_36 t32.2) fun a37 =>
 Option.bind (sI shm t32.1 1 bestMakes_35 t32.2 a37) fun σ38 =>
 Lt (t32.2 + 1) fun x39 =>
 b221_32 (σ38, x39) else J250_30 t32.1)
def L_X12_seekShared_86 (N : Nat) (this : Nat) (p0 : Int) (t1 : Int) : (St × Int) → Option (St × Int) := fixN N fun b86_12 t12 =>
 (if wr t12.2 < 0 then some (t12.1, 0) else Option.bind (gR shm t12.1 12 this 82) fun makes_14 =>
 Option.bind (aI shm t12.1 1 makes_14 t12.2) fun a15 =>
 Jn (fun t16 : St => Option.bind (gR shm t16 12 this 82) fun makes_17 =>
 Option.bind (aI shm t16 1 makes_17 t12.2) fun a18 =>
 Option.bind (sI shm t16 1 makes_17 t12.2 (a18 + 1)) fun σ19 =>
 Option.bind (gR shm σ19 12 this 82) fun makes_20 =>
 Option.bind (aI shm σ19 1 makes_20 t12.2) fun a21 =>
 (if wr a21 = wr 3 then Lt (t12.2 + (-1)) fun x52 =>
 b86_12 (σ19, x52) else Option.bind (rcv shm σ19 12 this (f_X12_give N σ19 this t12.2 1)) fun q22 =>
 Option.bind (gI shm q22.1 12 this 84) fun sharedBest_23 =>
 Jn (fun t24 : Unit => Option.bind (rcv shm q22.1 12 this (f_X12_parts N q22.1 this)) fun q25 =>
 (if wr (t12.2 + 1) < wr q25.2 then Lt (t12.2 + 1) fun x43 =>
 Option.bind (gR shm q22.1 12 this 82) fun makes_44 =>
 Option.bind (sI shm q22.1 1 makes_44 x43 (-1)) fun σ45 =>
 b86_12 (σ45, x43) else Option.bind (gI shm q22.1 12 this 85) fun shareOne_26 =>
 (if wr (shareOne_26 * 100) < wr (p0 * t1) then b86_12 (q22.1, t12.2) else Option.bind (gI shm q22.1 12 this 86) fun shareTwo_27 =>
 (if wr (shareTwo_27 * 100) < wr (p0 * t1) then b86_12 (q22.1, t12.2) else Option.bind (gI shm q22.1 12 this 87) fun shareBoth_28 =>
 Option.bind (pI shm q22.1 12 this 84 shareBoth_28) fun σ29 =>
 Jn (fun t30 : St => b86_12 (t30, t12.2)) fun J250_30 =>
 L_X12_seekShared_221 N this J250_30 (σ29, 0))))) fun J158_46 =>
 (if wr sharedBest_23 < 0 then J158_46 () else Option.bind (gI shm q22.1 12 this 87) fun shareBoth_48 =>
 Option.bind (gI shm q22.1 12 this 84) fun sharedBest_49 =>
 (if wr shareBoth_48 < wr sharedBest_49 then J158_46 () else b86_12 (q22.1, t12.2))))) fun J105_53 =>
 (if wr a15 < 0 then J105_53 t12.1 else Option.bind (rcv shm t12.1 12 this (f_X12_give N t12.1 this t12.2 (-1))) fun q55 =>
 J105_53 q55.1))
def L_X12_seekShared_4 (N : Nat) (σ : St) (this : Nat) (J35_61 : (Int → Option (St × Int))) : (Int × Int) → Option (St × Int) := fixN N fun b4_63 t63 =>
 Option.bind (rcv shm σ 12 this (f_X12_parts N σ this)) fun q65 =>
 (if wr t63.2 < wr q65.2 then Option.bind (gR shm σ 12 this 19) fun pCosts_66 =>
 Option.bind (gI shm σ 12 this 31) fun bank_67 =>
 Option.bind (aI shm σ 1 pCosts_66 ((12 * bank_67) + t63.2)) fun a68 =>
 Lt (t63.1 + a68) fun x69 =>
 Lt (t63.2 + 1) fun x70 =>
 b4_63 (x69, x70) else J35_61 t63.1)
def rm_X12_seekShared : Room := { frames := 1, cells := 0, slots := 0, locals := 23 }
def f_X12_seekShared (N : Nat) (σ : St) (this : Nat) (p0 : Int) : Option (St × Int) :=
 Jn (fun t1 : Int => Option.bind (rcv shm σ 12 this (f_X12_parts N σ this)) fun q2 =>
 Jn (fun t3 : Int => Option.bind (pI shm σ 12 this 84 t3) fun σ4 =>
 Option.bind (pI shm σ4 12 this 85 0) fun σ5 =>
 Option.bind (pI shm σ5 12 this 86 0) fun σ6 =>
 Option.bind (pI shm σ6 12 this 87 0) fun σ7 =>
 Option.bind (rcv shm σ7 12 this (f_X12_parts N σ7 this)) fun q8 =>
 Jn (fun t9 : Int => Option.bind (gR shm σ7 12 this 82) fun makes_10 =>
 Option.bind (sI shm σ7 1 makes_10 0 (-1)) fun σ11 =>
 L_X12_seekShared_86 N this p0 t1 (σ11, t9)) fun J78_57 =>
 (if wr q8.2 = 0 then J78_57 (-1) else J78_57 0)) fun J48_59 =>
 (if wr q2.2 = 0 then J48_59 0 else J48_59 (-1))) fun J35_61 =>
 L_X12_seekShared_4 N σ this J35_61 (0, 0)
set_option maxRecDepth 100000 in
set_option maxHeartbeats 4000000 in
theorem c_X12_seekShared (l : Launch) (D : va_G) (ca : Nat → ClassId) (ra : Nat → Nat) (N : Nat) (σ : St) (this : Nat) (p0 : Int) : Ctr l (D, ca, ra, shm) false yX12_seekShared cX12_seekShared 5 none rm_X12_seekShared σ [ar this, ai p0] (f_X12_seekShared N σ this p0) := by
  refine ctr_of (by decide) (Nat.le_of_ble_eq_true rfl) (fun z C => ?_)
  show X z 0 0 σ 0 [(0, ar this), (1, ai p0)] [] _
  unfold f_X12_seekShared
  refine x_iconst C (n := 0) (by decide +kernel) ?_
  refine x_istore_n C (i := 2) (k0 := 2) rfl (Nat.le_of_ble_eq_true rfl) (by decide +kernel) (lv2 := [(2, ai 0), (0, ar this), (1, ai p0)]) rfl ?_
  refine x_iconst C (n := 0) (by decide +kernel) ?_
  refine x_istore_n C (i := 3) (k0 := 3) rfl (Nat.le_of_ble_eq_true rfl) (by decide +kernel) (lv2 := [(3, ai 0), (2, ai 0), (0, ar this), (1, ai p0)]) rfl ?_
  refine x_join (T := Int) (fun t => σ) 35 (fun t => [(0, ar this), (1, ai p0), (2, ai t)]) (fun t => []) (fun t1 => ?_) (fun J35_61 hJ35_61 => ?_)
  · show X z 0 0 σ 35 [(0, ar this), (1, ai p0), (2, ai t1)] [] _
    refine x_aload_n C 0 (i := 0) (k0 := 0) rfl rfl (by decide +kernel) ?_
    refine x_aload_n C 0 (i := 0) (k0 := 0) rfl rfl (by decide +kernel) ?_
    refine x_callVp C (ci := 12) (c_X12_parts l D ca ra N σ this) (p_X12_parts N σ this) mt_X12_parts mv_X12_parts rfl ml_RX12_350 rfl (fun h => Bool.noConfusion h) ⟨Nat.le_of_ble_eq_true rfl, Nat.le_of_ble_eq_true rfl⟩ (Nat.le_of_ble_eq_true rfl) 0 0 ⟨rfl, rfl⟩ ⟨Nat.zero_le _, Nat.zero_le _⟩ (by decide +kernel) _ rfl (fun q2 => [ai q2.2, ar this]) (fun _ => rfl) (fun q2 => ?_)
    refine x_join (T := Int) (fun t => σ) 48 (fun t => [(0, ar this), (1, ai p0), (2, ai t1)]) (fun t => [ai t, ar this]) (fun t3 => ?_) (fun J48_59 hJ48_59 => ?_)
    · show X z 0 0 σ 48 [(0, ar this), (1, ai p0), (2, ai t1)] [ai t3, ar this] _
      refine x_pI C fl_RX12_570 rfl (fun q h => by cases h; rfl) (by decide +kernel) (fun σ4 => ?_)
      refine x_aload_n C 0 (i := 0) (k0 := 0) rfl rfl (by decide +kernel) ?_
      refine x_iconst C (n := 0) (by decide +kernel) ?_
      refine x_pI C fl_RX12_561 rfl (fun q h => by cases h; rfl) (by decide +kernel) (fun σ5 => ?_)
      refine x_aload_n C 0 (i := 0) (k0 := 0) rfl rfl (by decide +kernel) ?_
      refine x_iconst C (n := 0) (by decide +kernel) ?_
      refine x_pI C fl_RX12_564 rfl (fun q h => by cases h; rfl) (by decide +kernel) (fun σ6 => ?_)
      refine x_aload_n C 0 (i := 0) (k0 := 0) rfl rfl (by decide +kernel) ?_
      show X z 0 0 σ6 62 [(0, ar this), (1, ai p0), (2, ai t1)] [ar this] _
      refine x_iconst C (n := 0) (by decide +kernel) ?_
      refine x_pI C fl_RX12_567 rfl (fun q h => by cases h; rfl) (by decide +kernel) (fun σ7 => ?_)
      refine x_aload_n C 0 (i := 0) (k0 := 0) rfl rfl (by decide +kernel) ?_
      refine x_callVp C (ci := 12) (c_X12_parts l D ca ra N σ7 this) (p_X12_parts N σ7 this) mt_X12_parts mv_X12_parts rfl ml_RX12_350 rfl (fun h => Bool.noConfusion h) ⟨Nat.le_of_ble_eq_true rfl, Nat.le_of_ble_eq_true rfl⟩ (Nat.le_of_ble_eq_true rfl) 0 0 ⟨rfl, rfl⟩ ⟨Nat.zero_le _, Nat.zero_le _⟩ (by decide +kernel) _ rfl (fun q8 => [ai q8.2]) (fun _ => rfl) (fun q8 => ?_)
      refine x_join (T := Int) (fun t => σ7) 78 (fun t => [(0, ar this), (1, ai p0), (2, ai t1)]) (fun t => [ai t]) (fun t9 => ?_) (fun J78_57 hJ78_57 => ?_)
      · show X z 0 0 σ7 78 [(0, ar this), (1, ai p0), (2, ai t1)] [ai t9] _
        refine x_istore_n C (i := 3) (k0 := 3) rfl (Nat.le_of_ble_eq_true rfl) (by decide +kernel) (lv2 := [(3, ai t9), (0, ar this), (1, ai p0), (2, ai t1)]) rfl ?_
        refine x_aload_n C 1 (i := 0) (k0 := 0) rfl rfl (by decide +kernel) ?_
        refine x_gR C fl_RX12_156 (fun _ _ _ => rfl) (by decide +kernel) (fun makes_10 => ?_)
        refine x_iconst C (n := 0) (by decide +kernel) ?_
        refine x_iconst C (n := (-1)) (by decide +kernel) ?_
        refine x_astI C (by decide +kernel) (fun σ11 => ?_)
        refine x_sub [1, 2, 3, 0] (lv2 := [(0, ar this), (1, ai p0), (2, ai t1), (3, ai t9)]) rfl ?_
        -- LOOP L_X12_seekShared_86 hb86_12
        refine x_loop (T := St × Int) (fun t => t.1) (fun t => [(0, ar this), (1, ai p0), (2, ai t1), (3, ai t.2)]) (σ11, t9) rfl (fun b86_12 hb86_12 t12 => ?_)
        show X z 0 0 t12.1 86 [(0, ar this), (1, ai p0), (2, ai t1), (3, ai t12.2)] [] _
        refine x_iload_n C 3 (i := 3) (k0 := 3) rfl rfl (by decide +kernel) ?_
        refine x_if_lt C (tgt := 253) (off := 166) (by decide) (by decide +kernel) (fun h57 => ?_) (fun h57 => ?_)
        · skip
          exact x_vret C ⟨Nat.zero_le _, Nat.zero_le _⟩ (by decide +kernel)
        · skip
          refine x_aload_n C 0 (i := 0) (k0 := 0) rfl rfl (by decide +kernel) ?_
          refine x_gR C fl_RX12_156 (fun _ _ _ => rfl) (by decide +kernel) (fun makes_14 => ?_)
          refine x_iload_n C 3 (i := 3) (k0 := 3) rfl rfl (by decide +kernel) ?_
          refine x_aldI C (by decide +kernel) (fun a15 => ?_)
          refine x_join (T := St) (fun t => t) 105 (fun t => [(0, ar this), (1, ai p0), (2, ai t1), (3, ai t12.2)]) (fun t => []) (fun t16 => ?_) (fun J105_53 hJ105_53 => ?_)
          · show X z 0 0 t16 105 [(0, ar this), (1, ai p0), (2, ai t1), (3, ai t12.2)] [] _
            refine x_aload_n C 0 (i := 0) (k0 := 0) rfl rfl (by decide +kernel) ?_
            refine x_gR C fl_RX12_156 (fun _ _ _ => rfl) (by decide +kernel) (fun makes_17 => ?_)
            refine x_iload_n C 3 (i := 3) (k0 := 3) rfl rfl (by decide +kernel) ?_
            refine x_dup2 C rfl rfl (by decide +kernel) ?_
            refine x_aldI C (by decide +kernel) (fun a18 => ?_)
            refine x_iconst C (n := 1) (by decide +kernel) ?_
            refine x_iadd C (by decide +kernel) ?_
            refine x_astI C (by decide +kernel) (fun σ19 => ?_)
            show X z 0 0 σ19 115 [(0, ar this), (1, ai p0), (2, ai t1), (3, ai t12.2)] [] _
            refine x_aload_n C 0 (i := 0) (k0 := 0) rfl rfl (by decide +kernel) ?_
            refine x_gR C fl_RX12_156 (fun _ _ _ => rfl) (by decide +kernel) (fun makes_20 => ?_)
            refine x_iload_n C 3 (i := 3) (k0 := 3) rfl rfl (by decide +kernel) ?_
            refine x_aldI C (by decide +kernel) (fun a21 => ?_)
            refine x_iconst C (n := 3) (by decide +kernel) ?_
            refine x_ic_ne C (tgt := 131) (off := 9) (by decide) (by decide +kernel) (fun h53 => ?_) (fun h53 => ?_)
            · skip
              refine x_aload_n C 0 (i := 0) (k0 := 0) rfl rfl (by decide +kernel) ?_
              refine x_iload_n C 3 (i := 3) (k0 := 3) rfl rfl (by decide +kernel) ?_
              refine x_iconst C (n := 1) (by decide +kernel) ?_
              refine x_callV C (ci := 12) (c_X12_give l D ca ra N σ19 this t12.2 1) mt_X12_give mv_X12_give rfl ml_RX12_573 rfl (fun h => Bool.noConfusion h) ⟨Nat.le_of_ble_eq_true rfl, Nat.le_of_ble_eq_true rfl⟩ (Nat.le_of_ble_eq_true rfl) 0 0 ⟨rfl, rfl⟩ ⟨Nat.zero_le _, Nat.zero_le _⟩ (by decide +kernel) _ rfl (fun q22 => []) (fun _ => rfl) (fun q22 => ?_)
              refine x_aload_n C 0 (i := 0) (k0 := 0) rfl rfl (by decide +kernel) ?_
              refine x_gI C fl_RX12_570 (fun _ _ _ => rfl) (by decide +kernel) (fun sharedBest_23 => ?_)
              refine x_join (T := Unit) (fun t => q22.1) 158 (fun t => [(0, ar this), (1, ai p0), (2, ai t1), (3, ai t12.2)]) (fun t => []) (fun t24 => ?_) (fun J158_46 hJ158_46 => ?_)
              · show X z 0 0 q22.1 158 [(0, ar this), (1, ai p0), (2, ai t1), (3, ai t12.2)] [] _
                refine x_iload_n C 3 (i := 3) (k0 := 3) rfl rfl (by decide +kernel) ?_
                refine x_iconst C (n := 1) (by decide +kernel) ?_
                refine x_iadd C (by decide +kernel) ?_
                refine x_aload_n C 0 (i := 0) (k0 := 0) rfl rfl (by decide +kernel) ?_
                refine x_callVp C (ci := 12) (c_X12_parts l D ca ra N q22.1 this) (p_X12_parts N q22.1 this) mt_X12_parts mv_X12_parts rfl ml_RX12_350 rfl (fun h => Bool.noConfusion h) ⟨Nat.le_of_ble_eq_true rfl, Nat.le_of_ble_eq_true rfl⟩ (Nat.le_of_ble_eq_true rfl) 0 0 ⟨rfl, rfl⟩ ⟨Nat.zero_le _, Nat.zero_le _⟩ (by decide +kernel) _ rfl (fun q25 => [ai q25.2, ai (t12.2 + 1)]) (fun _ => rfl) (fun q25 => ?_)
                refine x_ic_ge C (tgt := 181) (off := 16) (by decide) (by decide +kernel) (fun h46 => ?_) (fun h46 => ?_)
                · skip
                  refine x_aload_n C 0 (i := 0) (k0 := 0) rfl rfl (by decide +kernel) ?_
                  refine x_gI C fl_RX12_561 (fun _ _ _ => rfl) (by decide +kernel) (fun shareOne_26 => ?_)
                  refine x_bipush C (n := 100) (by decide +kernel) (by decide +kernel) ?_
                  refine x_imul C (by decide +kernel) ?_
                  refine x_iload_n C 1 (i := 1) (k0 := 1) rfl rfl (by decide +kernel) ?_
                  refine x_iload_n C 2 (i := 2) (k0 := 2) rfl rfl (by decide +kernel) ?_
                  refine x_imul C (by decide +kernel) ?_
                  refine x_ic_lt C (tgt := 86) (off := (-105)) (by decide) (by decide +kernel) (fun h42 => ?_) (fun h42 => ?_)
                  · skip
                    exact hb86_12 (q22.1, t12.2)
                  · skip
                    refine x_aload_n C 0 (i := 0) (k0 := 0) rfl rfl (by decide +kernel) ?_
                    refine x_gI C fl_RX12_564 (fun _ _ _ => rfl) (by decide +kernel) (fun shareTwo_27 => ?_)
                    refine x_bipush C (n := 100) (by decide +kernel) (by decide +kernel) ?_
                    refine x_imul C (by decide +kernel) ?_
                    refine x_iload_n C 1 (i := 1) (k0 := 1) rfl rfl (by decide +kernel) ?_
                    refine x_iload_n C 2 (i := 2) (k0 := 2) rfl rfl (by decide +kernel) ?_
                    refine x_imul C (by decide +kernel) ?_
                    refine x_ic_ge C (tgt := 210) (off := 6) (by decide) (by decide +kernel) (fun h41 => ?_) (fun h41 => ?_)
                    · skip
                      refine x_aload_n C 0 (i := 0) (k0 := 0) rfl rfl (by decide +kernel) ?_
                      refine x_aload_n C 0 (i := 0) (k0 := 0) rfl rfl (by decide +kernel) ?_
                      refine x_gI C fl_RX12_567 (fun _ _ _ => rfl) (by decide +kernel) (fun shareBoth_28 => ?_)
                      refine x_pI C fl_RX12_570 rfl (fun q h => by cases h; rfl) (by decide +kernel) (fun σ29 => ?_)
                      refine x_iconst C (n := 0) (by decide +kernel) ?_
                      refine x_istore C (i := 4) (Nat.le_of_ble_eq_true rfl) (by decide +kernel) (lv2 := [(4, ai 0), (0, ar this), (1, ai p0), (2, ai t1), (3, ai t12.2)]) rfl ?_
                      refine x_join (T := St) (fun t => t) 250 (fun t => [(0, ar this), (1, ai p0), (2, ai t1), (3, ai t12.2)]) (fun t => []) (fun t30 => ?_) (fun J250_30 hJ250_30 => ?_)
                      · show X z 0 0 t30 250 [(0, ar this), (1, ai p0), (2, ai t1), (3, ai t12.2)] [] _
                        refine x_goto C (tgt := 86) (off := (-164)) (by decide) (by decide +kernel) ?_
                        exact hb86_12 (t30, t12.2)
                      · skip
                        refine x_sub [1, 2, 3, 4, 0] (lv2 := [(0, ar this), (1, ai p0), (2, ai t1), (3, ai t12.2), (4, ai 0)]) rfl ?_
                        -- LOOP L_X12_seekShared_221 hb221_32
                        refine x_loop (T := St × Int) (fun t => t.1) (fun t => [(0, ar this), (1, ai p0), (2, ai t1), (3, ai t12.2), (4, ai t.2)]) (σ29, 0) rfl (fun b221_32 hb221_32 t32 => ?_)
                        show X z 0 0 t32.1 221 [(0, ar this), (1, ai p0), (2, ai t1), (3, ai t12.2), (4, ai t32.2)] [] _
                        refine x_iload C 4 (i := 4) rfl (by decide +kernel) ?_
                        refine x_aload_n C 0 (i := 0) (k0 := 0) rfl rfl (by decide +kernel) ?_
                        refine x_callVp C (ci := 12) (c_X12_parts l D ca ra N t32.1 this) (p_X12_parts N t32.1 this) mt_X12_parts mv_X12_parts rfl ml_RX12_350 rfl (fun h => Bool.noConfusion h) ⟨Nat.le_of_ble_eq_true rfl, Nat.le_of_ble_eq_true rfl⟩ (Nat.le_of_ble_eq_true rfl) 0 0 ⟨rfl, rfl⟩ ⟨Nat.zero_le _, Nat.zero_le _⟩ (by decide +kernel) _ rfl (fun q34 => [ai q34.2, ai t32.2]) (fun _ => rfl) (fun q34 => ?_)
                        refine x_ic_ge C (tgt := 250) (off := 23) (by decide) (by decide +kernel) (fun h40 => ?_) (fun h40 => ?_)
                        · skip
                          refine x_sub [0, 1, 2, 3] (lv2 := [(0, ar this), (1, ai p0), (2, ai t1), (3, ai t12.2)]) rfl ?_
                          exact hJ250_30 t32.1
                        · skip
                          refine x_aload_n C 0 (i := 0) (k0 := 0) rfl rfl (by decide +kernel) ?_
                          refine x_gR C fl_RX12_159 (fun _ _ _ => rfl) (by decide +kernel) (fun bestMakes_35 => ?_)
                          refine x_iload C 4 (i := 4) rfl (by decide +kernel) ?_
                          refine x_aload_n C 0 (i := 0) (k0 := 0) rfl rfl (by decide +kernel) ?_
                          refine x_gR C fl_RX12_156 (fun _ _ _ => rfl) (by decide +kernel) (fun makes_36 => ?_)
                          refine x_iload C 4 (i := 4) rfl (by decide +kernel) ?_
                          refine x_aldI C (by decide +kernel) (fun a37 => ?_)
                          refine x_astI C (by decide +kernel) (fun σ38 => ?_)
                          show X z 0 0 σ38 244 [(0, ar this), (1, ai p0), (2, ai t1), (3, ai t12.2), (4, ai t32.2)] [] _
                          refine x_iinc C 4 (i := 4) (n := 1) (Nat.le_of_ble_eq_true rfl) rfl (by decide +kernel) (lv2 := fun x39 => [(4, ai x39), (0, ar this), (1, ai p0), (2, ai t1), (3, ai t12.2)]) (fun _ => rfl) (fun x39 => ?_)
                          refine x_goto C (tgt := 221) (off := (-26)) (by decide) (by decide +kernel) ?_
                          refine x_sub [1, 2, 3, 4, 0] (lv2 := [(0, ar this), (1, ai p0), (2, ai t1), (3, ai t12.2), (4, ai x39)]) rfl ?_
                          exact hb221_32 (σ38, x39)
                    · skip
                      refine x_goto C (tgt := 86) (off := (-121)) (by decide) (by decide +kernel) ?_
                      exact hb86_12 (q22.1, t12.2)
                · skip
                  refine x_iinc C 3 (i := 3) (n := 1) (Nat.le_of_ble_eq_true rfl) rfl (by decide +kernel) (lv2 := fun x43 => [(3, ai x43), (0, ar this), (1, ai p0), (2, ai t1)]) (fun _ => rfl) (fun x43 => ?_)
                  refine x_aload_n C 1 (i := 0) (k0 := 0) rfl rfl (by decide +kernel) ?_
                  refine x_gR C fl_RX12_156 (fun _ _ _ => rfl) (by decide +kernel) (fun makes_44 => ?_)
                  refine x_iload_n C 0 (i := 3) (k0 := 3) rfl rfl (by decide +kernel) ?_
                  refine x_iconst C (n := (-1)) (by decide +kernel) ?_
                  refine x_astI C (by decide +kernel) (fun σ45 => ?_)
                  refine x_goto C (tgt := 86) (off := (-92)) (by decide) (by decide +kernel) ?_
                  refine x_sub [1, 2, 3, 0] (lv2 := [(0, ar this), (1, ai p0), (2, ai t1), (3, ai x43)]) rfl ?_
                  exact hb86_12 (σ45, x43)
              · skip
                refine x_if_lt C (tgt := 158) (off := 17) (by decide) (by decide +kernel) (fun h51 => ?_) (fun h51 => ?_)
                · skip
                  exact hJ158_46 ()
                · skip
                  refine x_aload_n C 0 (i := 0) (k0 := 0) rfl rfl (by decide +kernel) ?_
                  refine x_gI C fl_RX12_567 (fun _ _ _ => rfl) (by decide +kernel) (fun shareBoth_48 => ?_)
                  refine x_aload_n C 0 (i := 0) (k0 := 0) rfl rfl (by decide +kernel) ?_
                  refine x_gI C fl_RX12_570 (fun _ _ _ => rfl) (by decide +kernel) (fun sharedBest_49 => ?_)
                  refine x_ic_lt C (tgt := 158) (off := 6) (by decide) (by decide +kernel) (fun h50 => ?_) (fun h50 => ?_)
                  · skip
                    exact hJ158_46 ()
                  · skip
                    refine x_goto C (tgt := 86) (off := (-69)) (by decide) (by decide +kernel) ?_
                    exact hb86_12 (q22.1, t12.2)
            · skip
              refine x_iinc C 3 (i := 3) (n := (-1)) (Nat.le_of_ble_eq_true rfl) rfl (by decide +kernel) (lv2 := fun x52 => [(3, ai x52), (0, ar this), (1, ai p0), (2, ai t1)]) (fun _ => rfl) (fun x52 => ?_)
              refine x_goto C (tgt := 86) (off := (-42)) (by decide) (by decide +kernel) ?_
              refine x_sub [1, 2, 3, 0] (lv2 := [(0, ar this), (1, ai p0), (2, ai t1), (3, ai x52)]) rfl ?_
              exact hb86_12 (σ19, x52)
          · skip
            refine x_if_lt C (tgt := 105) (off := 9) (by decide) (by decide +kernel) (fun h56 => ?_) (fun h56 => ?_)
            · skip
              exact hJ105_53 t12.1
            · skip
              refine x_aload_n C 0 (i := 0) (k0 := 0) rfl rfl (by decide +kernel) ?_
              refine x_iload_n C 3 (i := 3) (k0 := 3) rfl rfl (by decide +kernel) ?_
              refine x_iconst C (n := (-1)) (by decide +kernel) ?_
              refine x_callV C (ci := 12) (c_X12_give l D ca ra N t12.1 this t12.2 (-1)) mt_X12_give mv_X12_give rfl ml_RX12_573 rfl (fun h => Bool.noConfusion h) ⟨Nat.le_of_ble_eq_true rfl, Nat.le_of_ble_eq_true rfl⟩ (Nat.le_of_ble_eq_true rfl) 0 0 ⟨rfl, rfl⟩ ⟨Nat.zero_le _, Nat.zero_le _⟩ (by decide +kernel) _ rfl (fun q55 => []) (fun _ => rfl) (fun q55 => ?_)
              exact hJ105_53 q55.1
      · skip
        refine x_if_ne C (tgt := 77) (off := 7) (by decide) (by decide +kernel) (fun h59 => ?_) (fun h59 => ?_)
        · skip
          refine x_iconst C (n := 0) (by decide +kernel) ?_
          exact hJ78_57 0
        · skip
          refine x_iconst C (n := (-1)) (by decide +kernel) ?_
          refine x_goto C (tgt := 78) (off := 4) (by decide) (by decide +kernel) ?_
          exact hJ78_57 (-1)
    · skip
      refine x_if_ne C (tgt := 47) (off := 7) (by decide) (by decide +kernel) (fun h61 => ?_) (fun h61 => ?_)
      · skip
        refine x_iconst C (n := (-1)) (by decide +kernel) ?_
        exact hJ48_59 (-1)
      · skip
        refine x_iconst C (n := 0) (by decide +kernel) ?_
        refine x_goto C (tgt := 48) (off := 4) (by decide) (by decide +kernel) ?_
        exact hJ48_59 0
  · skip
    refine x_sub [2, 3, 1, 0] (lv2 := [(0, ar this), (1, ai p0), (2, ai 0), (3, ai 0)]) rfl ?_
    -- LOOP L_X12_seekShared_4 hb4_63
    refine x_loop (T := Int × Int) (fun t => σ) (fun t => [(0, ar this), (1, ai p0), (2, ai t.1), (3, ai t.2)]) (0, 0) rfl (fun b4_63 hb4_63 t63 => ?_)
    show X z 0 0 σ 4 [(0, ar this), (1, ai p0), (2, ai t63.1), (3, ai t63.2)] [] _
    refine x_iload_n C 3 (i := 3) (k0 := 3) rfl rfl (by decide +kernel) ?_
    refine x_aload_n C 0 (i := 0) (k0 := 0) rfl rfl (by decide +kernel) ?_
    refine x_callVp C (ci := 12) (c_X12_parts l D ca ra N σ this) (p_X12_parts N σ this) mt_X12_parts mv_X12_parts rfl ml_RX12_350 rfl (fun h => Bool.noConfusion h) ⟨Nat.le_of_ble_eq_true rfl, Nat.le_of_ble_eq_true rfl⟩ (Nat.le_of_ble_eq_true rfl) 0 0 ⟨rfl, rfl⟩ ⟨Nat.zero_le _, Nat.zero_le _⟩ (by decide +kernel) _ rfl (fun q65 => [ai q65.2, ai t63.2]) (fun _ => rfl) (fun q65 => ?_)
    refine x_ic_ge C (tgt := 35) (off := 26) (by decide) (by decide +kernel) (fun h71 => ?_) (fun h71 => ?_)
    · skip
      refine x_sub [0, 1, 2] (lv2 := [(0, ar this), (1, ai p0), (2, ai t63.1)]) rfl ?_
      exact hJ35_61 t63.1
    · skip
      refine x_iload_n C 2 (i := 2) (k0 := 2) rfl rfl (by decide +kernel) ?_
      refine x_aload_n C 0 (i := 0) (k0 := 0) rfl rfl (by decide +kernel) ?_
      refine x_gR C fl_RX12_45 (fun _ _ _ => rfl) (by decide +kernel) (fun pCosts_66 => ?_)
      refine x_bipush C (n := 12) (by decide +kernel) (by decide +kernel) ?_
      refine x_aload_n C 0 (i := 0) (k0 := 0) rfl rfl (by decide +kernel) ?_
      refine x_gI C fl_RX12_300 (fun _ _ _ => rfl) (by decide +kernel) (fun bank_67 => ?_)
      refine x_imul C (by decide +kernel) ?_
      refine x_iload_n C 3 (i := 3) (k0 := 3) rfl rfl (by decide +kernel) ?_
      show X z 0 0 σ 25 [(0, ar this), (1, ai p0), (2, ai t63.1), (3, ai t63.2)] [ai t63.2, ai (12 * bank_67), ar pCosts_66, ai t63.1] _
      refine x_iadd C (by decide +kernel) ?_
      refine x_aldI C (by decide +kernel) (fun a68 => ?_)
      refine x_iadd C (by decide +kernel) ?_
      refine x_istore_nL C (i := 2) (k0 := 2) rfl (Nat.le_of_ble_eq_true rfl) (by decide +kernel) (lv2 := fun x69 => [(2, ai x69), (0, ar this), (1, ai p0), (3, ai t63.2)]) (fun _ => rfl) (fun x69 => ?_)
      refine x_iinc C 3 (i := 3) (n := 1) (Nat.le_of_ble_eq_true rfl) rfl (by decide +kernel) (lv2 := fun x70 => [(3, ai x70), (2, ai x69), (0, ar this), (1, ai p0)]) (fun _ => rfl) (fun x70 => ?_)
      refine x_goto C (tgt := 4) (off := (-28)) (by decide) (by decide +kernel) ?_
      refine x_sub [2, 3, 1, 0] (lv2 := [(0, ar this), (1, ai p0), (2, ai x69), (3, ai x70)]) rfl ?_
      exact hb4_63 (x69, x70)

def rm_X12_shared : Room := { frames := 2, cells := 0, slots := 0, locals := 47 }
def f_X12_shared (N : Nat) (σ : St) (this : Nat) (p0 : Int) : Option (St × Int) :=
 Option.bind (f_X12_isIn N σ p0 0 100) fun q1 =>
 (if wr q1.2 = 0 then some (σ, (-1)) else Option.bind (rcv shm σ 12 this (f_X12_seekShared N σ this p0)) fun q2 =>
 Option.bind (gI shm q2.1 12 this 84) fun sharedBest_3 =>
 some (q2.1, sharedBest_3))
set_option maxRecDepth 100000 in
set_option maxHeartbeats 4000000 in
theorem c_X12_shared (l : Launch) (D : va_G) (ca : Nat → ClassId) (ra : Nat → Nat) (N : Nat) (σ : St) (this : Nat) (p0 : Int) : Ctr l (D, ca, ra, shm) false yX12_shared cX12_shared 2 (some .int) rm_X12_shared σ [ar this, ai p0] (f_X12_shared N σ this p0) := by
  refine ctr_of (by decide) (Nat.le_of_ble_eq_true rfl) (fun z C => ?_)
  show X z 0 0 σ 0 [(0, ar this), (1, ai p0)] [] _
  unfold f_X12_shared
  refine x_iload_n C 1 (i := 1) (k0 := 1) rfl rfl (by decide +kernel) ?_
  refine x_iconst C (n := 0) (by decide +kernel) ?_
  refine x_bipush C (n := 100) (by decide +kernel) (by decide +kernel) ?_
  refine x_callSp C (c_X12_isIn l D ca ra N σ p0 0 100) (p_X12_isIn N σ p0 0 100) mt_X12_isIn ms_X12_isIn ml_RX12_354 rfl (fun h => Bool.noConfusion h) ⟨Nat.le_of_ble_eq_true rfl, Nat.le_of_ble_eq_true rfl⟩ (Nat.le_of_ble_eq_true rfl) 0 0 ⟨rfl, rfl⟩ ⟨Nat.zero_le _, Nat.zero_le _⟩ (by decide +kernel) _ rfl (fun q1 => [ai q1.2]) (fun _ => rfl) (fun q1 => ?_)
  refine x_if_ne C (tgt := 12) (off := 5) (by decide) (by decide +kernel) (fun h4 => ?_) (fun h4 => ?_)
  · skip
    refine x_aload_n C 0 (i := 0) (k0 := 0) rfl rfl (by decide +kernel) ?_
    refine x_iload_n C 1 (i := 1) (k0 := 1) rfl rfl (by decide +kernel) ?_
    refine x_callV C (ci := 12) (c_X12_seekShared l D ca ra N σ this p0) mt_X12_seekShared mv_X12_seekShared rfl ml_RX12_576 rfl (fun h => Bool.noConfusion h) ⟨Nat.le_of_ble_eq_true rfl, Nat.le_of_ble_eq_true rfl⟩ (Nat.le_of_ble_eq_true rfl) 0 0 ⟨rfl, rfl⟩ ⟨Nat.zero_le _, Nat.zero_le _⟩ (by decide +kernel) _ rfl (fun q2 => []) (fun _ => rfl) (fun q2 => ?_)
    refine x_aload_n C 0 (i := 0) (k0 := 0) rfl rfl (by decide +kernel) ?_
    refine x_gI C fl_RX12_570 (fun _ _ _ => rfl) (by decide +kernel) (fun sharedBest_3 => ?_)
    exact x_iret C ⟨Nat.zero_le _, Nat.zero_le _⟩ (by decide +kernel)
  · skip
    refine x_iconst C (n := (-1)) (by decide +kernel) ?_
    exact x_iret C ⟨Nat.zero_le _, Nat.zero_le _⟩ (by decide +kernel)

def rm_X12_maker : Room := { frames := 3, cells := 0, slots := 0, locals := 68 }
def f_X12_maker (N : Nat) (σ : St) (this : Nat) (p0 : Int) (p1 : Int) : Option (St × Int) :=
 Option.bind (rcv shm σ 12 this (f_X12_isPart N σ this p0)) fun q1 =>
 (if wr q1.2 = 0 then some (σ, (-1)) else Option.bind (rcv shm σ 12 this (f_X12_shared N σ this p1)) fun q2 =>
 (if wr q2.2 < 0 then some (q2.1, (-1)) else Option.bind (gR shm q2.1 12 this 83) fun bestMakes_3 =>
 Option.bind (aI shm q2.1 1 bestMakes_3 p0) fun a4 =>
 some (q2.1, a4)))
set_option maxRecDepth 100000 in
set_option maxHeartbeats 4000000 in
theorem c_X12_maker (l : Launch) (D : va_G) (ca : Nat → ClassId) (ra : Nat → Nat) (N : Nat) (σ : St) (this : Nat) (p0 : Int) (p1 : Int) : Ctr l (D, ca, ra, shm) false yX12_maker cX12_maker 3 (some .int) rm_X12_maker σ [ar this, ai p0, ai p1] (f_X12_maker N σ this p0 p1) := by
  refine ctr_of (by decide) (Nat.le_of_ble_eq_true rfl) (fun z C => ?_)
  show X z 0 0 σ 0 [(0, ar this), (1, ai p0), (2, ai p1)] [] _
  unfold f_X12_maker
  refine x_aload_n C 0 (i := 0) (k0 := 0) rfl rfl (by decide +kernel) ?_
  refine x_iload_n C 1 (i := 1) (k0 := 1) rfl rfl (by decide +kernel) ?_
  refine x_callVp C (ci := 12) (c_X12_isPart l D ca ra N σ this p0) (p_X12_isPart N σ this p0) mt_X12_isPart mv_X12_isPart rfl ml_RX12_360 rfl (fun h => Bool.noConfusion h) ⟨Nat.le_of_ble_eq_true rfl, Nat.le_of_ble_eq_true rfl⟩ (Nat.le_of_ble_eq_true rfl) 0 0 ⟨rfl, rfl⟩ ⟨Nat.zero_le _, Nat.zero_le _⟩ (by decide +kernel) _ rfl (fun q1 => [ai q1.2]) (fun _ => rfl) (fun q1 => ?_)
  refine x_if_eq C (tgt := 25) (off := 20) (by decide) (by decide +kernel) (fun h6 => ?_) (fun h6 => ?_)
  · skip
    refine x_iconst C (n := (-1)) (by decide +kernel) ?_
    exact x_iret C ⟨Nat.zero_le _, Nat.zero_le _⟩ (by decide +kernel)
  · skip
    refine x_aload_n C 0 (i := 0) (k0 := 0) rfl rfl (by decide +kernel) ?_
    refine x_iload_n C 2 (i := 2) (k0 := 2) rfl rfl (by decide +kernel) ?_
    refine x_callV C (ci := 12) (c_X12_shared l D ca ra N σ this p1) mt_X12_shared mv_X12_shared rfl ml_RX12_579 rfl (fun h => Bool.noConfusion h) ⟨Nat.le_of_ble_eq_true rfl, Nat.le_of_ble_eq_true rfl⟩ (Nat.le_of_ble_eq_true rfl) 0 0 ⟨rfl, rfl⟩ ⟨Nat.zero_le _, Nat.zero_le _⟩ (by decide +kernel) _ rfl (fun q2 => [ai q2.2]) (fun _ => rfl) (fun q2 => ?_)
    refine x_if_lt C (tgt := 25) (off := 12) (by decide) (by decide +kernel) (fun h5 => ?_) (fun h5 => ?_)
    · skip
      refine x_iconst C (n := (-1)) (by decide +kernel) ?_
      exact x_iret C ⟨Nat.zero_le _, Nat.zero_le _⟩ (by decide +kernel)
    · skip
      refine x_aload_n C 0 (i := 0) (k0 := 0) rfl rfl (by decide +kernel) ?_
      refine x_gR C fl_RX12_159 (fun _ _ _ => rfl) (by decide +kernel) (fun bestMakes_3 => ?_)
      refine x_iload_n C 1 (i := 1) (k0 := 1) rfl rfl (by decide +kernel) ?_
      refine x_aldI C (by decide +kernel) (fun a4 => ?_)
      refine x_goto C (tgt := 26) (off := 4) (by decide) (by decide +kernel) ?_
      exact x_iret C ⟨Nat.zero_le _, Nat.zero_le _⟩ (by decide +kernel)

def rm_X12_stage : Room := { frames := 1, cells := 0, slots := 0, locals := 22 }
def f_X12_stage (N : Nat) (σ : St) (this : Nat) (p0 : Int) (p1 : Int) : Option (St × Int) :=
 Option.bind (f_X12_isIn N σ p0 0 30) fun q1 =>
 (if wr q1.2 = 0 then some (σ, (-1)) else Option.bind (f_X12_isIn N σ p1 0 10) fun q2 =>
 (if wr q2.2 = 0 then some (σ, (-1)) else Option.bind (gI shm σ 12 this 91) fun stages_3 =>
 (if wr stages_3 = wr 8 then some (σ, (-1)) else Option.bind (gR shm σ 12 this 88) fun stageCost_4 =>
 Option.bind (gI shm σ 12 this 91) fun stages_5 =>
 Option.bind (sI shm σ 1 stageCost_4 stages_5 p0) fun σ6 =>
 Option.bind (gR shm σ6 12 this 89) fun stagePart_7 =>
 Option.bind (gI shm σ6 12 this 91) fun stages_8 =>
 Option.bind (sI shm σ6 1 stagePart_7 stages_8 p1) fun σ9 =>
 Option.bind (gI shm σ9 12 this 91) fun stages_10 =>
 Option.bind (pI shm σ9 12 this 91 (stages_10 + 1)) fun σ11 =>
 Option.bind (gI shm σ11 12 this 91) fun stages_12 =>
 some (σ11, (stages_12 - 1)))))
set_option maxRecDepth 100000 in
set_option maxHeartbeats 4000000 in
theorem c_X12_stage (l : Launch) (D : va_G) (ca : Nat → ClassId) (ra : Nat → Nat) (N : Nat) (σ : St) (this : Nat) (p0 : Int) (p1 : Int) : Ctr l (D, ca, ra, shm) false yX12_stage cX12_stage 3 (some .int) rm_X12_stage σ [ar this, ai p0, ai p1] (f_X12_stage N σ this p0 p1) := by
  refine ctr_of (by decide) (Nat.le_of_ble_eq_true rfl) (fun z C => ?_)
  show X z 0 0 σ 0 [(0, ar this), (1, ai p0), (2, ai p1)] [] _
  unfold f_X12_stage
  refine x_iload_n C 1 (i := 1) (k0 := 1) rfl rfl (by decide +kernel) ?_
  refine x_iconst C (n := 0) (by decide +kernel) ?_
  refine x_bipush C (n := 30) (by decide +kernel) (by decide +kernel) ?_
  refine x_callSp C (c_X12_isIn l D ca ra N σ p0 0 30) (p_X12_isIn N σ p0 0 30) mt_X12_isIn ms_X12_isIn ml_RX12_354 rfl (fun h => Bool.noConfusion h) ⟨Nat.le_of_ble_eq_true rfl, Nat.le_of_ble_eq_true rfl⟩ (Nat.le_of_ble_eq_true rfl) 0 0 ⟨rfl, rfl⟩ ⟨Nat.zero_le _, Nat.zero_le _⟩ (by decide +kernel) _ rfl (fun q1 => [ai q1.2]) (fun _ => rfl) (fun q1 => ?_)
  refine x_if_eq C (tgt := 29) (off := 22) (by decide) (by decide +kernel) (fun h15 => ?_) (fun h15 => ?_)
  · skip
    refine x_iconst C (n := (-1)) (by decide +kernel) ?_
    exact x_iret C ⟨Nat.zero_le _, Nat.zero_le _⟩ (by decide +kernel)
  · skip
    refine x_iload_n C 2 (i := 2) (k0 := 2) rfl rfl (by decide +kernel) ?_
    refine x_iconst C (n := 0) (by decide +kernel) ?_
    refine x_bipush C (n := 10) (by decide +kernel) (by decide +kernel) ?_
    refine x_callSp C (c_X12_isIn l D ca ra N σ p1 0 10) (p_X12_isIn N σ p1 0 10) mt_X12_isIn ms_X12_isIn ml_RX12_354 rfl (fun h => Bool.noConfusion h) ⟨Nat.le_of_ble_eq_true rfl, Nat.le_of_ble_eq_true rfl⟩ (Nat.le_of_ble_eq_true rfl) 0 0 ⟨rfl, rfl⟩ ⟨Nat.zero_le _, Nat.zero_le _⟩ (by decide +kernel) _ rfl (fun q2 => [ai q2.2]) (fun _ => rfl) (fun q2 => ?_)
    refine x_if_eq C (tgt := 29) (off := 12) (by decide) (by decide +kernel) (fun h14 => ?_) (fun h14 => ?_)
    · skip
      refine x_iconst C (n := (-1)) (by decide +kernel) ?_
      exact x_iret C ⟨Nat.zero_le _, Nat.zero_le _⟩ (by decide +kernel)
    · skip
      refine x_aload_n C 0 (i := 0) (k0 := 0) rfl rfl (by decide +kernel) ?_
      refine x_gI C fl_RX12_582 (fun _ _ _ => rfl) (by decide +kernel) (fun stages_3 => ?_)
      refine x_bipush C (n := 8) (by decide +kernel) (by decide +kernel) ?_
      refine x_ic_ne C (tgt := 31) (off := 5) (by decide) (by decide +kernel) (fun h13 => ?_) (fun h13 => ?_)
      · skip
        refine x_aload_n C 0 (i := 0) (k0 := 0) rfl rfl (by decide +kernel) ?_
        refine x_gR C fl_RX12_162 (fun _ _ _ => rfl) (by decide +kernel) (fun stageCost_4 => ?_)
        refine x_aload_n C 0 (i := 0) (k0 := 0) rfl rfl (by decide +kernel) ?_
        refine x_gI C fl_RX12_582 (fun _ _ _ => rfl) (by decide +kernel) (fun stages_5 => ?_)
        refine x_iload_n C 1 (i := 1) (k0 := 1) rfl rfl (by decide +kernel) ?_
        refine x_astI C (by decide +kernel) (fun σ6 => ?_)
        refine x_aload_n C 0 (i := 0) (k0 := 0) rfl rfl (by decide +kernel) ?_
        refine x_gR C fl_RX12_165 (fun _ _ _ => rfl) (by decide +kernel) (fun stagePart_7 => ?_)
        show X z 0 0 σ6 45 [(0, ar this), (1, ai p0), (2, ai p1)] [ar stagePart_7] _
        refine x_aload_n C 0 (i := 0) (k0 := 0) rfl rfl (by decide +kernel) ?_
        refine x_gI C fl_RX12_582 (fun _ _ _ => rfl) (by decide +kernel) (fun stages_8 => ?_)
        refine x_iload_n C 2 (i := 2) (k0 := 2) rfl rfl (by decide +kernel) ?_
        refine x_astI C (by decide +kernel) (fun σ9 => ?_)
        refine x_aload_n C 0 (i := 0) (k0 := 0) rfl rfl (by decide +kernel) ?_
        refine x_dup C rfl (by decide +kernel) ?_
        refine x_gI C fl_RX12_582 (fun _ _ _ => rfl) (by decide +kernel) (fun stages_10 => ?_)
        refine x_iconst C (n := 1) (by decide +kernel) ?_
        show X z 0 0 σ9 57 [(0, ar this), (1, ai p0), (2, ai p1)] [ai 1, ai stages_10, ar this] _
        refine x_iadd C (by decide +kernel) ?_
        refine x_pI C fl_RX12_582 rfl (fun q h => by cases h; rfl) (by decide +kernel) (fun σ11 => ?_)
        refine x_aload_n C 0 (i := 0) (k0 := 0) rfl rfl (by decide +kernel) ?_
        refine x_gI C fl_RX12_582 (fun _ _ _ => rfl) (by decide +kernel) (fun stages_12 => ?_)
        refine x_iconst C (n := 1) (by decide +kernel) ?_
        refine x_isub C (by decide +kernel) ?_
        exact x_iret C ⟨Nat.zero_le _, Nat.zero_le _⟩ (by decide +kernel)
      · skip
        refine x_iconst C (n := (-1)) (by decide +kernel) ?_
        exact x_iret C ⟨Nat.zero_le _, Nat.zero_le _⟩ (by decide +kernel)

def rm_X12_grant : Room := { frames := 1, cells := 0, slots := 0, locals := 22 }
def f_X12_grant (N : Nat) (σ : St) (this : Nat) (p0 : Int) (p1 : Int) : Option (St × Int) :=
 Option.bind (f_X12_isIn N σ p0 0 9) fun q1 =>
 (if wr q1.2 = 0 then some (σ, 0) else Option.bind (f_X12_isIn N σ p1 0 4) fun q2 =>
 (if wr q2.2 = 0 then some (σ, 0) else Option.bind (pI shm σ 12 this 92 p0) fun σ3 =>
 Option.bind (pI shm σ3 12 this 93 p1) fun σ4 =>
 some (σ4, 1)))
set_option maxRecDepth 100000 in
set_option maxHeartbeats 4000000 in
theorem c_X12_grant (l : Launch) (D : va_G) (ca : Nat → ClassId) (ra : Nat → Nat) (N : Nat) (σ : St) (this : Nat) (p0 : Int) (p1 : Int) : Ctr l (D, ca, ra, shm) false yX12_grant cX12_grant 3 (some .boolean) rm_X12_grant σ [ar this, ai p0, ai p1] (f_X12_grant N σ this p0 p1) := by
  refine ctr_of (by decide) (Nat.le_of_ble_eq_true rfl) (fun z C => ?_)
  show X z 0 0 σ 0 [(0, ar this), (1, ai p0), (2, ai p1)] [] _
  unfold f_X12_grant
  refine x_iload_n C 1 (i := 1) (k0 := 1) rfl rfl (by decide +kernel) ?_
  refine x_iconst C (n := 0) (by decide +kernel) ?_
  refine x_bipush C (n := 9) (by decide +kernel) (by decide +kernel) ?_
  refine x_callSp C (c_X12_isIn l D ca ra N σ p0 0 9) (p_X12_isIn N σ p0 0 9) mt_X12_isIn ms_X12_isIn ml_RX12_354 rfl (fun h => Bool.noConfusion h) ⟨Nat.le_of_ble_eq_true rfl, Nat.le_of_ble_eq_true rfl⟩ (Nat.le_of_ble_eq_true rfl) 0 0 ⟨rfl, rfl⟩ ⟨Nat.zero_le _, Nat.zero_le _⟩ (by decide +kernel) _ rfl (fun q1 => [ai q1.2]) (fun _ => rfl) (fun q1 => ?_)
  refine x_if_eq C (tgt := 19) (off := 12) (by decide) (by decide +kernel) (fun h6 => ?_) (fun h6 => ?_)
  · skip
    refine x_iconst C (n := 0) (by decide +kernel) ?_
    exact x_zret C (Or.inl rfl) ⟨Nat.zero_le _, Nat.zero_le _⟩ (by decide +kernel)
  · skip
    refine x_iload_n C 2 (i := 2) (k0 := 2) rfl rfl (by decide +kernel) ?_
    refine x_iconst C (n := 0) (by decide +kernel) ?_
    refine x_iconst C (n := 4) (by decide +kernel) ?_
    refine x_callSp C (c_X12_isIn l D ca ra N σ p1 0 4) (p_X12_isIn N σ p1 0 4) mt_X12_isIn ms_X12_isIn ml_RX12_354 rfl (fun h => Bool.noConfusion h) ⟨Nat.le_of_ble_eq_true rfl, Nat.le_of_ble_eq_true rfl⟩ (Nat.le_of_ble_eq_true rfl) 0 0 ⟨rfl, rfl⟩ ⟨Nat.zero_le _, Nat.zero_le _⟩ (by decide +kernel) _ rfl (fun q2 => [ai q2.2]) (fun _ => rfl) (fun q2 => ?_)
    refine x_if_ne C (tgt := 21) (off := 5) (by decide) (by decide +kernel) (fun h5 => ?_) (fun h5 => ?_)
    · skip
      refine x_aload_n C 0 (i := 0) (k0 := 0) rfl rfl (by decide +kernel) ?_
      refine x_iload_n C 1 (i := 1) (k0 := 1) rfl rfl (by decide +kernel) ?_
      refine x_pI C fl_RX12_585 rfl (fun q h => by cases h; rfl) (by decide +kernel) (fun σ3 => ?_)
      refine x_aload_n C 0 (i := 0) (k0 := 0) rfl rfl (by decide +kernel) ?_
      refine x_iload_n C 2 (i := 2) (k0 := 2) rfl rfl (by decide +kernel) ?_
      refine x_pI C fl_RX12_588 rfl (fun q h => by cases h; rfl) (by decide +kernel) (fun σ4 => ?_)
      refine x_iconst C (n := 1) (by decide +kernel) ?_
      exact x_zret C (Or.inr rfl) ⟨Nat.zero_le _, Nat.zero_le _⟩ (by decide +kernel)
    · skip
      refine x_iconst C (n := 0) (by decide +kernel) ?_
      exact x_zret C (Or.inl rfl) ⟨Nat.zero_le _, Nat.zero_le _⟩ (by decide +kernel)

def rm_X12_stateOf : Room := { frames := 0, cells := 0, slots := 0, locals := 0 }
def f_X12_stateOf (N : Nat) (σ : St) (p0 : Int) (p1 : Int) (p2 : Int) (p3 : Int) (p4 : Int) : Option (St × Int) :=
 some (σ, ((((((((p0 * 5) + p1) * 7) + p2) * 31) + p3) * 31) + p4))
set_option maxRecDepth 100000 in
set_option maxHeartbeats 4000000 in
theorem c_X12_stateOf (l : Launch) (D : va_G) (ca : Nat → ClassId) (ra : Nat → Nat) (N : Nat) (σ : St) (p0 : Int) (p1 : Int) (p2 : Int) (p3 : Int) (p4 : Int) : Ctr l (D, ca, ra, shm) false yX12_stateOf cX12_stateOf 5 (some .int) rm_X12_stateOf σ [ai p0, ai p1, ai p2, ai p3, ai p4] (f_X12_stateOf N σ p0 p1 p2 p3 p4) := by
  refine ctr_of (by decide) (Nat.le_of_ble_eq_true rfl) (fun z C => ?_)
  show X z 0 0 σ 0 [(0, ai p0), (1, ai p1), (2, ai p2), (3, ai p3), (4, ai p4)] [] _
  unfold f_X12_stateOf
  refine x_iload_n C 0 (i := 0) (k0 := 0) rfl rfl (by decide +kernel) ?_
  refine x_iconst C (n := 5) (by decide +kernel) ?_
  refine x_imul C (by decide +kernel) ?_
  refine x_iload_n C 1 (i := 1) (k0 := 1) rfl rfl (by decide +kernel) ?_
  refine x_iadd C (by decide +kernel) ?_
  refine x_bipush C (n := 7) (by decide +kernel) (by decide +kernel) ?_
  refine x_imul C (by decide +kernel) ?_
  refine x_iload_n C 2 (i := 2) (k0 := 2) rfl rfl (by decide +kernel) ?_
  show X z 0 0 σ 9 [(0, ai p0), (1, ai p1), (2, ai p2), (3, ai p3), (4, ai p4)] [ai p2, ai (((p0 * 5) + p1) * 7)] _
  refine x_iadd C (by decide +kernel) ?_
  refine x_bipush C (n := 31) (by decide +kernel) (by decide +kernel) ?_
  refine x_imul C (by decide +kernel) ?_
  refine x_iload_n C 3 (i := 3) (k0 := 3) rfl rfl (by decide +kernel) ?_
  refine x_iadd C (by decide +kernel) ?_
  refine x_bipush C (n := 31) (by decide +kernel) (by decide +kernel) ?_
  refine x_imul C (by decide +kernel) ?_
  refine x_iload C 4 (i := 4) rfl (by decide +kernel) ?_
  show X z 0 0 σ 20 [(0, ai p0), (1, ai p1), (2, ai p2), (3, ai p3), (4, ai p4)] [ai p4, ai (((((((p0 * 5) + p1) * 7) + p2) * 31) + p3) * 31)] _
  refine x_iadd C (by decide +kernel) ?_
  exact x_iret C ⟨Nat.zero_le _, Nat.zero_le _⟩ (by decide +kernel)
theorem p_X12_stateOf (N : Nat) (σ : St) (p0 : Int) (p1 : Int) (p2 : Int) (p3 : Int) (p4 : Int) : Pu σ (f_X12_stateOf N σ p0 p1 p2 p3 p4) := by
  unfold f_X12_stateOf
  exact pu_some

def rm_X12_capped : Room := { frames := 0, cells := 0, slots := 0, locals := 0 }
def f_X12_capped (N : Nat) (σ : St) (p0 : Int) : Option (St × Int) :=
 (if wr 30 < wr p0 then some (σ, 30) else some (σ, p0))
set_option maxRecDepth 100000 in
set_option maxHeartbeats 4000000 in
theorem c_X12_capped (l : Launch) (D : va_G) (ca : Nat → ClassId) (ra : Nat → Nat) (N : Nat) (σ : St) (p0 : Int) : Ctr l (D, ca, ra, shm) false yX12_capped cX12_capped 1 (some .int) rm_X12_capped σ [ai p0] (f_X12_capped N σ p0) := by
  refine ctr_of (by decide) (Nat.le_of_ble_eq_true rfl) (fun z C => ?_)
  show X z 0 0 σ 0 [(0, ai p0)] [] _
  unfold f_X12_capped
  refine x_iload_n C 0 (i := 0) (k0 := 0) rfl rfl (by decide +kernel) ?_
  refine x_bipush C (n := 30) (by decide +kernel) (by decide +kernel) ?_
  refine x_ic_le C (tgt := 11) (off := 8) (by decide) (by decide +kernel) (fun h1 => ?_) (fun h1 => ?_)
  · skip
    refine x_iload_n C 0 (i := 0) (k0 := 0) rfl rfl (by decide +kernel) ?_
    exact x_iret C ⟨Nat.zero_le _, Nat.zero_le _⟩ (by decide +kernel)
  · skip
    refine x_bipush C (n := 30) (by decide +kernel) (by decide +kernel) ?_
    refine x_goto C (tgt := 12) (off := 4) (by decide) (by decide +kernel) ?_
    exact x_iret C ⟨Nat.zero_le _, Nat.zero_le _⟩ (by decide +kernel)
theorem p_X12_capped (N : Nat) (σ : St) (p0 : Int) : Pu σ (f_X12_capped N σ p0) := by
  unfold f_X12_capped
  refine pu_ifs ?_ ?_
  · skip
    exact pu_some
  · skip
    exact pu_some

def rm_X12_waits : Room := { frames := 1, cells := 0, slots := 0, locals := 24 }
def f_X12_waits (N : Nat) (σ : St) (this : Nat) (p0 : Int) (p1 : Int) (p2 : Int) (p3 : Int) (p4 : Int) : Option (St × Int) :=
 (if 0 < wr p1 then Option.bind (gR shm σ 12 this 90) fun isSafe_1 =>
 Option.bind (gI shm σ 12 this 92) fun grant_2 =>
 Option.bind (f_X12_capped N σ (p3 + grant_2)) fun q3 =>
 Option.bind (gI shm σ 12 this 92) fun grant_4 =>
 Option.bind (f_X12_capped N σ (p4 + grant_4)) fun q5 =>
 Option.bind (f_X12_stateOf N σ p0 (p1 - 1) p2 q3.2 q5.2) fun q6 =>
 Option.bind (aI shm σ 3 isSafe_1 q6.2) fun a7 =>
 (if wr (wz a7) = 0 then some (σ, 0) else some (σ, 1)) else some (σ, 0))
set_option maxRecDepth 100000 in
set_option maxHeartbeats 4000000 in
theorem c_X12_waits (l : Launch) (D : va_G) (ca : Nat → ClassId) (ra : Nat → Nat) (N : Nat) (σ : St) (this : Nat) (p0 : Int) (p1 : Int) (p2 : Int) (p3 : Int) (p4 : Int) : Ctr l (D, ca, ra, shm) false yX12_waits cX12_waits 6 (some .boolean) rm_X12_waits σ [ar this, ai p0, ai p1, ai p2, ai p3, ai p4] (f_X12_waits N σ this p0 p1 p2 p3 p4) := by
  refine ctr_of (by decide) (Nat.le_of_ble_eq_true rfl) (fun z C => ?_)
  show X z 0 0 σ 0 [(0, ar this), (1, ai p0), (2, ai p1), (3, ai p2), (4, ai p3), (5, ai p4)] [] _
  unfold f_X12_waits
  refine x_iload_n C 2 (i := 2) (k0 := 2) rfl rfl (by decide +kernel) ?_
  refine x_if_le C (tgt := 44) (off := 43) (by decide) (by decide +kernel) (fun h9 => ?_) (fun h9 => ?_)
  · skip
    refine x_iconst C (n := 0) (by decide +kernel) ?_
    exact x_zret C (Or.inl rfl) ⟨Nat.zero_le _, Nat.zero_le _⟩ (by decide +kernel)
  · skip
    refine x_aload_n C 0 (i := 0) (k0 := 0) rfl rfl (by decide +kernel) ?_
    refine x_gR C fl_RX12_169 (fun _ _ _ => rfl) (by decide +kernel) (fun isSafe_1 => ?_)
    refine x_iload_n C 1 (i := 1) (k0 := 1) rfl rfl (by decide +kernel) ?_
    refine x_iload_n C 2 (i := 2) (k0 := 2) rfl rfl (by decide +kernel) ?_
    refine x_iconst C (n := 1) (by decide +kernel) ?_
    refine x_isub C (by decide +kernel) ?_
    refine x_iload_n C 3 (i := 3) (k0 := 3) rfl rfl (by decide +kernel) ?_
    refine x_iload C 4 (i := 4) rfl (by decide +kernel) ?_
    show X z 0 0 σ 15 [(0, ar this), (1, ai p0), (2, ai p1), (3, ai p2), (4, ai p3), (5, ai p4)] [ai p3, ai p2, ai (p1 - 1), ai p0, ar isSafe_1] _
    refine x_aload_n C 0 (i := 0) (k0 := 0) rfl rfl (by decide +kernel) ?_
    refine x_gI C fl_RX12_585 (fun _ _ _ => rfl) (by decide +kernel) (fun grant_2 => ?_)
    refine x_iadd C (by decide +kernel) ?_
    refine x_callSp C (c_X12_capped l D ca ra N σ (p3 + grant_2)) (p_X12_capped N σ (p3 + grant_2)) mt_X12_capped ms_X12_capped ml_RX12_591 rfl (fun h => Bool.noConfusion h) ⟨Nat.le_of_ble_eq_true rfl, Nat.le_of_ble_eq_true rfl⟩ (Nat.le_of_ble_eq_true rfl) 0 0 ⟨rfl, rfl⟩ ⟨Nat.zero_le _, Nat.zero_le _⟩ (by decide +kernel) _ rfl (fun q3 => [ai q3.2, ai p2, ai (p1 - 1), ai p0, ar isSafe_1]) (fun _ => rfl) (fun q3 => ?_)
    refine x_iload C 5 (i := 5) rfl (by decide +kernel) ?_
    refine x_aload_n C 0 (i := 0) (k0 := 0) rfl rfl (by decide +kernel) ?_
    refine x_gI C fl_RX12_585 (fun _ _ _ => rfl) (by decide +kernel) (fun grant_4 => ?_)
    refine x_iadd C (by decide +kernel) ?_
    show X z 0 0 σ 30 [(0, ar this), (1, ai p0), (2, ai p1), (3, ai p2), (4, ai p3), (5, ai p4)] [ai (p4 + grant_4), ai q3.2, ai p2, ai (p1 - 1), ai p0, ar isSafe_1] _
    refine x_callSp C (c_X12_capped l D ca ra N σ (p4 + grant_4)) (p_X12_capped N σ (p4 + grant_4)) mt_X12_capped ms_X12_capped ml_RX12_591 rfl (fun h => Bool.noConfusion h) ⟨Nat.le_of_ble_eq_true rfl, Nat.le_of_ble_eq_true rfl⟩ (Nat.le_of_ble_eq_true rfl) 0 0 ⟨rfl, rfl⟩ ⟨Nat.zero_le _, Nat.zero_le _⟩ (by decide +kernel) _ rfl (fun q5 => [ai q5.2, ai q3.2, ai p2, ai (p1 - 1), ai p0, ar isSafe_1]) (fun _ => rfl) (fun q5 => ?_)
    refine x_callSp C (c_X12_stateOf l D ca ra N σ p0 (p1 - 1) p2 q3.2 q5.2) (p_X12_stateOf N σ p0 (p1 - 1) p2 q3.2 q5.2) mt_X12_stateOf ms_X12_stateOf ml_RX12_594 rfl (fun h => Bool.noConfusion h) ⟨Nat.le_of_ble_eq_true rfl, Nat.le_of_ble_eq_true rfl⟩ (Nat.le_of_ble_eq_true rfl) 0 0 ⟨rfl, rfl⟩ ⟨Nat.zero_le _, Nat.zero_le _⟩ (by decide +kernel) _ rfl (fun q6 => [ai q6.2, ar isSafe_1]) (fun _ => rfl) (fun q6 => ?_)
    refine x_aldZ C (by decide +kernel) (fun a7 => ?_)
    refine x_if_eq C (tgt := 44) (off := 7) (by decide) (by decide +kernel) (fun h8 => ?_) (fun h8 => ?_)
    · skip
      refine x_iconst C (n := 0) (by decide +kernel) ?_
      exact x_zret C (Or.inl rfl) ⟨Nat.zero_le _, Nat.zero_le _⟩ (by decide +kernel)
    · skip
      refine x_iconst C (n := 1) (by decide +kernel) ?_
      refine x_goto C (tgt := 45) (off := 4) (by decide) (by decide +kernel) ?_
      exact x_zret C (Or.inr rfl) ⟨Nat.zero_le _, Nat.zero_le _⟩ (by decide +kernel)
theorem p_X12_waits (N : Nat) (σ : St) (this : Nat) (p0 : Int) (p1 : Int) (p2 : Int) (p3 : Int) (p4 : Int) : Pu σ (f_X12_waits N σ this p0 p1 p2 p3 p4) := by
  unfold f_X12_waits
  refine pu_ifs ?_ ?_
  · skip
    exact pu_some
  · skip
    refine pu_bind (fun _ => ?_)
    refine pu_bind (fun _ => ?_)
    refine pu_bind (fun _ => ?_)
    refine pu_bind (fun _ => ?_)
    refine pu_bind (fun _ => ?_)
    refine pu_bind (fun _ => ?_)
    refine pu_bind (fun _ => ?_)
    refine pu_if ?_ ?_
    · skip
      exact pu_some
    · skip
      exact pu_some

def rm_X12_paid : Room := { frames := 1, cells := 0, slots := 0, locals := 24 }
def f_X12_paid (N : Nat) (σ : St) (this : Nat) (p0 : Int) (p1 : Int) (p2 : Int) (p3 : Int) (p4 : Int) : Option (St × Int) :=
 (if wr p3 < 0 then some (σ, 0) else (if wr p4 < 0 then some (σ, 0) else Option.bind (gR shm σ 12 this 90) fun isSafe_1 =>
 Jn (fun t2 : Int => Jn (fun t3 : Int => Option.bind (f_X12_stateOf N σ p0 p1 p2 t2 t3) fun q4 =>
 Option.bind (aI shm σ 3 isSafe_1 q4.2) fun a5 =>
 (if wr (wz a5) = 0 then some (σ, 0) else some (σ, 1))) fun J39_6 =>
 (if wr p4 < 0 then J39_6 0 else J39_6 p4)) fun J28_8 =>
 (if wr p3 < 0 then J28_8 0 else J28_8 p3)))
set_option maxRecDepth 100000 in
set_option maxHeartbeats 4000000 in
theorem c_X12_paid (l : Launch) (D : va_G) (ca : Nat → ClassId) (ra : Nat → Nat) (N : Nat) (σ : St) (this : Nat) (p0 : Int) (p1 : Int) (p2 : Int) (p3 : Int) (p4 : Int) : Ctr l (D, ca, ra, shm) false yX12_paid cX12_paid 6 (some .boolean) rm_X12_paid σ [ar this, ai p0, ai p1, ai p2, ai p3, ai p4] (f_X12_paid N σ this p0 p1 p2 p3 p4) := by
  refine ctr_of (by decide) (Nat.le_of_ble_eq_true rfl) (fun z C => ?_)
  show X z 0 0 σ 0 [(0, ar this), (1, ai p0), (2, ai p1), (3, ai p2), (4, ai p3), (5, ai p4)] [] _
  unfold f_X12_paid
  refine x_iload C 4 (i := 4) rfl (by decide +kernel) ?_
  refine x_if_lt C (tgt := 50) (off := 48) (by decide) (by decide +kernel) (fun h12 => ?_) (fun h12 => ?_)
  · skip
    refine x_iconst C (n := 0) (by decide +kernel) ?_
    exact x_zret C (Or.inl rfl) ⟨Nat.zero_le _, Nat.zero_le _⟩ (by decide +kernel)
  · skip
    refine x_iload C 5 (i := 5) rfl (by decide +kernel) ?_
    refine x_if_lt C (tgt := 50) (off := 43) (by decide) (by decide +kernel) (fun h11 => ?_) (fun h11 => ?_)
    · skip
      refine x_iconst C (n := 0) (by decide +kernel) ?_
      exact x_zret C (Or.inl rfl) ⟨Nat.zero_le _, Nat.zero_le _⟩ (by decide +kernel)
    · skip
      refine x_aload_n C 0 (i := 0) (k0 := 0) rfl rfl (by decide +kernel) ?_
      refine x_gR C fl_RX12_169 (fun _ _ _ => rfl) (by decide +kernel) (fun isSafe_1 => ?_)
      refine x_iload_n C 1 (i := 1) (k0 := 1) rfl rfl (by decide +kernel) ?_
      refine x_iload_n C 2 (i := 2) (k0 := 2) rfl rfl (by decide +kernel) ?_
      refine x_iload_n C 3 (i := 3) (k0 := 3) rfl rfl (by decide +kernel) ?_
      refine x_iload C 4 (i := 4) rfl (by decide +kernel) ?_
      refine x_join (T := Int) (fun t => σ) 28 (fun t => [(5, ai p4)]) (fun t => [ai t, ai p2, ai p1, ai p0, ar isSafe_1]) (fun t2 => ?_) (fun J28_8 hJ28_8 => ?_)
      · show X z 0 0 σ 28 [(5, ai p4)] [ai t2, ai p2, ai p1, ai p0, ar isSafe_1] _
        refine x_iload C 0 (i := 5) rfl (by decide +kernel) ?_
        refine x_join (T := Int) (fun t => σ) 39 (fun t => []) (fun t => [ai t, ai t2, ai p2, ai p1, ai p0, ar isSafe_1]) (fun t3 => ?_) (fun J39_6 hJ39_6 => ?_)
        · show X z 0 0 σ 39 [] [ai t3, ai t2, ai p2, ai p1, ai p0, ar isSafe_1] _
          refine x_callSp C (c_X12_stateOf l D ca ra N σ p0 p1 p2 t2 t3) (p_X12_stateOf N σ p0 p1 p2 t2 t3) mt_X12_stateOf ms_X12_stateOf ml_RX12_594 rfl (fun h => Bool.noConfusion h) ⟨Nat.le_of_ble_eq_true rfl, Nat.le_of_ble_eq_true rfl⟩ (Nat.le_of_ble_eq_true rfl) 0 0 ⟨rfl, rfl⟩ ⟨Nat.zero_le _, Nat.zero_le _⟩ (by decide +kernel) _ rfl (fun q4 => [ai q4.2, ar isSafe_1]) (fun _ => rfl) (fun q4 => ?_)
          refine x_aldZ C (by decide +kernel) (fun a5 => ?_)
          refine x_if_eq C (tgt := 50) (off := 7) (by decide) (by decide +kernel) (fun h6 => ?_) (fun h6 => ?_)
          · skip
            refine x_iconst C (n := 0) (by decide +kernel) ?_
            exact x_zret C (Or.inl rfl) ⟨Nat.zero_le _, Nat.zero_le _⟩ (by decide +kernel)
          · skip
            refine x_iconst C (n := 1) (by decide +kernel) ?_
            refine x_goto C (tgt := 51) (off := 4) (by decide) (by decide +kernel) ?_
            exact x_zret C (Or.inr rfl) ⟨Nat.zero_le _, Nat.zero_le _⟩ (by decide +kernel)
        · skip
          refine x_if_ge C (tgt := 37) (off := 7) (by decide) (by decide +kernel) (fun h8 => ?_) (fun h8 => ?_)
          · skip
            refine x_iload C 0 (i := 5) rfl (by decide +kernel) ?_
            refine x_sub [] (lv2 := []) rfl ?_
            exact hJ39_6 p4
          · skip
            refine x_iconst C (n := 0) (by decide +kernel) ?_
            refine x_goto C (tgt := 39) (off := 5) (by decide) (by decide +kernel) ?_
            refine x_sub [] (lv2 := []) rfl ?_
            exact hJ39_6 0
      · skip
        refine x_if_ge C (tgt := 26) (off := 7) (by decide) (by decide +kernel) (fun h10 => ?_) (fun h10 => ?_)
        · skip
          refine x_iload C 4 (i := 4) rfl (by decide +kernel) ?_
          refine x_sub [5] (lv2 := [(5, ai p4)]) rfl ?_
          exact hJ28_8 p3
        · skip
          refine x_iconst C (n := 0) (by decide +kernel) ?_
          refine x_goto C (tgt := 28) (off := 5) (by decide) (by decide +kernel) ?_
          refine x_sub [5] (lv2 := [(5, ai p4)]) rfl ?_
          exact hJ28_8 0
theorem p_X12_paid (N : Nat) (σ : St) (this : Nat) (p0 : Int) (p1 : Int) (p2 : Int) (p3 : Int) (p4 : Int) : Pu σ (f_X12_paid N σ this p0 p1 p2 p3 p4) := by
  unfold f_X12_paid
  refine pu_if ?_ ?_
  · skip
    exact pu_some
  · skip
    refine pu_if ?_ ?_
    · skip
      exact pu_some
    · skip
      refine pu_bind (fun _ => ?_)
      refine pu_Jn (fun _ => ?_) (fun _ hJ28_8 => ?_)
      · skip
        refine pu_Jn (fun _ => ?_) (fun _ hJ39_6 => ?_)
        · skip
          refine pu_bind (fun _ => ?_)
          refine pu_bind (fun _ => ?_)
          refine pu_if ?_ ?_
          · skip
            exact pu_some
          · skip
            exact pu_some
        · skip
          refine pu_ifs ?_ ?_
          · skip
            exact hJ39_6 _
          · skip
            exact hJ39_6 _
      · skip
        refine pu_ifs ?_ ?_
        · skip
          exact hJ28_8 _
        · skip
          exact hJ28_8 _

def rm_X12_goesOn : Room := { frames := 2, cells := 0, slots := 0, locals := 49 }
def f_X12_goesOn (N : Nat) (σ : St) (this : Nat) (p0 : Int) (p1 : Int) (p2 : Int) (p3 : Int) (p4 : Int) : Option (St × Int) :=
 Option.bind (gR shm σ 12 this 88) fun stageCost_1 =>
 Option.bind (aI shm σ 1 stageCost_1 p0) fun a2 =>
 Option.bind (gR shm σ 12 this 89) fun stagePart_3 =>
 Option.bind (aI shm σ 1 stagePart_3 p0) fun a4 =>
 Lt (Int.tdiv (wr (a2 * a4)) 10) fun x5 =>
 Option.bind (rcv shm σ 12 this (f_X12_paid N σ this (p0 + 1) p1 p2 (p3 - x5) ((p4 - a2) + x5))) fun q6 =>
 (if wr q6.2 = 0 then some (σ, 0) else (if wr p2 = 0 then some (σ, 1) else Option.bind (rcv shm σ 12 this (f_X12_paid N σ this (p0 + 1) p1 (p2 - 1) p3 (p4 - a2))) fun q7 =>
 (if wr q7.2 = 0 then some (σ, 0) else Option.bind (rcv shm σ 12 this (f_X12_paid N σ this (p0 + 1) p1 (p2 - 1) (p3 - a2) p4)) fun q8 =>
 (if wr q8.2 = 0 then some (σ, 0) else some (σ, 1)))))
set_option maxRecDepth 100000 in
set_option maxHeartbeats 4000000 in
theorem c_X12_goesOn (l : Launch) (D : va_G) (ca : Nat → ClassId) (ra : Nat → Nat) (N : Nat) (σ : St) (this : Nat) (p0 : Int) (p1 : Int) (p2 : Int) (p3 : Int) (p4 : Int) : Ctr l (D, ca, ra, shm) false yX12_goesOn cX12_goesOn 8 (some .boolean) rm_X12_goesOn σ [ar this, ai p0, ai p1, ai p2, ai p3, ai p4] (f_X12_goesOn N σ this p0 p1 p2 p3 p4) := by
  refine ctr_of (by decide) (Nat.le_of_ble_eq_true rfl) (fun z C => ?_)
  show X z 0 0 σ 0 [(0, ar this), (1, ai p0), (2, ai p1), (3, ai p2), (4, ai p3), (5, ai p4)] [] _
  unfold f_X12_goesOn
  refine x_aload_n C 0 (i := 0) (k0 := 0) rfl rfl (by decide +kernel) ?_
  refine x_gR C fl_RX12_162 (fun _ _ _ => rfl) (by decide +kernel) (fun stageCost_1 => ?_)
  refine x_iload_n C 1 (i := 1) (k0 := 1) rfl rfl (by decide +kernel) ?_
  refine x_aldI C (by decide +kernel) (fun a2 => ?_)
  refine x_istore C (i := 6) (Nat.le_of_ble_eq_true rfl) (by decide +kernel) (lv2 := [(6, ai a2), (0, ar this), (1, ai p0), (2, ai p1), (3, ai p2), (4, ai p3), (5, ai p4)]) rfl ?_
  refine x_iload C 0 (i := 6) rfl (by decide +kernel) ?_
  refine x_aload_n C 1 (i := 0) (k0 := 0) rfl rfl (by decide +kernel) ?_
  refine x_gR C fl_RX12_165 (fun _ _ _ => rfl) (by decide +kernel) (fun stagePart_3 => ?_)
  show X z 0 0 σ 14 [(6, ai a2), (0, ar this), (1, ai p0), (2, ai p1), (3, ai p2), (4, ai p3), (5, ai p4)] [ar stagePart_3, ai a2] _
  refine x_iload_n C 2 (i := 1) (k0 := 1) rfl rfl (by decide +kernel) ?_
  refine x_aldI C (by decide +kernel) (fun a4 => ?_)
  refine x_imul C (by decide +kernel) ?_
  refine x_bipush C (n := 10) (by decide +kernel) (by decide +kernel) ?_
  refine x_idivC C (by decide) (by decide) (by decide +kernel) ?_
  refine x_istoreL C (i := 7) (Nat.le_of_ble_eq_true rfl) (by decide +kernel) (lv2 := fun x5 => [(7, ai x5), (6, ai a2), (0, ar this), (1, ai p0), (2, ai p1), (3, ai p2), (4, ai p3), (5, ai p4)]) (fun _ => rfl) (fun x5 => ?_)
  refine x_aload_n C 2 (i := 0) (k0 := 0) rfl rfl (by decide +kernel) ?_
  refine x_iload_n C 3 (i := 1) (k0 := 1) rfl rfl (by decide +kernel) ?_
  show X z 0 0 σ 24 [(7, ai x5), (6, ai a2), (0, ar this), (1, ai p0), (2, ai p1), (3, ai p2), (4, ai p3), (5, ai p4)] [ai p0, ar this] _
  refine x_iconst C (n := 1) (by decide +kernel) ?_
  refine x_iadd C (by decide +kernel) ?_
  refine x_iload_n C 4 (i := 2) (k0 := 2) rfl rfl (by decide +kernel) ?_
  refine x_iload_n C 5 (i := 3) (k0 := 3) rfl rfl (by decide +kernel) ?_
  refine x_iload C 6 (i := 4) rfl (by decide +kernel) ?_
  refine x_iload C 0 (i := 7) rfl (by decide +kernel) ?_
  refine x_isub C (by decide +kernel) ?_
  refine x_iload C 7 (i := 5) rfl (by decide +kernel) ?_
  show X z 0 0 σ 35 [(7, ai x5), (6, ai a2), (0, ar this), (1, ai p0), (2, ai p1), (3, ai p2), (4, ai p3), (5, ai p4)] [ai p4, ai (p3 - x5), ai p2, ai p1, ai (p0 + 1), ar this] _
  refine x_iload C 1 (i := 6) rfl (by decide +kernel) ?_
  refine x_isub C (by decide +kernel) ?_
  refine x_iload C 0 (i := 7) rfl (by decide +kernel) ?_
  refine x_iadd C (by decide +kernel) ?_
  refine x_callVp C (ci := 12) (c_X12_paid l D ca ra N σ this (p0 + 1) p1 p2 (p3 - x5) ((p4 - a2) + x5)) (p_X12_paid N σ this (p0 + 1) p1 p2 (p3 - x5) ((p4 - a2) + x5)) mt_X12_paid mv_X12_paid rfl ml_RX12_598 rfl (fun h => Bool.noConfusion h) ⟨Nat.le_of_ble_eq_true rfl, Nat.le_of_ble_eq_true rfl⟩ (Nat.le_of_ble_eq_true rfl) 0 0 ⟨rfl, rfl⟩ ⟨Nat.zero_le _, Nat.zero_le _⟩ (by decide +kernel) _ rfl (fun q6 => [ai q6.2]) (fun _ => rfl) (fun q6 => ?_)
  refine x_if_ne C (tgt := 49) (off := 5) (by decide) (by decide +kernel) (fun h12 => ?_) (fun h12 => ?_)
  · skip
    refine x_iload_n C 5 (i := 3) (k0 := 3) rfl rfl (by decide +kernel) ?_
    refine x_if_eq C (tgt := 95) (off := 45) (by decide) (by decide +kernel) (fun h11 => ?_) (fun h11 => ?_)
    · skip
      refine x_iconst C (n := 1) (by decide +kernel) ?_
      refine x_goto C (tgt := 100) (off := 4) (by decide) (by decide +kernel) ?_
      exact x_zret C (Or.inr rfl) ⟨Nat.zero_le _, Nat.zero_le _⟩ (by decide +kernel)
    · skip
      refine x_aload_n C 2 (i := 0) (k0 := 0) rfl rfl (by decide +kernel) ?_
      refine x_iload_n C 3 (i := 1) (k0 := 1) rfl rfl (by decide +kernel) ?_
      refine x_iconst C (n := 1) (by decide +kernel) ?_
      refine x_iadd C (by decide +kernel) ?_
      refine x_iload_n C 4 (i := 2) (k0 := 2) rfl rfl (by decide +kernel) ?_
      refine x_iload_n C 5 (i := 3) (k0 := 3) rfl rfl (by decide +kernel) ?_
      refine x_iconst C (n := 1) (by decide +kernel) ?_
      refine x_isub C (by decide +kernel) ?_
      show X z 0 0 σ 61 [(7, ai x5), (6, ai a2), (0, ar this), (1, ai p0), (2, ai p1), (3, ai p2), (4, ai p3), (5, ai p4)] [ai (p2 - 1), ai p1, ai (p0 + 1), ar this] _
      refine x_iload C 6 (i := 4) rfl (by decide +kernel) ?_
      refine x_iload C 7 (i := 5) rfl (by decide +kernel) ?_
      refine x_iload C 1 (i := 6) rfl (by decide +kernel) ?_
      refine x_isub C (by decide +kernel) ?_
      refine x_callVp C (ci := 12) (c_X12_paid l D ca ra N σ this (p0 + 1) p1 (p2 - 1) p3 (p4 - a2)) (p_X12_paid N σ this (p0 + 1) p1 (p2 - 1) p3 (p4 - a2)) mt_X12_paid mv_X12_paid rfl ml_RX12_598 rfl (fun h => Bool.noConfusion h) ⟨Nat.le_of_ble_eq_true rfl, Nat.le_of_ble_eq_true rfl⟩ (Nat.le_of_ble_eq_true rfl) 0 0 ⟨rfl, rfl⟩ ⟨Nat.zero_le _, Nat.zero_le _⟩ (by decide +kernel) _ rfl (fun q7 => [ai q7.2]) (fun _ => rfl) (fun q7 => ?_)
      refine x_if_eq C (tgt := 99) (off := 28) (by decide) (by decide +kernel) (fun h10 => ?_) (fun h10 => ?_)
      · skip
        refine x_iconst C (n := 0) (by decide +kernel) ?_
        exact x_zret C (Or.inl rfl) ⟨Nat.zero_le _, Nat.zero_le _⟩ (by decide +kernel)
      · skip
        refine x_aload_n C 2 (i := 0) (k0 := 0) rfl rfl (by decide +kernel) ?_
        refine x_iload_n C 3 (i := 1) (k0 := 1) rfl rfl (by decide +kernel) ?_
        refine x_iconst C (n := 1) (by decide +kernel) ?_
        refine x_iadd C (by decide +kernel) ?_
        refine x_iload_n C 4 (i := 2) (k0 := 2) rfl rfl (by decide +kernel) ?_
        refine x_iload_n C 5 (i := 3) (k0 := 3) rfl rfl (by decide +kernel) ?_
        refine x_iconst C (n := 1) (by decide +kernel) ?_
        refine x_isub C (by decide +kernel) ?_
        show X z 0 0 σ 82 [(7, ai x5), (6, ai a2), (0, ar this), (1, ai p0), (2, ai p1), (3, ai p2), (4, ai p3), (5, ai p4)] [ai (p2 - 1), ai p1, ai (p0 + 1), ar this] _
        refine x_iload C 6 (i := 4) rfl (by decide +kernel) ?_
        refine x_iload C 1 (i := 6) rfl (by decide +kernel) ?_
        refine x_isub C (by decide +kernel) ?_
        refine x_iload C 7 (i := 5) rfl (by decide +kernel) ?_
        refine x_callVp C (ci := 12) (c_X12_paid l D ca ra N σ this (p0 + 1) p1 (p2 - 1) (p3 - a2) p4) (p_X12_paid N σ this (p0 + 1) p1 (p2 - 1) (p3 - a2) p4) mt_X12_paid mv_X12_paid rfl ml_RX12_598 rfl (fun h => Bool.noConfusion h) ⟨Nat.le_of_ble_eq_true rfl, Nat.le_of_ble_eq_true rfl⟩ (Nat.le_of_ble_eq_true rfl) 0 0 ⟨rfl, rfl⟩ ⟨Nat.zero_le _, Nat.zero_le _⟩ (by decide +kernel) _ rfl (fun q8 => [ai q8.2]) (fun _ => rfl) (fun q8 => ?_)
        refine x_if_eq C (tgt := 99) (off := 7) (by decide) (by decide +kernel) (fun h9 => ?_) (fun h9 => ?_)
        · skip
          refine x_iconst C (n := 0) (by decide +kernel) ?_
          exact x_zret C (Or.inl rfl) ⟨Nat.zero_le _, Nat.zero_le _⟩ (by decide +kernel)
        · skip
          refine x_iconst C (n := 1) (by decide +kernel) ?_
          refine x_goto C (tgt := 100) (off := 4) (by decide) (by decide +kernel) ?_
          exact x_zret C (Or.inr rfl) ⟨Nat.zero_le _, Nat.zero_le _⟩ (by decide +kernel)
  · skip
    refine x_iconst C (n := 0) (by decide +kernel) ?_
    exact x_zret C (Or.inl rfl) ⟨Nat.zero_le _, Nat.zero_le _⟩ (by decide +kernel)
theorem p_X12_goesOn (N : Nat) (σ : St) (this : Nat) (p0 : Int) (p1 : Int) (p2 : Int) (p3 : Int) (p4 : Int) : Pu σ (f_X12_goesOn N σ this p0 p1 p2 p3 p4) := by
  unfold f_X12_goesOn
  refine pu_bind (fun _ => ?_)
  refine pu_bind (fun _ => ?_)
  refine pu_bind (fun _ => ?_)
  refine pu_bind (fun _ => ?_)
  refine pu_Lt (fun _ => ?_)
  refine pu_bind (fun _ => ?_)
  refine pu_ifs ?_ ?_
  · skip
    refine pu_if ?_ ?_
    · skip
      exact pu_some
    · skip
      refine pu_bind (fun _ => ?_)
      refine pu_if ?_ ?_
      · skip
        exact pu_some
      · skip
        refine pu_bind (fun _ => ?_)
        refine pu_if ?_ ?_
        · skip
          exact pu_some
        · skip
          exact pu_some
  · skip
    exact pu_some

def L_X12_layStages_40 (N : Nat) (this : Nat) (t2 : St × Int) (t7 : St × Int) (t13 : St × Int) (t18 : St × Int) (J109_21 : (St → Option (St × Int))) : (St × Int) → Option (St × Int) := fixN N fun b40_23 t23 =>
 (if wr 30 < wr t23.2 then J109_21 t23.1 else Option.bind (gR shm t23.1 12 this 90) fun isSafe_25 =>
 Option.bind (f_X12_stateOf N t23.1 t2.2 t7.2 t13.2 t18.2 t23.2) fun q26 =>
 Option.bind (gI shm t23.1 12 this 91) fun stages_27 =>
 Jn (fun t28 : Int => Option.bind (sI shm t23.1 3 isSafe_25 q26.2 t28) fun σ29 =>
 Lt (t23.2 + 1) fun x30 =>
 b40_23 (σ29, x30)) fun J102_30 =>
 Jn (fun t32 : Unit => J102_30 1) fun J97_32 =>
 (if wr t2.2 = wr stages_27 then J97_32 () else Option.bind (rcv shm t23.1 12 this (f_X12_waits N t23.1 this t2.2 t7.2 t13.2 t18.2 t23.2)) fun q34 =>
 (if wr q34.2 = 0 then Option.bind (rcv shm t23.1 12 this (f_X12_goesOn N t23.1 this t2.2 t7.2 t13.2 t18.2 t23.2)) fun q35 =>
 (if wr q35.2 = 0 then J102_30 0 else J97_32 ()) else J97_32 ())))
def L_X12_layStages_30 (N : Nat) (this : Nat) (t2 : St × Int) (t7 : St × Int) (t13 : St × Int) (J115_16 : (St → Option (St × Int))) : (St × Int) → Option (St × Int) := fixN N fun b30_18 t18 =>
 (if wr 30 < wr t18.2 then J115_16 t18.1 else Jn (fun t20 : St => Lt (t18.2 + 1) fun x21 =>
 b30_18 (t20, x21)) fun J109_21 =>
 L_X12_layStages_40 N this t2 t7 t13 t18 J109_21 (t18.1, 0))
def L_X12_layStages_21 (N : Nat) (this : Nat) (t2 : St × Int) (t7 : St × Int) (J121_11 : (St → Option (St × Int))) : (St × Int) → Option (St × Int) := fixN N fun b21_13 t13 =>
 (if wr 6 < wr t13.2 then J121_11 t13.1 else Jn (fun t15 : St => Lt (t13.2 + 1) fun x16 =>
 b21_13 (t15, x16)) fun J115_16 =>
 L_X12_layStages_30 N this t2 t7 t13 J115_16 (t13.1, 0))
def L_X12_layStages_11 (N : Nat) (this : Nat) (t2 : St × Int) (J127_5 : (St → Option (St × Int))) : (St × Int) → Option (St × Int) := fixN N fun b11_7 t7 =>
 Option.bind (gI shm t7.1 12 this 93) fun slack_9 =>
 (if wr slack_9 < wr t7.2 then J127_5 t7.1 else Jn (fun t10 : St => Lt (t7.2 + 1) fun x11 =>
 b11_7 (t10, x11)) fun J121_11 =>
 L_X12_layStages_21 N this t2 t7 J121_11 (t7.1, 0))
def L_X12_layStages_5 (N : Nat) (this : Nat) : (St × Int) → Option (St × Int) := fixN N fun b5_2 t2 =>
 (if wr t2.2 < 0 then some (t2.1, 0) else Jn (fun t4 : St => Lt (t2.2 + (-1)) fun x5 =>
 b5_2 (t4, x5)) fun J127_5 =>
 L_X12_layStages_11 N this t2 J127_5 (t2.1, 0))
def rm_X12_layStages : Room := { frames := 3, cells := 0, slots := 0, locals := 76 }
def f_X12_layStages (N : Nat) (σ : St) (this : Nat) : Option (St × Int) :=
 Option.bind (gI shm σ 12 this 91) fun stages_1 =>
 L_X12_layStages_5 N this (σ, stages_1)
set_option maxRecDepth 100000 in
set_option maxHeartbeats 4000000 in
theorem c_X12_layStages (l : Launch) (D : va_G) (ca : Nat → ClassId) (ra : Nat → Nat) (N : Nat) (σ : St) (this : Nat) : Ctr l (D, ca, ra, shm) false yX12_layStages cX12_layStages 6 none rm_X12_layStages σ [ar this] (f_X12_layStages N σ this) := by
  refine ctr_of (by decide) (Nat.le_of_ble_eq_true rfl) (fun z C => ?_)
  show X z 0 0 σ 0 [(0, ar this)] [] _
  unfold f_X12_layStages
  refine x_aload_n C 0 (i := 0) (k0 := 0) rfl rfl (by decide +kernel) ?_
  refine x_gI C fl_RX12_582 (fun _ _ _ => rfl) (by decide +kernel) (fun stages_1 => ?_)
  refine x_istore_n C (i := 1) (k0 := 1) rfl (Nat.le_of_ble_eq_true rfl) (by decide +kernel) (lv2 := [(1, ai stages_1), (0, ar this)]) rfl ?_
  refine x_sub [1, 0] (lv2 := [(0, ar this), (1, ai stages_1)]) rfl ?_
  -- LOOP L_X12_layStages_5 hb5_2
  refine x_loop (T := St × Int) (fun t => t.1) (fun t => [(0, ar this), (1, ai t.2)]) (σ, stages_1) rfl (fun b5_2 hb5_2 t2 => ?_)
  show X z 0 0 t2.1 5 [(0, ar this), (1, ai t2.2)] [] _
  refine x_iload_n C 1 (i := 1) (k0 := 1) rfl rfl (by decide +kernel) ?_
  refine x_if_lt C (tgt := 133) (off := 127) (by decide) (by decide +kernel) (fun h43 => ?_) (fun h43 => ?_)
  · skip
    exact x_vret C ⟨Nat.zero_le _, Nat.zero_le _⟩ (by decide +kernel)
  · skip
    refine x_iconst C (n := 0) (by decide +kernel) ?_
    refine x_istore_n C (i := 2) (k0 := 2) rfl (Nat.le_of_ble_eq_true rfl) (by decide +kernel) (lv2 := [(2, ai 0), (0, ar this), (1, ai t2.2)]) rfl ?_
    refine x_join (T := St) (fun t => t) 127 (fun t => [(0, ar this), (1, ai t2.2)]) (fun t => []) (fun t4 => ?_) (fun J127_5 hJ127_5 => ?_)
    · show X z 0 0 t4 127 [(0, ar this), (1, ai t2.2)] [] _
      refine x_iinc C 1 (i := 1) (n := (-1)) (Nat.le_of_ble_eq_true rfl) rfl (by decide +kernel) (lv2 := fun x5 => [(1, ai x5), (0, ar this)]) (fun _ => rfl) (fun x5 => ?_)
      refine x_goto C (tgt := 5) (off := (-125)) (by decide) (by decide +kernel) ?_
      refine x_sub [1, 0] (lv2 := [(0, ar this), (1, ai x5)]) rfl ?_
      exact hb5_2 (t4, x5)
    · skip
      refine x_sub [1, 2, 0] (lv2 := [(0, ar this), (1, ai t2.2), (2, ai 0)]) rfl ?_
      -- LOOP L_X12_layStages_11 hb11_7
      refine x_loop (T := St × Int) (fun t => t.1) (fun t => [(0, ar this), (1, ai t2.2), (2, ai t.2)]) (t2.1, 0) rfl (fun b11_7 hb11_7 t7 => ?_)
      show X z 0 0 t7.1 11 [(0, ar this), (1, ai t2.2), (2, ai t7.2)] [] _
      refine x_iload_n C 2 (i := 2) (k0 := 2) rfl rfl (by decide +kernel) ?_
      refine x_aload_n C 0 (i := 0) (k0 := 0) rfl rfl (by decide +kernel) ?_
      refine x_gI C fl_RX12_588 (fun _ _ _ => rfl) (by decide +kernel) (fun slack_9 => ?_)
      refine x_ic_gt C (tgt := 127) (off := 111) (by decide) (by decide +kernel) (fun h42 => ?_) (fun h42 => ?_)
      · skip
        refine x_sub [0, 1] (lv2 := [(0, ar this), (1, ai t2.2)]) rfl ?_
        exact hJ127_5 t7.1
      · skip
        refine x_iconst C (n := 0) (by decide +kernel) ?_
        refine x_istore_n C (i := 3) (k0 := 3) rfl (Nat.le_of_ble_eq_true rfl) (by decide +kernel) (lv2 := [(3, ai 0), (0, ar this), (1, ai t2.2), (2, ai t7.2)]) rfl ?_
        refine x_join (T := St) (fun t => t) 121 (fun t => [(0, ar this), (1, ai t2.2), (2, ai t7.2)]) (fun t => []) (fun t10 => ?_) (fun J121_11 hJ121_11 => ?_)
        · show X z 0 0 t10 121 [(0, ar this), (1, ai t2.2), (2, ai t7.2)] [] _
          refine x_iinc C 2 (i := 2) (n := 1) (Nat.le_of_ble_eq_true rfl) rfl (by decide +kernel) (lv2 := fun x11 => [(2, ai x11), (0, ar this), (1, ai t2.2)]) (fun _ => rfl) (fun x11 => ?_)
          refine x_goto C (tgt := 11) (off := (-113)) (by decide) (by decide +kernel) ?_
          refine x_sub [1, 2, 0] (lv2 := [(0, ar this), (1, ai t2.2), (2, ai x11)]) rfl ?_
          exact hb11_7 (t10, x11)
        · skip
          refine x_sub [1, 2, 3, 0] (lv2 := [(0, ar this), (1, ai t2.2), (2, ai t7.2), (3, ai 0)]) rfl ?_
          -- LOOP L_X12_layStages_21 hb21_13
          refine x_loop (T := St × Int) (fun t => t.1) (fun t => [(0, ar this), (1, ai t2.2), (2, ai t7.2), (3, ai t.2)]) (t7.1, 0) rfl (fun b21_13 hb21_13 t13 => ?_)
          show X z 0 0 t13.1 21 [(0, ar this), (1, ai t2.2), (2, ai t7.2), (3, ai t13.2)] [] _
          refine x_iload_n C 3 (i := 3) (k0 := 3) rfl rfl (by decide +kernel) ?_
          refine x_bipush C (n := 6) (by decide +kernel) (by decide +kernel) ?_
          refine x_ic_gt C (tgt := 121) (off := 97) (by decide) (by decide +kernel) (fun h41 => ?_) (fun h41 => ?_)
          · skip
            refine x_sub [0, 1, 2] (lv2 := [(0, ar this), (1, ai t2.2), (2, ai t7.2)]) rfl ?_
            exact hJ121_11 t13.1
          · skip
            refine x_iconst C (n := 0) (by decide +kernel) ?_
            refine x_istore C (i := 4) (Nat.le_of_ble_eq_true rfl) (by decide +kernel) (lv2 := [(4, ai 0), (0, ar this), (1, ai t2.2), (2, ai t7.2), (3, ai t13.2)]) rfl ?_
            refine x_join (T := St) (fun t => t) 115 (fun t => [(0, ar this), (1, ai t2.2), (2, ai t7.2), (3, ai t13.2)]) (fun t => []) (fun t15 => ?_) (fun J115_16 hJ115_16 => ?_)
            · show X z 0 0 t15 115 [(0, ar this), (1, ai t2.2), (2, ai t7.2), (3, ai t13.2)] [] _
              refine x_iinc C 3 (i := 3) (n := 1) (Nat.le_of_ble_eq_true rfl) rfl (by decide +kernel) (lv2 := fun x16 => [(3, ai x16), (0, ar this), (1, ai t2.2), (2, ai t7.2)]) (fun _ => rfl) (fun x16 => ?_)
              refine x_goto C (tgt := 21) (off := (-97)) (by decide) (by decide +kernel) ?_
              refine x_sub [1, 2, 3, 0] (lv2 := [(0, ar this), (1, ai t2.2), (2, ai t7.2), (3, ai x16)]) rfl ?_
              exact hb21_13 (t15, x16)
            · skip
              refine x_sub [1, 2, 3, 4, 0] (lv2 := [(0, ar this), (1, ai t2.2), (2, ai t7.2), (3, ai t13.2), (4, ai 0)]) rfl ?_
              -- LOOP L_X12_layStages_30 hb30_18
              refine x_loop (T := St × Int) (fun t => t.1) (fun t => [(0, ar this), (1, ai t2.2), (2, ai t7.2), (3, ai t13.2), (4, ai t.2)]) (t13.1, 0) rfl (fun b30_18 hb30_18 t18 => ?_)
              show X z 0 0 t18.1 30 [(0, ar this), (1, ai t2.2), (2, ai t7.2), (3, ai t13.2), (4, ai t18.2)] [] _
              refine x_iload C 4 (i := 4) rfl (by decide +kernel) ?_
              refine x_bipush C (n := 30) (by decide +kernel) (by decide +kernel) ?_
              refine x_ic_gt C (tgt := 115) (off := 81) (by decide) (by decide +kernel) (fun h40 => ?_) (fun h40 => ?_)
              · skip
                refine x_sub [0, 1, 2, 3] (lv2 := [(0, ar this), (1, ai t2.2), (2, ai t7.2), (3, ai t13.2)]) rfl ?_
                exact hJ115_16 t18.1
              · skip
                refine x_iconst C (n := 0) (by decide +kernel) ?_
                refine x_istore C (i := 5) (Nat.le_of_ble_eq_true rfl) (by decide +kernel) (lv2 := [(5, ai 0), (0, ar this), (1, ai t2.2), (2, ai t7.2), (3, ai t13.2), (4, ai t18.2)]) rfl ?_
                refine x_join (T := St) (fun t => t) 109 (fun t => [(0, ar this), (1, ai t2.2), (2, ai t7.2), (3, ai t13.2), (4, ai t18.2)]) (fun t => []) (fun t20 => ?_) (fun J109_21 hJ109_21 => ?_)
                · show X z 0 0 t20 109 [(0, ar this), (1, ai t2.2), (2, ai t7.2), (3, ai t13.2), (4, ai t18.2)] [] _
                  refine x_iinc C 4 (i := 4) (n := 1) (Nat.le_of_ble_eq_true rfl) rfl (by decide +kernel) (lv2 := fun x21 => [(4, ai x21), (0, ar this), (1, ai t2.2), (2, ai t7.2), (3, ai t13.2)]) (fun _ => rfl) (fun x21 => ?_)
                  refine x_goto C (tgt := 30) (off := (-82)) (by decide) (by decide +kernel) ?_
                  refine x_sub [1, 2, 3, 4, 0] (lv2 := [(0, ar this), (1, ai t2.2), (2, ai t7.2), (3, ai t13.2), (4, ai x21)]) rfl ?_
                  exact hb30_18 (t20, x21)
                · skip
                  refine x_sub [1, 2, 3, 4, 5, 0] (lv2 := [(0, ar this), (1, ai t2.2), (2, ai t7.2), (3, ai t13.2), (4, ai t18.2), (5, ai 0)]) rfl ?_
                  -- LOOP L_X12_layStages_40 hb40_23
                  refine x_loop (T := St × Int) (fun t => t.1) (fun t => [(0, ar this), (1, ai t2.2), (2, ai t7.2), (3, ai t13.2), (4, ai t18.2), (5, ai t.2)]) (t18.1, 0) rfl (fun b40_23 hb40_23 t23 => ?_)
                  show X z 0 0 t23.1 40 [(0, ar this), (1, ai t2.2), (2, ai t7.2), (3, ai t13.2), (4, ai t18.2), (5, ai t23.2)] [] _
                  refine x_iload C 5 (i := 5) rfl (by decide +kernel) ?_
                  refine x_bipush C (n := 30) (by decide +kernel) (by decide +kernel) ?_
                  refine x_ic_gt C (tgt := 109) (off := 65) (by decide) (by decide +kernel) (fun h39 => ?_) (fun h39 => ?_)
                  · skip
                    refine x_sub [0, 1, 2, 3, 4] (lv2 := [(0, ar this), (1, ai t2.2), (2, ai t7.2), (3, ai t13.2), (4, ai t18.2)]) rfl ?_
                    exact hJ109_21 t23.1
                  · skip
                    refine x_aload_n C 0 (i := 0) (k0 := 0) rfl rfl (by decide +kernel) ?_
                    refine x_gR C fl_RX12_169 (fun _ _ _ => rfl) (by decide +kernel) (fun isSafe_25 => ?_)
                    refine x_iload_n C 1 (i := 1) (k0 := 1) rfl rfl (by decide +kernel) ?_
                    refine x_iload_n C 2 (i := 2) (k0 := 2) rfl rfl (by decide +kernel) ?_
                    refine x_iload_n C 3 (i := 3) (k0 := 3) rfl rfl (by decide +kernel) ?_
                    refine x_iload C 4 (i := 4) rfl (by decide +kernel) ?_
                    refine x_iload C 5 (i := 5) rfl (by decide +kernel) ?_
                    refine x_callSp C (c_X12_stateOf l D ca ra N t23.1 t2.2 t7.2 t13.2 t18.2 t23.2) (p_X12_stateOf N t23.1 t2.2 t7.2 t13.2 t18.2 t23.2) mt_X12_stateOf ms_X12_stateOf ml_RX12_594 rfl (fun h => Bool.noConfusion h) ⟨Nat.le_of_ble_eq_true rfl, Nat.le_of_ble_eq_true rfl⟩ (Nat.le_of_ble_eq_true rfl) 0 0 ⟨rfl, rfl⟩ ⟨Nat.zero_le _, Nat.zero_le _⟩ (by decide +kernel) _ rfl (fun q26 => [ai q26.2, ar isSafe_25]) (fun _ => rfl) (fun q26 => ?_)
                    show X z 0 0 t23.1 61 [(0, ar this), (1, ai t2.2), (2, ai t7.2), (3, ai t13.2), (4, ai t18.2), (5, ai t23.2)] [ai q26.2, ar isSafe_25] _
                    refine x_iload_n C 1 (i := 1) (k0 := 1) rfl rfl (by decide +kernel) ?_
                    refine x_aload_n C 0 (i := 0) (k0 := 0) rfl rfl (by decide +kernel) ?_
                    refine x_gI C fl_RX12_582 (fun _ _ _ => rfl) (by decide +kernel) (fun stages_27 => ?_)
                    refine x_join (T := Int) (fun t => t23.1) 102 (fun t => [(0, ar this), (1, ai t2.2), (2, ai t7.2), (3, ai t13.2), (4, ai t18.2), (5, ai t23.2)]) (fun t => [ai t, ai q26.2, ar isSafe_25]) (fun t28 => ?_) (fun J102_30 hJ102_30 => ?_)
                    · show X z 0 0 t23.1 102 [(0, ar this), (1, ai t2.2), (2, ai t7.2), (3, ai t13.2), (4, ai t18.2), (5, ai t23.2)] [ai t28, ai q26.2, ar isSafe_25] _
                      refine x_astZ C (by decide +kernel) (fun σ29 => ?_)
                      refine x_iinc C 5 (i := 5) (n := 1) (Nat.le_of_ble_eq_true rfl) rfl (by decide +kernel) (lv2 := fun x30 => [(5, ai x30), (0, ar this), (1, ai t2.2), (2, ai t7.2), (3, ai t13.2), (4, ai t18.2)]) (fun _ => rfl) (fun x30 => ?_)
                      refine x_goto C (tgt := 40) (off := (-66)) (by decide) (by decide +kernel) ?_
                      refine x_sub [1, 2, 3, 4, 5, 0] (lv2 := [(0, ar this), (1, ai t2.2), (2, ai t7.2), (3, ai t13.2), (4, ai t18.2), (5, ai x30)]) rfl ?_
                      exact hb40_23 (σ29, x30)
                    · skip
                      refine x_join (T := Unit) (fun t => t23.1) 97 (fun t => [(0, ar this), (1, ai t2.2), (2, ai t7.2), (3, ai t13.2), (4, ai t18.2), (5, ai t23.2)]) (fun t => [ai q26.2, ar isSafe_25]) (fun t32 => ?_) (fun J97_32 hJ97_32 => ?_)
                      · show X z 0 0 t23.1 97 [(0, ar this), (1, ai t2.2), (2, ai t7.2), (3, ai t13.2), (4, ai t18.2), (5, ai t23.2)] [ai q26.2, ar isSafe_25] _
                        refine x_iconst C (n := 1) (by decide +kernel) ?_
                        refine x_goto C (tgt := 102) (off := 4) (by decide) (by decide +kernel) ?_
                        exact hJ102_30 1
                      · skip
                        refine x_ic_eq C (tgt := 97) (off := 31) (by decide) (by decide +kernel) (fun h38 => ?_) (fun h38 => ?_)
                        · skip
                          exact hJ97_32 ()
                        · skip
                          refine x_aload_n C 0 (i := 0) (k0 := 0) rfl rfl (by decide +kernel) ?_
                          refine x_iload_n C 1 (i := 1) (k0 := 1) rfl rfl (by decide +kernel) ?_
                          refine x_iload_n C 2 (i := 2) (k0 := 2) rfl rfl (by decide +kernel) ?_
                          refine x_iload_n C 3 (i := 3) (k0 := 3) rfl rfl (by decide +kernel) ?_
                          refine x_iload C 4 (i := 4) rfl (by decide +kernel) ?_
                          refine x_iload C 5 (i := 5) rfl (by decide +kernel) ?_
                          refine x_callVp C (ci := 12) (c_X12_waits l D ca ra N t23.1 this t2.2 t7.2 t13.2 t18.2 t23.2) (p_X12_waits N t23.1 this t2.2 t7.2 t13.2 t18.2 t23.2) mt_X12_waits mv_X12_waits rfl ml_RX12_602 rfl (fun h => Bool.noConfusion h) ⟨Nat.le_of_ble_eq_true rfl, Nat.le_of_ble_eq_true rfl⟩ (Nat.le_of_ble_eq_true rfl) 0 0 ⟨rfl, rfl⟩ ⟨Nat.zero_le _, Nat.zero_le _⟩ (by decide +kernel) _ rfl (fun q34 => [ai q34.2, ai q26.2, ar isSafe_25]) (fun _ => rfl) (fun q34 => ?_)
                          refine x_if_ne C (tgt := 97) (off := 17) (by decide) (by decide +kernel) (fun h37 => ?_) (fun h37 => ?_)
                          · skip
                            exact hJ97_32 ()
                          · skip
                            refine x_aload_n C 0 (i := 0) (k0 := 0) rfl rfl (by decide +kernel) ?_
                            refine x_iload_n C 1 (i := 1) (k0 := 1) rfl rfl (by decide +kernel) ?_
                            refine x_iload_n C 2 (i := 2) (k0 := 2) rfl rfl (by decide +kernel) ?_
                            refine x_iload_n C 3 (i := 3) (k0 := 3) rfl rfl (by decide +kernel) ?_
                            refine x_iload C 4 (i := 4) rfl (by decide +kernel) ?_
                            refine x_iload C 5 (i := 5) rfl (by decide +kernel) ?_
                            refine x_callVp C (ci := 12) (c_X12_goesOn l D ca ra N t23.1 this t2.2 t7.2 t13.2 t18.2 t23.2) (p_X12_goesOn N t23.1 this t2.2 t7.2 t13.2 t18.2 t23.2) mt_X12_goesOn mv_X12_goesOn rfl ml_RX12_605 rfl (fun h => Bool.noConfusion h) ⟨Nat.le_of_ble_eq_true rfl, Nat.le_of_ble_eq_true rfl⟩ (Nat.le_of_ble_eq_true rfl) 0 0 ⟨rfl, rfl⟩ ⟨Nat.zero_le _, Nat.zero_le _⟩ (by decide +kernel) _ rfl (fun q35 => [ai q35.2, ai q26.2, ar isSafe_25]) (fun _ => rfl) (fun q35 => ?_)
                            refine x_if_eq C (tgt := 101) (off := 7) (by decide) (by decide +kernel) (fun h36 => ?_) (fun h36 => ?_)
                            · skip
                              refine x_iconst C (n := 0) (by decide +kernel) ?_
                              exact hJ102_30 0
                            · skip
                              exact hJ97_32 ()

def rm_X12_isMoney : Room := { frames := 1, cells := 0, slots := 0, locals := 22 }
def f_X12_isMoney (N : Nat) (σ : St) (p0 : Int) (p1 : Int) : Option (St × Int) :=
 Option.bind (f_X12_isIn N σ p0 0 30) fun q1 =>
 (if wr q1.2 = 0 then some (σ, 0) else Option.bind (f_X12_isIn N σ p1 0 30) fun q2 =>
 (if wr q2.2 = 0 then some (σ, 0) else some (σ, 1)))
set_option maxRecDepth 100000 in
set_option maxHeartbeats 4000000 in
theorem c_X12_isMoney (l : Launch) (D : va_G) (ca : Nat → ClassId) (ra : Nat → Nat) (N : Nat) (σ : St) (p0 : Int) (p1 : Int) : Ctr l (D, ca, ra, shm) false yX12_isMoney cX12_isMoney 2 (some .boolean) rm_X12_isMoney σ [ai p0, ai p1] (f_X12_isMoney N σ p0 p1) := by
  refine ctr_of (by decide) (Nat.le_of_ble_eq_true rfl) (fun z C => ?_)
  show X z 0 0 σ 0 [(0, ai p0), (1, ai p1)] [] _
  unfold f_X12_isMoney
  refine x_iload_n C 0 (i := 0) (k0 := 0) rfl rfl (by decide +kernel) ?_
  refine x_iconst C (n := 0) (by decide +kernel) ?_
  refine x_bipush C (n := 30) (by decide +kernel) (by decide +kernel) ?_
  refine x_callSp C (c_X12_isIn l D ca ra N σ p0 0 30) (p_X12_isIn N σ p0 0 30) mt_X12_isIn ms_X12_isIn ml_RX12_354 rfl (fun h => Bool.noConfusion h) ⟨Nat.le_of_ble_eq_true rfl, Nat.le_of_ble_eq_true rfl⟩ (Nat.le_of_ble_eq_true rfl) 0 0 ⟨rfl, rfl⟩ ⟨Nat.zero_le _, Nat.zero_le _⟩ (by decide +kernel) _ rfl (fun q1 => [ai q1.2]) (fun _ => rfl) (fun q1 => ?_)
  refine x_if_eq C (tgt := 24) (off := 17) (by decide) (by decide +kernel) (fun h4 => ?_) (fun h4 => ?_)
  · skip
    refine x_iconst C (n := 0) (by decide +kernel) ?_
    exact x_zret C (Or.inl rfl) ⟨Nat.zero_le _, Nat.zero_le _⟩ (by decide +kernel)
  · skip
    refine x_iload_n C 1 (i := 1) (k0 := 1) rfl rfl (by decide +kernel) ?_
    refine x_iconst C (n := 0) (by decide +kernel) ?_
    refine x_bipush C (n := 30) (by decide +kernel) (by decide +kernel) ?_
    refine x_callSp C (c_X12_isIn l D ca ra N σ p1 0 30) (p_X12_isIn N σ p1 0 30) mt_X12_isIn ms_X12_isIn ml_RX12_354 rfl (fun h => Bool.noConfusion h) ⟨Nat.le_of_ble_eq_true rfl, Nat.le_of_ble_eq_true rfl⟩ (Nat.le_of_ble_eq_true rfl) 0 0 ⟨rfl, rfl⟩ ⟨Nat.zero_le _, Nat.zero_le _⟩ (by decide +kernel) _ rfl (fun q2 => [ai q2.2]) (fun _ => rfl) (fun q2 => ?_)
    refine x_if_eq C (tgt := 24) (off := 7) (by decide) (by decide +kernel) (fun h3 => ?_) (fun h3 => ?_)
    · skip
      refine x_iconst C (n := 0) (by decide +kernel) ?_
      exact x_zret C (Or.inl rfl) ⟨Nat.zero_le _, Nat.zero_le _⟩ (by decide +kernel)
    · skip
      refine x_iconst C (n := 1) (by decide +kernel) ?_
      refine x_goto C (tgt := 25) (off := 4) (by decide) (by decide +kernel) ?_
      exact x_zret C (Or.inr rfl) ⟨Nat.zero_le _, Nat.zero_le _⟩ (by decide +kernel)
theorem p_X12_isMoney (N : Nat) (σ : St) (p0 : Int) (p1 : Int) : Pu σ (f_X12_isMoney N σ p0 p1) := by
  unfold f_X12_isMoney
  refine pu_bind (fun _ => ?_)
  refine pu_if ?_ ?_
  · skip
    exact pu_some
  · skip
    refine pu_bind (fun _ => ?_)
    refine pu_if ?_ ?_
    · skip
      exact pu_some
    · skip
      exact pu_some

def rm_X12_safe : Room := { frames := 4, cells := 0, slots := 0, locals := 101 }
def f_X12_safe (N : Nat) (σ : St) (this : Nat) (p0 : Int) (p1 : Int) (p2 : Int) : Option (St × Int) :=
 Option.bind (f_X12_isMoney N σ p0 p1) fun q1 =>
 (if wr q1.2 = 0 then some (σ, (-1)) else Option.bind (f_X12_isIn N σ p2 0 6) fun q2 =>
 (if wr q2.2 = 0 then some (σ, (-1)) else Option.bind (rcv shm σ 12 this (f_X12_layStages N σ this)) fun q3 =>
 Option.bind (gR shm q3.1 12 this 90) fun isSafe_4 =>
 Option.bind (gI shm q3.1 12 this 93) fun slack_5 =>
 Option.bind (f_X12_stateOf N q3.1 0 slack_5 p2 p0 p1) fun q6 =>
 Option.bind (aI shm q3.1 3 isSafe_4 q6.2) fun a7 =>
 (if wr (wz a7) = 0 then some (q3.1, 0) else some (q3.1, 1))))
set_option maxRecDepth 100000 in
set_option maxHeartbeats 4000000 in
theorem c_X12_safe (l : Launch) (D : va_G) (ca : Nat → ClassId) (ra : Nat → Nat) (N : Nat) (σ : St) (this : Nat) (p0 : Int) (p1 : Int) (p2 : Int) : Ctr l (D, ca, ra, shm) false yX12_safe cX12_safe 4 (some .int) rm_X12_safe σ [ar this, ai p0, ai p1, ai p2] (f_X12_safe N σ this p0 p1 p2) := by
  refine ctr_of (by decide) (Nat.le_of_ble_eq_true rfl) (fun z C => ?_)
  show X z 0 0 σ 0 [(0, ar this), (1, ai p0), (2, ai p1), (3, ai p2)] [] _
  unfold f_X12_safe
  refine x_iload_n C 1 (i := 1) (k0 := 1) rfl rfl (by decide +kernel) ?_
  refine x_iload_n C 2 (i := 2) (k0 := 2) rfl rfl (by decide +kernel) ?_
  refine x_callSp C (c_X12_isMoney l D ca ra N σ p0 p1) (p_X12_isMoney N σ p0 p1) mt_X12_isMoney ms_X12_isMoney ml_RX12_608 rfl (fun h => Bool.noConfusion h) ⟨Nat.le_of_ble_eq_true rfl, Nat.le_of_ble_eq_true rfl⟩ (Nat.le_of_ble_eq_true rfl) 0 0 ⟨rfl, rfl⟩ ⟨Nat.zero_le _, Nat.zero_le _⟩ (by decide +kernel) _ rfl (fun q1 => [ai q1.2]) (fun _ => rfl) (fun q1 => ?_)
  refine x_if_eq C (tgt := 18) (off := 13) (by decide) (by decide +kernel) (fun h10 => ?_) (fun h10 => ?_)
  · skip
    refine x_iconst C (n := (-1)) (by decide +kernel) ?_
    exact x_iret C ⟨Nat.zero_le _, Nat.zero_le _⟩ (by decide +kernel)
  · skip
    refine x_iload_n C 3 (i := 3) (k0 := 3) rfl rfl (by decide +kernel) ?_
    refine x_iconst C (n := 0) (by decide +kernel) ?_
    refine x_bipush C (n := 6) (by decide +kernel) (by decide +kernel) ?_
    refine x_callSp C (c_X12_isIn l D ca ra N σ p2 0 6) (p_X12_isIn N σ p2 0 6) mt_X12_isIn ms_X12_isIn ml_RX12_354 rfl (fun h => Bool.noConfusion h) ⟨Nat.le_of_ble_eq_true rfl, Nat.le_of_ble_eq_true rfl⟩ (Nat.le_of_ble_eq_true rfl) 0 0 ⟨rfl, rfl⟩ ⟨Nat.zero_le _, Nat.zero_le _⟩ (by decide +kernel) _ rfl (fun q2 => [ai q2.2]) (fun _ => rfl) (fun q2 => ?_)
    refine x_if_ne C (tgt := 20) (off := 5) (by decide) (by decide +kernel) (fun h9 => ?_) (fun h9 => ?_)
    · skip
      refine x_aload_n C 0 (i := 0) (k0 := 0) rfl rfl (by decide +kernel) ?_
      refine x_callV C (ci := 12) (c_X12_layStages l D ca ra N σ this) mt_X12_layStages mv_X12_layStages rfl ml_RX12_611 rfl (fun h => Bool.noConfusion h) ⟨Nat.le_of_ble_eq_true rfl, Nat.le_of_ble_eq_true rfl⟩ (Nat.le_of_ble_eq_true rfl) 0 0 ⟨rfl, rfl⟩ ⟨Nat.zero_le _, Nat.zero_le _⟩ (by decide +kernel) _ rfl (fun q3 => []) (fun _ => rfl) (fun q3 => ?_)
      refine x_aload_n C 0 (i := 0) (k0 := 0) rfl rfl (by decide +kernel) ?_
      refine x_gR C fl_RX12_169 (fun _ _ _ => rfl) (by decide +kernel) (fun isSafe_4 => ?_)
      refine x_iconst C (n := 0) (by decide +kernel) ?_
      refine x_aload_n C 0 (i := 0) (k0 := 0) rfl rfl (by decide +kernel) ?_
      refine x_gI C fl_RX12_588 (fun _ _ _ => rfl) (by decide +kernel) (fun slack_5 => ?_)
      refine x_iload_n C 3 (i := 3) (k0 := 3) rfl rfl (by decide +kernel) ?_
      show X z 0 0 q3.1 34 [(0, ar this), (1, ai p0), (2, ai p1), (3, ai p2)] [ai p2, ai slack_5, ai 0, ar isSafe_4] _
      refine x_iload_n C 1 (i := 1) (k0 := 1) rfl rfl (by decide +kernel) ?_
      refine x_iload_n C 2 (i := 2) (k0 := 2) rfl rfl (by decide +kernel) ?_
      refine x_callSp C (c_X12_stateOf l D ca ra N q3.1 0 slack_5 p2 p0 p1) (p_X12_stateOf N q3.1 0 slack_5 p2 p0 p1) mt_X12_stateOf ms_X12_stateOf ml_RX12_594 rfl (fun h => Bool.noConfusion h) ⟨Nat.le_of_ble_eq_true rfl, Nat.le_of_ble_eq_true rfl⟩ (Nat.le_of_ble_eq_true rfl) 0 0 ⟨rfl, rfl⟩ ⟨Nat.zero_le _, Nat.zero_le _⟩ (by decide +kernel) _ rfl (fun q6 => [ai q6.2, ar isSafe_4]) (fun _ => rfl) (fun q6 => ?_)
      refine x_aldZ C (by decide +kernel) (fun a7 => ?_)
      refine x_if_eq C (tgt := 47) (off := 7) (by decide) (by decide +kernel) (fun h8 => ?_) (fun h8 => ?_)
      · skip
        refine x_iconst C (n := 0) (by decide +kernel) ?_
        exact x_iret C ⟨Nat.zero_le _, Nat.zero_le _⟩ (by decide +kernel)
      · skip
        refine x_iconst C (n := 1) (by decide +kernel) ?_
        refine x_goto C (tgt := 48) (off := 4) (by decide) (by decide +kernel) ?_
        exact x_iret C ⟨Nat.zero_le _, Nat.zero_le _⟩ (by decide +kernel)
    · skip
      refine x_iconst C (n := (-1)) (by decide +kernel) ?_
      exact x_iret C ⟨Nat.zero_le _, Nat.zero_le _⟩ (by decide +kernel)

def L_X12_bears_17 (N : Nat) (this : Nat) (p0 : Int) (p1 : Int) (q2 : (St × Int)) : Int → Option (St × Int) := fixN N fun b17_3 t3 =>
 (if wr t3 < 0 then some (q2.1, t3) else Option.bind (gR shm q2.1 12 this 90) fun isSafe_5 =>
 Option.bind (gI shm q2.1 12 this 93) fun slack_6 =>
 Jn (fun t7 : Int => Option.bind (f_X12_stateOf N q2.1 0 slack_6 t7 p0 p1) fun q8 =>
 Option.bind (aI shm q2.1 3 isSafe_5 q8.2) fun a9 =>
 (if wr (wz a9) = 0 then Lt (t3 + (-1)) fun x10 =>
 b17_3 x10 else some (q2.1, t3))) fun J39_11 =>
 (if wr t3 < 0 then J39_11 0 else J39_11 t3))
def rm_X12_bears : Room := { frames := 4, cells := 0, slots := 0, locals := 101 }
def f_X12_bears (N : Nat) (σ : St) (this : Nat) (p0 : Int) (p1 : Int) : Option (St × Int) :=
 Option.bind (f_X12_isMoney N σ p0 p1) fun q1 =>
 (if wr q1.2 = 0 then some (σ, (-1)) else Option.bind (rcv shm σ 12 this (f_X12_layStages N σ this)) fun q2 =>
 L_X12_bears_17 N this p0 p1 q2 6)
set_option maxRecDepth 100000 in
set_option maxHeartbeats 4000000 in
theorem c_X12_bears (l : Launch) (D : va_G) (ca : Nat → ClassId) (ra : Nat → Nat) (N : Nat) (σ : St) (this : Nat) (p0 : Int) (p1 : Int) : Ctr l (D, ca, ra, shm) false yX12_bears cX12_bears 4 (some .int) rm_X12_bears σ [ar this, ai p0, ai p1] (f_X12_bears N σ this p0 p1) := by
  refine ctr_of (by decide) (Nat.le_of_ble_eq_true rfl) (fun z C => ?_)
  show X z 0 0 σ 0 [(0, ar this), (1, ai p0), (2, ai p1)] [] _
  unfold f_X12_bears
  refine x_iload_n C 1 (i := 1) (k0 := 1) rfl rfl (by decide +kernel) ?_
  refine x_iload_n C 2 (i := 2) (k0 := 2) rfl rfl (by decide +kernel) ?_
  refine x_callSp C (c_X12_isMoney l D ca ra N σ p0 p1) (p_X12_isMoney N σ p0 p1) mt_X12_isMoney ms_X12_isMoney ml_RX12_608 rfl (fun h => Bool.noConfusion h) ⟨Nat.le_of_ble_eq_true rfl, Nat.le_of_ble_eq_true rfl⟩ (Nat.le_of_ble_eq_true rfl) 0 0 ⟨rfl, rfl⟩ ⟨Nat.zero_le _, Nat.zero_le _⟩ (by decide +kernel) _ rfl (fun q1 => [ai q1.2]) (fun _ => rfl) (fun q1 => ?_)
  refine x_if_ne C (tgt := 10) (off := 5) (by decide) (by decide +kernel) (fun h15 => ?_) (fun h15 => ?_)
  · skip
    refine x_aload_n C 0 (i := 0) (k0 := 0) rfl rfl (by decide +kernel) ?_
    refine x_callV C (ci := 12) (c_X12_layStages l D ca ra N σ this) mt_X12_layStages mv_X12_layStages rfl ml_RX12_611 rfl (fun h => Bool.noConfusion h) ⟨Nat.le_of_ble_eq_true rfl, Nat.le_of_ble_eq_true rfl⟩ (Nat.le_of_ble_eq_true rfl) 0 0 ⟨rfl, rfl⟩ ⟨Nat.zero_le _, Nat.zero_le _⟩ (by decide +kernel) _ rfl (fun q2 => []) (fun _ => rfl) (fun q2 => ?_)
    refine x_bipush C (n := 6) (by decide +kernel) (by decide +kernel) ?_
    refine x_istore_n C (i := 3) (k0 := 3) rfl (Nat.le_of_ble_eq_true rfl) (by decide +kernel) (lv2 := [(3, ai 6), (0, ar this), (1, ai p0), (2, ai p1)]) rfl ?_
    refine x_sub [1, 2, 3, 0] (lv2 := [(0, ar this), (1, ai p0), (2, ai p1), (3, ai 6)]) rfl ?_
    -- LOOP L_X12_bears_17 hb17_3
    refine x_loop (T := Int) (fun t => q2.1) (fun t => [(0, ar this), (1, ai p0), (2, ai p1), (3, ai t)]) 6 rfl (fun b17_3 hb17_3 t3 => ?_)
    show X z 0 0 q2.1 17 [(0, ar this), (1, ai p0), (2, ai p1), (3, ai t3)] [] _
    refine x_iload_n C 3 (i := 3) (k0 := 3) rfl rfl (by decide +kernel) ?_
    refine x_if_lt C (tgt := 54) (off := 36) (by decide) (by decide +kernel) (fun h14 => ?_) (fun h14 => ?_)
    · skip
      refine x_iload_n C 3 (i := 3) (k0 := 3) rfl rfl (by decide +kernel) ?_
      exact x_iret C ⟨Nat.zero_le _, Nat.zero_le _⟩ (by decide +kernel)
    · skip
      refine x_aload_n C 0 (i := 0) (k0 := 0) rfl rfl (by decide +kernel) ?_
      refine x_gR C fl_RX12_169 (fun _ _ _ => rfl) (by decide +kernel) (fun isSafe_5 => ?_)
      refine x_iconst C (n := 0) (by decide +kernel) ?_
      refine x_aload_n C 0 (i := 0) (k0 := 0) rfl rfl (by decide +kernel) ?_
      refine x_gI C fl_RX12_588 (fun _ _ _ => rfl) (by decide +kernel) (fun slack_6 => ?_)
      refine x_iload_n C 3 (i := 3) (k0 := 3) rfl rfl (by decide +kernel) ?_
      refine x_join (T := Int) (fun t => q2.1) 39 (fun t => [(0, ar this), (1, ai p0), (2, ai p1), (3, ai t3)]) (fun t => [ai t, ai slack_6, ai 0, ar isSafe_5]) (fun t7 => ?_) (fun J39_11 hJ39_11 => ?_)
      · show X z 0 0 q2.1 39 [(0, ar this), (1, ai p0), (2, ai p1), (3, ai t3)] [ai t7, ai slack_6, ai 0, ar isSafe_5] _
        refine x_iload_n C 1 (i := 1) (k0 := 1) rfl rfl (by decide +kernel) ?_
        refine x_iload_n C 2 (i := 2) (k0 := 2) rfl rfl (by decide +kernel) ?_
        refine x_callSp C (c_X12_stateOf l D ca ra N q2.1 0 slack_6 t7 p0 p1) (p_X12_stateOf N q2.1 0 slack_6 t7 p0 p1) mt_X12_stateOf ms_X12_stateOf ml_RX12_594 rfl (fun h => Bool.noConfusion h) ⟨Nat.le_of_ble_eq_true rfl, Nat.le_of_ble_eq_true rfl⟩ (Nat.le_of_ble_eq_true rfl) 0 0 ⟨rfl, rfl⟩ ⟨Nat.zero_le _, Nat.zero_le _⟩ (by decide +kernel) _ rfl (fun q8 => [ai q8.2, ar isSafe_5]) (fun _ => rfl) (fun q8 => ?_)
        refine x_aldZ C (by decide +kernel) (fun a9 => ?_)
        refine x_if_ne C (tgt := 54) (off := 9) (by decide) (by decide +kernel) (fun h11 => ?_) (fun h11 => ?_)
        · skip
          refine x_iload_n C 3 (i := 3) (k0 := 3) rfl rfl (by decide +kernel) ?_
          exact x_iret C ⟨Nat.zero_le _, Nat.zero_le _⟩ (by decide +kernel)
        · skip
          refine x_iinc C 3 (i := 3) (n := (-1)) (Nat.le_of_ble_eq_true rfl) rfl (by decide +kernel) (lv2 := fun x10 => [(3, ai x10), (0, ar this), (1, ai p0), (2, ai p1)]) (fun _ => rfl) (fun x10 => ?_)
          refine x_goto C (tgt := 17) (off := (-34)) (by decide) (by decide +kernel) ?_
          refine x_sub [1, 2, 3, 0] (lv2 := [(0, ar this), (1, ai p0), (2, ai p1), (3, ai x10)]) rfl ?_
          exact hb17_3 x10
      · skip
        refine x_if_ge C (tgt := 38) (off := 7) (by decide) (by decide +kernel) (fun h13 => ?_) (fun h13 => ?_)
        · skip
          refine x_iload_n C 3 (i := 3) (k0 := 3) rfl rfl (by decide +kernel) ?_
          exact hJ39_11 t3
        · skip
          refine x_iconst C (n := 0) (by decide +kernel) ?_
          refine x_goto C (tgt := 39) (off := 4) (by decide) (by decide +kernel) ?_
          exact hJ39_11 0
  · skip
    refine x_iconst C (n := (-1)) (by decide +kernel) ?_
    exact x_iret C ⟨Nat.zero_le _, Nat.zero_le _⟩ (by decide +kernel)

def rm_X12_should : Room := { frames := 5, cells := 0, slots := 0, locals := 124 }
def f_X12_should (N : Nat) (σ : St) (this : Nat) (p0 : Int) (p1 : Int) (p2 : Int) : Option (St × Int) :=
 Option.bind (gI shm σ 12 this 91) fun stages_1 =>
 (if wr stages_1 = 0 then some (σ, (-1)) else Option.bind (rcv shm σ 12 this (f_X12_safe N σ this p0 p1 p2)) fun q2 =>
 (if wr q2.2 < wr 1 then some (q2.1, (-1)) else Option.bind (gI shm q2.1 12 this 93) fun slack_3 =>
 Option.bind (rcv shm q2.1 12 this (f_X12_goesOn N q2.1 this 0 slack_3 p2 p0 p1)) fun q4 =>
 (if wr q4.2 = 0 then some (q2.1, 0) else some (q2.1, 1))))
set_option maxRecDepth 100000 in
set_option maxHeartbeats 4000000 in
theorem c_X12_should (l : Launch) (D : va_G) (ca : Nat → ClassId) (ra : Nat → Nat) (N : Nat) (σ : St) (this : Nat) (p0 : Int) (p1 : Int) (p2 : Int) : Ctr l (D, ca, ra, shm) false yX12_should cX12_should 4 (some .int) rm_X12_should σ [ar this, ai p0, ai p1, ai p2] (f_X12_should N σ this p0 p1 p2) := by
  refine ctr_of (by decide) (Nat.le_of_ble_eq_true rfl) (fun z C => ?_)
  show X z 0 0 σ 0 [(0, ar this), (1, ai p0), (2, ai p1), (3, ai p2)] [] _
  unfold f_X12_should
  refine x_aload_n C 0 (i := 0) (k0 := 0) rfl rfl (by decide +kernel) ?_
  refine x_gI C fl_RX12_582 (fun _ _ _ => rfl) (by decide +kernel) (fun stages_1 => ?_)
  refine x_if_eq C (tgt := 18) (off := 14) (by decide) (by decide +kernel) (fun h7 => ?_) (fun h7 => ?_)
  · skip
    refine x_iconst C (n := (-1)) (by decide +kernel) ?_
    exact x_iret C ⟨Nat.zero_le _, Nat.zero_le _⟩ (by decide +kernel)
  · skip
    refine x_aload_n C 0 (i := 0) (k0 := 0) rfl rfl (by decide +kernel) ?_
    refine x_iload_n C 1 (i := 1) (k0 := 1) rfl rfl (by decide +kernel) ?_
    refine x_iload_n C 2 (i := 2) (k0 := 2) rfl rfl (by decide +kernel) ?_
    refine x_iload_n C 3 (i := 3) (k0 := 3) rfl rfl (by decide +kernel) ?_
    refine x_callV C (ci := 12) (c_X12_safe l D ca ra N σ this p0 p1 p2) mt_X12_safe mv_X12_safe rfl ml_RX12_614 rfl (fun h => Bool.noConfusion h) ⟨Nat.le_of_ble_eq_true rfl, Nat.le_of_ble_eq_true rfl⟩ (Nat.le_of_ble_eq_true rfl) 0 0 ⟨rfl, rfl⟩ ⟨Nat.zero_le _, Nat.zero_le _⟩ (by decide +kernel) _ rfl (fun q2 => [ai q2.2]) (fun _ => rfl) (fun q2 => ?_)
    refine x_iconst C (n := 1) (by decide +kernel) ?_
    refine x_ic_ge C (tgt := 20) (off := 5) (by decide) (by decide +kernel) (fun h6 => ?_) (fun h6 => ?_)
    · skip
      refine x_aload_n C 0 (i := 0) (k0 := 0) rfl rfl (by decide +kernel) ?_
      refine x_iconst C (n := 0) (by decide +kernel) ?_
      refine x_aload_n C 0 (i := 0) (k0 := 0) rfl rfl (by decide +kernel) ?_
      refine x_gI C fl_RX12_588 (fun _ _ _ => rfl) (by decide +kernel) (fun slack_3 => ?_)
      refine x_iload_n C 3 (i := 3) (k0 := 3) rfl rfl (by decide +kernel) ?_
      refine x_iload_n C 1 (i := 1) (k0 := 1) rfl rfl (by decide +kernel) ?_
      refine x_iload_n C 2 (i := 2) (k0 := 2) rfl rfl (by decide +kernel) ?_
      refine x_callVp C (ci := 12) (c_X12_goesOn l D ca ra N q2.1 this 0 slack_3 p2 p0 p1) (p_X12_goesOn N q2.1 this 0 slack_3 p2 p0 p1) mt_X12_goesOn mv_X12_goesOn rfl ml_RX12_605 rfl (fun h => Bool.noConfusion h) ⟨Nat.le_of_ble_eq_true rfl, Nat.le_of_ble_eq_true rfl⟩ (Nat.le_of_ble_eq_true rfl) 0 0 ⟨rfl, rfl⟩ ⟨Nat.zero_le _, Nat.zero_le _⟩ (by decide +kernel) _ rfl (fun q4 => [ai q4.2]) (fun _ => rfl) (fun q4 => ?_)
      show X z 0 0 q2.1 32 [(0, ar this), (1, ai p0), (2, ai p1), (3, ai p2)] [ai q4.2] _
      refine x_if_eq C (tgt := 39) (off := 7) (by decide) (by decide +kernel) (fun h5 => ?_) (fun h5 => ?_)
      · skip
        refine x_iconst C (n := 0) (by decide +kernel) ?_
        exact x_iret C ⟨Nat.zero_le _, Nat.zero_le _⟩ (by decide +kernel)
      · skip
        refine x_iconst C (n := 1) (by decide +kernel) ?_
        refine x_goto C (tgt := 40) (off := 4) (by decide) (by decide +kernel) ?_
        exact x_iret C ⟨Nat.zero_le _, Nat.zero_le _⟩ (by decide +kernel)
    · skip
      refine x_iconst C (n := (-1)) (by decide +kernel) ?_
      exact x_iret C ⟨Nat.zero_le _, Nat.zero_le _⟩ (by decide +kernel)

def rm_X12_about : Room := { frames := 1, cells := 0, slots := 0, locals := 20 }
def f_X12_about (N : Nat) (σ : St) (this : Nat) (p0 : Int) : Option (St × Int) :=
 (if wr p0 = 0 then Option.bind (rcv shm σ 12 this (f_X12_parts N σ this)) fun q5 =>
 some (σ, q5.2) else (if wr p0 = 1 then Option.bind (rcv shm σ 12 this (f_X12_joins N σ this)) fun q7 =>
 some (σ, q7.2) else (if wr p0 = 2 then Option.bind (gR shm σ 12 this 14) fun moveMany_9 =>
 Option.bind (gI shm σ 12 this 31) fun bank_10 =>
 Option.bind (aI shm σ 1 moveMany_9 bank_10) fun a11 =>
 some (σ, a11) else (if wr p0 = 3 then Option.bind (rcv shm σ 12 this (f_X12_tanks N σ this)) fun q13 =>
 some (σ, q13.2) else (if wr p0 = 4 then Option.bind (gI shm σ 12 this 67) fun facts_15 =>
 some (σ, facts_15) else (if wr p0 = 5 then Option.bind (gI shm σ 12 this 73) fun steps_17 =>
 some (σ, steps_17) else (if wr p0 = 6 then Option.bind (gI shm σ 12 this 81) fun airlines_19 =>
 some (σ, airlines_19) else (if wr p0 = 7 then Option.bind (gI shm σ 12 this 68) fun time_21 =>
 some (σ, time_21) else (if wr p0 = 8 then Option.bind (gI shm σ 12 this 2) fun taped_23 =>
 some (σ, taped_23) else (if wr p0 = 9 then Option.bind (gI shm σ 12 this 91) fun stages_25 =>
 some (σ, stages_25) else (if wr p0 < wr 10 then some (σ, (-1)) else (if wr p0 < wr 13 then Option.bind (gR shm σ 12 this 36) fun treatyLines_1 =>
 Option.bind (aI shm σ 1 treatyLines_1 (p0 - 10)) fun a2 =>
 some (σ, a2) else some (σ, (-1))))))))))))))
set_option maxRecDepth 100000 in
set_option maxHeartbeats 4000000 in
theorem c_X12_about (l : Launch) (D : va_G) (ca : Nat → ClassId) (ra : Nat → Nat) (N : Nat) (σ : St) (this : Nat) (p0 : Int) : Ctr l (D, ca, ra, shm) false yX12_about cX12_about 2 (some .int) rm_X12_about σ [ar this, ai p0] (f_X12_about N σ this p0) := by
  refine ctr_of (by decide) (Nat.le_of_ble_eq_true rfl) (fun z C => ?_)
  show X z 0 0 σ 0 [(0, ar this), (1, ai p0)] [] _
  unfold f_X12_about
  refine x_iload_n C 1 (i := 1) (k0 := 1) rfl rfl (by decide +kernel) ?_
  refine x_split (fun h6 => ?_) (fun h6 => ?_)
  · refine x_ts C (dflt := 110) (lo := 0) (hi := 9) (offs := #[55, 60, 65, 75, 80, 85, 90, 95, 100, 105]) (len := 55) (v := 0) (off := 55) (tgt := 56) h6 (by decide) (by decide) rfl (by decide) (by decide +kernel) ?_
    refine x_aload_n C 0 (i := 0) (k0 := 0) rfl rfl (by decide +kernel) ?_
    refine x_callVp C (ci := 12) (c_X12_parts l D ca ra N σ this) (p_X12_parts N σ this) mt_X12_parts mv_X12_parts rfl ml_RX12_350 rfl (fun h => Bool.noConfusion h) ⟨Nat.le_of_ble_eq_true rfl, Nat.le_of_ble_eq_true rfl⟩ (Nat.le_of_ble_eq_true rfl) 0 0 ⟨rfl, rfl⟩ ⟨Nat.zero_le _, Nat.zero_le _⟩ (by decide +kernel) _ rfl (fun q5 => [ai q5.2]) (fun _ => rfl) (fun q5 => ?_)
    exact x_iret C ⟨Nat.zero_le _, Nat.zero_le _⟩ (by decide +kernel)
  refine x_split (fun h8 => ?_) (fun h8 => ?_)
  · refine x_ts C (dflt := 110) (lo := 0) (hi := 9) (offs := #[55, 60, 65, 75, 80, 85, 90, 95, 100, 105]) (len := 55) (v := 1) (off := 60) (tgt := 61) h8 (by decide) (by decide) rfl (by decide) (by decide +kernel) ?_
    refine x_aload_n C 0 (i := 0) (k0 := 0) rfl rfl (by decide +kernel) ?_
    refine x_callVp C (ci := 12) (c_X12_joins l D ca ra N σ this) (p_X12_joins N σ this) mt_X12_joins mv_X12_joins rfl ml_RX12_369 rfl (fun h => Bool.noConfusion h) ⟨Nat.le_of_ble_eq_true rfl, Nat.le_of_ble_eq_true rfl⟩ (Nat.le_of_ble_eq_true rfl) 0 0 ⟨rfl, rfl⟩ ⟨Nat.zero_le _, Nat.zero_le _⟩ (by decide +kernel) _ rfl (fun q7 => [ai q7.2]) (fun _ => rfl) (fun q7 => ?_)
    exact x_iret C ⟨Nat.zero_le _, Nat.zero_le _⟩ (by decide +kernel)
  refine x_split (fun h12 => ?_) (fun h12 => ?_)
  · refine x_ts C (dflt := 110) (lo := 0) (hi := 9) (offs := #[55, 60, 65, 75, 80, 85, 90, 95, 100, 105]) (len := 55) (v := 2) (off := 65) (tgt := 66) h12 (by decide) (by decide) rfl (by decide) (by decide +kernel) ?_
    refine x_aload_n C 0 (i := 0) (k0 := 0) rfl rfl (by decide +kernel) ?_
    refine x_gR C fl_RX12_30 (fun _ _ _ => rfl) (by decide +kernel) (fun moveMany_9 => ?_)
    refine x_aload_n C 0 (i := 0) (k0 := 0) rfl rfl (by decide +kernel) ?_
    refine x_gI C fl_RX12_300 (fun _ _ _ => rfl) (by decide +kernel) (fun bank_10 => ?_)
    refine x_aldI C (by decide +kernel) (fun a11 => ?_)
    exact x_iret C ⟨Nat.zero_le _, Nat.zero_le _⟩ (by decide +kernel)
  refine x_split (fun h14 => ?_) (fun h14 => ?_)
  · refine x_ts C (dflt := 110) (lo := 0) (hi := 9) (offs := #[55, 60, 65, 75, 80, 85, 90, 95, 100, 105]) (len := 55) (v := 3) (off := 75) (tgt := 76) h14 (by decide) (by decide) rfl (by decide) (by decide +kernel) ?_
    refine x_aload_n C 0 (i := 0) (k0 := 0) rfl rfl (by decide +kernel) ?_
    refine x_callVp C (ci := 12) (c_X12_tanks l D ca ra N σ this) (p_X12_tanks N σ this) mt_X12_tanks mv_X12_tanks rfl ml_RX12_520 rfl (fun h => Bool.noConfusion h) ⟨Nat.le_of_ble_eq_true rfl, Nat.le_of_ble_eq_true rfl⟩ (Nat.le_of_ble_eq_true rfl) 0 0 ⟨rfl, rfl⟩ ⟨Nat.zero_le _, Nat.zero_le _⟩ (by decide +kernel) _ rfl (fun q13 => [ai q13.2]) (fun _ => rfl) (fun q13 => ?_)
    exact x_iret C ⟨Nat.zero_le _, Nat.zero_le _⟩ (by decide +kernel)
  refine x_split (fun h16 => ?_) (fun h16 => ?_)
  · refine x_ts C (dflt := 110) (lo := 0) (hi := 9) (offs := #[55, 60, 65, 75, 80, 85, 90, 95, 100, 105]) (len := 55) (v := 4) (off := 80) (tgt := 81) h16 (by decide) (by decide) rfl (by decide) (by decide +kernel) ?_
    refine x_aload_n C 0 (i := 0) (k0 := 0) rfl rfl (by decide +kernel) ?_
    refine x_gI C fl_RX12_309 (fun _ _ _ => rfl) (by decide +kernel) (fun facts_15 => ?_)
    exact x_iret C ⟨Nat.zero_le _, Nat.zero_le _⟩ (by decide +kernel)
  refine x_split (fun h18 => ?_) (fun h18 => ?_)
  · refine x_ts C (dflt := 110) (lo := 0) (hi := 9) (offs := #[55, 60, 65, 75, 80, 85, 90, 95, 100, 105]) (len := 55) (v := 5) (off := 85) (tgt := 86) h18 (by decide) (by decide) rfl (by decide) (by decide +kernel) ?_
    refine x_aload_n C 0 (i := 0) (k0 := 0) rfl rfl (by decide +kernel) ?_
    refine x_gI C fl_RX12_312 (fun _ _ _ => rfl) (by decide +kernel) (fun steps_17 => ?_)
    exact x_iret C ⟨Nat.zero_le _, Nat.zero_le _⟩ (by decide +kernel)
  refine x_split (fun h20 => ?_) (fun h20 => ?_)
  · refine x_ts C (dflt := 110) (lo := 0) (hi := 9) (offs := #[55, 60, 65, 75, 80, 85, 90, 95, 100, 105]) (len := 55) (v := 6) (off := 90) (tgt := 91) h20 (by decide) (by decide) rfl (by decide) (by decide +kernel) ?_
    refine x_aload_n C 0 (i := 0) (k0 := 0) rfl rfl (by decide +kernel) ?_
    refine x_gI C fl_RX12_552 (fun _ _ _ => rfl) (by decide +kernel) (fun airlines_19 => ?_)
    exact x_iret C ⟨Nat.zero_le _, Nat.zero_le _⟩ (by decide +kernel)
  refine x_split (fun h22 => ?_) (fun h22 => ?_)
  · refine x_ts C (dflt := 110) (lo := 0) (hi := 9) (offs := #[55, 60, 65, 75, 80, 85, 90, 95, 100, 105]) (len := 55) (v := 7) (off := 95) (tgt := 96) h22 (by decide) (by decide) rfl (by decide) (by decide +kernel) ?_
    refine x_aload_n C 0 (i := 0) (k0 := 0) rfl rfl (by decide +kernel) ?_
    refine x_gI C fl_RX12_492 (fun _ _ _ => rfl) (by decide +kernel) (fun time_21 => ?_)
    exact x_iret C ⟨Nat.zero_le _, Nat.zero_le _⟩ (by decide +kernel)
  refine x_split (fun h24 => ?_) (fun h24 => ?_)
  · refine x_ts C (dflt := 110) (lo := 0) (hi := 9) (offs := #[55, 60, 65, 75, 80, 85, 90, 95, 100, 105]) (len := 55) (v := 8) (off := 100) (tgt := 101) h24 (by decide) (by decide) rfl (by decide) (by decide +kernel) ?_
    refine x_aload_n C 0 (i := 0) (k0 := 0) rfl rfl (by decide +kernel) ?_
    refine x_gI C fl_RX12_294 (fun _ _ _ => rfl) (by decide +kernel) (fun taped_23 => ?_)
    exact x_iret C ⟨Nat.zero_le _, Nat.zero_le _⟩ (by decide +kernel)
  refine x_split (fun h26 => ?_) (fun h26 => ?_)
  · refine x_ts C (dflt := 110) (lo := 0) (hi := 9) (offs := #[55, 60, 65, 75, 80, 85, 90, 95, 100, 105]) (len := 55) (v := 9) (off := 105) (tgt := 106) h26 (by decide) (by decide) rfl (by decide) (by decide +kernel) ?_
    refine x_aload_n C 0 (i := 0) (k0 := 0) rfl rfl (by decide +kernel) ?_
    refine x_gI C fl_RX12_582 (fun _ _ _ => rfl) (by decide +kernel) (fun stages_25 => ?_)
    exact x_iret C ⟨Nat.zero_le _, Nat.zero_le _⟩ (by decide +kernel)
  refine x_tsD C (dflt := 110) (lo := 0) (hi := 9) (offs := #[55, 60, 65, 75, 80, 85, 90, 95, 100, 105]) (len := 55) (tgt := 111) [0, 1, 2, 3, 4, 5, 6, 7, 8, 9] (List.forall_mem_cons.mpr ⟨h6, (List.forall_mem_cons.mpr ⟨h8, (List.forall_mem_cons.mpr ⟨h12, (List.forall_mem_cons.mpr ⟨h14, (List.forall_mem_cons.mpr ⟨h16, (List.forall_mem_cons.mpr ⟨h18, (List.forall_mem_cons.mpr ⟨h20, (List.forall_mem_cons.mpr ⟨h22, (List.forall_mem_cons.mpr ⟨h24, (List.forall_mem_cons.mpr ⟨h26, (List.forall_mem_nil _)⟩)⟩)⟩)⟩)⟩)⟩)⟩)⟩)⟩)⟩) rfl (by decide +kernel) (by decide) (by decide +kernel) ?_
  refine x_iload_n C 1 (i := 1) (k0 := 1) rfl rfl (by decide +kernel) ?_
  refine x_bipush C (n := 10) (by decide +kernel) (by decide +kernel) ?_
  refine x_ic_lt C (tgt := 135) (off := 21) (by decide) (by decide +kernel) (fun h4 => ?_) (fun h4 => ?_)
  · skip
    refine x_iconst C (n := (-1)) (by decide +kernel) ?_
    exact x_iret C ⟨Nat.zero_le _, Nat.zero_le _⟩ (by decide +kernel)
  · skip
    refine x_iload_n C 1 (i := 1) (k0 := 1) rfl rfl (by decide +kernel) ?_
    refine x_bipush C (n := 13) (by decide +kernel) (by decide +kernel) ?_
    refine x_ic_ge C (tgt := 135) (off := 15) (by decide) (by decide +kernel) (fun h3 => ?_) (fun h3 => ?_)
    · skip
      refine x_iconst C (n := (-1)) (by decide +kernel) ?_
      exact x_iret C ⟨Nat.zero_le _, Nat.zero_le _⟩ (by decide +kernel)
    · skip
      refine x_aload_n C 0 (i := 0) (k0 := 0) rfl rfl (by decide +kernel) ?_
      refine x_gR C fl_RX12_83 (fun _ _ _ => rfl) (by decide +kernel) (fun treatyLines_1 => ?_)
      refine x_iload_n C 1 (i := 1) (k0 := 1) rfl rfl (by decide +kernel) ?_
      refine x_bipush C (n := 10) (by decide +kernel) (by decide +kernel) ?_
      refine x_isub C (by decide +kernel) ?_
      refine x_aldI C (by decide +kernel) (fun a2 => ?_)
      refine x_goto C (tgt := 136) (off := 4) (by decide) (by decide +kernel) ?_
      exact x_iret C ⟨Nat.zero_le _, Nat.zero_le _⟩ (by decide +kernel)
theorem p_X12_about (N : Nat) (σ : St) (this : Nat) (p0 : Int) : Pu σ (f_X12_about N σ this p0) := by
  unfold f_X12_about
  refine pu_if ?_ ?_
  · skip
    refine pu_bind (fun _ => ?_)
    exact pu_some
  refine pu_if ?_ ?_
  · skip
    refine pu_bind (fun _ => ?_)
    exact pu_some
  refine pu_if ?_ ?_
  · skip
    refine pu_bind (fun _ => ?_)
    refine pu_bind (fun _ => ?_)
    refine pu_bind (fun _ => ?_)
    exact pu_some
  refine pu_if ?_ ?_
  · skip
    refine pu_bind (fun _ => ?_)
    exact pu_some
  refine pu_if ?_ ?_
  · skip
    refine pu_bind (fun _ => ?_)
    exact pu_some
  refine pu_if ?_ ?_
  · skip
    refine pu_bind (fun _ => ?_)
    exact pu_some
  refine pu_if ?_ ?_
  · skip
    refine pu_bind (fun _ => ?_)
    exact pu_some
  refine pu_if ?_ ?_
  · skip
    refine pu_bind (fun _ => ?_)
    exact pu_some
  refine pu_if ?_ ?_
  · skip
    refine pu_bind (fun _ => ?_)
    exact pu_some
  refine pu_if ?_ ?_
  · skip
    refine pu_bind (fun _ => ?_)
    exact pu_some
  refine pu_if ?_ ?_
  · skip
    exact pu_some
  · skip
    refine pu_ifs ?_ ?_
    · skip
      exact pu_some
    · skip
      refine pu_bind (fun _ => ?_)
      refine pu_bind (fun _ => ?_)
      exact pu_some

def L_X12_feed_18 (N : Nat) (this : Nat) (p0 : Int) (p1 : Int) (p2 : Int) (p3 : Int) (p4 : Int) (J105_5 : (St → Option (St × Int))) : (St × Int) → Option (St × Int) := fixN N fun b18_7 t7 =>
 (if wr t7.2 < wr 20 then Jn (fun t9 : Int => Option.bind (gR shm t7.1 12 this 0) fun tape_10 =>
 Option.bind (gI shm t7.1 12 this 2) fun taped_11 =>
 Option.bind (sI shm t7.1 4 tape_10 (taped_11 + t7.2) (i2bZ (shrZ t9 (24 - (8 * (andZ t7.2 3)))))) fun σ12 =>
 Lt (t7.2 + 1) fun x13 =>
 b18_7 (σ12, x13)) fun J71_13 =>
 (if wr t7.2 < wr 4 then J71_13 p0 else (if wr t7.2 < wr 8 then J71_13 p1 else (if wr t7.2 < wr 12 then J71_13 p2 else (if wr t7.2 < wr 16 then J71_13 p3 else J71_13 p4)))) else J105_5 t7.1)
def rm_X12_feed : Room := { frames := 0, cells := 0, slots := 0, locals := 0 }
def f_X12_feed (N : Nat) (σ : St) (this : Nat) (p0 : Int) (p1 : Int) (p2 : Int) (p3 : Int) (p4 : Int) : Option (St × Int) :=
 Option.bind (gI shm σ 12 this 2) fun taped_1 =>
 (if wr 1300 < wr (taped_1 + 20) then some (σ, (-1)) else Jn (fun t2 : St => Option.bind (gI shm t2 12 this 2) fun taped_3 =>
 Option.bind (pI shm t2 12 this 2 (taped_3 + 20)) fun σ4 =>
 Option.bind (gI shm σ4 12 this 2) fun taped_5 =>
 some (σ4, taped_5)) fun J105_5 =>
 L_X12_feed_18 N this p0 p1 p2 p3 p4 J105_5 (σ, 0))
set_option maxRecDepth 100000 in
set_option maxHeartbeats 4000000 in
theorem c_X12_feed (l : Launch) (D : va_G) (ca : Nat → ClassId) (ra : Nat → Nat) (N : Nat) (σ : St) (this : Nat) (p0 : Int) (p1 : Int) (p2 : Int) (p3 : Int) (p4 : Int) : Ctr l (D, ca, ra, shm) false yX12_feed cX12_feed 8 (some .int) rm_X12_feed σ [ar this, ai p0, ai p1, ai p2, ai p3, ai p4] (f_X12_feed N σ this p0 p1 p2 p3 p4) := by
  refine ctr_of (by decide) (Nat.le_of_ble_eq_true rfl) (fun z C => ?_)
  show X z 0 0 σ 0 [(0, ar this), (1, ai p0), (2, ai p1), (3, ai p2), (4, ai p3), (5, ai p4)] [] _
  unfold f_X12_feed
  refine x_aload_n C 0 (i := 0) (k0 := 0) rfl rfl (by decide +kernel) ?_
  refine x_gI C fl_RX12_294 (fun _ _ _ => rfl) (by decide +kernel) (fun taped_1 => ?_)
  refine x_bipush C (n := 20) (by decide +kernel) (by decide +kernel) ?_
  refine x_iadd C (by decide +kernel) ?_
  refine x_sipush C (n := 1300) (by decide +kernel) (by decide +kernel) ?_
  refine x_ic_le C (tgt := 15) (off := 5) (by decide) (by decide +kernel) (fun h20 => ?_) (fun h20 => ?_)
  · skip
    refine x_iconst C (n := 0) (by decide +kernel) ?_
    refine x_istore C (i := 6) (Nat.le_of_ble_eq_true rfl) (by decide +kernel) (lv2 := [(6, ai 0), (0, ar this), (1, ai p0), (2, ai p1), (3, ai p2), (4, ai p3), (5, ai p4)]) rfl ?_
    refine x_join (T := St) (fun t => t) 105 (fun t => [(0, ar this)]) (fun t => []) (fun t2 => ?_) (fun J105_5 hJ105_5 => ?_)
    · show X z 0 0 t2 105 [(0, ar this)] [] _
      refine x_aload_n C 0 (i := 0) (k0 := 0) rfl rfl (by decide +kernel) ?_
      refine x_dup C rfl (by decide +kernel) ?_
      refine x_gI C fl_RX12_294 (fun _ _ _ => rfl) (by decide +kernel) (fun taped_3 => ?_)
      refine x_bipush C (n := 20) (by decide +kernel) (by decide +kernel) ?_
      refine x_iadd C (by decide +kernel) ?_
      refine x_pI C fl_RX12_294 rfl (fun q h => by cases h; rfl) (by decide +kernel) (fun σ4 => ?_)
      refine x_aload_n C 0 (i := 0) (k0 := 0) rfl rfl (by decide +kernel) ?_
      refine x_gI C fl_RX12_294 (fun _ _ _ => rfl) (by decide +kernel) (fun taped_5 => ?_)
      show X z 0 0 σ4 120 [(0, ar this)] [ai taped_5] _
      exact x_iret C ⟨Nat.zero_le _, Nat.zero_le _⟩ (by decide +kernel)
    · skip
      refine x_sub [1, 2, 3, 4, 5, 6, 0] (lv2 := [(0, ar this), (1, ai p0), (2, ai p1), (3, ai p2), (4, ai p3), (5, ai p4), (6, ai 0)]) rfl ?_
      -- LOOP L_X12_feed_18 hb18_7
      refine x_loop (T := St × Int) (fun t => t.1) (fun t => [(0, ar this), (1, ai p0), (2, ai p1), (3, ai p2), (4, ai p3), (5, ai p4), (6, ai t.2)]) (σ, 0) rfl (fun b18_7 hb18_7 t7 => ?_)
      show X z 0 0 t7.1 18 [(0, ar this), (1, ai p0), (2, ai p1), (3, ai p2), (4, ai p3), (5, ai p4), (6, ai t7.2)] [] _
      refine x_iload C 6 (i := 6) rfl (by decide +kernel) ?_
      refine x_bipush C (n := 20) (by decide +kernel) (by decide +kernel) ?_
      refine x_ic_ge C (tgt := 105) (off := 83) (by decide) (by decide +kernel) (fun h19 => ?_) (fun h19 => ?_)
      · skip
        refine x_sub [0] (lv2 := [(0, ar this)]) rfl ?_
        exact hJ105_5 t7.1
      · skip
        refine x_iload C 6 (i := 6) rfl (by decide +kernel) ?_
        refine x_iconst C (n := 4) (by decide +kernel) ?_
        refine x_join (T := Int) (fun t => t7.1) 71 (fun t => [(0, ar this), (1, ai p0), (2, ai p1), (3, ai p2), (4, ai p3), (5, ai p4), (6, ai t7.2)]) (fun t => [ai t]) (fun t9 => ?_) (fun J71_13 hJ71_13 => ?_)
        · show X z 0 0 t7.1 71 [(0, ar this), (1, ai p0), (2, ai p1), (3, ai p2), (4, ai p3), (5, ai p4), (6, ai t7.2)] [ai t9] _
          refine x_istore C (i := 7) (Nat.le_of_ble_eq_true rfl) (by decide +kernel) (lv2 := [(7, ai t9), (0, ar this), (1, ai p0), (2, ai p1), (3, ai p2), (4, ai p3), (5, ai p4), (6, ai t7.2)]) rfl ?_
          refine x_aload_n C 1 (i := 0) (k0 := 0) rfl rfl (by decide +kernel) ?_
          refine x_gR C fl_RX12_7 (fun _ _ _ => rfl) (by decide +kernel) (fun tape_10 => ?_)
          refine x_aload_n C 1 (i := 0) (k0 := 0) rfl rfl (by decide +kernel) ?_
          refine x_gI C fl_RX12_294 (fun _ _ _ => rfl) (by decide +kernel) (fun taped_11 => ?_)
          refine x_iload C 7 (i := 6) rfl (by decide +kernel) ?_
          refine x_iadd C (by decide +kernel) ?_
          refine x_iload C 0 (i := 7) rfl (by decide +kernel) ?_
          show X z 0 0 t7.1 86 [(7, ai t9), (0, ar this), (1, ai p0), (2, ai p1), (3, ai p2), (4, ai p3), (5, ai p4), (6, ai t7.2)] [ai t9, ai (taped_11 + t7.2), ar tape_10] _
          refine x_bipush C (n := 24) (by decide +kernel) (by decide +kernel) ?_
          refine x_bipush C (n := 8) (by decide +kernel) (by decide +kernel) ?_
          refine x_iload C 7 (i := 6) rfl (by decide +kernel) ?_
          refine x_iconst C (n := 3) (by decide +kernel) ?_
          refine x_iand C (by decide +kernel) ?_
          refine x_imul C (by decide +kernel) ?_
          refine x_isub C (by decide +kernel) ?_
          refine x_ishr C (by decide +kernel) ?_
          show X z 0 0 t7.1 97 [(7, ai t9), (0, ar this), (1, ai p0), (2, ai p1), (3, ai p2), (4, ai p3), (5, ai p4), (6, ai t7.2)] [ai (shrZ t9 (24 - (8 * (andZ t7.2 3)))), ai (taped_11 + t7.2), ar tape_10] _
          refine x_i2b C (by decide +kernel) ?_
          refine x_astB C (by decide +kernel) (fun σ12 => ?_)
          refine x_iinc C 7 (i := 6) (n := 1) (Nat.le_of_ble_eq_true rfl) rfl (by decide +kernel) (lv2 := fun x13 => [(6, ai x13), (7, ai t9), (0, ar this), (1, ai p0), (2, ai p1), (3, ai p2), (4, ai p3), (5, ai p4)]) (fun _ => rfl) (fun x13 => ?_)
          refine x_goto C (tgt := 18) (off := (-84)) (by decide) (by decide +kernel) ?_
          refine x_sub [2, 3, 4, 5, 6, 7, 0] (lv2 := [(0, ar this), (1, ai p0), (2, ai p1), (3, ai p2), (4, ai p3), (5, ai p4), (6, ai x13)]) rfl ?_
          exact hb18_7 (σ12, x13)
        · skip
          refine x_ic_ge C (tgt := 35) (off := 7) (by decide) (by decide +kernel) (fun h18 => ?_) (fun h18 => ?_)
          · skip
            refine x_iload C 6 (i := 6) rfl (by decide +kernel) ?_
            refine x_bipush C (n := 8) (by decide +kernel) (by decide +kernel) ?_
            refine x_ic_ge C (tgt := 46) (off := 7) (by decide) (by decide +kernel) (fun h17 => ?_) (fun h17 => ?_)
            · skip
              refine x_iload C 6 (i := 6) rfl (by decide +kernel) ?_
              refine x_bipush C (n := 12) (by decide +kernel) (by decide +kernel) ?_
              refine x_ic_ge C (tgt := 57) (off := 7) (by decide) (by decide +kernel) (fun h16 => ?_) (fun h16 => ?_)
              · skip
                refine x_iload C 6 (i := 6) rfl (by decide +kernel) ?_
                refine x_bipush C (n := 16) (by decide +kernel) (by decide +kernel) ?_
                refine x_ic_ge C (tgt := 69) (off := 8) (by decide) (by decide +kernel) (fun h15 => ?_) (fun h15 => ?_)
                · skip
                  refine x_iload C 5 (i := 5) rfl (by decide +kernel) ?_
                  exact hJ71_13 p4
                · skip
                  refine x_iload C 4 (i := 4) rfl (by decide +kernel) ?_
                  refine x_goto C (tgt := 71) (off := 5) (by decide) (by decide +kernel) ?_
                  exact hJ71_13 p3
              · skip
                refine x_iload_n C 3 (i := 3) (k0 := 3) rfl rfl (by decide +kernel) ?_
                refine x_goto C (tgt := 71) (off := 17) (by decide) (by decide +kernel) ?_
                exact hJ71_13 p2
            · skip
              refine x_iload_n C 2 (i := 2) (k0 := 2) rfl rfl (by decide +kernel) ?_
              refine x_goto C (tgt := 71) (off := 28) (by decide) (by decide +kernel) ?_
              exact hJ71_13 p1
          · skip
            refine x_iload_n C 1 (i := 1) (k0 := 1) rfl rfl (by decide +kernel) ?_
            refine x_goto C (tgt := 71) (off := 39) (by decide) (by decide +kernel) ?_
            exact hJ71_13 p0
  · skip
    refine x_iconst C (n := (-1)) (by decide +kernel) ?_
    exact x_iret C ⟨Nat.zero_le _, Nat.zero_le _⟩ (by decide +kernel)

def rm_X12_end : Room := { frames := 0, cells := 0, slots := 0, locals := 0 }
def f_X12_end (N : Nat) (σ : St) (this : Nat) (p0 : Int) : Option (St × Int) :=
 (if wr p0 < 0 then some (σ, (-1)) else Option.bind (gI shm σ 12 this 2) fun taped_1 =>
 (if wr taped_1 < wr p0 then some (σ, (-1)) else Option.bind (pI shm σ 12 this 2 p0) fun σ2 =>
 some (σ2, p0)))
set_option maxRecDepth 100000 in
set_option maxHeartbeats 4000000 in
theorem c_X12_end (l : Launch) (D : va_G) (ca : Nat → ClassId) (ra : Nat → Nat) (N : Nat) (σ : St) (this : Nat) (p0 : Int) : Ctr l (D, ca, ra, shm) false yX12_end cX12_end 2 (some .int) rm_X12_end σ [ar this, ai p0] (f_X12_end N σ this p0) := by
  refine ctr_of (by decide) (Nat.le_of_ble_eq_true rfl) (fun z C => ?_)
  show X z 0 0 σ 0 [(0, ar this), (1, ai p0)] [] _
  unfold f_X12_end
  refine x_iload_n C 1 (i := 1) (k0 := 1) rfl rfl (by decide +kernel) ?_
  refine x_if_lt C (tgt := 12) (off := 11) (by decide) (by decide +kernel) (fun h4 => ?_) (fun h4 => ?_)
  · skip
    refine x_iconst C (n := (-1)) (by decide +kernel) ?_
    exact x_iret C ⟨Nat.zero_le _, Nat.zero_le _⟩ (by decide +kernel)
  · skip
    refine x_iload_n C 1 (i := 1) (k0 := 1) rfl rfl (by decide +kernel) ?_
    refine x_aload_n C 0 (i := 0) (k0 := 0) rfl rfl (by decide +kernel) ?_
    refine x_gI C fl_RX12_294 (fun _ _ _ => rfl) (by decide +kernel) (fun taped_1 => ?_)
    refine x_ic_le C (tgt := 14) (off := 5) (by decide) (by decide +kernel) (fun h3 => ?_) (fun h3 => ?_)
    · skip
      refine x_aload_n C 0 (i := 0) (k0 := 0) rfl rfl (by decide +kernel) ?_
      refine x_iload_n C 1 (i := 1) (k0 := 1) rfl rfl (by decide +kernel) ?_
      refine x_pI C fl_RX12_294 rfl (fun q h => by cases h; rfl) (by decide +kernel) (fun σ2 => ?_)
      refine x_iload_n C 1 (i := 1) (k0 := 1) rfl rfl (by decide +kernel) ?_
      exact x_iret C ⟨Nat.zero_le _, Nat.zero_le _⟩ (by decide +kernel)
    · skip
      refine x_iconst C (n := (-1)) (by decide +kernel) ?_
      exact x_iret C ⟨Nat.zero_le _, Nat.zero_le _⟩ (by decide +kernel)
