def rm_X3_clear : Room := { frames := 1, cells := 0, slots := 0, locals := 23 }
def f_X3_clear (N : Nat) (σ : St) (this : Nat) : Option (St × Int) :=
 Option.bind (pI shx σ 3 this 1 0) fun σ1 =>
 Option.bind (pI shx σ1 3 this 7 0) fun σ2 =>
 Option.bind (pI shx σ2 3 this 11 0) fun σ3 =>
 Option.bind (pI shx σ3 3 this 15 0) fun σ4 =>
 Option.bind (pI shx σ4 3 this 18 0) fun σ5 =>
 Option.bind (gR shx σ5 3 this 16) fun tankAt_6 =>
 Option.bind (f_J7_fill_53178 N σ5 tankAt_6 0) fun q7 =>
 Option.bind (gR shx q7.1 3 this 17) fun tankHolds_8 =>
 Option.bind (f_J7_fill_53178 N q7.1 tankHolds_8 0) fun q9 =>
 Option.bind (gR shx q9.1 3 this 19) fun ground_10 =>
 Option.bind (f_J7_fill_53178 N q9.1 ground_10 0) fun q11 =>
 some (q11.1, 0)
set_option maxRecDepth 100000 in
set_option maxHeartbeats 4000000 in
theorem c_X3_clear (l : Launch) (D : va_G) (ca : Nat → ClassId) (ra : Nat → Nat) (N : Nat) (σ : St) (this : Nat) : Ctr l (D, ca, ra, shx) false yX3_clear cX3_clear 1 none rm_X3_clear σ [ar this] (f_X3_clear N σ this) := by
  refine ctr_of (by decide) (Nat.le_of_ble_eq_true rfl) (fun z C => ?_)
  show X z 0 0 σ 0 [(0, ar this)] [] _
  unfold f_X3_clear
  refine x_aload_n C 0 (i := 0) (k0 := 0) rfl rfl (by decide +kernel) ?_
  refine x_iconst C (n := 0) (by decide +kernel) ?_
  refine x_pI C fl_RX3_78 rfl (fun q h => by cases h; rfl) (by decide +kernel) (fun σ1 => ?_)
  refine x_aload_n C 0 (i := 0) (k0 := 0) rfl rfl (by decide +kernel) ?_
  refine x_iconst C (n := 0) (by decide +kernel) ?_
  refine x_pI C fl_RX3_87 rfl (fun q h => by cases h; rfl) (by decide +kernel) (fun σ2 => ?_)
  refine x_aload_n C 0 (i := 0) (k0 := 0) rfl rfl (by decide +kernel) ?_
  refine x_iconst C (n := 0) (by decide +kernel) ?_
  show X z 0 0 σ2 12 [(0, ar this)] [ai 0, ar this] _
  refine x_pI C fl_RX3_100 rfl (fun q h => by cases h; rfl) (by decide +kernel) (fun σ3 => ?_)
  refine x_aload_n C 0 (i := 0) (k0 := 0) rfl rfl (by decide +kernel) ?_
  refine x_iconst C (n := 0) (by decide +kernel) ?_
  refine x_pI C fl_RX3_103 rfl (fun q h => by cases h; rfl) (by decide +kernel) (fun σ4 => ?_)
  refine x_aload_n C 0 (i := 0) (k0 := 0) rfl rfl (by decide +kernel) ?_
  refine x_iconst C (n := 0) (by decide +kernel) ?_
  refine x_pI C fl_RX3_106 rfl (fun q h => by cases h; rfl) (by decide +kernel) (fun σ5 => ?_)
  refine x_aload_n C 0 (i := 0) (k0 := 0) rfl rfl (by decide +kernel) ?_
  show X z 0 0 σ5 26 [(0, ar this)] [ar this] _
  refine x_gR C fl_RX3_46 (fun _ _ _ => rfl) (by decide +kernel) (fun tankAt_6 => ?_)
  refine x_iconst C (n := 0) (by decide +kernel) ?_
  refine x_callS C (c_J7_fill_53178 l D ca ra N σ5 tankAt_6 0) mt_J7_fill_53178 ms_J7_fill_53178 ml_RX3_109 rfl (fun h => Bool.noConfusion h) ⟨Nat.le_of_ble_eq_true rfl, Nat.le_of_ble_eq_true rfl⟩ (Nat.le_of_ble_eq_true rfl) 0 0 ⟨rfl, rfl⟩ ⟨Nat.zero_le _, Nat.zero_le _⟩ (by decide +kernel) _ rfl (fun q7 => []) (fun _ => rfl) (fun q7 => ?_)
  refine x_aload_n C 0 (i := 0) (k0 := 0) rfl rfl (by decide +kernel) ?_
  refine x_gR C fl_RX3_49 (fun _ _ _ => rfl) (by decide +kernel) (fun tankHolds_8 => ?_)
  refine x_iconst C (n := 0) (by decide +kernel) ?_
  refine x_callS C (c_J7_fill_53178 l D ca ra N q7.1 tankHolds_8 0) mt_J7_fill_53178 ms_J7_fill_53178 ml_RX3_109 rfl (fun h => Bool.noConfusion h) ⟨Nat.le_of_ble_eq_true rfl, Nat.le_of_ble_eq_true rfl⟩ (Nat.le_of_ble_eq_true rfl) 0 0 ⟨rfl, rfl⟩ ⟨Nat.zero_le _, Nat.zero_le _⟩ (by decide +kernel) _ rfl (fun q9 => []) (fun _ => rfl) (fun q9 => ?_)
  refine x_aload_n C 0 (i := 0) (k0 := 0) rfl rfl (by decide +kernel) ?_
  show X z 0 0 q9.1 42 [(0, ar this)] [ar this] _
  refine x_gR C fl_RX3_52 (fun _ _ _ => rfl) (by decide +kernel) (fun ground_10 => ?_)
  refine x_iconst C (n := 0) (by decide +kernel) ?_
  refine x_callS C (c_J7_fill_53178 l D ca ra N q9.1 ground_10 0) mt_J7_fill_53178 ms_J7_fill_53178 ml_RX3_109 rfl (fun h => Bool.noConfusion h) ⟨Nat.le_of_ble_eq_true rfl, Nat.le_of_ble_eq_true rfl⟩ (Nat.le_of_ble_eq_true rfl) 0 0 ⟨rfl, rfl⟩ ⟨Nat.zero_le _, Nat.zero_le _⟩ (by decide +kernel) _ rfl (fun q11 => []) (fun _ => rfl) (fun q11 => ?_)
  exact x_vret C ⟨Nat.zero_le _, Nat.zero_le _⟩ (by decide +kernel)

def L_X3_partNamed_2 (N : Nat) (σ : St) (this : Nat) (p0 : Int) : Int → Option (St × Int) := fixN N fun b2_1 t1 =>
 Option.bind (gI shx σ 3 this 1) fun parts_3 =>
 (if wr t1 < wr parts_3 then Option.bind (gR shx σ 3 this 2) fun names_4 =>
 Option.bind (aI shx σ 2 names_4 t1) fun a5 =>
 (if wl a5 = wl p0 then some (σ, t1) else Lt (t1 + 1) fun x6 =>
 b2_1 x6) else some (σ, (-1)))
def rm_X3_partNamed : Room := { frames := 0, cells := 0, slots := 0, locals := 0 }
def f_X3_partNamed (N : Nat) (σ : St) (this : Nat) (p0 : Int) : Option (St × Int) :=
 L_X3_partNamed_2 N σ this p0 0
set_option maxRecDepth 100000 in
set_option maxHeartbeats 4000000 in
theorem c_X3_partNamed (l : Launch) (D : va_G) (ca : Nat → ClassId) (ra : Nat → Nat) (N : Nat) (σ : St) (this : Nat) (p0 : Int) : Ctr l (D, ca, ra, shx) false yX3_partNamed cX3_partNamed 4 (some .int) rm_X3_partNamed σ [ar this, al p0] (f_X3_partNamed N σ this p0) := by
  refine ctr_of (by decide) (Nat.le_of_ble_eq_true rfl) (fun z C => ?_)
  show X z 0 0 σ 0 [(0, ar this), (1, al p0)] [] _
  unfold f_X3_partNamed
  refine x_iconst C (n := 0) (by decide +kernel) ?_
  refine x_istore_n C (i := 3) (k0 := 3) rfl (Nat.le_of_ble_eq_true rfl) (by decide +kernel) (lv2 := [(3, ai 0), (0, ar this), (1, al p0)]) rfl ?_
  refine x_sub [1, 2, 0] (lv2 := [(0, ar this), (1, al p0), (3, ai 0)]) rfl ?_
  -- LOOP L_X3_partNamed_2 hb2_1
  refine x_loop (T := Int) (fun t => σ) (fun t => [(0, ar this), (1, al p0), (3, ai t)]) 0 rfl (fun b2_1 hb2_1 t1 => ?_)
  show X z 0 0 σ 2 [(0, ar this), (1, al p0), (3, ai t1)] [] _
  refine x_iload_n C 2 (i := 3) (k0 := 3) rfl rfl (by decide +kernel) ?_
  refine x_aload_n C 0 (i := 0) (k0 := 0) rfl rfl (by decide +kernel) ?_
  refine x_gI C fl_RX3_78 (fun _ _ _ => rfl) (by decide +kernel) (fun parts_3 => ?_)
  refine x_ic_ge C (tgt := 29) (off := 22) (by decide) (by decide +kernel) (fun h8 => ?_) (fun h8 => ?_)
  · skip
    refine x_iconst C (n := (-1)) (by decide +kernel) ?_
    exact x_iret C ⟨Nat.zero_le _, Nat.zero_le _⟩ (by decide +kernel)
  · skip
    refine x_aload_n C 0 (i := 0) (k0 := 0) rfl rfl (by decide +kernel) ?_
    refine x_gR C fl_RX3_11 (fun _ _ _ => rfl) (by decide +kernel) (fun names_4 => ?_)
    refine x_iload_n C 2 (i := 3) (k0 := 3) rfl rfl (by decide +kernel) ?_
    refine x_aldL C (by decide +kernel) (fun a5 => ?_)
    refine x_lload_n C 1 (i := 1) (k0 := 1) rfl rfl (by decide +kernel) ?_
    refine x_lcmp_ne C (tgt := 23) (off := 5) (by decide) (by decide +kernel) (by decide +kernel) (fun h7 => ?_) (fun h7 => ?_)
    · skip
      refine x_iinc C 2 (i := 3) (n := 1) (Nat.le_of_ble_eq_true rfl) rfl (by decide +kernel) (lv2 := fun x6 => [(3, ai x6), (0, ar this), (1, al p0)]) (fun _ => rfl) (fun x6 => ?_)
      refine x_goto C (tgt := 2) (off := (-24)) (by decide) (by decide +kernel) ?_
      refine x_sub [1, 2, 0] (lv2 := [(0, ar this), (1, al p0), (3, ai x6)]) rfl ?_
      exact hb2_1 x6
    · skip
      refine x_iload_n C 2 (i := 3) (k0 := 3) rfl rfl (by decide +kernel) ?_
      exact x_iret C ⟨Nat.zero_le _, Nat.zero_le _⟩ (by decide +kernel)
theorem p_X3_partNamed (N : Nat) (σ : St) (this : Nat) (p0 : Int) : Pu σ (f_X3_partNamed N σ this p0) := by
  unfold f_X3_partNamed
  unfold L_X3_partNamed_2
  refine pu_fix (fun _ hb2_1 _ => ?_) _
  refine pu_bind (fun _ => ?_)
  refine pu_ifs ?_ ?_
  · skip
    exact pu_some
  · skip
    refine pu_bind (fun _ => ?_)
    refine pu_bind (fun _ => ?_)
    refine pu_ifs ?_ ?_
    · skip
      refine pu_Lt (fun _ => ?_)
      exact hb2_1 _
    · skip
      exact pu_some

def rm_X3_readOldName : Room := { frames := 2, cells := 0, slots := 0, locals := 41 }
def f_X3_readOldName (N : Nat) (σ : St) (this : Nat) (p0 : Nat) (p1 : Int) : Option (St × Int) :=
 Option.bind (gI shx σ 6 p0 11) fun word_1 =>
 Option.bind (rcv shx σ 3 this (f_X3_partNamed N σ this word_1)) fun q2 =>
 Option.bind (gI shx σ 6 p0 8) fun kind_3 =>
 (if wr kind_3 = wr 100 then (if wr q2.2 = wr (-1) then Option.bind (rcv shx σ 6 p0 (f_X6_refuse N σ p0 5)) fun q7 =>
 some (q7.1, q2.2) else (if wr q2.2 = wr p1 then Option.bind (rcv shx σ 6 p0 (f_X6_refuse N σ p0 6)) fun q5 =>
 some (q5.1, q2.2) else Option.bind (rcv shx σ 6 p0 (f_X6_advance N σ p0)) fun q4 =>
 some (q4.1, q2.2))) else Option.bind (rcv shx σ 6 p0 (f_X6_refuse N σ p0 2)) fun q9 =>
 some (q9.1, q2.2))
set_option maxRecDepth 100000 in
set_option maxHeartbeats 4000000 in
theorem c_X3_readOldName (l : Launch) (D : va_G) (ca : Nat → ClassId) (ra : Nat → Nat) (N : Nat) (σ : St) (this : Nat) (p0 : Nat) (p1 : Int) : Ctr l (D, ca, ra, shx) false yX3_readOldName cX3_readOldName 4 (some .int) rm_X3_readOldName σ [ar this, ar p0, ai p1] (f_X3_readOldName N σ this p0 p1) := by
  refine ctr_of (by decide) (Nat.le_of_ble_eq_true rfl) (fun z C => ?_)
  show X z 0 0 σ 0 [(0, ar this), (1, ar p0), (2, ai p1)] [] _
  unfold f_X3_readOldName
  refine x_aload_n C 0 (i := 0) (k0 := 0) rfl rfl (by decide +kernel) ?_
  refine x_aload_n C 1 (i := 1) (k0 := 1) rfl rfl (by decide +kernel) ?_
  refine x_gL C fl_RX3_147 (fun _ _ _ => rfl) (by decide +kernel) (fun word_1 => ?_)
  refine x_callVp C (ci := 3) (c_X3_partNamed l D ca ra N σ this word_1) (p_X3_partNamed N σ this word_1) mt_X3_partNamed mv_X3_partNamed rfl ml_RX3_151 rfl (fun h => Bool.noConfusion h) ⟨Nat.le_of_ble_eq_true rfl, Nat.le_of_ble_eq_true rfl⟩ (Nat.le_of_ble_eq_true rfl) 0 0 ⟨rfl, rfl⟩ ⟨Nat.zero_le _, Nat.zero_le _⟩ (by decide +kernel) _ rfl (fun q2 => [ai q2.2]) (fun _ => rfl) (fun q2 => ?_)
  refine x_istore_n C (i := 3) (k0 := 3) rfl (Nat.le_of_ble_eq_true rfl) (by decide +kernel) (lv2 := [(3, ai q2.2), (0, ar this), (1, ar p0), (2, ai p1)]) rfl ?_
  refine x_aload_n C 2 (i := 1) (k0 := 1) rfl rfl (by decide +kernel) ?_
  refine x_gI C fl_RX3_71 (fun _ _ _ => rfl) (by decide +kernel) (fun kind_3 => ?_)
  refine x_bipush C (n := 100) (by decide +kernel) (by decide +kernel) ?_
  show X z 0 0 σ 15 [(3, ai q2.2), (0, ar this), (1, ar p0), (2, ai p1)] [ai 100, ai kind_3] _
  refine x_ic_eq C (tgt := 26) (off := 11) (by decide) (by decide +kernel) (fun h10 => ?_) (fun h10 => ?_)
  · skip
    refine x_iload_n C 0 (i := 3) (k0 := 3) rfl rfl (by decide +kernel) ?_
    refine x_iconst C (n := (-1)) (by decide +kernel) ?_
    refine x_ic_ne C (tgt := 39) (off := 11) (by decide) (by decide +kernel) (fun h8 => ?_) (fun h8 => ?_)
    · skip
      refine x_iload_n C 0 (i := 3) (k0 := 3) rfl rfl (by decide +kernel) ?_
      refine x_iload_n C 3 (i := 2) (k0 := 2) rfl rfl (by decide +kernel) ?_
      refine x_ic_ne C (tgt := 53) (off := 12) (by decide) (by decide +kernel) (fun h6 => ?_) (fun h6 => ?_)
      · skip
        refine x_aload_n C 2 (i := 1) (k0 := 1) rfl rfl (by decide +kernel) ?_
        refine x_callV C (ci := 6) (c_X6_advance l D ca ra N σ p0) mt_X6_advance mv_X6_advance rfl ml_RX3_134 rfl (fun h => Bool.noConfusion h) ⟨Nat.le_of_ble_eq_true rfl, Nat.le_of_ble_eq_true rfl⟩ (Nat.le_of_ble_eq_true rfl) 0 0 ⟨rfl, rfl⟩ ⟨Nat.zero_le _, Nat.zero_le _⟩ (by decide +kernel) _ rfl (fun q4 => []) (fun _ => rfl) (fun q4 => ?_)
        refine x_iload_n C 0 (i := 3) (k0 := 3) rfl rfl (by decide +kernel) ?_
        exact x_iret C ⟨Nat.zero_le _, Nat.zero_le _⟩ (by decide +kernel)
      · skip
        refine x_aload_n C 2 (i := 1) (k0 := 1) rfl rfl (by decide +kernel) ?_
        refine x_bipush C (n := 6) (by decide +kernel) (by decide +kernel) ?_
        refine x_callV C (ci := 6) (c_X6_refuse l D ca ra N σ p0 6) mt_X6_refuse mv_X6_refuse rfl ml_RX3_130 rfl (fun h => Bool.noConfusion h) ⟨Nat.le_of_ble_eq_true rfl, Nat.le_of_ble_eq_true rfl⟩ (Nat.le_of_ble_eq_true rfl) 0 0 ⟨rfl, rfl⟩ ⟨Nat.zero_le _, Nat.zero_le _⟩ (by decide +kernel) _ rfl (fun q5 => []) (fun _ => rfl) (fun q5 => ?_)
        refine x_goto C (tgt := 57) (off := 7) (by decide) (by decide +kernel) ?_
        refine x_iload_n C 0 (i := 3) (k0 := 3) rfl rfl (by decide +kernel) ?_
        exact x_iret C ⟨Nat.zero_le _, Nat.zero_le _⟩ (by decide +kernel)
    · skip
      refine x_aload_n C 2 (i := 1) (k0 := 1) rfl rfl (by decide +kernel) ?_
      refine x_iconst C (n := 5) (by decide +kernel) ?_
      refine x_callV C (ci := 6) (c_X6_refuse l D ca ra N σ p0 5) mt_X6_refuse mv_X6_refuse rfl ml_RX3_130 rfl (fun h => Bool.noConfusion h) ⟨Nat.le_of_ble_eq_true rfl, Nat.le_of_ble_eq_true rfl⟩ (Nat.le_of_ble_eq_true rfl) 0 0 ⟨rfl, rfl⟩ ⟨Nat.zero_le _, Nat.zero_le _⟩ (by decide +kernel) _ rfl (fun q7 => []) (fun _ => rfl) (fun q7 => ?_)
      refine x_goto C (tgt := 57) (off := 21) (by decide) (by decide +kernel) ?_
      refine x_iload_n C 0 (i := 3) (k0 := 3) rfl rfl (by decide +kernel) ?_
      exact x_iret C ⟨Nat.zero_le _, Nat.zero_le _⟩ (by decide +kernel)
  · skip
    refine x_aload_n C 2 (i := 1) (k0 := 1) rfl rfl (by decide +kernel) ?_
    refine x_iconst C (n := 2) (by decide +kernel) ?_
    refine x_callV C (ci := 6) (c_X6_refuse l D ca ra N σ p0 2) mt_X6_refuse mv_X6_refuse rfl ml_RX3_130 rfl (fun h => Bool.noConfusion h) ⟨Nat.le_of_ble_eq_true rfl, Nat.le_of_ble_eq_true rfl⟩ (Nat.le_of_ble_eq_true rfl) 0 0 ⟨rfl, rfl⟩ ⟨Nat.zero_le _, Nat.zero_le _⟩ (by decide +kernel) _ rfl (fun q9 => []) (fun _ => rfl) (fun q9 => ?_)
    refine x_goto C (tgt := 57) (off := 34) (by decide) (by decide +kernel) ?_
    refine x_iload_n C 0 (i := 3) (k0 := 3) rfl rfl (by decide +kernel) ?_
    exact x_iret C ⟨Nat.zero_le _, Nat.zero_le _⟩ (by decide +kernel)

def rm_X3_readJoin : Room := { frames := 4, cells := 0, slots := 0, locals := 87 }
def f_X3_readJoin (N : Nat) (σ : St) (this : Nat) (p0 : Nat) : Option (St × Int) :=
 Option.bind (gI shx σ 3 this 7) fun joins_1 =>
 (if wr joins_1 < wr 16 then Option.bind (rcv shx σ 6 p0 (f_X6_advance N σ p0)) fun q2 =>
 Option.bind (gR shx q2.1 3 this 8) fun left_3 =>
 Option.bind (gI shx q2.1 3 this 7) fun joins_4 =>
 Option.bind (rcv shx q2.1 3 this (f_X3_readOldName N q2.1 this p0 (-1))) fun q5 =>
 Option.bind (sI shx q5.1 1 left_3 joins_4 q5.2) fun σ6 =>
 Option.bind (gR shx σ6 3 this 9) fun right_7 =>
 Option.bind (gI shx σ6 3 this 7) fun joins_8 =>
 Option.bind (gR shx σ6 3 this 8) fun left_9 =>
 Option.bind (gI shx σ6 3 this 7) fun joins_10 =>
 Option.bind (aI shx σ6 1 left_9 joins_10) fun a11 =>
 Option.bind (rcv shx σ6 3 this (f_X3_readOldName N σ6 this p0 a11)) fun q12 =>
 Option.bind (sI shx q12.1 1 right_7 joins_8 q12.2) fun σ13 =>
 Option.bind (gR shx σ13 3 this 10) fun gap_14 =>
 Option.bind (gI shx σ13 3 this 7) fun joins_15 =>
 Option.bind (rcv shx σ13 6 p0 (f_X6_expectNumberBehind N σ13 p0 8 0 99)) fun q16 =>
 Option.bind (sI shx q16.1 1 gap_14 joins_15 q16.2) fun σ17 =>
 Option.bind (rcv shx σ17 6 p0 (f_X6_expect N σ17 p0 59)) fun q18 =>
 Option.bind (rcv shx q18.1 6 p0 (f_X6_sound N q18.1 p0)) fun q19 =>
 (if wr q19.2 = 0 then some (q18.1, 0) else Option.bind (gI shx q18.1 3 this 7) fun joins_20 =>
 Option.bind (pI shx q18.1 3 this 7 (joins_20 + 1)) fun σ21 =>
 some (σ21, 0)) else Option.bind (rcv shx σ 6 p0 (f_X6_refuse N σ p0 2)) fun q23 =>
 some (q23.1, 0))
set_option maxRecDepth 100000 in
set_option maxHeartbeats 4000000 in
theorem c_X3_readJoin (l : Launch) (D : va_G) (ca : Nat → ClassId) (ra : Nat → Nat) (N : Nat) (σ : St) (this : Nat) (p0 : Nat) : Ctr l (D, ca, ra, shx) false yX3_readJoin cX3_readJoin 2 none rm_X3_readJoin σ [ar this, ar p0] (f_X3_readJoin N σ this p0) := by
  refine ctr_of (by decide) (Nat.le_of_ble_eq_true rfl) (fun z C => ?_)
  show X z 0 0 σ 0 [(0, ar this), (1, ar p0)] [] _
  unfold f_X3_readJoin
  refine x_aload_n C 0 (i := 0) (k0 := 0) rfl rfl (by decide +kernel) ?_
  refine x_gI C fl_RX3_87 (fun _ _ _ => rfl) (by decide +kernel) (fun joins_1 => ?_)
  refine x_bipush C (n := 16) (by decide +kernel) (by decide +kernel) ?_
  refine x_ic_lt C (tgt := 15) (off := 9) (by decide) (by decide +kernel) (fun h24 => ?_) (fun h24 => ?_)
  · skip
    refine x_aload_n C 1 (i := 1) (k0 := 1) rfl rfl (by decide +kernel) ?_
    refine x_callV C (ci := 6) (c_X6_advance l D ca ra N σ p0) mt_X6_advance mv_X6_advance rfl ml_RX3_134 rfl (fun h => Bool.noConfusion h) ⟨Nat.le_of_ble_eq_true rfl, Nat.le_of_ble_eq_true rfl⟩ (Nat.le_of_ble_eq_true rfl) 0 0 ⟨rfl, rfl⟩ ⟨Nat.zero_le _, Nat.zero_le _⟩ (by decide +kernel) _ rfl (fun q2 => []) (fun _ => rfl) (fun q2 => ?_)
    refine x_aload_n C 0 (i := 0) (k0 := 0) rfl rfl (by decide +kernel) ?_
    refine x_gR C fl_RX3_28 (fun _ _ _ => rfl) (by decide +kernel) (fun left_3 => ?_)
    refine x_aload_n C 0 (i := 0) (k0 := 0) rfl rfl (by decide +kernel) ?_
    refine x_gI C fl_RX3_87 (fun _ _ _ => rfl) (by decide +kernel) (fun joins_4 => ?_)
    refine x_aload_n C 0 (i := 0) (k0 := 0) rfl rfl (by decide +kernel) ?_
    refine x_aload_n C 1 (i := 1) (k0 := 1) rfl rfl (by decide +kernel) ?_
    show X z 0 0 q2.1 29 [(0, ar this), (1, ar p0)] [ar p0, ar this, ai joins_4, ar left_3] _
    refine x_iconst C (n := (-1)) (by decide +kernel) ?_
    refine x_callV C (ci := 3) (c_X3_readOldName l D ca ra N q2.1 this p0 (-1)) mt_X3_readOldName mv_X3_readOldName rfl ml_RX3_155 rfl (fun h => Bool.noConfusion h) ⟨Nat.le_of_ble_eq_true rfl, Nat.le_of_ble_eq_true rfl⟩ (Nat.le_of_ble_eq_true rfl) 0 0 ⟨rfl, rfl⟩ ⟨Nat.zero_le _, Nat.zero_le _⟩ (by decide +kernel) _ rfl (fun q5 => [ai q5.2, ai joins_4, ar left_3]) (fun _ => rfl) (fun q5 => ?_)
    refine x_astI C (by decide +kernel) (fun σ6 => ?_)
    refine x_aload_n C 0 (i := 0) (k0 := 0) rfl rfl (by decide +kernel) ?_
    refine x_gR C fl_RX3_31 (fun _ _ _ => rfl) (by decide +kernel) (fun right_7 => ?_)
    refine x_aload_n C 0 (i := 0) (k0 := 0) rfl rfl (by decide +kernel) ?_
    refine x_gI C fl_RX3_87 (fun _ _ _ => rfl) (by decide +kernel) (fun joins_8 => ?_)
    refine x_aload_n C 0 (i := 0) (k0 := 0) rfl rfl (by decide +kernel) ?_
    show X z 0 0 σ6 43 [(0, ar this), (1, ar p0)] [ar this, ai joins_8, ar right_7] _
    refine x_aload_n C 1 (i := 1) (k0 := 1) rfl rfl (by decide +kernel) ?_
    refine x_aload_n C 0 (i := 0) (k0 := 0) rfl rfl (by decide +kernel) ?_
    refine x_gR C fl_RX3_28 (fun _ _ _ => rfl) (by decide +kernel) (fun left_9 => ?_)
    refine x_aload_n C 0 (i := 0) (k0 := 0) rfl rfl (by decide +kernel) ?_
    refine x_gI C fl_RX3_87 (fun _ _ _ => rfl) (by decide +kernel) (fun joins_10 => ?_)
    refine x_aldI C (by decide +kernel) (fun a11 => ?_)
    refine x_callV C (ci := 3) (c_X3_readOldName l D ca ra N σ6 this p0 a11) mt_X3_readOldName mv_X3_readOldName rfl ml_RX3_155 rfl (fun h => Bool.noConfusion h) ⟨Nat.le_of_ble_eq_true rfl, Nat.le_of_ble_eq_true rfl⟩ (Nat.le_of_ble_eq_true rfl) 0 0 ⟨rfl, rfl⟩ ⟨Nat.zero_le _, Nat.zero_le _⟩ (by decide +kernel) _ rfl (fun q12 => [ai q12.2, ai joins_8, ar right_7]) (fun _ => rfl) (fun q12 => ?_)
    refine x_astI C (by decide +kernel) (fun σ13 => ?_)
    show X z 0 0 σ13 57 [(0, ar this), (1, ar p0)] [] _
    refine x_aload_n C 0 (i := 0) (k0 := 0) rfl rfl (by decide +kernel) ?_
    refine x_gR C fl_RX3_34 (fun _ _ _ => rfl) (by decide +kernel) (fun gap_14 => ?_)
    refine x_aload_n C 0 (i := 0) (k0 := 0) rfl rfl (by decide +kernel) ?_
    refine x_gI C fl_RX3_87 (fun _ _ _ => rfl) (by decide +kernel) (fun joins_15 => ?_)
    refine x_aload_n C 1 (i := 1) (k0 := 1) rfl rfl (by decide +kernel) ?_
    refine x_bipush C (n := 8) (by decide +kernel) (by decide +kernel) ?_
    refine x_iconst C (n := 0) (by decide +kernel) ?_
    refine x_bipush C (n := 99) (by decide +kernel) (by decide +kernel) ?_
    show X z 0 0 σ13 71 [(0, ar this), (1, ar p0)] [ai 99, ai 0, ai 8, ar p0, ai joins_15, ar gap_14] _
    refine x_callV C (ci := 6) (c_X6_expectNumberBehind l D ca ra N σ13 p0 8 0 99) mt_X6_expectNumberBehind mv_X6_expectNumberBehind rfl ml_RX3_140 rfl (fun h => Bool.noConfusion h) ⟨Nat.le_of_ble_eq_true rfl, Nat.le_of_ble_eq_true rfl⟩ (Nat.le_of_ble_eq_true rfl) 0 0 ⟨rfl, rfl⟩ ⟨Nat.zero_le _, Nat.zero_le _⟩ (by decide +kernel) _ rfl (fun q16 => [ai q16.2, ai joins_15, ar gap_14]) (fun _ => rfl) (fun q16 => ?_)
    refine x_astI C (by decide +kernel) (fun σ17 => ?_)
    refine x_aload_n C 1 (i := 1) (k0 := 1) rfl rfl (by decide +kernel) ?_
    refine x_bipush C (n := 59) (by decide +kernel) (by decide +kernel) ?_
    refine x_callV C (ci := 6) (c_X6_expect l D ca ra N σ17 p0 59) mt_X6_expect mv_X6_expect rfl ml_RX3_144 rfl (fun h => Bool.noConfusion h) ⟨Nat.le_of_ble_eq_true rfl, Nat.le_of_ble_eq_true rfl⟩ (Nat.le_of_ble_eq_true rfl) 0 0 ⟨rfl, rfl⟩ ⟨Nat.zero_le _, Nat.zero_le _⟩ (by decide +kernel) _ rfl (fun q18 => []) (fun _ => rfl) (fun q18 => ?_)
    refine x_aload_n C 1 (i := 1) (k0 := 1) rfl rfl (by decide +kernel) ?_
    refine x_callVp C (ci := 6) (c_X6_sound l D ca ra N q18.1 p0) (p_X6_sound N q18.1 p0) mt_X6_sound mv_X6_sound rfl ml_RX3_67 rfl (fun h => Bool.noConfusion h) ⟨Nat.le_of_ble_eq_true rfl, Nat.le_of_ble_eq_true rfl⟩ (Nat.le_of_ble_eq_true rfl) 0 0 ⟨rfl, rfl⟩ ⟨Nat.zero_le _, Nat.zero_le _⟩ (by decide +kernel) _ rfl (fun q19 => [ai q19.2]) (fun _ => rfl) (fun q19 => ?_)
    refine x_if_eq C (tgt := 98) (off := 13) (by decide) (by decide +kernel) (fun h22 => ?_) (fun h22 => ?_)
    · skip
      exact x_vret C ⟨Nat.zero_le _, Nat.zero_le _⟩ (by decide +kernel)
    · skip
      refine x_aload_n C 0 (i := 0) (k0 := 0) rfl rfl (by decide +kernel) ?_
      refine x_dup C rfl (by decide +kernel) ?_
      refine x_gI C fl_RX3_87 (fun _ _ _ => rfl) (by decide +kernel) (fun joins_20 => ?_)
      refine x_iconst C (n := 1) (by decide +kernel) ?_
      refine x_iadd C (by decide +kernel) ?_
      refine x_pI C fl_RX3_87 rfl (fun q h => by cases h; rfl) (by decide +kernel) (fun σ21 => ?_)
      exact x_vret C ⟨Nat.zero_le _, Nat.zero_le _⟩ (by decide +kernel)
  · skip
    refine x_aload_n C 1 (i := 1) (k0 := 1) rfl rfl (by decide +kernel) ?_
    refine x_iconst C (n := 2) (by decide +kernel) ?_
    refine x_callV C (ci := 6) (c_X6_refuse l D ca ra N σ p0 2) mt_X6_refuse mv_X6_refuse rfl ml_RX3_130 rfl (fun h => Bool.noConfusion h) ⟨Nat.le_of_ble_eq_true rfl, Nat.le_of_ble_eq_true rfl⟩ (Nat.le_of_ble_eq_true rfl) 0 0 ⟨rfl, rfl⟩ ⟨Nat.zero_le _, Nat.zero_le _⟩ (by decide +kernel) _ rfl (fun q23 => []) (fun _ => rfl) (fun q23 => ?_)
    exact x_vret C ⟨Nat.zero_le _, Nat.zero_le _⟩ (by decide +kernel)

def rm_X3_readMoves : Room := { frames := 4, cells := 0, slots := 0, locals := 87 }
def f_X3_readMoves (N : Nat) (σ : St) (this : Nat) (p0 : Nat) : Option (St × Int) :=
 Option.bind (gI shx σ 3 this 11) fun moves_1 =>
 (if wr moves_1 < wr 16 then Option.bind (rcv shx σ 6 p0 (f_X6_advance N σ p0)) fun q2 =>
 Option.bind (gR shx q2.1 3 this 12) fun mover_3 =>
 Option.bind (gI shx q2.1 3 this 11) fun moves_4 =>
 Option.bind (rcv shx q2.1 3 this (f_X3_readOldName N q2.1 this p0 (-1))) fun q5 =>
 Option.bind (sI shx q5.1 1 mover_3 moves_4 q5.2) fun σ6 =>
 Option.bind (gR shx σ6 3 this 13) fun moved_7 =>
 Option.bind (gI shx σ6 3 this 11) fun moves_8 =>
 Option.bind (gR shx σ6 3 this 12) fun mover_9 =>
 Option.bind (gI shx σ6 3 this 11) fun moves_10 =>
 Option.bind (aI shx σ6 1 mover_9 moves_10) fun a11 =>
 Option.bind (rcv shx σ6 3 this (f_X3_readOldName N σ6 this p0 a11)) fun q12 =>
 Option.bind (sI shx q12.1 1 moved_7 moves_8 q12.2) fun σ13 =>
 Option.bind (gR shx σ13 3 this 14) fun after_14 =>
 Option.bind (gI shx σ13 3 this 11) fun moves_15 =>
 Option.bind (rcv shx σ13 6 p0 (f_X6_expectNumberBehind N σ13 p0 10 0 24)) fun q16 =>
 Option.bind (sI shx q16.1 1 after_14 moves_15 q16.2) fun σ17 =>
 Option.bind (rcv shx σ17 6 p0 (f_X6_expect N σ17 p0 59)) fun q18 =>
 Option.bind (rcv shx q18.1 6 p0 (f_X6_sound N q18.1 p0)) fun q19 =>
 (if wr q19.2 = 0 then some (q18.1, 0) else Option.bind (gI shx q18.1 3 this 11) fun moves_20 =>
 Option.bind (pI shx q18.1 3 this 11 (moves_20 + 1)) fun σ21 =>
 some (σ21, 0)) else Option.bind (rcv shx σ 6 p0 (f_X6_refuse N σ p0 2)) fun q23 =>
 some (q23.1, 0))
set_option maxRecDepth 100000 in
set_option maxHeartbeats 4000000 in
theorem c_X3_readMoves (l : Launch) (D : va_G) (ca : Nat → ClassId) (ra : Nat → Nat) (N : Nat) (σ : St) (this : Nat) (p0 : Nat) : Ctr l (D, ca, ra, shx) false yX3_readMoves cX3_readMoves 2 none rm_X3_readMoves σ [ar this, ar p0] (f_X3_readMoves N σ this p0) := by
  refine ctr_of (by decide) (Nat.le_of_ble_eq_true rfl) (fun z C => ?_)
  show X z 0 0 σ 0 [(0, ar this), (1, ar p0)] [] _
  unfold f_X3_readMoves
  refine x_aload_n C 0 (i := 0) (k0 := 0) rfl rfl (by decide +kernel) ?_
  refine x_gI C fl_RX3_100 (fun _ _ _ => rfl) (by decide +kernel) (fun moves_1 => ?_)
  refine x_bipush C (n := 16) (by decide +kernel) (by decide +kernel) ?_
  refine x_ic_lt C (tgt := 15) (off := 9) (by decide) (by decide +kernel) (fun h24 => ?_) (fun h24 => ?_)
  · skip
    refine x_aload_n C 1 (i := 1) (k0 := 1) rfl rfl (by decide +kernel) ?_
    refine x_callV C (ci := 6) (c_X6_advance l D ca ra N σ p0) mt_X6_advance mv_X6_advance rfl ml_RX3_134 rfl (fun h => Bool.noConfusion h) ⟨Nat.le_of_ble_eq_true rfl, Nat.le_of_ble_eq_true rfl⟩ (Nat.le_of_ble_eq_true rfl) 0 0 ⟨rfl, rfl⟩ ⟨Nat.zero_le _, Nat.zero_le _⟩ (by decide +kernel) _ rfl (fun q2 => []) (fun _ => rfl) (fun q2 => ?_)
    refine x_aload_n C 0 (i := 0) (k0 := 0) rfl rfl (by decide +kernel) ?_
    refine x_gR C fl_RX3_37 (fun _ _ _ => rfl) (by decide +kernel) (fun mover_3 => ?_)
    refine x_aload_n C 0 (i := 0) (k0 := 0) rfl rfl (by decide +kernel) ?_
    refine x_gI C fl_RX3_100 (fun _ _ _ => rfl) (by decide +kernel) (fun moves_4 => ?_)
    refine x_aload_n C 0 (i := 0) (k0 := 0) rfl rfl (by decide +kernel) ?_
    refine x_aload_n C 1 (i := 1) (k0 := 1) rfl rfl (by decide +kernel) ?_
    show X z 0 0 q2.1 29 [(0, ar this), (1, ar p0)] [ar p0, ar this, ai moves_4, ar mover_3] _
    refine x_iconst C (n := (-1)) (by decide +kernel) ?_
    refine x_callV C (ci := 3) (c_X3_readOldName l D ca ra N q2.1 this p0 (-1)) mt_X3_readOldName mv_X3_readOldName rfl ml_RX3_155 rfl (fun h => Bool.noConfusion h) ⟨Nat.le_of_ble_eq_true rfl, Nat.le_of_ble_eq_true rfl⟩ (Nat.le_of_ble_eq_true rfl) 0 0 ⟨rfl, rfl⟩ ⟨Nat.zero_le _, Nat.zero_le _⟩ (by decide +kernel) _ rfl (fun q5 => [ai q5.2, ai moves_4, ar mover_3]) (fun _ => rfl) (fun q5 => ?_)
    refine x_astI C (by decide +kernel) (fun σ6 => ?_)
    refine x_aload_n C 0 (i := 0) (k0 := 0) rfl rfl (by decide +kernel) ?_
    refine x_gR C fl_RX3_40 (fun _ _ _ => rfl) (by decide +kernel) (fun moved_7 => ?_)
    refine x_aload_n C 0 (i := 0) (k0 := 0) rfl rfl (by decide +kernel) ?_
    refine x_gI C fl_RX3_100 (fun _ _ _ => rfl) (by decide +kernel) (fun moves_8 => ?_)
    refine x_aload_n C 0 (i := 0) (k0 := 0) rfl rfl (by decide +kernel) ?_
    show X z 0 0 σ6 43 [(0, ar this), (1, ar p0)] [ar this, ai moves_8, ar moved_7] _
    refine x_aload_n C 1 (i := 1) (k0 := 1) rfl rfl (by decide +kernel) ?_
    refine x_aload_n C 0 (i := 0) (k0 := 0) rfl rfl (by decide +kernel) ?_
    refine x_gR C fl_RX3_37 (fun _ _ _ => rfl) (by decide +kernel) (fun mover_9 => ?_)
    refine x_aload_n C 0 (i := 0) (k0 := 0) rfl rfl (by decide +kernel) ?_
    refine x_gI C fl_RX3_100 (fun _ _ _ => rfl) (by decide +kernel) (fun moves_10 => ?_)
    refine x_aldI C (by decide +kernel) (fun a11 => ?_)
    refine x_callV C (ci := 3) (c_X3_readOldName l D ca ra N σ6 this p0 a11) mt_X3_readOldName mv_X3_readOldName rfl ml_RX3_155 rfl (fun h => Bool.noConfusion h) ⟨Nat.le_of_ble_eq_true rfl, Nat.le_of_ble_eq_true rfl⟩ (Nat.le_of_ble_eq_true rfl) 0 0 ⟨rfl, rfl⟩ ⟨Nat.zero_le _, Nat.zero_le _⟩ (by decide +kernel) _ rfl (fun q12 => [ai q12.2, ai moves_8, ar moved_7]) (fun _ => rfl) (fun q12 => ?_)
    refine x_astI C (by decide +kernel) (fun σ13 => ?_)
    show X z 0 0 σ13 57 [(0, ar this), (1, ar p0)] [] _
    refine x_aload_n C 0 (i := 0) (k0 := 0) rfl rfl (by decide +kernel) ?_
    refine x_gR C fl_RX3_43 (fun _ _ _ => rfl) (by decide +kernel) (fun after_14 => ?_)
    refine x_aload_n C 0 (i := 0) (k0 := 0) rfl rfl (by decide +kernel) ?_
    refine x_gI C fl_RX3_100 (fun _ _ _ => rfl) (by decide +kernel) (fun moves_15 => ?_)
    refine x_aload_n C 1 (i := 1) (k0 := 1) rfl rfl (by decide +kernel) ?_
    refine x_bipush C (n := 10) (by decide +kernel) (by decide +kernel) ?_
    refine x_iconst C (n := 0) (by decide +kernel) ?_
    refine x_bipush C (n := 24) (by decide +kernel) (by decide +kernel) ?_
    show X z 0 0 σ13 71 [(0, ar this), (1, ar p0)] [ai 24, ai 0, ai 10, ar p0, ai moves_15, ar after_14] _
    refine x_callV C (ci := 6) (c_X6_expectNumberBehind l D ca ra N σ13 p0 10 0 24) mt_X6_expectNumberBehind mv_X6_expectNumberBehind rfl ml_RX3_140 rfl (fun h => Bool.noConfusion h) ⟨Nat.le_of_ble_eq_true rfl, Nat.le_of_ble_eq_true rfl⟩ (Nat.le_of_ble_eq_true rfl) 0 0 ⟨rfl, rfl⟩ ⟨Nat.zero_le _, Nat.zero_le _⟩ (by decide +kernel) _ rfl (fun q16 => [ai q16.2, ai moves_15, ar after_14]) (fun _ => rfl) (fun q16 => ?_)
    refine x_astI C (by decide +kernel) (fun σ17 => ?_)
    refine x_aload_n C 1 (i := 1) (k0 := 1) rfl rfl (by decide +kernel) ?_
    refine x_bipush C (n := 59) (by decide +kernel) (by decide +kernel) ?_
    refine x_callV C (ci := 6) (c_X6_expect l D ca ra N σ17 p0 59) mt_X6_expect mv_X6_expect rfl ml_RX3_144 rfl (fun h => Bool.noConfusion h) ⟨Nat.le_of_ble_eq_true rfl, Nat.le_of_ble_eq_true rfl⟩ (Nat.le_of_ble_eq_true rfl) 0 0 ⟨rfl, rfl⟩ ⟨Nat.zero_le _, Nat.zero_le _⟩ (by decide +kernel) _ rfl (fun q18 => []) (fun _ => rfl) (fun q18 => ?_)
    refine x_aload_n C 1 (i := 1) (k0 := 1) rfl rfl (by decide +kernel) ?_
    refine x_callVp C (ci := 6) (c_X6_sound l D ca ra N q18.1 p0) (p_X6_sound N q18.1 p0) mt_X6_sound mv_X6_sound rfl ml_RX3_67 rfl (fun h => Bool.noConfusion h) ⟨Nat.le_of_ble_eq_true rfl, Nat.le_of_ble_eq_true rfl⟩ (Nat.le_of_ble_eq_true rfl) 0 0 ⟨rfl, rfl⟩ ⟨Nat.zero_le _, Nat.zero_le _⟩ (by decide +kernel) _ rfl (fun q19 => [ai q19.2]) (fun _ => rfl) (fun q19 => ?_)
    refine x_if_eq C (tgt := 98) (off := 13) (by decide) (by decide +kernel) (fun h22 => ?_) (fun h22 => ?_)
    · skip
      exact x_vret C ⟨Nat.zero_le _, Nat.zero_le _⟩ (by decide +kernel)
    · skip
      refine x_aload_n C 0 (i := 0) (k0 := 0) rfl rfl (by decide +kernel) ?_
      refine x_dup C rfl (by decide +kernel) ?_
      refine x_gI C fl_RX3_100 (fun _ _ _ => rfl) (by decide +kernel) (fun moves_20 => ?_)
      refine x_iconst C (n := 1) (by decide +kernel) ?_
      refine x_iadd C (by decide +kernel) ?_
      refine x_pI C fl_RX3_100 rfl (fun q h => by cases h; rfl) (by decide +kernel) (fun σ21 => ?_)
      exact x_vret C ⟨Nat.zero_le _, Nat.zero_le _⟩ (by decide +kernel)
  · skip
    refine x_aload_n C 1 (i := 1) (k0 := 1) rfl rfl (by decide +kernel) ?_
    refine x_iconst C (n := 2) (by decide +kernel) ?_
    refine x_callV C (ci := 6) (c_X6_refuse l D ca ra N σ p0 2) mt_X6_refuse mv_X6_refuse rfl ml_RX3_130 rfl (fun h => Bool.noConfusion h) ⟨Nat.le_of_ble_eq_true rfl, Nat.le_of_ble_eq_true rfl⟩ (Nat.le_of_ble_eq_true rfl) 0 0 ⟨rfl, rfl⟩ ⟨Nat.zero_le _, Nat.zero_le _⟩ (by decide +kernel) _ rfl (fun q23 => []) (fun _ => rfl) (fun q23 => ?_)
    exact x_vret C ⟨Nat.zero_le _, Nat.zero_le _⟩ (by decide +kernel)

def rm_X3_readNewName : Room := { frames := 2, cells := 0, slots := 0, locals := 41 }
def f_X3_readNewName (N : Nat) (σ : St) (this : Nat) (p0 : Nat) : Option (St × Int) :=
 Option.bind (gI shx σ 6 p0 8) fun kind_1 =>
 (if wr kind_1 = wr 100 then Option.bind (gI shx σ 6 p0 11) fun word_2 =>
 Option.bind (rcv shx σ 3 this (f_X3_partNamed N σ this word_2)) fun q3 =>
 (if wr q3.2 = wr (-1) then Option.bind (gI shx σ 3 this 1) fun parts_4 =>
 (if wr parts_4 < wr 12 then Option.bind (gR shx σ 3 this 2) fun names_5 =>
 Option.bind (gI shx σ 3 this 1) fun parts_6 =>
 Option.bind (gI shx σ 6 p0 11) fun word_7 =>
 Option.bind (sI shx σ 2 names_5 parts_6 word_7) fun σ8 =>
 Option.bind (rcv shx σ8 6 p0 (f_X6_advance N σ8 p0)) fun q9 =>
 some (q9.1, 0) else some (σ, 0)) else Option.bind (rcv shx σ 6 p0 (f_X6_refuse N σ p0 3)) fun q11 =>
 some (q11.1, 0)) else Option.bind (rcv shx σ 6 p0 (f_X6_refuse N σ p0 2)) fun q13 =>
 some (q13.1, 0))
set_option maxRecDepth 100000 in
set_option maxHeartbeats 4000000 in
theorem c_X3_readNewName (l : Launch) (D : va_G) (ca : Nat → ClassId) (ra : Nat → Nat) (N : Nat) (σ : St) (this : Nat) (p0 : Nat) : Ctr l (D, ca, ra, shx) false yX3_readNewName cX3_readNewName 2 none rm_X3_readNewName σ [ar this, ar p0] (f_X3_readNewName N σ this p0) := by
  refine ctr_of (by decide) (Nat.le_of_ble_eq_true rfl) (fun z C => ?_)
  show X z 0 0 σ 0 [(0, ar this), (1, ar p0)] [] _
  unfold f_X3_readNewName
  refine x_aload_n C 1 (i := 1) (k0 := 1) rfl rfl (by decide +kernel) ?_
  refine x_gI C fl_RX3_71 (fun _ _ _ => rfl) (by decide +kernel) (fun kind_1 => ?_)
  refine x_bipush C (n := 100) (by decide +kernel) (by decide +kernel) ?_
  refine x_ic_eq C (tgt := 17) (off := 11) (by decide) (by decide +kernel) (fun h14 => ?_) (fun h14 => ?_)
  · skip
    refine x_aload_n C 0 (i := 0) (k0 := 0) rfl rfl (by decide +kernel) ?_
    refine x_aload_n C 1 (i := 1) (k0 := 1) rfl rfl (by decide +kernel) ?_
    refine x_gL C fl_RX3_147 (fun _ _ _ => rfl) (by decide +kernel) (fun word_2 => ?_)
    refine x_callVp C (ci := 3) (c_X3_partNamed l D ca ra N σ this word_2) (p_X3_partNamed N σ this word_2) mt_X3_partNamed mv_X3_partNamed rfl ml_RX3_151 rfl (fun h => Bool.noConfusion h) ⟨Nat.le_of_ble_eq_true rfl, Nat.le_of_ble_eq_true rfl⟩ (Nat.le_of_ble_eq_true rfl) 0 0 ⟨rfl, rfl⟩ ⟨Nat.zero_le _, Nat.zero_le _⟩ (by decide +kernel) _ rfl (fun q3 => [ai q3.2]) (fun _ => rfl) (fun q3 => ?_)
    refine x_iconst C (n := (-1)) (by decide +kernel) ?_
    refine x_ic_eq C (tgt := 37) (off := 11) (by decide) (by decide +kernel) (fun h12 => ?_) (fun h12 => ?_)
    · skip
      refine x_aload_n C 0 (i := 0) (k0 := 0) rfl rfl (by decide +kernel) ?_
      refine x_gI C fl_RX3_78 (fun _ _ _ => rfl) (by decide +kernel) (fun parts_4 => ?_)
      refine x_bipush C (n := 12) (by decide +kernel) (by decide +kernel) ?_
      refine x_ic_ge C (tgt := 63) (off := 20) (by decide) (by decide +kernel) (fun h10 => ?_) (fun h10 => ?_)
      · skip
        exact x_vret C ⟨Nat.zero_le _, Nat.zero_le _⟩ (by decide +kernel)
      · skip
        refine x_aload_n C 0 (i := 0) (k0 := 0) rfl rfl (by decide +kernel) ?_
        refine x_gR C fl_RX3_11 (fun _ _ _ => rfl) (by decide +kernel) (fun names_5 => ?_)
        refine x_aload_n C 0 (i := 0) (k0 := 0) rfl rfl (by decide +kernel) ?_
        refine x_gI C fl_RX3_78 (fun _ _ _ => rfl) (by decide +kernel) (fun parts_6 => ?_)
        refine x_aload_n C 1 (i := 1) (k0 := 1) rfl rfl (by decide +kernel) ?_
        refine x_gL C fl_RX3_147 (fun _ _ _ => rfl) (by decide +kernel) (fun word_7 => ?_)
        refine x_astL C (by decide +kernel) (fun σ8 => ?_)
        refine x_aload_n C 1 (i := 1) (k0 := 1) rfl rfl (by decide +kernel) ?_
        show X z 0 0 σ8 60 [(0, ar this), (1, ar p0)] [ar p0] _
        refine x_callV C (ci := 6) (c_X6_advance l D ca ra N σ8 p0) mt_X6_advance mv_X6_advance rfl ml_RX3_134 rfl (fun h => Bool.noConfusion h) ⟨Nat.le_of_ble_eq_true rfl, Nat.le_of_ble_eq_true rfl⟩ (Nat.le_of_ble_eq_true rfl) 0 0 ⟨rfl, rfl⟩ ⟨Nat.zero_le _, Nat.zero_le _⟩ (by decide +kernel) _ rfl (fun q9 => []) (fun _ => rfl) (fun q9 => ?_)
        exact x_vret C ⟨Nat.zero_le _, Nat.zero_le _⟩ (by decide +kernel)
    · skip
      refine x_aload_n C 1 (i := 1) (k0 := 1) rfl rfl (by decide +kernel) ?_
      refine x_iconst C (n := 3) (by decide +kernel) ?_
      refine x_callV C (ci := 6) (c_X6_refuse l D ca ra N σ p0 3) mt_X6_refuse mv_X6_refuse rfl ml_RX3_130 rfl (fun h => Bool.noConfusion h) ⟨Nat.le_of_ble_eq_true rfl, Nat.le_of_ble_eq_true rfl⟩ (Nat.le_of_ble_eq_true rfl) 0 0 ⟨rfl, rfl⟩ ⟨Nat.zero_le _, Nat.zero_le _⟩ (by decide +kernel) _ rfl (fun q11 => []) (fun _ => rfl) (fun q11 => ?_)
      refine x_goto C (tgt := 63) (off := 29) (by decide) (by decide +kernel) ?_
      exact x_vret C ⟨Nat.zero_le _, Nat.zero_le _⟩ (by decide +kernel)
  · skip
    refine x_aload_n C 1 (i := 1) (k0 := 1) rfl rfl (by decide +kernel) ?_
    refine x_iconst C (n := 2) (by decide +kernel) ?_
    refine x_callV C (ci := 6) (c_X6_refuse l D ca ra N σ p0 2) mt_X6_refuse mv_X6_refuse rfl ml_RX3_130 rfl (fun h => Bool.noConfusion h) ⟨Nat.le_of_ble_eq_true rfl, Nat.le_of_ble_eq_true rfl⟩ (Nat.le_of_ble_eq_true rfl) 0 0 ⟨rfl, rfl⟩ ⟨Nat.zero_le _, Nat.zero_le _⟩ (by decide +kernel) _ rfl (fun q13 => []) (fun _ => rfl) (fun q13 => ?_)
    refine x_goto C (tgt := 63) (off := 49) (by decide) (by decide +kernel) ?_
    exact x_vret C ⟨Nat.zero_le _, Nat.zero_le _⟩ (by decide +kernel)

def rm_X3_readPart : Room := { frames := 4, cells := 0, slots := 0, locals := 87 }
def f_X3_readPart (N : Nat) (σ : St) (this : Nat) (p0 : Nat) : Option (St × Int) :=
 Option.bind (gI shx σ 3 this 1) fun parts_1 =>
 (if wr parts_1 < wr 12 then Option.bind (rcv shx σ 6 p0 (f_X6_advance N σ p0)) fun q2 =>
 Option.bind (rcv shx q2.1 3 this (f_X3_readNewName N q2.1 this p0)) fun q3 =>
 Option.bind (gR shx q3.1 3 this 3) fun maker_4 =>
 Option.bind (gI shx q3.1 3 this 1) fun parts_5 =>
 Option.bind (rcv shx q3.1 6 p0 (f_X6_expectNumberBehind N q3.1 p0 1 0 1)) fun q6 =>
 Option.bind (sI shx q6.1 1 maker_4 parts_5 q6.2) fun σ7 =>
 Option.bind (rcv shx σ7 6 p0 (f_X6_expectNumberBehind N σ7 p0 2 1 999)) fun q8 =>
 Option.bind (gR shx q8.1 3 this 4) fun length_9 =>
 Option.bind (gI shx q8.1 3 this 1) fun parts_10 =>
 Option.bind (gI shx q8.1 6 p0 8) fun kind_11 =>
 Jn (fun t12 : Int => Option.bind (sI shx q8.1 1 length_9 parts_10 t12) fun σ13 =>
 Option.bind (gI shx σ13 6 p0 8) fun kind_14 =>
 Jn (fun t15 : Int => Option.bind (rcv shx σ13 6 p0 (f_X6_expect N σ13 p0 t15)) fun q16 =>
 Option.bind (gR shx q16.1 3 this 5) fun growth_17 =>
 Option.bind (gI shx q16.1 3 this 1) fun parts_18 =>
 Option.bind (rcv shx q16.1 6 p0 (f_X6_expectNumberBehind N q16.1 p0 5 0 99)) fun q19 =>
 Option.bind (sI shx q19.1 1 growth_17 parts_18 q19.2) fun σ20 =>
 Option.bind (gR shx σ20 3 this 6) fun costs_21 =>
 Option.bind (gI shx σ20 3 this 1) fun parts_22 =>
 Option.bind (rcv shx σ20 6 p0 (f_X6_expectNumberBehind N σ20 p0 6 0 999)) fun q23 =>
 Option.bind (sI shx q23.1 1 costs_21 parts_22 q23.2) fun σ24 =>
 Option.bind (rcv shx σ24 6 p0 (f_X6_expect N σ24 p0 59)) fun q25 =>
 Option.bind (rcv shx q25.1 6 p0 (f_X6_sound N q25.1 p0)) fun q26 =>
 (if wr q26.2 = 0 then some (q25.1, 0) else Option.bind (gI shx q25.1 3 this 1) fun parts_27 =>
 Option.bind (pI shx q25.1 3 this 1 (parts_27 + 1)) fun σ28 =>
 some (σ28, 0))) fun J96_29 =>
 (if wr kind_14 = wr 4 then J96_29 4 else J96_29 3)) fun J81_31 =>
 (if wr kind_11 = wr 4 then J81_31 (Int.tdiv (wr (q8.2 * 254)) 10) else J81_31 (q8.2 * 10)) else Option.bind (rcv shx σ 6 p0 (f_X6_refuse N σ p0 2)) fun q34 =>
 some (q34.1, 0))
set_option maxRecDepth 100000 in
set_option maxHeartbeats 4000000 in
theorem c_X3_readPart (l : Launch) (D : va_G) (ca : Nat → ClassId) (ra : Nat → Nat) (N : Nat) (σ : St) (this : Nat) (p0 : Nat) : Ctr l (D, ca, ra, shx) false yX3_readPart cX3_readPart 3 none rm_X3_readPart σ [ar this, ar p0] (f_X3_readPart N σ this p0) := by
  refine ctr_of (by decide) (Nat.le_of_ble_eq_true rfl) (fun z C => ?_)
  show X z 0 0 σ 0 [(0, ar this), (1, ar p0)] [] _
  unfold f_X3_readPart
  refine x_aload_n C 0 (i := 0) (k0 := 0) rfl rfl (by decide +kernel) ?_
  refine x_gI C fl_RX3_78 (fun _ _ _ => rfl) (by decide +kernel) (fun parts_1 => ?_)
  refine x_bipush C (n := 12) (by decide +kernel) (by decide +kernel) ?_
  refine x_ic_lt C (tgt := 15) (off := 9) (by decide) (by decide +kernel) (fun h35 => ?_) (fun h35 => ?_)
  · skip
    refine x_aload_n C 1 (i := 1) (k0 := 1) rfl rfl (by decide +kernel) ?_
    refine x_callV C (ci := 6) (c_X6_advance l D ca ra N σ p0) mt_X6_advance mv_X6_advance rfl ml_RX3_134 rfl (fun h => Bool.noConfusion h) ⟨Nat.le_of_ble_eq_true rfl, Nat.le_of_ble_eq_true rfl⟩ (Nat.le_of_ble_eq_true rfl) 0 0 ⟨rfl, rfl⟩ ⟨Nat.zero_le _, Nat.zero_le _⟩ (by decide +kernel) _ rfl (fun q2 => []) (fun _ => rfl) (fun q2 => ?_)
    refine x_aload_n C 0 (i := 0) (k0 := 0) rfl rfl (by decide +kernel) ?_
    refine x_aload_n C 1 (i := 1) (k0 := 1) rfl rfl (by decide +kernel) ?_
    refine x_callV C (ci := 3) (c_X3_readNewName l D ca ra N q2.1 this p0) mt_X3_readNewName mv_X3_readNewName rfl ml_RX3_137 rfl (fun h => Bool.noConfusion h) ⟨Nat.le_of_ble_eq_true rfl, Nat.le_of_ble_eq_true rfl⟩ (Nat.le_of_ble_eq_true rfl) 0 0 ⟨rfl, rfl⟩ ⟨Nat.zero_le _, Nat.zero_le _⟩ (by decide +kernel) _ rfl (fun q3 => []) (fun _ => rfl) (fun q3 => ?_)
    refine x_aload_n C 0 (i := 0) (k0 := 0) rfl rfl (by decide +kernel) ?_
    refine x_gR C fl_RX3_15 (fun _ _ _ => rfl) (by decide +kernel) (fun maker_4 => ?_)
    refine x_aload_n C 0 (i := 0) (k0 := 0) rfl rfl (by decide +kernel) ?_
    show X z 0 0 q3.1 29 [(0, ar this), (1, ar p0)] [ar this, ar maker_4] _
    refine x_gI C fl_RX3_78 (fun _ _ _ => rfl) (by decide +kernel) (fun parts_5 => ?_)
    refine x_aload_n C 1 (i := 1) (k0 := 1) rfl rfl (by decide +kernel) ?_
    refine x_iconst C (n := 1) (by decide +kernel) ?_
    refine x_iconst C (n := 0) (by decide +kernel) ?_
    refine x_iconst C (n := 1) (by decide +kernel) ?_
    refine x_callV C (ci := 6) (c_X6_expectNumberBehind l D ca ra N q3.1 p0 1 0 1) mt_X6_expectNumberBehind mv_X6_expectNumberBehind rfl ml_RX3_140 rfl (fun h => Bool.noConfusion h) ⟨Nat.le_of_ble_eq_true rfl, Nat.le_of_ble_eq_true rfl⟩ (Nat.le_of_ble_eq_true rfl) 0 0 ⟨rfl, rfl⟩ ⟨Nat.zero_le _, Nat.zero_le _⟩ (by decide +kernel) _ rfl (fun q6 => [ai q6.2, ai parts_5, ar maker_4]) (fun _ => rfl) (fun q6 => ?_)
    refine x_astI C (by decide +kernel) (fun σ7 => ?_)
    refine x_aload_n C 1 (i := 1) (k0 := 1) rfl rfl (by decide +kernel) ?_
    show X z 0 0 σ7 41 [(0, ar this), (1, ar p0)] [ar p0] _
    refine x_iconst C (n := 2) (by decide +kernel) ?_
    refine x_iconst C (n := 1) (by decide +kernel) ?_
    refine x_sipush C (n := 999) (by decide +kernel) (by decide +kernel) ?_
    refine x_callV C (ci := 6) (c_X6_expectNumberBehind l D ca ra N σ7 p0 2 1 999) mt_X6_expectNumberBehind mv_X6_expectNumberBehind rfl ml_RX3_140 rfl (fun h => Bool.noConfusion h) ⟨Nat.le_of_ble_eq_true rfl, Nat.le_of_ble_eq_true rfl⟩ (Nat.le_of_ble_eq_true rfl) 0 0 ⟨rfl, rfl⟩ ⟨Nat.zero_le _, Nat.zero_le _⟩ (by decide +kernel) _ rfl (fun q8 => [ai q8.2]) (fun _ => rfl) (fun q8 => ?_)
    refine x_istore_n C (i := 2) (k0 := 2) rfl (Nat.le_of_ble_eq_true rfl) (by decide +kernel) (lv2 := [(2, ai q8.2), (0, ar this), (1, ar p0)]) rfl ?_
    refine x_aload_n C 1 (i := 0) (k0 := 0) rfl rfl (by decide +kernel) ?_
    refine x_gR C fl_RX3_19 (fun _ _ _ => rfl) (by decide +kernel) (fun length_9 => ?_)
    refine x_aload_n C 1 (i := 0) (k0 := 0) rfl rfl (by decide +kernel) ?_
    show X z 0 0 q8.1 55 [(2, ai q8.2), (0, ar this), (1, ar p0)] [ar this, ar length_9] _
    refine x_gI C fl_RX3_78 (fun _ _ _ => rfl) (by decide +kernel) (fun parts_10 => ?_)
    refine x_aload_n C 2 (i := 1) (k0 := 1) rfl rfl (by decide +kernel) ?_
    refine x_gI C fl_RX3_71 (fun _ _ _ => rfl) (by decide +kernel) (fun kind_11 => ?_)
    refine x_iconst C (n := 4) (by decide +kernel) ?_
    refine x_join (T := Int) (fun t => q8.1) 81 (fun t => [(0, ar this), (1, ar p0)]) (fun t => [ai t, ai parts_10, ar length_9]) (fun t12 => ?_) (fun J81_31 hJ81_31 => ?_)
    · show X z 0 0 q8.1 81 [(0, ar this), (1, ar p0)] [ai t12, ai parts_10, ar length_9] _
      refine x_astI C (by decide +kernel) (fun σ13 => ?_)
      refine x_aload_n C 1 (i := 1) (k0 := 1) rfl rfl (by decide +kernel) ?_
      refine x_aload_n C 1 (i := 1) (k0 := 1) rfl rfl (by decide +kernel) ?_
      refine x_gI C fl_RX3_71 (fun _ _ _ => rfl) (by decide +kernel) (fun kind_14 => ?_)
      refine x_iconst C (n := 4) (by decide +kernel) ?_
      refine x_join (T := Int) (fun t => σ13) 96 (fun t => [(0, ar this), (1, ar p0)]) (fun t => [ai t, ar p0]) (fun t15 => ?_) (fun J96_29 hJ96_29 => ?_)
      · show X z 0 0 σ13 96 [(0, ar this), (1, ar p0)] [ai t15, ar p0] _
        refine x_callV C (ci := 6) (c_X6_expect l D ca ra N σ13 p0 t15) mt_X6_expect mv_X6_expect rfl ml_RX3_144 rfl (fun h => Bool.noConfusion h) ⟨Nat.le_of_ble_eq_true rfl, Nat.le_of_ble_eq_true rfl⟩ (Nat.le_of_ble_eq_true rfl) 0 0 ⟨rfl, rfl⟩ ⟨Nat.zero_le _, Nat.zero_le _⟩ (by decide +kernel) _ rfl (fun q16 => []) (fun _ => rfl) (fun q16 => ?_)
        refine x_aload_n C 0 (i := 0) (k0 := 0) rfl rfl (by decide +kernel) ?_
        refine x_gR C fl_RX3_22 (fun _ _ _ => rfl) (by decide +kernel) (fun growth_17 => ?_)
        refine x_aload_n C 0 (i := 0) (k0 := 0) rfl rfl (by decide +kernel) ?_
        refine x_gI C fl_RX3_78 (fun _ _ _ => rfl) (by decide +kernel) (fun parts_18 => ?_)
        refine x_aload_n C 1 (i := 1) (k0 := 1) rfl rfl (by decide +kernel) ?_
        refine x_iconst C (n := 5) (by decide +kernel) ?_
        refine x_iconst C (n := 0) (by decide +kernel) ?_
        show X z 0 0 q16.1 110 [(0, ar this), (1, ar p0)] [ai 0, ai 5, ar p0, ai parts_18, ar growth_17] _
        refine x_bipush C (n := 99) (by decide +kernel) (by decide +kernel) ?_
        refine x_callV C (ci := 6) (c_X6_expectNumberBehind l D ca ra N q16.1 p0 5 0 99) mt_X6_expectNumberBehind mv_X6_expectNumberBehind rfl ml_RX3_140 rfl (fun h => Bool.noConfusion h) ⟨Nat.le_of_ble_eq_true rfl, Nat.le_of_ble_eq_true rfl⟩ (Nat.le_of_ble_eq_true rfl) 0 0 ⟨rfl, rfl⟩ ⟨Nat.zero_le _, Nat.zero_le _⟩ (by decide +kernel) _ rfl (fun q19 => [ai q19.2, ai parts_18, ar growth_17]) (fun _ => rfl) (fun q19 => ?_)
        refine x_astI C (by decide +kernel) (fun σ20 => ?_)
        refine x_aload_n C 0 (i := 0) (k0 := 0) rfl rfl (by decide +kernel) ?_
        refine x_gR C fl_RX3_25 (fun _ _ _ => rfl) (by decide +kernel) (fun costs_21 => ?_)
        refine x_aload_n C 0 (i := 0) (k0 := 0) rfl rfl (by decide +kernel) ?_
        refine x_gI C fl_RX3_78 (fun _ _ _ => rfl) (by decide +kernel) (fun parts_22 => ?_)
        refine x_aload_n C 1 (i := 1) (k0 := 1) rfl rfl (by decide +kernel) ?_
        show X z 0 0 σ20 125 [(0, ar this), (1, ar p0)] [ar p0, ai parts_22, ar costs_21] _
        refine x_bipush C (n := 6) (by decide +kernel) (by decide +kernel) ?_
        refine x_iconst C (n := 0) (by decide +kernel) ?_
        refine x_sipush C (n := 999) (by decide +kernel) (by decide +kernel) ?_
        refine x_callV C (ci := 6) (c_X6_expectNumberBehind l D ca ra N σ20 p0 6 0 999) mt_X6_expectNumberBehind mv_X6_expectNumberBehind rfl ml_RX3_140 rfl (fun h => Bool.noConfusion h) ⟨Nat.le_of_ble_eq_true rfl, Nat.le_of_ble_eq_true rfl⟩ (Nat.le_of_ble_eq_true rfl) 0 0 ⟨rfl, rfl⟩ ⟨Nat.zero_le _, Nat.zero_le _⟩ (by decide +kernel) _ rfl (fun q23 => [ai q23.2, ai parts_22, ar costs_21]) (fun _ => rfl) (fun q23 => ?_)
        refine x_astI C (by decide +kernel) (fun σ24 => ?_)
        refine x_aload_n C 1 (i := 1) (k0 := 1) rfl rfl (by decide +kernel) ?_
        refine x_bipush C (n := 59) (by decide +kernel) (by decide +kernel) ?_
        refine x_callV C (ci := 6) (c_X6_expect l D ca ra N σ24 p0 59) mt_X6_expect mv_X6_expect rfl ml_RX3_144 rfl (fun h => Bool.noConfusion h) ⟨Nat.le_of_ble_eq_true rfl, Nat.le_of_ble_eq_true rfl⟩ (Nat.le_of_ble_eq_true rfl) 0 0 ⟨rfl, rfl⟩ ⟨Nat.zero_le _, Nat.zero_le _⟩ (by decide +kernel) _ rfl (fun q25 => []) (fun _ => rfl) (fun q25 => ?_)
        show X z 0 0 q25.1 141 [(0, ar this), (1, ar p0)] [] _
        refine x_aload_n C 1 (i := 1) (k0 := 1) rfl rfl (by decide +kernel) ?_
        refine x_callVp C (ci := 6) (c_X6_sound l D ca ra N q25.1 p0) (p_X6_sound N q25.1 p0) mt_X6_sound mv_X6_sound rfl ml_RX3_67 rfl (fun h => Bool.noConfusion h) ⟨Nat.le_of_ble_eq_true rfl, Nat.le_of_ble_eq_true rfl⟩ (Nat.le_of_ble_eq_true rfl) 0 0 ⟨rfl, rfl⟩ ⟨Nat.zero_le _, Nat.zero_le _⟩ (by decide +kernel) _ rfl (fun q26 => [ai q26.2]) (fun _ => rfl) (fun q26 => ?_)
        refine x_if_eq C (tgt := 158) (off := 13) (by decide) (by decide +kernel) (fun h29 => ?_) (fun h29 => ?_)
        · skip
          exact x_vret C ⟨Nat.zero_le _, Nat.zero_le _⟩ (by decide +kernel)
        · skip
          refine x_aload_n C 0 (i := 0) (k0 := 0) rfl rfl (by decide +kernel) ?_
          refine x_dup C rfl (by decide +kernel) ?_
          refine x_gI C fl_RX3_78 (fun _ _ _ => rfl) (by decide +kernel) (fun parts_27 => ?_)
          refine x_iconst C (n := 1) (by decide +kernel) ?_
          refine x_iadd C (by decide +kernel) ?_
          refine x_pI C fl_RX3_78 rfl (fun q h => by cases h; rfl) (by decide +kernel) (fun σ28 => ?_)
          exact x_vret C ⟨Nat.zero_le _, Nat.zero_le _⟩ (by decide +kernel)
      · skip
        refine x_ic_ne C (tgt := 95) (off := 7) (by decide) (by decide +kernel) (fun h31 => ?_) (fun h31 => ?_)
        · skip
          refine x_iconst C (n := 3) (by decide +kernel) ?_
          exact hJ96_29 3
        · skip
          refine x_iconst C (n := 4) (by decide +kernel) ?_
          refine x_goto C (tgt := 96) (off := 4) (by decide) (by decide +kernel) ?_
          exact hJ96_29 4
    · skip
      refine x_ic_ne C (tgt := 77) (off := 14) (by decide) (by decide +kernel) (fun h33 => ?_) (fun h33 => ?_)
      · skip
        refine x_iload_n C 0 (i := 2) (k0 := 2) rfl rfl (by decide +kernel) ?_
        refine x_bipush C (n := 10) (by decide +kernel) (by decide +kernel) ?_
        refine x_imul C (by decide +kernel) ?_
        refine x_sub [1, 2] (lv2 := [(0, ar this), (1, ar p0)]) rfl ?_
        exact hJ81_31 (q8.2 * 10)
      · skip
        refine x_iload_n C 0 (i := 2) (k0 := 2) rfl rfl (by decide +kernel) ?_
        refine x_sipush C (n := 254) (by decide +kernel) (by decide +kernel) ?_
        refine x_imul C (by decide +kernel) ?_
        refine x_bipush C (n := 10) (by decide +kernel) (by decide +kernel) ?_
        refine x_idivC C (by decide) (by decide) (by decide +kernel) ?_
        refine x_goto C (tgt := 81) (off := 7) (by decide) (by decide +kernel) ?_
        refine x_sub [1, 2] (lv2 := [(0, ar this), (1, ar p0)]) rfl ?_
        exact hJ81_31 (Int.tdiv (wr (q8.2 * 254)) 10)
  · skip
    refine x_aload_n C 1 (i := 1) (k0 := 1) rfl rfl (by decide +kernel) ?_
    refine x_iconst C (n := 2) (by decide +kernel) ?_
    refine x_callV C (ci := 6) (c_X6_refuse l D ca ra N σ p0 2) mt_X6_refuse mv_X6_refuse rfl ml_RX3_130 rfl (fun h => Bool.noConfusion h) ⟨Nat.le_of_ble_eq_true rfl, Nat.le_of_ble_eq_true rfl⟩ (Nat.le_of_ble_eq_true rfl) 0 0 ⟨rfl, rfl⟩ ⟨Nat.zero_le _, Nat.zero_le _⟩ (by decide +kernel) _ rfl (fun q34 => []) (fun _ => rfl) (fun q34 => ?_)
    exact x_vret C ⟨Nat.zero_le _, Nat.zero_le _⟩ (by decide +kernel)

def rm_X3_setGround : Room := { frames := 1, cells := 0, slots := 0, locals := 22 }
def f_X3_setGround (N : Nat) (σ : St) (this : Nat) (p0 : Int) (p1 : Int) : Option (St × Int) :=
 Option.bind (f_X11_within N σ p0 0 63) fun q1 =>
 (if wr q1.2 = 0 then some (σ, 0) else Option.bind (gR shx σ 3 this 19) fun ground_2 =>
 Option.bind (sI shx σ 1 ground_2 p0 p1) fun σ3 =>
 some (σ3, 0))
set_option maxRecDepth 100000 in
set_option maxHeartbeats 4000000 in
theorem c_X3_setGround (l : Launch) (D : va_G) (ca : Nat → ClassId) (ra : Nat → Nat) (N : Nat) (σ : St) (this : Nat) (p0 : Int) (p1 : Int) : Ctr l (D, ca, ra, shx) false yX3_setGround cX3_setGround 3 none rm_X3_setGround σ [ar this, ai p0, ai p1] (f_X3_setGround N σ this p0 p1) := by
  refine ctr_of (by decide) (Nat.le_of_ble_eq_true rfl) (fun z C => ?_)
  show X z 0 0 σ 0 [(0, ar this), (1, ai p0), (2, ai p1)] [] _
  unfold f_X3_setGround
  refine x_iload_n C 1 (i := 1) (k0 := 1) rfl rfl (by decide +kernel) ?_
  refine x_iconst C (n := 0) (by decide +kernel) ?_
  refine x_bipush C (n := 63) (by decide +kernel) (by decide +kernel) ?_
  refine x_callSNp C (c_X11_within l D ca ra N σ p0 0 63) (p_X11_within N σ p0 0 63) mt_X11_within ms_X11_within (List.mem_of_getElem? (i := 9) rfl) rfl (fun h => Bool.noConfusion h) ⟨Nat.le_of_ble_eq_true rfl, Nat.le_of_ble_eq_true rfl⟩ (Nat.le_of_ble_eq_true rfl) 0 0 ⟨rfl, rfl⟩ ⟨Nat.zero_le _, Nat.zero_le _⟩ (by decide +kernel) _ rfl (fun q1 => [ai q1.2]) (fun _ => rfl) (fun q1 => ?_)
  refine x_if_eq C (tgt := 17) (off := 10) (by decide) (by decide +kernel) (fun h4 => ?_) (fun h4 => ?_)
  · skip
    exact x_vret C ⟨Nat.zero_le _, Nat.zero_le _⟩ (by decide +kernel)
  · skip
    refine x_aload_n C 0 (i := 0) (k0 := 0) rfl rfl (by decide +kernel) ?_
    refine x_gR C fl_RX3_52 (fun _ _ _ => rfl) (by decide +kernel) (fun ground_2 => ?_)
    refine x_iload_n C 1 (i := 1) (k0 := 1) rfl rfl (by decide +kernel) ?_
    refine x_iload_n C 2 (i := 2) (k0 := 2) rfl rfl (by decide +kernel) ?_
    refine x_astI C (by decide +kernel) (fun σ3 => ?_)
    exact x_vret C ⟨Nat.zero_le _, Nat.zero_le _⟩ (by decide +kernel)

def L_X3_readGrounds_15 (N : Nat) (this : Nat) (p0 : Nat) (p1 : Int) (J75_3 : (St → Option (St × Int))) : (St × Int) → Option (St × Int) := fixN N fun b15_5 t5 =>
 (if wr t5.2 < wr 8 then Option.bind (gI shx t5.1 6 p0 11) fun word_7 =>
 Lt (landZ (lshrZ word_7 (5 * (7 - t5.2))) 31) fun x8 =>
 Option.bind (f_X11_within N t5.1 x8 1 8) fun q9 =>
 Jn (fun t10 : St => Option.bind (rcv shx t10 3 this (f_X3_setGround N t10 this ((p1 * 8) + t5.2) (x8 - 1))) fun q11 =>
 Lt (t5.2 + 1) fun x12 =>
 b15_5 (q11.1, x12)) fun J55_12 =>
 (if wr q9.2 = 0 then Option.bind (rcv shx t5.1 6 p0 (f_X6_refuse N t5.1 p0 4)) fun q14 =>
 J55_12 q14.1 else J55_12 t5.1) else J75_3 t5.1)
def rm_X3_readGrounds : Room := { frames := 2, cells := 0, slots := 0, locals := 44 }
def f_X3_readGrounds (N : Nat) (σ : St) (this : Nat) (p0 : Nat) (p1 : Int) : Option (St × Int) :=
 Option.bind (rcv shx σ 6 p0 (f_X6_atWord N σ p0)) fun q1 =>
 (if wr q1.2 = 0 then Option.bind (rcv shx σ 6 p0 (f_X6_refuse N σ p0 2)) fun q17 =>
 some (q17.1, 0) else Jn (fun t2 : St => Option.bind (rcv shx t2 6 p0 (f_X6_advance N t2 p0)) fun q3 =>
 some (q3.1, 0)) fun J75_3 =>
 L_X3_readGrounds_15 N this p0 p1 J75_3 (σ, 0))
set_option maxRecDepth 100000 in
set_option maxHeartbeats 4000000 in
theorem c_X3_readGrounds (l : Launch) (D : va_G) (ca : Nat → ClassId) (ra : Nat → Nat) (N : Nat) (σ : St) (this : Nat) (p0 : Nat) (p1 : Int) : Ctr l (D, ca, ra, shx) false yX3_readGrounds cX3_readGrounds 5 none rm_X3_readGrounds σ [ar this, ar p0, ai p1] (f_X3_readGrounds N σ this p0 p1) := by
  refine ctr_of (by decide) (Nat.le_of_ble_eq_true rfl) (fun z C => ?_)
  show X z 0 0 σ 0 [(0, ar this), (1, ar p0), (2, ai p1)] [] _
  unfold f_X3_readGrounds
  refine x_aload_n C 1 (i := 1) (k0 := 1) rfl rfl (by decide +kernel) ?_
  refine x_callVp C (ci := 6) (c_X6_atWord l D ca ra N σ p0) (p_X6_atWord N σ p0) mt_X6_atWord mv_X6_atWord rfl ml_RX3_169 rfl (fun h => Bool.noConfusion h) ⟨Nat.le_of_ble_eq_true rfl, Nat.le_of_ble_eq_true rfl⟩ (Nat.le_of_ble_eq_true rfl) 0 0 ⟨rfl, rfl⟩ ⟨Nat.zero_le _, Nat.zero_le _⟩ (by decide +kernel) _ rfl (fun q1 => [ai q1.2]) (fun _ => rfl) (fun q1 => ?_)
  refine x_if_ne C (tgt := 13) (off := 9) (by decide) (by decide +kernel) (fun h18 => ?_) (fun h18 => ?_)
  · skip
    refine x_iconst C (n := 0) (by decide +kernel) ?_
    refine x_istore_n C (i := 3) (k0 := 3) rfl (Nat.le_of_ble_eq_true rfl) (by decide +kernel) (lv2 := [(3, ai 0), (0, ar this), (1, ar p0), (2, ai p1)]) rfl ?_
    refine x_join (T := St) (fun t => t) 75 (fun t => [(1, ar p0)]) (fun t => []) (fun t2 => ?_) (fun J75_3 hJ75_3 => ?_)
    · show X z 0 0 t2 75 [(1, ar p0)] [] _
      refine x_aload_n C 0 (i := 1) (k0 := 1) rfl rfl (by decide +kernel) ?_
      refine x_callV C (ci := 6) (c_X6_advance l D ca ra N t2 p0) mt_X6_advance mv_X6_advance rfl ml_RX3_134 rfl (fun h => Bool.noConfusion h) ⟨Nat.le_of_ble_eq_true rfl, Nat.le_of_ble_eq_true rfl⟩ (Nat.le_of_ble_eq_true rfl) 0 0 ⟨rfl, rfl⟩ ⟨Nat.zero_le _, Nat.zero_le _⟩ (by decide +kernel) _ rfl (fun q3 => []) (fun _ => rfl) (fun q3 => ?_)
      exact x_vret C ⟨Nat.zero_le _, Nat.zero_le _⟩ (by decide +kernel)
    · skip
      refine x_sub [1, 2, 3, 0] (lv2 := [(0, ar this), (1, ar p0), (2, ai p1), (3, ai 0)]) rfl ?_
      -- LOOP L_X3_readGrounds_15 hb15_5
      refine x_loop (T := St × Int) (fun t => t.1) (fun t => [(0, ar this), (1, ar p0), (2, ai p1), (3, ai t.2)]) (σ, 0) rfl (fun b15_5 hb15_5 t5 => ?_)
      show X z 0 0 t5.1 15 [(0, ar this), (1, ar p0), (2, ai p1), (3, ai t5.2)] [] _
      refine x_iload_n C 3 (i := 3) (k0 := 3) rfl rfl (by decide +kernel) ?_
      refine x_bipush C (n := 8) (by decide +kernel) (by decide +kernel) ?_
      refine x_ic_ge C (tgt := 75) (off := 57) (by decide) (by decide +kernel) (fun h16 => ?_) (fun h16 => ?_)
      · skip
        refine x_sub [1] (lv2 := [(1, ar p0)]) rfl ?_
        exact hJ75_3 t5.1
      · skip
        refine x_aload_n C 1 (i := 1) (k0 := 1) rfl rfl (by decide +kernel) ?_
        refine x_gL C fl_RX3_147 (fun _ _ _ => rfl) (by decide +kernel) (fun word_7 => ?_)
        refine x_iconst C (n := 5) (by decide +kernel) ?_
        refine x_bipush C (n := 7) (by decide +kernel) (by decide +kernel) ?_
        refine x_iload_n C 3 (i := 3) (k0 := 3) rfl rfl (by decide +kernel) ?_
        refine x_isub C (by decide +kernel) ?_
        refine x_imul C (by decide +kernel) ?_
        refine x_lshr C (by decide +kernel) ?_
        show X z 0 0 t5.1 32 [(0, ar this), (1, ar p0), (2, ai p1), (3, ai t5.2)] [al (lshrZ word_7 (5 * (7 - t5.2)))] _
        refine x_ldc2 C (n := 31) (v := 31) kl_RX3_172 (by decide +kernel) (by decide +kernel) ?_
        refine x_land C (by decide +kernel) ?_
        refine x_l2i C (by decide +kernel) ?_
        refine x_istoreL C (i := 4) (Nat.le_of_ble_eq_true rfl) (by decide +kernel) (lv2 := fun x8 => [(4, ai x8), (0, ar this), (1, ar p0), (2, ai p1), (3, ai t5.2)]) (fun _ => rfl) (fun x8 => ?_)
        refine x_iload C 0 (i := 4) rfl (by decide +kernel) ?_
        refine x_iconst C (n := 1) (by decide +kernel) ?_
        refine x_bipush C (n := 8) (by decide +kernel) (by decide +kernel) ?_
        refine x_callSNp C (c_X11_within l D ca ra N t5.1 x8 1 8) (p_X11_within N t5.1 x8 1 8) mt_X11_within ms_X11_within (List.mem_of_getElem? (i := 9) rfl) rfl (fun h => Bool.noConfusion h) ⟨Nat.le_of_ble_eq_true rfl, Nat.le_of_ble_eq_true rfl⟩ (Nat.le_of_ble_eq_true rfl) 0 0 ⟨rfl, rfl⟩ ⟨Nat.zero_le _, Nat.zero_le _⟩ (by decide +kernel) _ rfl (fun q9 => [ai q9.2]) (fun _ => rfl) (fun q9 => ?_)
        show X z 0 0 t5.1 47 [(4, ai x8), (0, ar this), (1, ar p0), (2, ai p1), (3, ai t5.2)] [ai q9.2] _
        refine x_join (T := St) (fun t => t) 55 (fun t => [(0, ar this), (1, ar p0), (2, ai p1), (3, ai t5.2), (4, ai x8)]) (fun t => []) (fun t10 => ?_) (fun J55_12 hJ55_12 => ?_)
        · show X z 0 0 t10 55 [(0, ar this), (1, ar p0), (2, ai p1), (3, ai t5.2), (4, ai x8)] [] _
          refine x_aload_n C 0 (i := 0) (k0 := 0) rfl rfl (by decide +kernel) ?_
          refine x_iload_n C 2 (i := 2) (k0 := 2) rfl rfl (by decide +kernel) ?_
          refine x_bipush C (n := 8) (by decide +kernel) (by decide +kernel) ?_
          refine x_imul C (by decide +kernel) ?_
          refine x_iload_n C 3 (i := 3) (k0 := 3) rfl rfl (by decide +kernel) ?_
          refine x_iadd C (by decide +kernel) ?_
          refine x_iload C 4 (i := 4) rfl (by decide +kernel) ?_
          refine x_iconst C (n := 1) (by decide +kernel) ?_
          show X z 0 0 t10 65 [(0, ar this), (1, ar p0), (2, ai p1), (3, ai t5.2), (4, ai x8)] [ai 1, ai x8, ai ((p1 * 8) + t5.2), ar this] _
          refine x_isub C (by decide +kernel) ?_
          refine x_callV C (ci := 3) (c_X3_setGround l D ca ra N t10 this ((p1 * 8) + t5.2) (x8 - 1)) mt_X3_setGround mv_X3_setGround rfl ml_RX3_174 rfl (fun h => Bool.noConfusion h) ⟨Nat.le_of_ble_eq_true rfl, Nat.le_of_ble_eq_true rfl⟩ (Nat.le_of_ble_eq_true rfl) 0 0 ⟨rfl, rfl⟩ ⟨Nat.zero_le _, Nat.zero_le _⟩ (by decide +kernel) _ rfl (fun q11 => []) (fun _ => rfl) (fun q11 => ?_)
          refine x_iinc C 3 (i := 3) (n := 1) (Nat.le_of_ble_eq_true rfl) rfl (by decide +kernel) (lv2 := fun x12 => [(3, ai x12), (0, ar this), (1, ar p0), (2, ai p1), (4, ai x8)]) (fun _ => rfl) (fun x12 => ?_)
          refine x_goto C (tgt := 15) (off := (-57)) (by decide) (by decide +kernel) ?_
          refine x_sub [1, 2, 3, 0] (lv2 := [(0, ar this), (1, ar p0), (2, ai p1), (3, ai x12)]) rfl ?_
          exact hb15_5 (q11.1, x12)
        · skip
          refine x_if_ne C (tgt := 55) (off := 8) (by decide) (by decide +kernel) (fun h15 => ?_) (fun h15 => ?_)
          · skip
            refine x_sub [1, 2, 3, 4, 0] (lv2 := [(0, ar this), (1, ar p0), (2, ai p1), (3, ai t5.2), (4, ai x8)]) rfl ?_
            exact hJ55_12 t5.1
          · skip
            refine x_aload_n C 2 (i := 1) (k0 := 1) rfl rfl (by decide +kernel) ?_
            refine x_iconst C (n := 4) (by decide +kernel) ?_
            refine x_callV C (ci := 6) (c_X6_refuse l D ca ra N t5.1 p0 4) mt_X6_refuse mv_X6_refuse rfl ml_RX3_130 rfl (fun h => Bool.noConfusion h) ⟨Nat.le_of_ble_eq_true rfl, Nat.le_of_ble_eq_true rfl⟩ (Nat.le_of_ble_eq_true rfl) 0 0 ⟨rfl, rfl⟩ ⟨Nat.zero_le _, Nat.zero_le _⟩ (by decide +kernel) _ rfl (fun q14 => []) (fun _ => rfl) (fun q14 => ?_)
            refine x_sub [1, 2, 3, 4, 0] (lv2 := [(0, ar this), (1, ar p0), (2, ai p1), (3, ai t5.2), (4, ai x8)]) rfl ?_
            exact hJ55_12 q14.1
  · skip
    refine x_aload_n C 1 (i := 1) (k0 := 1) rfl rfl (by decide +kernel) ?_
    refine x_iconst C (n := 2) (by decide +kernel) ?_
    refine x_callV C (ci := 6) (c_X6_refuse l D ca ra N σ p0 2) mt_X6_refuse mv_X6_refuse rfl ml_RX3_130 rfl (fun h => Bool.noConfusion h) ⟨Nat.le_of_ble_eq_true rfl, Nat.le_of_ble_eq_true rfl⟩ (Nat.le_of_ble_eq_true rfl) 0 0 ⟨rfl, rfl⟩ ⟨Nat.zero_le _, Nat.zero_le _⟩ (by decide +kernel) _ rfl (fun q17 => []) (fun _ => rfl) (fun q17 => ?_)
    exact x_vret C ⟨Nat.zero_le _, Nat.zero_le _⟩ (by decide +kernel)

def rm_X3_readRow : Room := { frames := 3, cells := 0, slots := 0, locals := 68 }
def f_X3_readRow (N : Nat) (σ : St) (this : Nat) (p0 : Nat) : Option (St × Int) :=
 Option.bind (rcv shx σ 6 p0 (f_X6_advance N σ p0)) fun q1 =>
 Option.bind (gI shx q1.1 6 p0 8) fun kind_2 =>
 Jn (fun t3 : St => Option.bind (rcv shx t3 6 p0 (f_X6_expectNumber N t3 p0 0 7)) fun q4 =>
 Option.bind (rcv shx q4.1 6 p0 (f_X6_sound N q4.1 p0)) fun q5 =>
 (if wr q5.2 = 0 then some (q4.1, 0) else Option.bind (gI shx q4.1 3 this 18) fun rowsTold_6 =>
 Option.bind (pI shx q4.1 3 this 18 (orZ rowsTold_6 (shlZ 1 q4.2))) fun σ7 =>
 Option.bind (rcv shx σ7 3 this (f_X3_readGrounds N σ7 this p0 q4.2)) fun q8 =>
 Option.bind (rcv shx q8.1 6 p0 (f_X6_expect N q8.1 p0 59)) fun q9 =>
 some (q9.1, 0))) fun J46_10 =>
 (if wr kind_2 = wr 101 then Option.bind (gI shx q1.1 6 p0 10) fun number_12 =>
 Option.bind (f_X11_within N q1.1 number_12 0 7) fun q13 =>
 (if wr q13.2 = 0 then J46_10 q1.1 else Option.bind (gI shx q1.1 3 this 18) fun rowsTold_14 =>
 Option.bind (gI shx q1.1 6 p0 10) fun number_15 =>
 (if wr (andZ (shrZ rowsTold_14 number_15) 1) = wr 1 then Option.bind (rcv shx q1.1 6 p0 (f_X6_refuse N q1.1 p0 3)) fun q16 =>
 J46_10 q16.1 else J46_10 q1.1)) else J46_10 q1.1)
set_option maxRecDepth 100000 in
set_option maxHeartbeats 4000000 in
theorem c_X3_readRow (l : Launch) (D : va_G) (ca : Nat → ClassId) (ra : Nat → Nat) (N : Nat) (σ : St) (this : Nat) (p0 : Nat) : Ctr l (D, ca, ra, shx) false yX3_readRow cX3_readRow 3 none rm_X3_readRow σ [ar this, ar p0] (f_X3_readRow N σ this p0) := by
  refine ctr_of (by decide) (Nat.le_of_ble_eq_true rfl) (fun z C => ?_)
  show X z 0 0 σ 0 [(0, ar this), (1, ar p0)] [] _
  unfold f_X3_readRow
  refine x_aload_n C 1 (i := 1) (k0 := 1) rfl rfl (by decide +kernel) ?_
  refine x_callV C (ci := 6) (c_X6_advance l D ca ra N σ p0) mt_X6_advance mv_X6_advance rfl ml_RX3_134 rfl (fun h => Bool.noConfusion h) ⟨Nat.le_of_ble_eq_true rfl, Nat.le_of_ble_eq_true rfl⟩ (Nat.le_of_ble_eq_true rfl) 0 0 ⟨rfl, rfl⟩ ⟨Nat.zero_le _, Nat.zero_le _⟩ (by decide +kernel) _ rfl (fun q1 => []) (fun _ => rfl) (fun q1 => ?_)
  refine x_aload_n C 1 (i := 1) (k0 := 1) rfl rfl (by decide +kernel) ?_
  refine x_gI C fl_RX3_71 (fun _ _ _ => rfl) (by decide +kernel) (fun kind_2 => ?_)
  refine x_bipush C (n := 101) (by decide +kernel) (by decide +kernel) ?_
  refine x_join (T := St) (fun t => t) 46 (fun t => [(0, ar this), (1, ar p0)]) (fun t => []) (fun t3 => ?_) (fun J46_10 hJ46_10 => ?_)
  · show X z 0 0 t3 46 [(0, ar this), (1, ar p0)] [] _
    refine x_aload_n C 1 (i := 1) (k0 := 1) rfl rfl (by decide +kernel) ?_
    refine x_iconst C (n := 0) (by decide +kernel) ?_
    refine x_bipush C (n := 7) (by decide +kernel) (by decide +kernel) ?_
    refine x_callV C (ci := 6) (c_X6_expectNumber l D ca ra N t3 p0 0 7) mt_X6_expectNumber mv_X6_expectNumber rfl ml_RX3_162 rfl (fun h => Bool.noConfusion h) ⟨Nat.le_of_ble_eq_true rfl, Nat.le_of_ble_eq_true rfl⟩ (Nat.le_of_ble_eq_true rfl) 0 0 ⟨rfl, rfl⟩ ⟨Nat.zero_le _, Nat.zero_le _⟩ (by decide +kernel) _ rfl (fun q4 => [ai q4.2]) (fun _ => rfl) (fun q4 => ?_)
    refine x_istore_n C (i := 2) (k0 := 2) rfl (Nat.le_of_ble_eq_true rfl) (by decide +kernel) (lv2 := [(2, ai q4.2), (0, ar this), (1, ar p0)]) rfl ?_
    refine x_aload_n C 2 (i := 1) (k0 := 1) rfl rfl (by decide +kernel) ?_
    refine x_callVp C (ci := 6) (c_X6_sound l D ca ra N q4.1 p0) (p_X6_sound N q4.1 p0) mt_X6_sound mv_X6_sound rfl ml_RX3_67 rfl (fun h => Bool.noConfusion h) ⟨Nat.le_of_ble_eq_true rfl, Nat.le_of_ble_eq_true rfl⟩ (Nat.le_of_ble_eq_true rfl) 0 0 ⟨rfl, rfl⟩ ⟨Nat.zero_le _, Nat.zero_le _⟩ (by decide +kernel) _ rfl (fun q5 => [ai q5.2]) (fun _ => rfl) (fun q5 => ?_)
    refine x_if_ne C (tgt := 62) (off := 4) (by decide) (by decide +kernel) (fun h10 => ?_) (fun h10 => ?_)
    · skip
      refine x_aload_n C 1 (i := 0) (k0 := 0) rfl rfl (by decide +kernel) ?_
      refine x_dup C rfl (by decide +kernel) ?_
      refine x_gI C fl_RX3_106 (fun _ _ _ => rfl) (by decide +kernel) (fun rowsTold_6 => ?_)
      refine x_iconst C (n := 1) (by decide +kernel) ?_
      refine x_iload_n C 0 (i := 2) (k0 := 2) rfl rfl (by decide +kernel) ?_
      refine x_ishl C (by decide +kernel) ?_
      refine x_ior C (by decide +kernel) ?_
      refine x_pI C fl_RX3_106 rfl (fun q h => by cases h; rfl) (by decide +kernel) (fun σ7 => ?_)
      show X z 0 0 σ7 74 [(2, ai q4.2), (0, ar this), (1, ar p0)] [] _
      refine x_aload_n C 1 (i := 0) (k0 := 0) rfl rfl (by decide +kernel) ?_
      refine x_aload_n C 2 (i := 1) (k0 := 1) rfl rfl (by decide +kernel) ?_
      refine x_iload_n C 0 (i := 2) (k0 := 2) rfl rfl (by decide +kernel) ?_
      refine x_callV C (ci := 3) (c_X3_readGrounds l D ca ra N σ7 this p0 q4.2) mt_X3_readGrounds mv_X3_readGrounds rfl ml_RX3_165 rfl (fun h => Bool.noConfusion h) ⟨Nat.le_of_ble_eq_true rfl, Nat.le_of_ble_eq_true rfl⟩ (Nat.le_of_ble_eq_true rfl) 0 0 ⟨rfl, rfl⟩ ⟨Nat.zero_le _, Nat.zero_le _⟩ (by decide +kernel) _ rfl (fun q8 => []) (fun _ => rfl) (fun q8 => ?_)
      refine x_aload_n C 2 (i := 1) (k0 := 1) rfl rfl (by decide +kernel) ?_
      refine x_bipush C (n := 59) (by decide +kernel) (by decide +kernel) ?_
      refine x_callV C (ci := 6) (c_X6_expect l D ca ra N q8.1 p0 59) mt_X6_expect mv_X6_expect rfl ml_RX3_144 rfl (fun h => Bool.noConfusion h) ⟨Nat.le_of_ble_eq_true rfl, Nat.le_of_ble_eq_true rfl⟩ (Nat.le_of_ble_eq_true rfl) 0 0 ⟨rfl, rfl⟩ ⟨Nat.zero_le _, Nat.zero_le _⟩ (by decide +kernel) _ rfl (fun q9 => []) (fun _ => rfl) (fun q9 => ?_)
      exact x_vret C ⟨Nat.zero_le _, Nat.zero_le _⟩ (by decide +kernel)
    · skip
      exact x_vret C ⟨Nat.zero_le _, Nat.zero_le _⟩ (by decide +kernel)
  · skip
    refine x_ic_ne C (tgt := 46) (off := 36) (by decide) (by decide +kernel) (fun h19 => ?_) (fun h19 => ?_)
    · skip
      exact hJ46_10 q1.1
    · skip
      refine x_aload_n C 1 (i := 1) (k0 := 1) rfl rfl (by decide +kernel) ?_
      refine x_gI C fl_RX3_159 (fun _ _ _ => rfl) (by decide +kernel) (fun number_12 => ?_)
      refine x_iconst C (n := 0) (by decide +kernel) ?_
      refine x_bipush C (n := 7) (by decide +kernel) (by decide +kernel) ?_
      refine x_callSNp C (c_X11_within l D ca ra N q1.1 number_12 0 7) (p_X11_within N q1.1 number_12 0 7) mt_X11_within ms_X11_within (List.mem_of_getElem? (i := 9) rfl) rfl (fun h => Bool.noConfusion h) ⟨Nat.le_of_ble_eq_true rfl, Nat.le_of_ble_eq_true rfl⟩ (Nat.le_of_ble_eq_true rfl) 0 0 ⟨rfl, rfl⟩ ⟨Nat.zero_le _, Nat.zero_le _⟩ (by decide +kernel) _ rfl (fun q13 => [ai q13.2]) (fun _ => rfl) (fun q13 => ?_)
      refine x_if_eq C (tgt := 46) (off := 23) (by decide) (by decide +kernel) (fun h18 => ?_) (fun h18 => ?_)
      · skip
        exact hJ46_10 q1.1
      · skip
        refine x_aload_n C 0 (i := 0) (k0 := 0) rfl rfl (by decide +kernel) ?_
        refine x_gI C fl_RX3_106 (fun _ _ _ => rfl) (by decide +kernel) (fun rowsTold_14 => ?_)
        refine x_aload_n C 1 (i := 1) (k0 := 1) rfl rfl (by decide +kernel) ?_
        refine x_gI C fl_RX3_159 (fun _ _ _ => rfl) (by decide +kernel) (fun number_15 => ?_)
        refine x_ishr C (by decide +kernel) ?_
        refine x_iconst C (n := 1) (by decide +kernel) ?_
        refine x_iand C (by decide +kernel) ?_
        refine x_iconst C (n := 1) (by decide +kernel) ?_
        show X z 0 0 q1.1 38 [(0, ar this), (1, ar p0)] [ai 1, ai (andZ (shrZ rowsTold_14 number_15) 1)] _
        refine x_ic_ne C (tgt := 46) (off := 8) (by decide) (by decide +kernel) (fun h17 => ?_) (fun h17 => ?_)
        · skip
          exact hJ46_10 q1.1
        · skip
          refine x_aload_n C 1 (i := 1) (k0 := 1) rfl rfl (by decide +kernel) ?_
          refine x_iconst C (n := 3) (by decide +kernel) ?_
          refine x_callV C (ci := 6) (c_X6_refuse l D ca ra N q1.1 p0 3) mt_X6_refuse mv_X6_refuse rfl ml_RX3_130 rfl (fun h => Bool.noConfusion h) ⟨Nat.le_of_ble_eq_true rfl, Nat.le_of_ble_eq_true rfl⟩ (Nat.le_of_ble_eq_true rfl) 0 0 ⟨rfl, rfl⟩ ⟨Nat.zero_le _, Nat.zero_le _⟩ (by decide +kernel) _ rfl (fun q16 => []) (fun _ => rfl) (fun q16 => ?_)
          exact hJ46_10 q16.1

def rm_X3_readTank : Room := { frames := 4, cells := 0, slots := 0, locals := 87 }
def f_X3_readTank (N : Nat) (σ : St) (this : Nat) (p0 : Nat) : Option (St × Int) :=
 Option.bind (gI shx σ 3 this 15) fun tanks_1 =>
 (if wr tanks_1 < wr 3 then Option.bind (rcv shx σ 6 p0 (f_X6_advance N σ p0)) fun q2 =>
 Option.bind (gR shx q2.1 3 this 16) fun tankAt_3 =>
 Option.bind (gI shx q2.1 3 this 15) fun tanks_4 =>
 Option.bind (rcv shx q2.1 6 p0 (f_X6_expectNumberBehind N q2.1 p0 12 0 99)) fun q5 =>
 Option.bind (sI shx q5.1 1 tankAt_3 tanks_4 q5.2) fun σ6 =>
 Option.bind (gR shx σ6 3 this 17) fun tankHolds_7 =>
 Option.bind (gI shx σ6 3 this 15) fun tanks_8 =>
 Option.bind (rcv shx σ6 6 p0 (f_X6_expectNumberBehind N σ6 p0 13 1 15)) fun q9 =>
 Option.bind (sI shx q9.1 1 tankHolds_7 tanks_8 q9.2) fun σ10 =>
 Option.bind (rcv shx σ10 6 p0 (f_X6_expect N σ10 p0 59)) fun q11 =>
 Option.bind (rcv shx q11.1 6 p0 (f_X6_sound N q11.1 p0)) fun q12 =>
 (if wr q12.2 = 0 then some (q11.1, 0) else Option.bind (gI shx q11.1 3 this 15) fun tanks_13 =>
 Option.bind (pI shx q11.1 3 this 15 (tanks_13 + 1)) fun σ14 =>
 some (σ14, 0)) else Option.bind (rcv shx σ 6 p0 (f_X6_refuse N σ p0 2)) fun q16 =>
 some (q16.1, 0))
set_option maxRecDepth 100000 in
set_option maxHeartbeats 4000000 in
theorem c_X3_readTank (l : Launch) (D : va_G) (ca : Nat → ClassId) (ra : Nat → Nat) (N : Nat) (σ : St) (this : Nat) (p0 : Nat) : Ctr l (D, ca, ra, shx) false yX3_readTank cX3_readTank 2 none rm_X3_readTank σ [ar this, ar p0] (f_X3_readTank N σ this p0) := by
  refine ctr_of (by decide) (Nat.le_of_ble_eq_true rfl) (fun z C => ?_)
  show X z 0 0 σ 0 [(0, ar this), (1, ar p0)] [] _
  unfold f_X3_readTank
  refine x_aload_n C 0 (i := 0) (k0 := 0) rfl rfl (by decide +kernel) ?_
  refine x_gI C fl_RX3_103 (fun _ _ _ => rfl) (by decide +kernel) (fun tanks_1 => ?_)
  refine x_iconst C (n := 3) (by decide +kernel) ?_
  refine x_ic_lt C (tgt := 14) (off := 9) (by decide) (by decide +kernel) (fun h17 => ?_) (fun h17 => ?_)
  · skip
    refine x_aload_n C 1 (i := 1) (k0 := 1) rfl rfl (by decide +kernel) ?_
    refine x_callV C (ci := 6) (c_X6_advance l D ca ra N σ p0) mt_X6_advance mv_X6_advance rfl ml_RX3_134 rfl (fun h => Bool.noConfusion h) ⟨Nat.le_of_ble_eq_true rfl, Nat.le_of_ble_eq_true rfl⟩ (Nat.le_of_ble_eq_true rfl) 0 0 ⟨rfl, rfl⟩ ⟨Nat.zero_le _, Nat.zero_le _⟩ (by decide +kernel) _ rfl (fun q2 => []) (fun _ => rfl) (fun q2 => ?_)
    refine x_aload_n C 0 (i := 0) (k0 := 0) rfl rfl (by decide +kernel) ?_
    refine x_gR C fl_RX3_46 (fun _ _ _ => rfl) (by decide +kernel) (fun tankAt_3 => ?_)
    refine x_aload_n C 0 (i := 0) (k0 := 0) rfl rfl (by decide +kernel) ?_
    refine x_gI C fl_RX3_103 (fun _ _ _ => rfl) (by decide +kernel) (fun tanks_4 => ?_)
    refine x_aload_n C 1 (i := 1) (k0 := 1) rfl rfl (by decide +kernel) ?_
    refine x_bipush C (n := 12) (by decide +kernel) (by decide +kernel) ?_
    show X z 0 0 q2.1 29 [(0, ar this), (1, ar p0)] [ai 12, ar p0, ai tanks_4, ar tankAt_3] _
    refine x_iconst C (n := 0) (by decide +kernel) ?_
    refine x_bipush C (n := 99) (by decide +kernel) (by decide +kernel) ?_
    refine x_callV C (ci := 6) (c_X6_expectNumberBehind l D ca ra N q2.1 p0 12 0 99) mt_X6_expectNumberBehind mv_X6_expectNumberBehind rfl ml_RX3_140 rfl (fun h => Bool.noConfusion h) ⟨Nat.le_of_ble_eq_true rfl, Nat.le_of_ble_eq_true rfl⟩ (Nat.le_of_ble_eq_true rfl) 0 0 ⟨rfl, rfl⟩ ⟨Nat.zero_le _, Nat.zero_le _⟩ (by decide +kernel) _ rfl (fun q5 => [ai q5.2, ai tanks_4, ar tankAt_3]) (fun _ => rfl) (fun q5 => ?_)
    refine x_astI C (by decide +kernel) (fun σ6 => ?_)
    refine x_aload_n C 0 (i := 0) (k0 := 0) rfl rfl (by decide +kernel) ?_
    refine x_gR C fl_RX3_49 (fun _ _ _ => rfl) (by decide +kernel) (fun tankHolds_7 => ?_)
    refine x_aload_n C 0 (i := 0) (k0 := 0) rfl rfl (by decide +kernel) ?_
    refine x_gI C fl_RX3_103 (fun _ _ _ => rfl) (by decide +kernel) (fun tanks_8 => ?_)
    show X z 0 0 σ6 44 [(0, ar this), (1, ar p0)] [ai tanks_8, ar tankHolds_7] _
    refine x_aload_n C 1 (i := 1) (k0 := 1) rfl rfl (by decide +kernel) ?_
    refine x_bipush C (n := 13) (by decide +kernel) (by decide +kernel) ?_
    refine x_iconst C (n := 1) (by decide +kernel) ?_
    refine x_bipush C (n := 15) (by decide +kernel) (by decide +kernel) ?_
    refine x_callV C (ci := 6) (c_X6_expectNumberBehind l D ca ra N σ6 p0 13 1 15) mt_X6_expectNumberBehind mv_X6_expectNumberBehind rfl ml_RX3_140 rfl (fun h => Bool.noConfusion h) ⟨Nat.le_of_ble_eq_true rfl, Nat.le_of_ble_eq_true rfl⟩ (Nat.le_of_ble_eq_true rfl) 0 0 ⟨rfl, rfl⟩ ⟨Nat.zero_le _, Nat.zero_le _⟩ (by decide +kernel) _ rfl (fun q9 => [ai q9.2, ai tanks_8, ar tankHolds_7]) (fun _ => rfl) (fun q9 => ?_)
    refine x_astI C (by decide +kernel) (fun σ10 => ?_)
    refine x_aload_n C 1 (i := 1) (k0 := 1) rfl rfl (by decide +kernel) ?_
    refine x_bipush C (n := 59) (by decide +kernel) (by decide +kernel) ?_
    show X z 0 0 σ10 57 [(0, ar this), (1, ar p0)] [ai 59, ar p0] _
    refine x_callV C (ci := 6) (c_X6_expect l D ca ra N σ10 p0 59) mt_X6_expect mv_X6_expect rfl ml_RX3_144 rfl (fun h => Bool.noConfusion h) ⟨Nat.le_of_ble_eq_true rfl, Nat.le_of_ble_eq_true rfl⟩ (Nat.le_of_ble_eq_true rfl) 0 0 ⟨rfl, rfl⟩ ⟨Nat.zero_le _, Nat.zero_le _⟩ (by decide +kernel) _ rfl (fun q11 => []) (fun _ => rfl) (fun q11 => ?_)
    refine x_aload_n C 1 (i := 1) (k0 := 1) rfl rfl (by decide +kernel) ?_
    refine x_callVp C (ci := 6) (c_X6_sound l D ca ra N q11.1 p0) (p_X6_sound N q11.1 p0) mt_X6_sound mv_X6_sound rfl ml_RX3_67 rfl (fun h => Bool.noConfusion h) ⟨Nat.le_of_ble_eq_true rfl, Nat.le_of_ble_eq_true rfl⟩ (Nat.le_of_ble_eq_true rfl) 0 0 ⟨rfl, rfl⟩ ⟨Nat.zero_le _, Nat.zero_le _⟩ (by decide +kernel) _ rfl (fun q12 => [ai q12.2]) (fun _ => rfl) (fun q12 => ?_)
    refine x_if_eq C (tgt := 77) (off := 13) (by decide) (by decide +kernel) (fun h15 => ?_) (fun h15 => ?_)
    · skip
      exact x_vret C ⟨Nat.zero_le _, Nat.zero_le _⟩ (by decide +kernel)
    · skip
      refine x_aload_n C 0 (i := 0) (k0 := 0) rfl rfl (by decide +kernel) ?_
      refine x_dup C rfl (by decide +kernel) ?_
      refine x_gI C fl_RX3_103 (fun _ _ _ => rfl) (by decide +kernel) (fun tanks_13 => ?_)
      refine x_iconst C (n := 1) (by decide +kernel) ?_
      refine x_iadd C (by decide +kernel) ?_
      refine x_pI C fl_RX3_103 rfl (fun q h => by cases h; rfl) (by decide +kernel) (fun σ14 => ?_)
      exact x_vret C ⟨Nat.zero_le _, Nat.zero_le _⟩ (by decide +kernel)
  · skip
    refine x_aload_n C 1 (i := 1) (k0 := 1) rfl rfl (by decide +kernel) ?_
    refine x_iconst C (n := 2) (by decide +kernel) ?_
    refine x_callV C (ci := 6) (c_X6_refuse l D ca ra N σ p0 2) mt_X6_refuse mv_X6_refuse rfl ml_RX3_130 rfl (fun h => Bool.noConfusion h) ⟨Nat.le_of_ble_eq_true rfl, Nat.le_of_ble_eq_true rfl⟩ (Nat.le_of_ble_eq_true rfl) 0 0 ⟨rfl, rfl⟩ ⟨Nat.zero_le _, Nat.zero_le _⟩ (by decide +kernel) _ rfl (fun q16 => []) (fun _ => rfl) (fun q16 => ?_)
    exact x_vret C ⟨Nat.zero_le _, Nat.zero_le _⟩ (by decide +kernel)

def rm_X3_readLine : Room := { frames := 5, cells := 0, slots := 0, locals := 109 }
def f_X3_readLine (N : Nat) (σ : St) (this : Nat) (p0 : Nat) : Option (St × Int) :=
 Option.bind (gI shx σ 6 p0 8) fun kind_1 =>
 (if wr kind_1 = 0 then Option.bind (rcv shx σ 3 this (f_X3_readPart N σ this p0)) fun q3 =>
 some (q3.1, 0) else (if wr kind_1 = 7 then Option.bind (rcv shx σ 3 this (f_X3_readJoin N σ this p0)) fun q5 =>
 some (q5.1, 0) else (if wr kind_1 = 9 then Option.bind (rcv shx σ 3 this (f_X3_readMoves N σ this p0)) fun q7 =>
 some (q7.1, 0) else (if wr kind_1 = 11 then Option.bind (rcv shx σ 3 this (f_X3_readTank N σ this p0)) fun q9 =>
 some (q9.1, 0) else (if wr kind_1 = 14 then Option.bind (rcv shx σ 3 this (f_X3_readRow N σ this p0)) fun q11 =>
 some (q11.1, 0) else Option.bind (rcv shx σ 6 p0 (f_X6_refuse N σ p0 2)) fun q2 =>
 some (q2.1, 0))))))
set_option maxRecDepth 100000 in
set_option maxHeartbeats 4000000 in
theorem c_X3_readLine (l : Launch) (D : va_G) (ca : Nat → ClassId) (ra : Nat → Nat) (N : Nat) (σ : St) (this : Nat) (p0 : Nat) : Ctr l (D, ca, ra, shx) false yX3_readLine cX3_readLine 2 none rm_X3_readLine σ [ar this, ar p0] (f_X3_readLine N σ this p0) := by
  refine ctr_of (by decide) (Nat.le_of_ble_eq_true rfl) (fun z C => ?_)
  show X z 0 0 σ 0 [(0, ar this), (1, ar p0)] [] _
  unfold f_X3_readLine
  refine x_aload_n C 1 (i := 1) (k0 := 1) rfl rfl (by decide +kernel) ?_
  refine x_gI C fl_RX3_71 (fun _ _ _ => rfl) (by decide +kernel) (fun kind_1 => ?_)
  refine x_split (fun h4 => ?_) (fun h4 => ?_)
  · refine x_ts C (dflt := 116) (lo := 0) (hi := 14) (offs := #[76, 116, 116, 116, 116, 116, 116, 84, 116, 92, 116, 100, 116, 116, 108]) (len := 76) (v := 0) (off := 76) (tgt := 80) h4 (by decide) (by decide) rfl (by decide) (by decide +kernel) ?_
    refine x_aload_n C 0 (i := 0) (k0 := 0) rfl rfl (by decide +kernel) ?_
    refine x_aload_n C 1 (i := 1) (k0 := 1) rfl rfl (by decide +kernel) ?_
    refine x_callV C (ci := 3) (c_X3_readPart l D ca ra N σ this p0) mt_X3_readPart mv_X3_readPart rfl ml_RX3_115 rfl (fun h => Bool.noConfusion h) ⟨Nat.le_of_ble_eq_true rfl, Nat.le_of_ble_eq_true rfl⟩ (Nat.le_of_ble_eq_true rfl) 0 0 ⟨rfl, rfl⟩ ⟨Nat.zero_le _, Nat.zero_le _⟩ (by decide +kernel) _ rfl (fun q3 => []) (fun _ => rfl) (fun q3 => ?_)
    refine x_goto C (tgt := 125) (off := 40) (by decide) (by decide +kernel) ?_
    exact x_vret C ⟨Nat.zero_le _, Nat.zero_le _⟩ (by decide +kernel)
  refine x_split (fun h6 => ?_) (fun h6 => ?_)
  · refine x_ts C (dflt := 116) (lo := 0) (hi := 14) (offs := #[76, 116, 116, 116, 116, 116, 116, 84, 116, 92, 116, 100, 116, 116, 108]) (len := 76) (v := 7) (off := 84) (tgt := 88) h6 (by decide) (by decide) rfl (by decide) (by decide +kernel) ?_
    refine x_aload_n C 0 (i := 0) (k0 := 0) rfl rfl (by decide +kernel) ?_
    refine x_aload_n C 1 (i := 1) (k0 := 1) rfl rfl (by decide +kernel) ?_
    refine x_callV C (ci := 3) (c_X3_readJoin l D ca ra N σ this p0) mt_X3_readJoin mv_X3_readJoin rfl ml_RX3_118 rfl (fun h => Bool.noConfusion h) ⟨Nat.le_of_ble_eq_true rfl, Nat.le_of_ble_eq_true rfl⟩ (Nat.le_of_ble_eq_true rfl) 0 0 ⟨rfl, rfl⟩ ⟨Nat.zero_le _, Nat.zero_le _⟩ (by decide +kernel) _ rfl (fun q5 => []) (fun _ => rfl) (fun q5 => ?_)
    refine x_goto C (tgt := 125) (off := 32) (by decide) (by decide +kernel) ?_
    exact x_vret C ⟨Nat.zero_le _, Nat.zero_le _⟩ (by decide +kernel)
  refine x_split (fun h8 => ?_) (fun h8 => ?_)
  · refine x_ts C (dflt := 116) (lo := 0) (hi := 14) (offs := #[76, 116, 116, 116, 116, 116, 116, 84, 116, 92, 116, 100, 116, 116, 108]) (len := 76) (v := 9) (off := 92) (tgt := 96) h8 (by decide) (by decide) rfl (by decide) (by decide +kernel) ?_
    refine x_aload_n C 0 (i := 0) (k0 := 0) rfl rfl (by decide +kernel) ?_
    refine x_aload_n C 1 (i := 1) (k0 := 1) rfl rfl (by decide +kernel) ?_
    refine x_callV C (ci := 3) (c_X3_readMoves l D ca ra N σ this p0) mt_X3_readMoves mv_X3_readMoves rfl ml_RX3_121 rfl (fun h => Bool.noConfusion h) ⟨Nat.le_of_ble_eq_true rfl, Nat.le_of_ble_eq_true rfl⟩ (Nat.le_of_ble_eq_true rfl) 0 0 ⟨rfl, rfl⟩ ⟨Nat.zero_le _, Nat.zero_le _⟩ (by decide +kernel) _ rfl (fun q7 => []) (fun _ => rfl) (fun q7 => ?_)
    refine x_goto C (tgt := 125) (off := 24) (by decide) (by decide +kernel) ?_
    exact x_vret C ⟨Nat.zero_le _, Nat.zero_le _⟩ (by decide +kernel)
  refine x_split (fun h10 => ?_) (fun h10 => ?_)
  · refine x_ts C (dflt := 116) (lo := 0) (hi := 14) (offs := #[76, 116, 116, 116, 116, 116, 116, 84, 116, 92, 116, 100, 116, 116, 108]) (len := 76) (v := 11) (off := 100) (tgt := 104) h10 (by decide) (by decide) rfl (by decide) (by decide +kernel) ?_
    refine x_aload_n C 0 (i := 0) (k0 := 0) rfl rfl (by decide +kernel) ?_
    refine x_aload_n C 1 (i := 1) (k0 := 1) rfl rfl (by decide +kernel) ?_
    refine x_callV C (ci := 3) (c_X3_readTank l D ca ra N σ this p0) mt_X3_readTank mv_X3_readTank rfl ml_RX3_124 rfl (fun h => Bool.noConfusion h) ⟨Nat.le_of_ble_eq_true rfl, Nat.le_of_ble_eq_true rfl⟩ (Nat.le_of_ble_eq_true rfl) 0 0 ⟨rfl, rfl⟩ ⟨Nat.zero_le _, Nat.zero_le _⟩ (by decide +kernel) _ rfl (fun q9 => []) (fun _ => rfl) (fun q9 => ?_)
    refine x_goto C (tgt := 125) (off := 16) (by decide) (by decide +kernel) ?_
    exact x_vret C ⟨Nat.zero_le _, Nat.zero_le _⟩ (by decide +kernel)
  refine x_split (fun h12 => ?_) (fun h12 => ?_)
  · refine x_ts C (dflt := 116) (lo := 0) (hi := 14) (offs := #[76, 116, 116, 116, 116, 116, 116, 84, 116, 92, 116, 100, 116, 116, 108]) (len := 76) (v := 14) (off := 108) (tgt := 112) h12 (by decide) (by decide) rfl (by decide) (by decide +kernel) ?_
    refine x_aload_n C 0 (i := 0) (k0 := 0) rfl rfl (by decide +kernel) ?_
    refine x_aload_n C 1 (i := 1) (k0 := 1) rfl rfl (by decide +kernel) ?_
    refine x_callV C (ci := 3) (c_X3_readRow l D ca ra N σ this p0) mt_X3_readRow mv_X3_readRow rfl ml_RX3_127 rfl (fun h => Bool.noConfusion h) ⟨Nat.le_of_ble_eq_true rfl, Nat.le_of_ble_eq_true rfl⟩ (Nat.le_of_ble_eq_true rfl) 0 0 ⟨rfl, rfl⟩ ⟨Nat.zero_le _, Nat.zero_le _⟩ (by decide +kernel) _ rfl (fun q11 => []) (fun _ => rfl) (fun q11 => ?_)
    refine x_goto C (tgt := 125) (off := 8) (by decide) (by decide +kernel) ?_
    exact x_vret C ⟨Nat.zero_le _, Nat.zero_le _⟩ (by decide +kernel)
  refine x_tsD C (dflt := 116) (lo := 0) (hi := 14) (offs := #[76, 116, 116, 116, 116, 116, 116, 84, 116, 92, 116, 100, 116, 116, 108]) (len := 76) (tgt := 120) [0, 7, 9, 11, 14] (List.forall_mem_cons.mpr ⟨h4, (List.forall_mem_cons.mpr ⟨h6, (List.forall_mem_cons.mpr ⟨h8, (List.forall_mem_cons.mpr ⟨h10, (List.forall_mem_cons.mpr ⟨h12, (List.forall_mem_nil _)⟩)⟩)⟩)⟩)⟩) rfl (by decide +kernel) (by decide) (by decide +kernel) ?_
  refine x_aload_n C 1 (i := 1) (k0 := 1) rfl rfl (by decide +kernel) ?_
  refine x_iconst C (n := 2) (by decide +kernel) ?_
  refine x_callV C (ci := 6) (c_X6_refuse l D ca ra N σ p0 2) mt_X6_refuse mv_X6_refuse rfl ml_RX3_130 rfl (fun h => Bool.noConfusion h) ⟨Nat.le_of_ble_eq_true rfl, Nat.le_of_ble_eq_true rfl⟩ (Nat.le_of_ble_eq_true rfl) 0 0 ⟨rfl, rfl⟩ ⟨Nat.zero_le _, Nat.zero_le _⟩ (by decide +kernel) _ rfl (fun q2 => []) (fun _ => rfl) (fun q2 => ?_)
  exact x_vret C ⟨Nat.zero_le _, Nat.zero_le _⟩ (by decide +kernel)

def rm_X3_lengthAt : Room := { frames := 1, cells := 0, slots := 0, locals := 22 }
def f_X3_lengthAt (N : Nat) (σ : St) (this : Nat) (p0 : Int) (p1 : Int) : Option (St × Int) :=
 Option.bind (gI shx σ 3 this 1) fun parts_1 =>
 Option.bind (f_X11_within N σ p0 0 (parts_1 - 1)) fun q2 =>
 (if wr q2.2 = 0 then some (σ, (-1)) else Option.bind (gR shx σ 3 this 4) fun length_3 =>
 Option.bind (aI shx σ 1 length_3 p0) fun a4 =>
 Option.bind (gR shx σ 3 this 5) fun growth_5 =>
 Option.bind (aI shx σ 1 growth_5 p0) fun a6 =>
 Lt (Int.tdiv (wl ((((wr a4) * (wr a6)) * (wr p1)) * (wr p1))) 100000) fun x7 =>
 Option.bind (gR shx σ 3 this 4) fun length_8 =>
 Option.bind (aI shx σ 1 length_8 p0) fun a9 =>
 some (σ, (a9 + x7)))
set_option maxRecDepth 100000 in
set_option maxHeartbeats 4000000 in
theorem c_X3_lengthAt (l : Launch) (D : va_G) (ca : Nat → ClassId) (ra : Nat → Nat) (N : Nat) (σ : St) (this : Nat) (p0 : Int) (p1 : Int) : Ctr l (D, ca, ra, shx) false yX3_lengthAt cX3_lengthAt 5 (some .int) rm_X3_lengthAt σ [ar this, ai p0, ai p1] (f_X3_lengthAt N σ this p0 p1) := by
  refine ctr_of (by decide) (Nat.le_of_ble_eq_true rfl) (fun z C => ?_)
  show X z 0 0 σ 0 [(0, ar this), (1, ai p0), (2, ai p1)] [] _
  unfold f_X3_lengthAt
  refine x_iload_n C 1 (i := 1) (k0 := 1) rfl rfl (by decide +kernel) ?_
  refine x_iconst C (n := 0) (by decide +kernel) ?_
  refine x_aload_n C 0 (i := 0) (k0 := 0) rfl rfl (by decide +kernel) ?_
  refine x_gI C fl_RX3_78 (fun _ _ _ => rfl) (by decide +kernel) (fun parts_1 => ?_)
  refine x_iconst C (n := 1) (by decide +kernel) ?_
  refine x_isub C (by decide +kernel) ?_
  refine x_callSNp C (c_X11_within l D ca ra N σ p0 0 (parts_1 - 1)) (p_X11_within N σ p0 0 (parts_1 - 1)) mt_X11_within ms_X11_within (List.mem_of_getElem? (i := 9) rfl) rfl (fun h => Bool.noConfusion h) ⟨Nat.le_of_ble_eq_true rfl, Nat.le_of_ble_eq_true rfl⟩ (Nat.le_of_ble_eq_true rfl) 0 0 ⟨rfl, rfl⟩ ⟨Nat.zero_le _, Nat.zero_le _⟩ (by decide +kernel) _ rfl (fun q2 => [ai q2.2]) (fun _ => rfl) (fun q2 => ?_)
  refine x_if_ne C (tgt := 16) (off := 5) (by decide) (by decide +kernel) (fun h10 => ?_) (fun h10 => ?_)
  · skip
    refine x_aload_n C 0 (i := 0) (k0 := 0) rfl rfl (by decide +kernel) ?_
    refine x_gR C fl_RX3_19 (fun _ _ _ => rfl) (by decide +kernel) (fun length_3 => ?_)
    refine x_iload_n C 1 (i := 1) (k0 := 1) rfl rfl (by decide +kernel) ?_
    refine x_aldI C (by decide +kernel) (fun a4 => ?_)
    refine x_i2l C (by decide +kernel) ?_
    refine x_aload_n C 0 (i := 0) (k0 := 0) rfl rfl (by decide +kernel) ?_
    refine x_gR C fl_RX3_22 (fun _ _ _ => rfl) (by decide +kernel) (fun growth_5 => ?_)
    refine x_iload_n C 1 (i := 1) (k0 := 1) rfl rfl (by decide +kernel) ?_
    show X z 0 0 σ 28 [(0, ar this), (1, ai p0), (2, ai p1)] [ai p0, ar growth_5, al (wr a4)] _
    refine x_aldI C (by decide +kernel) (fun a6 => ?_)
    refine x_i2l C (by decide +kernel) ?_
    refine x_lmul C (by decide +kernel) ?_
    refine x_iload_n C 2 (i := 2) (k0 := 2) rfl rfl (by decide +kernel) ?_
    refine x_i2l C (by decide +kernel) ?_
    refine x_lmul C (by decide +kernel) ?_
    refine x_iload_n C 2 (i := 2) (k0 := 2) rfl rfl (by decide +kernel) ?_
    refine x_i2l C (by decide +kernel) ?_
    show X z 0 0 σ 36 [(0, ar this), (1, ai p0), (2, ai p1)] [al (wr p1), al (((wr a4) * (wr a6)) * (wr p1))] _
    refine x_lmul C (by decide +kernel) ?_
    refine x_ldc2 C (n := 100000) (v := 100000) kl_RX3_85 (by decide +kernel) (by decide +kernel) ?_
    refine x_ldivC C (by decide) (by decide) (by decide +kernel) ?_
    refine x_lstore_nL C (i := 3) (k0 := 3) rfl (Nat.le_of_ble_eq_true rfl) (by decide +kernel) (lv2 := fun x7 => [(3, al x7), (0, ar this), (1, ai p0), (2, ai p1)]) (fun _ => rfl) (fun x7 => ?_)
    refine x_aload_n C 1 (i := 0) (k0 := 0) rfl rfl (by decide +kernel) ?_
    refine x_gR C fl_RX3_19 (fun _ _ _ => rfl) (by decide +kernel) (fun length_8 => ?_)
    refine x_iload_n C 2 (i := 1) (k0 := 1) rfl rfl (by decide +kernel) ?_
    refine x_aldI C (by decide +kernel) (fun a9 => ?_)
    show X z 0 0 σ 48 [(3, al x7), (0, ar this), (1, ai p0), (2, ai p1)] [ai a9] _
    refine x_lload_n C 0 (i := 3) (k0 := 3) rfl rfl (by decide +kernel) ?_
    refine x_l2i C (by decide +kernel) ?_
    refine x_iadd C (by decide +kernel) ?_
    exact x_iret C ⟨Nat.zero_le _, Nat.zero_le _⟩ (by decide +kernel)
  · skip
    refine x_iconst C (n := (-1)) (by decide +kernel) ?_
    exact x_iret C ⟨Nat.zero_le _, Nat.zero_le _⟩ (by decide +kernel)
theorem p_X3_lengthAt (N : Nat) (σ : St) (this : Nat) (p0 : Int) (p1 : Int) : Pu σ (f_X3_lengthAt N σ this p0 p1) := by
  unfold f_X3_lengthAt
  refine pu_bind (fun _ => ?_)
  refine pu_bind (fun _ => ?_)
  refine pu_ifs ?_ ?_
  · skip
    refine pu_bind (fun _ => ?_)
    refine pu_bind (fun _ => ?_)
    refine pu_bind (fun _ => ?_)
    refine pu_bind (fun _ => ?_)
    refine pu_Lt (fun _ => ?_)
    refine pu_bind (fun _ => ?_)
    refine pu_bind (fun _ => ?_)
    exact pu_some
  · skip
    exact pu_some

def rm_X3_fits : Room := { frames := 2, cells := 0, slots := 0, locals := 46 }
def f_X3_fits (N : Nat) (σ : St) (this : Nat) (p0 : Int) (p1 : Int) : Option (St × Int) :=
 Option.bind (gI shx σ 3 this 7) fun joins_1 =>
 Option.bind (f_X11_within N σ p0 0 (joins_1 - 1)) fun q2 =>
 (if wr q2.2 = 0 then some (σ, 0) else Option.bind (gR shx σ 3 this 8) fun left_3 =>
 Option.bind (aI shx σ 1 left_3 p0) fun a4 =>
 Option.bind (rcv shx σ 3 this (f_X3_lengthAt N σ this a4 p1)) fun q5 =>
 Option.bind (gR shx σ 3 this 9) fun right_6 =>
 Option.bind (aI shx σ 1 right_6 p0) fun a7 =>
 Option.bind (rcv shx σ 3 this (f_X3_lengthAt N σ this a7 p1)) fun q8 =>
 Option.bind (gR shx σ 3 this 10) fun gap_9 =>
 Option.bind (aI shx σ 1 gap_9 p0) fun a10 =>
 (if wr a10 < wr (abZ (q5.2 - q8.2)) then some (σ, 0) else some (σ, 1)))
set_option maxRecDepth 100000 in
set_option maxHeartbeats 4000000 in
theorem c_X3_fits (l : Launch) (D : va_G) (ca : Nat → ClassId) (ra : Nat → Nat) (N : Nat) (σ : St) (this : Nat) (p0 : Int) (p1 : Int) : Ctr l (D, ca, ra, shx) false yX3_fits cX3_fits 3 (some .boolean) rm_X3_fits σ [ar this, ai p0, ai p1] (f_X3_fits N σ this p0 p1) := by
  refine ctr_of (by decide) (Nat.le_of_ble_eq_true rfl) (fun z C => ?_)
  show X z 0 0 σ 0 [(0, ar this), (1, ai p0), (2, ai p1)] [] _
  unfold f_X3_fits
  refine x_iload_n C 1 (i := 1) (k0 := 1) rfl rfl (by decide +kernel) ?_
  refine x_iconst C (n := 0) (by decide +kernel) ?_
  refine x_aload_n C 0 (i := 0) (k0 := 0) rfl rfl (by decide +kernel) ?_
  refine x_gI C fl_RX3_87 (fun _ _ _ => rfl) (by decide +kernel) (fun joins_1 => ?_)
  refine x_iconst C (n := 1) (by decide +kernel) ?_
  refine x_isub C (by decide +kernel) ?_
  refine x_callSNp C (c_X11_within l D ca ra N σ p0 0 (joins_1 - 1)) (p_X11_within N σ p0 0 (joins_1 - 1)) mt_X11_within ms_X11_within (List.mem_of_getElem? (i := 9) rfl) rfl (fun h => Bool.noConfusion h) ⟨Nat.le_of_ble_eq_true rfl, Nat.le_of_ble_eq_true rfl⟩ (Nat.le_of_ble_eq_true rfl) 0 0 ⟨rfl, rfl⟩ ⟨Nat.zero_le _, Nat.zero_le _⟩ (by decide +kernel) _ rfl (fun q2 => [ai q2.2]) (fun _ => rfl) (fun q2 => ?_)
  refine x_if_ne C (tgt := 16) (off := 5) (by decide) (by decide +kernel) (fun h12 => ?_) (fun h12 => ?_)
  · skip
    refine x_aload_n C 0 (i := 0) (k0 := 0) rfl rfl (by decide +kernel) ?_
    refine x_aload_n C 0 (i := 0) (k0 := 0) rfl rfl (by decide +kernel) ?_
    refine x_gR C fl_RX3_28 (fun _ _ _ => rfl) (by decide +kernel) (fun left_3 => ?_)
    refine x_iload_n C 1 (i := 1) (k0 := 1) rfl rfl (by decide +kernel) ?_
    refine x_aldI C (by decide +kernel) (fun a4 => ?_)
    refine x_iload_n C 2 (i := 2) (k0 := 2) rfl rfl (by decide +kernel) ?_
    refine x_callVp C (ci := 3) (c_X3_lengthAt l D ca ra N σ this a4 p1) (p_X3_lengthAt N σ this a4 p1) mt_X3_lengthAt mv_X3_lengthAt rfl ml_RX3_90 rfl (fun h => Bool.noConfusion h) ⟨Nat.le_of_ble_eq_true rfl, Nat.le_of_ble_eq_true rfl⟩ (Nat.le_of_ble_eq_true rfl) 0 0 ⟨rfl, rfl⟩ ⟨Nat.zero_le _, Nat.zero_le _⟩ (by decide +kernel) _ rfl (fun q5 => [ai q5.2]) (fun _ => rfl) (fun q5 => ?_)
    refine x_aload_n C 0 (i := 0) (k0 := 0) rfl rfl (by decide +kernel) ?_
    show X z 0 0 σ 28 [(0, ar this), (1, ai p0), (2, ai p1)] [ar this, ai q5.2] _
    refine x_aload_n C 0 (i := 0) (k0 := 0) rfl rfl (by decide +kernel) ?_
    refine x_gR C fl_RX3_31 (fun _ _ _ => rfl) (by decide +kernel) (fun right_6 => ?_)
    refine x_iload_n C 1 (i := 1) (k0 := 1) rfl rfl (by decide +kernel) ?_
    refine x_aldI C (by decide +kernel) (fun a7 => ?_)
    refine x_iload_n C 2 (i := 2) (k0 := 2) rfl rfl (by decide +kernel) ?_
    refine x_callVp C (ci := 3) (c_X3_lengthAt l D ca ra N σ this a7 p1) (p_X3_lengthAt N σ this a7 p1) mt_X3_lengthAt mv_X3_lengthAt rfl ml_RX3_90 rfl (fun h => Bool.noConfusion h) ⟨Nat.le_of_ble_eq_true rfl, Nat.le_of_ble_eq_true rfl⟩ (Nat.le_of_ble_eq_true rfl) 0 0 ⟨rfl, rfl⟩ ⟨Nat.zero_le _, Nat.zero_le _⟩ (by decide +kernel) _ rfl (fun q8 => [ai q8.2, ai q5.2]) (fun _ => rfl) (fun q8 => ?_)
    refine x_isub C (by decide +kernel) ?_
    refine x_abs C mth_abs ml_RX3_94 ⟨Nat.le_of_ble_eq_true rfl, Nat.le_of_ble_eq_true rfl⟩ ⟨Nat.zero_le _, Nat.zero_le _⟩ (by decide +kernel) ?_
    show X z 0 0 σ 42 [(0, ar this), (1, ai p0), (2, ai p1)] [ai (abZ (q5.2 - q8.2))] _
    refine x_aload_n C 0 (i := 0) (k0 := 0) rfl rfl (by decide +kernel) ?_
    refine x_gR C fl_RX3_34 (fun _ _ _ => rfl) (by decide +kernel) (fun gap_9 => ?_)
    refine x_iload_n C 1 (i := 1) (k0 := 1) rfl rfl (by decide +kernel) ?_
    refine x_aldI C (by decide +kernel) (fun a10 => ?_)
    refine x_ic_gt C (tgt := 55) (off := 7) (by decide) (by decide +kernel) (fun h11 => ?_) (fun h11 => ?_)
    · skip
      refine x_iconst C (n := 0) (by decide +kernel) ?_
      exact x_zret C (Or.inl rfl) ⟨Nat.zero_le _, Nat.zero_le _⟩ (by decide +kernel)
    · skip
      refine x_iconst C (n := 1) (by decide +kernel) ?_
      refine x_goto C (tgt := 56) (off := 4) (by decide) (by decide +kernel) ?_
      exact x_zret C (Or.inr rfl) ⟨Nat.zero_le _, Nat.zero_le _⟩ (by decide +kernel)
  · skip
    refine x_iconst C (n := 0) (by decide +kernel) ?_
    exact x_zret C (Or.inl rfl) ⟨Nat.zero_le _, Nat.zero_le _⟩ (by decide +kernel)
theorem p_X3_fits (N : Nat) (σ : St) (this : Nat) (p0 : Int) (p1 : Int) : Pu σ (f_X3_fits N σ this p0 p1) := by
  unfold f_X3_fits
  refine pu_bind (fun _ => ?_)
  refine pu_bind (fun _ => ?_)
  refine pu_ifs ?_ ?_
  · skip
    refine pu_bind (fun _ => ?_)
    refine pu_bind (fun _ => ?_)
    refine pu_bind (fun _ => ?_)
    refine pu_bind (fun _ => ?_)
    refine pu_bind (fun _ => ?_)
    refine pu_bind (fun _ => ?_)
    refine pu_bind (fun _ => ?_)
    refine pu_bind (fun _ => ?_)
    refine pu_if ?_ ?_
    · skip
      exact pu_some
    · skip
      exact pu_some
  · skip
    exact pu_some
