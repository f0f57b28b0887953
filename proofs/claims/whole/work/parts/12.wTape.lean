def rm_X6_advance : Room := { frames := 1, cells := 0, slots := 0, locals := 21 }
def f_X6_advance (N : Nat) (σ : St) (this : Nat) : Option (St × Int) :=
 Option.bind (gI shx σ 6 this 7) fun token_1 =>
 Option.bind (gI shx σ 6 this 3) fun tokens_2 =>
 Option.bind (pI shx σ 6 this 7 (mnZ (token_1 + 1) (tokens_2 - 1))) fun σ3 =>
 Option.bind (gI shx σ3 6 this 7) fun token_4 =>
 (if wr token_4 < 0 then some (σ3, 0) else Option.bind (gI shx σ3 6 this 7) fun token_5 =>
 (if wr 1300 < wr token_5 then some (σ3, 0) else Option.bind (gR shx σ3 6 this 4) fun kinds_6 =>
 Option.bind (gI shx σ3 6 this 7) fun token_7 =>
 Option.bind (aI shx σ3 1 kinds_6 token_7) fun a8 =>
 Option.bind (pI shx σ3 6 this 8 a8) fun σ9 =>
 Option.bind (gR shx σ9 6 this 5) fun starts_10 =>
 Option.bind (gI shx σ9 6 this 7) fun token_11 =>
 Option.bind (aI shx σ9 1 starts_10 token_11) fun a12 =>
 Option.bind (pI shx σ9 6 this 9 a12) fun σ13 =>
 Option.bind (gR shx σ13 6 this 6) fun worths_14 =>
 Option.bind (gI shx σ13 6 this 7) fun token_15 =>
 Option.bind (aI shx σ13 2 worths_14 token_15) fun a16 =>
 Option.bind (pI shx σ13 6 this 11 a16) fun σ17 =>
 Option.bind (gI shx σ17 6 this 8) fun kind_18 =>
 Jn (fun t19 : Int => Option.bind (pI shx σ17 6 this 10 t19) fun σ20 =>
 some (σ20, 0)) fun J94_20 =>
 (if wr kind_18 = wr 101 then Option.bind (gI shx σ17 6 this 11) fun word_22 =>
 J94_20 word_22 else J94_20 (-1))))
set_option maxRecDepth 100000 in
set_option maxHeartbeats 4000000 in
theorem c_X6_advance (l : Launch) (D : va_G) (ca : Nat → ClassId) (ra : Nat → Nat) (N : Nat) (σ : St) (this : Nat) : Ctr l (D, ca, ra, shx) false yX6_advance cX6_advance 1 none rm_X6_advance σ [ar this] (f_X6_advance N σ this) := by
  refine ctr_of (by decide) (Nat.le_of_ble_eq_true rfl) (fun z C => ?_)
  show X z 0 0 σ 0 [(0, ar this)] [] _
  unfold f_X6_advance
  refine x_aload_n C 0 (i := 0) (k0 := 0) rfl rfl (by decide +kernel) ?_
  refine x_aload_n C 0 (i := 0) (k0 := 0) rfl rfl (by decide +kernel) ?_
  refine x_gI C fl_RX6_49 (fun _ _ _ => rfl) (by decide +kernel) (fun token_1 => ?_)
  refine x_iconst C (n := 1) (by decide +kernel) ?_
  refine x_iadd C (by decide +kernel) ?_
  refine x_aload_n C 0 (i := 0) (k0 := 0) rfl rfl (by decide +kernel) ?_
  refine x_gI C fl_RX6_55 (fun _ _ _ => rfl) (by decide +kernel) (fun tokens_2 => ?_)
  refine x_iconst C (n := 1) (by decide +kernel) ?_
  show X z 0 0 σ 12 [(0, ar this)] [ai 1, ai tokens_2, ai (token_1 + 1), ar this] _
  refine x_isub C (by decide +kernel) ?_
  refine x_min C mth_min ml_RX6_58 ⟨Nat.le_of_ble_eq_true rfl, Nat.le_of_ble_eq_true rfl⟩ ⟨Nat.zero_le _, Nat.zero_le _⟩ (by decide +kernel) ?_
  refine x_pI C fl_RX6_49 rfl (fun q h => by cases h; rfl) (by decide +kernel) (fun σ3 => ?_)
  refine x_aload_n C 0 (i := 0) (k0 := 0) rfl rfl (by decide +kernel) ?_
  refine x_gI C fl_RX6_49 (fun _ _ _ => rfl) (by decide +kernel) (fun token_4 => ?_)
  refine x_if_lt C (tgt := 97) (off := 74) (by decide) (by decide +kernel) (fun h25 => ?_) (fun h25 => ?_)
  · skip
    exact x_vret C ⟨Nat.zero_le _, Nat.zero_le _⟩ (by decide +kernel)
  · skip
    refine x_aload_n C 0 (i := 0) (k0 := 0) rfl rfl (by decide +kernel) ?_
    refine x_gI C fl_RX6_49 (fun _ _ _ => rfl) (by decide +kernel) (fun token_5 => ?_)
    refine x_sipush C (n := 1300) (by decide +kernel) (by decide +kernel) ?_
    refine x_ic_gt C (tgt := 97) (off := 64) (by decide) (by decide +kernel) (fun h24 => ?_) (fun h24 => ?_)
    · skip
      exact x_vret C ⟨Nat.zero_le _, Nat.zero_le _⟩ (by decide +kernel)
    · skip
      refine x_aload_n C 0 (i := 0) (k0 := 0) rfl rfl (by decide +kernel) ?_
      refine x_aload_n C 0 (i := 0) (k0 := 0) rfl rfl (by decide +kernel) ?_
      refine x_gR C fl_RX6_19 (fun _ _ _ => rfl) (by decide +kernel) (fun kinds_6 => ?_)
      refine x_aload_n C 0 (i := 0) (k0 := 0) rfl rfl (by decide +kernel) ?_
      refine x_gI C fl_RX6_49 (fun _ _ _ => rfl) (by decide +kernel) (fun token_7 => ?_)
      refine x_aldI C (by decide +kernel) (fun a8 => ?_)
      refine x_pI C fl_RX6_64 rfl (fun q h => by cases h; rfl) (by decide +kernel) (fun σ9 => ?_)
      refine x_aload_n C 0 (i := 0) (k0 := 0) rfl rfl (by decide +kernel) ?_
      show X z 0 0 σ9 50 [(0, ar this)] [ar this] _
      refine x_aload_n C 0 (i := 0) (k0 := 0) rfl rfl (by decide +kernel) ?_
      refine x_gR C fl_RX6_22 (fun _ _ _ => rfl) (by decide +kernel) (fun starts_10 => ?_)
      refine x_aload_n C 0 (i := 0) (k0 := 0) rfl rfl (by decide +kernel) ?_
      refine x_gI C fl_RX6_49 (fun _ _ _ => rfl) (by decide +kernel) (fun token_11 => ?_)
      refine x_aldI C (by decide +kernel) (fun a12 => ?_)
      refine x_pI C fl_RX6_67 rfl (fun q h => by cases h; rfl) (by decide +kernel) (fun σ13 => ?_)
      refine x_aload_n C 0 (i := 0) (k0 := 0) rfl rfl (by decide +kernel) ?_
      refine x_aload_n C 0 (i := 0) (k0 := 0) rfl rfl (by decide +kernel) ?_
      show X z 0 0 σ13 64 [(0, ar this)] [ar this, ar this] _
      refine x_gR C fl_RX6_25 (fun _ _ _ => rfl) (by decide +kernel) (fun worths_14 => ?_)
      refine x_aload_n C 0 (i := 0) (k0 := 0) rfl rfl (by decide +kernel) ?_
      refine x_gI C fl_RX6_49 (fun _ _ _ => rfl) (by decide +kernel) (fun token_15 => ?_)
      refine x_aldL C (by decide +kernel) (fun a16 => ?_)
      refine x_pL C fl_RX6_70 rfl (fun q h => by cases h; rfl) (by decide +kernel) (fun σ17 => ?_)
      refine x_aload_n C 0 (i := 0) (k0 := 0) rfl rfl (by decide +kernel) ?_
      refine x_aload_n C 0 (i := 0) (k0 := 0) rfl rfl (by decide +kernel) ?_
      refine x_gI C fl_RX6_64 (fun _ _ _ => rfl) (by decide +kernel) (fun kind_18 => ?_)
      show X z 0 0 σ17 80 [(0, ar this)] [ai kind_18, ar this] _
      refine x_bipush C (n := 101) (by decide +kernel) (by decide +kernel) ?_
      refine x_join (T := Int) (fun t => σ17) 94 (fun t => []) (fun t => [ai t, ar this]) (fun t19 => ?_) (fun J94_20 hJ94_20 => ?_)
      · show X z 0 0 σ17 94 [] [ai t19, ar this] _
        refine x_pI C fl_RX6_74 rfl (fun q h => by cases h; rfl) (by decide +kernel) (fun σ20 => ?_)
        exact x_vret C ⟨Nat.zero_le _, Nat.zero_le _⟩ (by decide +kernel)
      · skip
        refine x_ic_ne C (tgt := 93) (off := 11) (by decide) (by decide +kernel) (fun h23 => ?_) (fun h23 => ?_)
        · skip
          refine x_iconst C (n := (-1)) (by decide +kernel) ?_
          refine x_sub [] (lv2 := []) rfl ?_
          exact hJ94_20 (-1)
        · skip
          refine x_aload_n C 0 (i := 0) (k0 := 0) rfl rfl (by decide +kernel) ?_
          refine x_gL C fl_RX6_70 (fun _ _ _ => rfl) (by decide +kernel) (fun word_22 => ?_)
          refine x_l2i C (by decide +kernel) ?_
          refine x_goto C (tgt := 94) (off := 4) (by decide) (by decide +kernel) ?_
          refine x_sub [] (lv2 := []) rfl ?_
          exact hJ94_20 word_22

def rm_X6_refuse : Room := { frames := 0, cells := 0, slots := 0, locals := 0 }
def f_X6_refuse (N : Nat) (σ : St) (this : Nat) (p0 : Int) : Option (St × Int) :=
 Option.bind (gI shx σ 6 this 12) fun fault_1 =>
 (if wr fault_1 = 0 then Option.bind (gI shx σ 6 this 8) fun kind_2 =>
 Jn (fun t3 : Int => Option.bind (pI shx σ 6 this 12 t3) fun σ4 =>
 Option.bind (gI shx σ4 6 this 9) fun start_5 =>
 Option.bind (pI shx σ4 6 this 13 start_5) fun σ6 =>
 some (σ6, 0)) fun J22_6 =>
 (if wr kind_2 = wr 103 then J22_6 1 else J22_6 p0) else some (σ, 0))
set_option maxRecDepth 100000 in
set_option maxHeartbeats 4000000 in
theorem c_X6_refuse (l : Launch) (D : va_G) (ca : Nat → ClassId) (ra : Nat → Nat) (N : Nat) (σ : St) (this : Nat) (p0 : Int) : Ctr l (D, ca, ra, shx) false yX6_refuse cX6_refuse 2 none rm_X6_refuse σ [ar this, ai p0] (f_X6_refuse N σ this p0) := by
  refine ctr_of (by decide) (Nat.le_of_ble_eq_true rfl) (fun z C => ?_)
  show X z 0 0 σ 0 [(0, ar this), (1, ai p0)] [] _
  unfold f_X6_refuse
  refine x_aload_n C 0 (i := 0) (k0 := 0) rfl rfl (by decide +kernel) ?_
  refine x_gI C fl_RX6_43 (fun _ _ _ => rfl) (by decide +kernel) (fun fault_1 => ?_)
  refine x_if_ne C (tgt := 33) (off := 29) (by decide) (by decide +kernel) (fun h9 => ?_) (fun h9 => ?_)
  · skip
    exact x_vret C ⟨Nat.zero_le _, Nat.zero_le _⟩ (by decide +kernel)
  · skip
    refine x_aload_n C 0 (i := 0) (k0 := 0) rfl rfl (by decide +kernel) ?_
    refine x_aload_n C 0 (i := 0) (k0 := 0) rfl rfl (by decide +kernel) ?_
    refine x_gI C fl_RX6_64 (fun _ _ _ => rfl) (by decide +kernel) (fun kind_2 => ?_)
    refine x_bipush C (n := 103) (by decide +kernel) (by decide +kernel) ?_
    refine x_join (T := Int) (fun t => σ) 22 (fun t => [(0, ar this)]) (fun t => [ai t, ar this]) (fun t3 => ?_) (fun J22_6 hJ22_6 => ?_)
    · show X z 0 0 σ 22 [(0, ar this)] [ai t3, ar this] _
      refine x_pI C fl_RX6_43 rfl (fun q h => by cases h; rfl) (by decide +kernel) (fun σ4 => ?_)
      refine x_aload_n C 0 (i := 0) (k0 := 0) rfl rfl (by decide +kernel) ?_
      refine x_aload_n C 0 (i := 0) (k0 := 0) rfl rfl (by decide +kernel) ?_
      refine x_gI C fl_RX6_67 (fun _ _ _ => rfl) (by decide +kernel) (fun start_5 => ?_)
      refine x_pI C fl_RX6_28 rfl (fun q h => by cases h; rfl) (by decide +kernel) (fun σ6 => ?_)
      exact x_vret C ⟨Nat.zero_le _, Nat.zero_le _⟩ (by decide +kernel)
    · skip
      refine x_ic_ne C (tgt := 21) (off := 7) (by decide) (by decide +kernel) (fun h8 => ?_) (fun h8 => ?_)
      · skip
        refine x_iload_n C 1 (i := 1) (k0 := 1) rfl rfl (by decide +kernel) ?_
        refine x_sub [0] (lv2 := [(0, ar this)]) rfl ?_
        exact hJ22_6 p0
      · skip
        refine x_iconst C (n := 1) (by decide +kernel) ?_
        refine x_goto C (tgt := 22) (off := 4) (by decide) (by decide +kernel) ?_
        refine x_sub [0] (lv2 := [(0, ar this)]) rfl ?_
        exact hJ22_6 1

def rm_X6_expect : Room := { frames := 2, cells := 0, slots := 0, locals := 41 }
def f_X6_expect (N : Nat) (σ : St) (this : Nat) (p0 : Int) : Option (St × Int) :=
 Option.bind (gI shx σ 6 this 8) fun kind_1 =>
 (if wr kind_1 = wr p0 then Option.bind (rcv shx σ 6 this (f_X6_advance N σ this)) fun q3 =>
 some (q3.1, 0) else Option.bind (rcv shx σ 6 this (f_X6_refuse N σ this 2)) fun q2 =>
 some (q2.1, 0))
set_option maxRecDepth 100000 in
set_option maxHeartbeats 4000000 in
theorem c_X6_expect (l : Launch) (D : va_G) (ca : Nat → ClassId) (ra : Nat → Nat) (N : Nat) (σ : St) (this : Nat) (p0 : Int) : Ctr l (D, ca, ra, shx) false yX6_expect cX6_expect 2 none rm_X6_expect σ [ar this, ai p0] (f_X6_expect N σ this p0) := by
  refine ctr_of (by decide) (Nat.le_of_ble_eq_true rfl) (fun z C => ?_)
  show X z 0 0 σ 0 [(0, ar this), (1, ai p0)] [] _
  unfold f_X6_expect
  refine x_aload_n C 0 (i := 0) (k0 := 0) rfl rfl (by decide +kernel) ?_
  refine x_gI C fl_RX6_64 (fun _ _ _ => rfl) (by decide +kernel) (fun kind_1 => ?_)
  refine x_iload_n C 1 (i := 1) (k0 := 1) rfl rfl (by decide +kernel) ?_
  refine x_ic_ne C (tgt := 15) (off := 10) (by decide) (by decide +kernel) (fun h4 => ?_) (fun h4 => ?_)
  · skip
    refine x_aload_n C 0 (i := 0) (k0 := 0) rfl rfl (by decide +kernel) ?_
    refine x_iconst C (n := 2) (by decide +kernel) ?_
    refine x_callV C (ci := 6) (c_X6_refuse l D ca ra N σ this 2) mt_X6_refuse mv_X6_refuse rfl ml_RX6_77 rfl (fun h => Bool.noConfusion h) ⟨Nat.le_of_ble_eq_true rfl, Nat.le_of_ble_eq_true rfl⟩ (Nat.le_of_ble_eq_true rfl) 0 0 ⟨rfl, rfl⟩ ⟨Nat.zero_le _, Nat.zero_le _⟩ (by decide +kernel) _ rfl (fun q2 => []) (fun _ => rfl) (fun q2 => ?_)
    exact x_vret C ⟨Nat.zero_le _, Nat.zero_le _⟩ (by decide +kernel)
  · skip
    refine x_aload_n C 0 (i := 0) (k0 := 0) rfl rfl (by decide +kernel) ?_
    refine x_callV C (ci := 6) (c_X6_advance l D ca ra N σ this) mt_X6_advance mv_X6_advance rfl ml_RX6_52 rfl (fun h => Bool.noConfusion h) ⟨Nat.le_of_ble_eq_true rfl, Nat.le_of_ble_eq_true rfl⟩ (Nat.le_of_ble_eq_true rfl) 0 0 ⟨rfl, rfl⟩ ⟨Nat.zero_le _, Nat.zero_le _⟩ (by decide +kernel) _ rfl (fun q3 => []) (fun _ => rfl) (fun q3 => ?_)
    refine x_goto C (tgt := 20) (off := 8) (by decide) (by decide +kernel) ?_
    exact x_vret C ⟨Nat.zero_le _, Nat.zero_le _⟩ (by decide +kernel)

def rm_X6_expectNumber : Room := { frames := 2, cells := 0, slots := 0, locals := 41 }
def f_X6_expectNumber (N : Nat) (σ : St) (this : Nat) (p0 : Int) (p1 : Int) : Option (St × Int) :=
 Option.bind (gI shx σ 6 this 8) fun kind_1 =>
 (if wr kind_1 = wr 101 then Option.bind (gI shx σ 6 this 10) fun number_2 =>
 Option.bind (f_X11_within N σ number_2 p0 p1) fun q3 =>
 (if wr q3.2 = 0 then Option.bind (rcv shx σ 6 this (f_X6_refuse N σ this 4)) fun q6 =>
 some (q6.1, (-1)) else Option.bind (gI shx σ 6 this 10) fun number_4 =>
 Option.bind (rcv shx σ 6 this (f_X6_advance N σ this)) fun q5 =>
 some (q5.1, number_4)) else Option.bind (rcv shx σ 6 this (f_X6_refuse N σ this 2)) fun q8 =>
 some (q8.1, (-1)))
set_option maxRecDepth 100000 in
set_option maxHeartbeats 4000000 in
theorem c_X6_expectNumber (l : Launch) (D : va_G) (ca : Nat → ClassId) (ra : Nat → Nat) (N : Nat) (σ : St) (this : Nat) (p0 : Int) (p1 : Int) : Ctr l (D, ca, ra, shx) false yX6_expectNumber cX6_expectNumber 4 (some .int) rm_X6_expectNumber σ [ar this, ai p0, ai p1] (f_X6_expectNumber N σ this p0 p1) := by
  refine ctr_of (by decide) (Nat.le_of_ble_eq_true rfl) (fun z C => ?_)
  show X z 0 0 σ 0 [(0, ar this), (1, ai p0), (2, ai p1)] [] _
  unfold f_X6_expectNumber
  refine x_aload_n C 0 (i := 0) (k0 := 0) rfl rfl (by decide +kernel) ?_
  refine x_gI C fl_RX6_64 (fun _ _ _ => rfl) (by decide +kernel) (fun kind_1 => ?_)
  refine x_bipush C (n := 101) (by decide +kernel) (by decide +kernel) ?_
  refine x_ic_eq C (tgt := 16) (off := 10) (by decide) (by decide +kernel) (fun h9 => ?_) (fun h9 => ?_)
  · skip
    refine x_aload_n C 0 (i := 0) (k0 := 0) rfl rfl (by decide +kernel) ?_
    refine x_gI C fl_RX6_74 (fun _ _ _ => rfl) (by decide +kernel) (fun number_2 => ?_)
    refine x_iload_n C 1 (i := 1) (k0 := 1) rfl rfl (by decide +kernel) ?_
    refine x_iload_n C 2 (i := 2) (k0 := 2) rfl rfl (by decide +kernel) ?_
    refine x_callSNp C (c_X11_within l D ca ra N σ number_2 p0 p1) (p_X11_within N σ number_2 p0 p1) mt_X11_within ms_X11_within (List.mem_of_getElem? (i := 8) rfl) rfl (fun h => Bool.noConfusion h) ⟨Nat.le_of_ble_eq_true rfl, Nat.le_of_ble_eq_true rfl⟩ (Nat.le_of_ble_eq_true rfl) 0 0 ⟨rfl, rfl⟩ ⟨Nat.zero_le _, Nat.zero_le _⟩ (by decide +kernel) _ rfl (fun q3 => [ai q3.2]) (fun _ => rfl) (fun q3 => ?_)
    refine x_if_ne C (tgt := 35) (off := 10) (by decide) (by decide +kernel) (fun h7 => ?_) (fun h7 => ?_)
    · skip
      refine x_aload_n C 0 (i := 0) (k0 := 0) rfl rfl (by decide +kernel) ?_
      refine x_gI C fl_RX6_74 (fun _ _ _ => rfl) (by decide +kernel) (fun number_4 => ?_)
      refine x_istore_n C (i := 3) (k0 := 3) rfl (Nat.le_of_ble_eq_true rfl) (by decide +kernel) (lv2 := [(3, ai number_4), (0, ar this), (1, ai p0), (2, ai p1)]) rfl ?_
      refine x_aload_n C 1 (i := 0) (k0 := 0) rfl rfl (by decide +kernel) ?_
      refine x_callV C (ci := 6) (c_X6_advance l D ca ra N σ this) mt_X6_advance mv_X6_advance rfl ml_RX6_52 rfl (fun h => Bool.noConfusion h) ⟨Nat.le_of_ble_eq_true rfl, Nat.le_of_ble_eq_true rfl⟩ (Nat.le_of_ble_eq_true rfl) 0 0 ⟨rfl, rfl⟩ ⟨Nat.zero_le _, Nat.zero_le _⟩ (by decide +kernel) _ rfl (fun q5 => []) (fun _ => rfl) (fun q5 => ?_)
      refine x_iload_n C 0 (i := 3) (k0 := 3) rfl rfl (by decide +kernel) ?_
      exact x_iret C ⟨Nat.zero_le _, Nat.zero_le _⟩ (by decide +kernel)
    · skip
      refine x_aload_n C 0 (i := 0) (k0 := 0) rfl rfl (by decide +kernel) ?_
      refine x_iconst C (n := 4) (by decide +kernel) ?_
      refine x_callV C (ci := 6) (c_X6_refuse l D ca ra N σ this 4) mt_X6_refuse mv_X6_refuse rfl ml_RX6_77 rfl (fun h => Bool.noConfusion h) ⟨Nat.le_of_ble_eq_true rfl, Nat.le_of_ble_eq_true rfl⟩ (Nat.le_of_ble_eq_true rfl) 0 0 ⟨rfl, rfl⟩ ⟨Nat.zero_le _, Nat.zero_le _⟩ (by decide +kernel) _ rfl (fun q6 => []) (fun _ => rfl) (fun q6 => ?_)
      refine x_iconst C (n := (-1)) (by decide +kernel) ?_
      exact x_iret C ⟨Nat.zero_le _, Nat.zero_le _⟩ (by decide +kernel)
  · skip
    refine x_aload_n C 0 (i := 0) (k0 := 0) rfl rfl (by decide +kernel) ?_
    refine x_iconst C (n := 2) (by decide +kernel) ?_
    refine x_callV C (ci := 6) (c_X6_refuse l D ca ra N σ this 2) mt_X6_refuse mv_X6_refuse rfl ml_RX6_77 rfl (fun h => Bool.noConfusion h) ⟨Nat.le_of_ble_eq_true rfl, Nat.le_of_ble_eq_true rfl⟩ (Nat.le_of_ble_eq_true rfl) 0 0 ⟨rfl, rfl⟩ ⟨Nat.zero_le _, Nat.zero_le _⟩ (by decide +kernel) _ rfl (fun q8 => []) (fun _ => rfl) (fun q8 => ?_)
    refine x_iconst C (n := (-1)) (by decide +kernel) ?_
    exact x_iret C ⟨Nat.zero_le _, Nat.zero_le _⟩ (by decide +kernel)

def rm_X6_sound : Room := { frames := 0, cells := 0, slots := 0, locals := 0 }
def f_X6_sound (N : Nat) (σ : St) (this : Nat) : Option (St × Int) :=
 Option.bind (gI shx σ 6 this 12) fun fault_1 =>
 (if wr fault_1 = 0 then some (σ, 1) else some (σ, 0))
set_option maxRecDepth 100000 in
set_option maxHeartbeats 4000000 in
theorem c_X6_sound (l : Launch) (D : va_G) (ca : Nat → ClassId) (ra : Nat → Nat) (N : Nat) (σ : St) (this : Nat) : Ctr l (D, ca, ra, shx) false yX6_sound cX6_sound 1 (some .boolean) rm_X6_sound σ [ar this] (f_X6_sound N σ this) := by
  refine ctr_of (by decide) (Nat.le_of_ble_eq_true rfl) (fun z C => ?_)
  show X z 0 0 σ 0 [(0, ar this)] [] _
  unfold f_X6_sound
  refine x_aload_n C 0 (i := 0) (k0 := 0) rfl rfl (by decide +kernel) ?_
  refine x_gI C fl_RX6_43 (fun _ _ _ => rfl) (by decide +kernel) (fun fault_1 => ?_)
  refine x_if_ne C (tgt := 11) (off := 7) (by decide) (by decide +kernel) (fun h2 => ?_) (fun h2 => ?_)
  · skip
    refine x_iconst C (n := 0) (by decide +kernel) ?_
    exact x_zret C (Or.inl rfl) ⟨Nat.zero_le _, Nat.zero_le _⟩ (by decide +kernel)
  · skip
    refine x_iconst C (n := 1) (by decide +kernel) ?_
    refine x_goto C (tgt := 12) (off := 4) (by decide) (by decide +kernel) ?_
    exact x_zret C (Or.inr rfl) ⟨Nat.zero_le _, Nat.zero_le _⟩ (by decide +kernel)
theorem p_X6_sound (N : Nat) (σ : St) (this : Nat) : Pu σ (f_X6_sound N σ this) := by
  unfold f_X6_sound
  refine pu_bind (fun _ => ?_)
  refine pu_ifs ?_ ?_
  · skip
    exact pu_some
  · skip
    exact pu_some

def rm_X6_expectNumberBehind : Room := { frames := 3, cells := 0, slots := 0, locals := 64 }
def f_X6_expectNumberBehind (N : Nat) (σ : St) (this : Nat) (p0 : Int) (p1 : Int) (p2 : Int) : Option (St × Int) :=
 Option.bind (rcv shx σ 6 this (f_X6_expect N σ this p0)) fun q1 =>
 Option.bind (rcv shx q1.1 6 this (f_X6_sound N q1.1 this)) fun q2 =>
 (if wr q2.2 = 0 then some (q1.1, (-1)) else Option.bind (rcv shx q1.1 6 this (f_X6_expectNumber N q1.1 this p1 p2)) fun q3 =>
 some (q3.1, q3.2))
set_option maxRecDepth 100000 in
set_option maxHeartbeats 4000000 in
theorem c_X6_expectNumberBehind (l : Launch) (D : va_G) (ca : Nat → ClassId) (ra : Nat → Nat) (N : Nat) (σ : St) (this : Nat) (p0 : Int) (p1 : Int) (p2 : Int) : Ctr l (D, ca, ra, shx) false yX6_expectNumberBehind cX6_expectNumberBehind 4 (some .int) rm_X6_expectNumberBehind σ [ar this, ai p0, ai p1, ai p2] (f_X6_expectNumberBehind N σ this p0 p1 p2) := by
  refine ctr_of (by decide) (Nat.le_of_ble_eq_true rfl) (fun z C => ?_)
  show X z 0 0 σ 0 [(0, ar this), (1, ai p0), (2, ai p1), (3, ai p2)] [] _
  unfold f_X6_expectNumberBehind
  refine x_aload_n C 0 (i := 0) (k0 := 0) rfl rfl (by decide +kernel) ?_
  refine x_iload_n C 1 (i := 1) (k0 := 1) rfl rfl (by decide +kernel) ?_
  refine x_callV C (ci := 6) (c_X6_expect l D ca ra N σ this p0) mt_X6_expect mv_X6_expect rfl ml_RX6_85 rfl (fun h => Bool.noConfusion h) ⟨Nat.le_of_ble_eq_true rfl, Nat.le_of_ble_eq_true rfl⟩ (Nat.le_of_ble_eq_true rfl) 0 0 ⟨rfl, rfl⟩ ⟨Nat.zero_le _, Nat.zero_le _⟩ (by decide +kernel) _ rfl (fun q1 => []) (fun _ => rfl) (fun q1 => ?_)
  refine x_aload_n C 0 (i := 0) (k0 := 0) rfl rfl (by decide +kernel) ?_
  refine x_callVp C (ci := 6) (c_X6_sound l D ca ra N q1.1 this) (p_X6_sound N q1.1 this) mt_X6_sound mv_X6_sound rfl ml_RX6_88 rfl (fun h => Bool.noConfusion h) ⟨Nat.le_of_ble_eq_true rfl, Nat.le_of_ble_eq_true rfl⟩ (Nat.le_of_ble_eq_true rfl) 0 0 ⟨rfl, rfl⟩ ⟨Nat.zero_le _, Nat.zero_le _⟩ (by decide +kernel) _ rfl (fun q2 => [ai q2.2]) (fun _ => rfl) (fun q2 => ?_)
  refine x_if_eq C (tgt := 21) (off := 12) (by decide) (by decide +kernel) (fun h4 => ?_) (fun h4 => ?_)
  · skip
    refine x_iconst C (n := (-1)) (by decide +kernel) ?_
    exact x_iret C ⟨Nat.zero_le _, Nat.zero_le _⟩ (by decide +kernel)
  · skip
    refine x_aload_n C 0 (i := 0) (k0 := 0) rfl rfl (by decide +kernel) ?_
    refine x_iload_n C 2 (i := 2) (k0 := 2) rfl rfl (by decide +kernel) ?_
    refine x_iload_n C 3 (i := 3) (k0 := 3) rfl rfl (by decide +kernel) ?_
    refine x_callV C (ci := 6) (c_X6_expectNumber l D ca ra N q1.1 this p1 p2) mt_X6_expectNumber mv_X6_expectNumber rfl ml_RX6_92 rfl (fun h => Bool.noConfusion h) ⟨Nat.le_of_ble_eq_true rfl, Nat.le_of_ble_eq_true rfl⟩ (Nat.le_of_ble_eq_true rfl) 0 0 ⟨rfl, rfl⟩ ⟨Nat.zero_le _, Nat.zero_le _⟩ (by decide +kernel) _ rfl (fun q3 => [ai q3.2]) (fun _ => rfl) (fun q3 => ?_)
    refine x_goto C (tgt := 22) (off := 4) (by decide) (by decide +kernel) ?_
    exact x_iret C ⟨Nat.zero_le _, Nat.zero_le _⟩ (by decide +kernel)

def rm_X6_atWord : Room := { frames := 1, cells := 0, slots := 0, locals := 22 }
def f_X6_atWord (N : Nat) (σ : St) (this : Nat) : Option (St × Int) :=
 Option.bind (gI shx σ 6 this 8) fun kind_1 =>
 (if wr kind_1 = wr 100 then some (σ, 1) else Option.bind (gI shx σ 6 this 8) fun kind_2 =>
 Option.bind (f_X11_within N σ kind_2 0 33) fun q3 =>
 (if wr q3.2 = 0 then some (σ, 0) else some (σ, 1)))
set_option maxRecDepth 100000 in
set_option maxHeartbeats 4000000 in
theorem c_X6_atWord (l : Launch) (D : va_G) (ca : Nat → ClassId) (ra : Nat → Nat) (N : Nat) (σ : St) (this : Nat) : Ctr l (D, ca, ra, shx) false yX6_atWord cX6_atWord 1 (some .boolean) rm_X6_atWord σ [ar this] (f_X6_atWord N σ this) := by
  refine ctr_of (by decide) (Nat.le_of_ble_eq_true rfl) (fun z C => ?_)
  show X z 0 0 σ 0 [(0, ar this)] [] _
  unfold f_X6_atWord
  refine x_aload_n C 0 (i := 0) (k0 := 0) rfl rfl (by decide +kernel) ?_
  refine x_gI C fl_RX6_64 (fun _ _ _ => rfl) (by decide +kernel) (fun kind_1 => ?_)
  refine x_bipush C (n := 100) (by decide +kernel) (by decide +kernel) ?_
  refine x_ic_eq C (tgt := 22) (off := 16) (by decide) (by decide +kernel) (fun h5 => ?_) (fun h5 => ?_)
  · skip
    refine x_iconst C (n := 1) (by decide +kernel) ?_
    refine x_goto C (tgt := 27) (off := 4) (by decide) (by decide +kernel) ?_
    exact x_zret C (Or.inr rfl) ⟨Nat.zero_le _, Nat.zero_le _⟩ (by decide +kernel)
  · skip
    refine x_aload_n C 0 (i := 0) (k0 := 0) rfl rfl (by decide +kernel) ?_
    refine x_gI C fl_RX6_64 (fun _ _ _ => rfl) (by decide +kernel) (fun kind_2 => ?_)
    refine x_iconst C (n := 0) (by decide +kernel) ?_
    refine x_bipush C (n := 33) (by decide +kernel) (by decide +kernel) ?_
    refine x_callSNp C (c_X11_within l D ca ra N σ kind_2 0 33) (p_X11_within N σ kind_2 0 33) mt_X11_within ms_X11_within (List.mem_of_getElem? (i := 8) rfl) rfl (fun h => Bool.noConfusion h) ⟨Nat.le_of_ble_eq_true rfl, Nat.le_of_ble_eq_true rfl⟩ (Nat.le_of_ble_eq_true rfl) 0 0 ⟨rfl, rfl⟩ ⟨Nat.zero_le _, Nat.zero_le _⟩ (by decide +kernel) _ rfl (fun q3 => [ai q3.2]) (fun _ => rfl) (fun q3 => ?_)
    refine x_if_eq C (tgt := 26) (off := 7) (by decide) (by decide +kernel) (fun h4 => ?_) (fun h4 => ?_)
    · skip
      refine x_iconst C (n := 0) (by decide +kernel) ?_
      exact x_zret C (Or.inl rfl) ⟨Nat.zero_le _, Nat.zero_le _⟩ (by decide +kernel)
    · skip
      refine x_iconst C (n := 1) (by decide +kernel) ?_
      refine x_goto C (tgt := 27) (off := 4) (by decide) (by decide +kernel) ?_
      exact x_zret C (Or.inr rfl) ⟨Nat.zero_le _, Nat.zero_le _⟩ (by decide +kernel)
theorem p_X6_atWord (N : Nat) (σ : St) (this : Nat) : Pu σ (f_X6_atWord N σ this) := by
  unfold f_X6_atWord
  refine pu_bind (fun _ => ?_)
  refine pu_if ?_ ?_
  · skip
    exact pu_some
  · skip
    refine pu_bind (fun _ => ?_)
    refine pu_bind (fun _ => ?_)
    refine pu_if ?_ ?_
    · skip
      exact pu_some
    · skip
      exact pu_some

def rm_X6_byteAt : Room := { frames := 1, cells := 0, slots := 0, locals := 22 }
def f_X6_byteAt (N : Nat) (σ : St) (this : Nat) (p0 : Int) : Option (St × Int) :=
 Option.bind (gI shx σ 6 this 2) fun length_1 =>
 Option.bind (f_X11_within N σ p0 0 (length_1 - 1)) fun q2 =>
 (if wr q2.2 = 0 then some (σ, (-1)) else Option.bind (gR shx σ 6 this 1) fun text_3 =>
 Option.bind (aI shx σ 1 text_3 p0) fun a4 =>
 some (σ, a4))
set_option maxRecDepth 100000 in
set_option maxHeartbeats 4000000 in
theorem c_X6_byteAt (l : Launch) (D : va_G) (ca : Nat → ClassId) (ra : Nat → Nat) (N : Nat) (σ : St) (this : Nat) (p0 : Int) : Ctr l (D, ca, ra, shx) false yX6_byteAt cX6_byteAt 2 (some .int) rm_X6_byteAt σ [ar this, ai p0] (f_X6_byteAt N σ this p0) := by
  refine ctr_of (by decide) (Nat.le_of_ble_eq_true rfl) (fun z C => ?_)
  show X z 0 0 σ 0 [(0, ar this), (1, ai p0)] [] _
  unfold f_X6_byteAt
  refine x_iload_n C 1 (i := 1) (k0 := 1) rfl rfl (by decide +kernel) ?_
  refine x_iconst C (n := 0) (by decide +kernel) ?_
  refine x_aload_n C 0 (i := 0) (k0 := 0) rfl rfl (by decide +kernel) ?_
  refine x_gI C fl_RX6_40 (fun _ _ _ => rfl) (by decide +kernel) (fun length_1 => ?_)
  refine x_iconst C (n := 1) (by decide +kernel) ?_
  refine x_isub C (by decide +kernel) ?_
  refine x_callSNp C (c_X11_within l D ca ra N σ p0 0 (length_1 - 1)) (p_X11_within N σ p0 0 (length_1 - 1)) mt_X11_within ms_X11_within (List.mem_of_getElem? (i := 8) rfl) rfl (fun h => Bool.noConfusion h) ⟨Nat.le_of_ble_eq_true rfl, Nat.le_of_ble_eq_true rfl⟩ (Nat.le_of_ble_eq_true rfl) 0 0 ⟨rfl, rfl⟩ ⟨Nat.zero_le _, Nat.zero_le _⟩ (by decide +kernel) _ rfl (fun q2 => [ai q2.2]) (fun _ => rfl) (fun q2 => ?_)
  refine x_if_eq C (tgt := 23) (off := 12) (by decide) (by decide +kernel) (fun h5 => ?_) (fun h5 => ?_)
  · skip
    refine x_iconst C (n := (-1)) (by decide +kernel) ?_
    exact x_iret C ⟨Nat.zero_le _, Nat.zero_le _⟩ (by decide +kernel)
  · skip
    refine x_aload_n C 0 (i := 0) (k0 := 0) rfl rfl (by decide +kernel) ?_
    refine x_gR C fl_RX6_15 (fun _ _ _ => rfl) (by decide +kernel) (fun text_3 => ?_)
    refine x_iload_n C 1 (i := 1) (k0 := 1) rfl rfl (by decide +kernel) ?_
    refine x_aldI C (by decide +kernel) (fun a4 => ?_)
    refine x_goto C (tgt := 24) (off := 4) (by decide) (by decide +kernel) ?_
    exact x_iret C ⟨Nat.zero_le _, Nat.zero_le _⟩ (by decide +kernel)
theorem p_X6_byteAt (N : Nat) (σ : St) (this : Nat) (p0 : Int) : Pu σ (f_X6_byteAt N σ this p0) := by
  unfold f_X6_byteAt
  refine pu_bind (fun _ => ?_)
  refine pu_bind (fun _ => ?_)
  refine pu_if ?_ ?_
  · skip
    exact pu_some
  · skip
    refine pu_bind (fun _ => ?_)
    refine pu_bind (fun _ => ?_)
    exact pu_some

def rm_X6_isDigit : Room := { frames := 1, cells := 0, slots := 0, locals := 22 }
def f_X6_isDigit (N : Nat) (σ : St) (p0 : Int) : Option (St × Int) :=
 Option.bind (f_X11_within N σ p0 48 57) fun q1 =>
 rZ σ q1.2
set_option maxRecDepth 100000 in
set_option maxHeartbeats 4000000 in
theorem c_X6_isDigit (l : Launch) (D : va_G) (ca : Nat → ClassId) (ra : Nat → Nat) (N : Nat) (σ : St) (p0 : Int) : Ctr l (D, ca, ra, shx) false yX6_isDigit cX6_isDigit 1 (some .boolean) rm_X6_isDigit σ [ai p0] (f_X6_isDigit N σ p0) := by
  refine ctr_of (by decide) (Nat.le_of_ble_eq_true rfl) (fun z C => ?_)
  show X z 0 0 σ 0 [(0, ai p0)] [] _
  unfold f_X6_isDigit
  refine x_iload_n C 0 (i := 0) (k0 := 0) rfl rfl (by decide +kernel) ?_
  refine x_bipush C (n := 48) (by decide +kernel) (by decide +kernel) ?_
  refine x_bipush C (n := 57) (by decide +kernel) (by decide +kernel) ?_
  refine x_callSNp C (c_X11_within l D ca ra N σ p0 48 57) (p_X11_within N σ p0 48 57) mt_X11_within ms_X11_within (List.mem_of_getElem? (i := 8) rfl) rfl (fun h => Bool.noConfusion h) ⟨Nat.le_of_ble_eq_true rfl, Nat.le_of_ble_eq_true rfl⟩ (Nat.le_of_ble_eq_true rfl) 0 0 ⟨rfl, rfl⟩ ⟨Nat.zero_le _, Nat.zero_le _⟩ (by decide +kernel) _ rfl (fun q1 => [ai q1.2]) (fun _ => rfl) (fun q1 => ?_)
  exact x_rZ C ⟨Nat.zero_le _, Nat.zero_le _⟩ (by decide +kernel)
theorem p_X6_isDigit (N : Nat) (σ : St) (p0 : Int) : Pu σ (f_X6_isDigit N σ p0) := by
  unfold f_X6_isDigit
  refine pu_bind (fun _ => ?_)
  exact pu_rZ

def rm_X6_isLetter : Room := { frames := 1, cells := 0, slots := 0, locals := 22 }
def f_X6_isLetter (N : Nat) (σ : St) (p0 : Int) : Option (St × Int) :=
 Option.bind (f_X11_within N σ p0 97 122) fun q1 =>
 rZ σ q1.2
set_option maxRecDepth 100000 in
set_option maxHeartbeats 4000000 in
theorem c_X6_isLetter (l : Launch) (D : va_G) (ca : Nat → ClassId) (ra : Nat → Nat) (N : Nat) (σ : St) (p0 : Int) : Ctr l (D, ca, ra, shx) false yX6_isLetter cX6_isLetter 1 (some .boolean) rm_X6_isLetter σ [ai p0] (f_X6_isLetter N σ p0) := by
  refine ctr_of (by decide) (Nat.le_of_ble_eq_true rfl) (fun z C => ?_)
  show X z 0 0 σ 0 [(0, ai p0)] [] _
  unfold f_X6_isLetter
  refine x_iload_n C 0 (i := 0) (k0 := 0) rfl rfl (by decide +kernel) ?_
  refine x_bipush C (n := 97) (by decide +kernel) (by decide +kernel) ?_
  refine x_bipush C (n := 122) (by decide +kernel) (by decide +kernel) ?_
  refine x_callSNp C (c_X11_within l D ca ra N σ p0 97 122) (p_X11_within N σ p0 97 122) mt_X11_within ms_X11_within (List.mem_of_getElem? (i := 8) rfl) rfl (fun h => Bool.noConfusion h) ⟨Nat.le_of_ble_eq_true rfl, Nat.le_of_ble_eq_true rfl⟩ (Nat.le_of_ble_eq_true rfl) 0 0 ⟨rfl, rfl⟩ ⟨Nat.zero_le _, Nat.zero_le _⟩ (by decide +kernel) _ rfl (fun q1 => [ai q1.2]) (fun _ => rfl) (fun q1 => ?_)
  exact x_rZ C ⟨Nat.zero_le _, Nat.zero_le _⟩ (by decide +kernel)
theorem p_X6_isLetter (N : Nat) (σ : St) (p0 : Int) : Pu σ (f_X6_isLetter N σ p0) := by
  unfold f_X6_isLetter
  refine pu_bind (fun _ => ?_)
  exact pu_rZ

def rm_X6_putToken : Room := { frames := 1, cells := 0, slots := 0, locals := 22 }
def f_X6_putToken (N : Nat) (σ : St) (this : Nat) (p0 : Int) (p1 : Int) (p2 : Int) : Option (St × Int) :=
 Option.bind (gI shx σ 6 this 3) fun tokens_1 =>
 Option.bind (f_X11_within N σ tokens_1 0 1300) fun q2 =>
 (if wr q2.2 = 0 then some (σ, 0) else Option.bind (gR shx σ 6 this 4) fun kinds_3 =>
 Option.bind (gI shx σ 6 this 3) fun tokens_4 =>
 Option.bind (sI shx σ 1 kinds_3 tokens_4 p0) fun σ5 =>
 Option.bind (gR shx σ5 6 this 5) fun starts_6 =>
 Option.bind (gI shx σ5 6 this 3) fun tokens_7 =>
 Option.bind (sI shx σ5 1 starts_6 tokens_7 p1) fun σ8 =>
 Option.bind (gR shx σ8 6 this 6) fun worths_9 =>
 Option.bind (gI shx σ8 6 this 3) fun tokens_10 =>
 Option.bind (sI shx σ8 2 worths_9 tokens_10 p2) fun σ11 =>
 Option.bind (gI shx σ11 6 this 3) fun tokens_12 =>
 Option.bind (pI shx σ11 6 this 3 (tokens_12 + 1)) fun σ13 =>
 some (σ13, 0))
set_option maxRecDepth 100000 in
set_option maxHeartbeats 4000000 in
theorem c_X6_putToken (l : Launch) (D : va_G) (ca : Nat → ClassId) (ra : Nat → Nat) (N : Nat) (σ : St) (this : Nat) (p0 : Int) (p1 : Int) (p2 : Int) : Ctr l (D, ca, ra, shx) false yX6_putToken cX6_putToken 5 none rm_X6_putToken σ [ar this, ai p0, ai p1, al p2] (f_X6_putToken N σ this p0 p1 p2) := by
  refine ctr_of (by decide) (Nat.le_of_ble_eq_true rfl) (fun z C => ?_)
  show X z 0 0 σ 0 [(0, ar this), (1, ai p0), (2, ai p1), (3, al p2)] [] _
  unfold f_X6_putToken
  refine x_aload_n C 0 (i := 0) (k0 := 0) rfl rfl (by decide +kernel) ?_
  refine x_gI C fl_RX6_55 (fun _ _ _ => rfl) (by decide +kernel) (fun tokens_1 => ?_)
  refine x_iconst C (n := 0) (by decide +kernel) ?_
  refine x_sipush C (n := 1300) (by decide +kernel) (by decide +kernel) ?_
  refine x_callSNp C (c_X11_within l D ca ra N σ tokens_1 0 1300) (p_X11_within N σ tokens_1 0 1300) mt_X11_within ms_X11_within (List.mem_of_getElem? (i := 8) rfl) rfl (fun h => Bool.noConfusion h) ⟨Nat.le_of_ble_eq_true rfl, Nat.le_of_ble_eq_true rfl⟩ (Nat.le_of_ble_eq_true rfl) 0 0 ⟨rfl, rfl⟩ ⟨Nat.zero_le _, Nat.zero_le _⟩ (by decide +kernel) _ rfl (fun q2 => [ai q2.2]) (fun _ => rfl) (fun q2 => ?_)
  refine x_if_eq C (tgt := 54) (off := 43) (by decide) (by decide +kernel) (fun h14 => ?_) (fun h14 => ?_)
  · skip
    exact x_vret C ⟨Nat.zero_le _, Nat.zero_le _⟩ (by decide +kernel)
  · skip
    refine x_aload_n C 0 (i := 0) (k0 := 0) rfl rfl (by decide +kernel) ?_
    refine x_gR C fl_RX6_19 (fun _ _ _ => rfl) (by decide +kernel) (fun kinds_3 => ?_)
    refine x_aload_n C 0 (i := 0) (k0 := 0) rfl rfl (by decide +kernel) ?_
    refine x_gI C fl_RX6_55 (fun _ _ _ => rfl) (by decide +kernel) (fun tokens_4 => ?_)
    refine x_iload_n C 1 (i := 1) (k0 := 1) rfl rfl (by decide +kernel) ?_
    refine x_astI C (by decide +kernel) (fun σ5 => ?_)
    refine x_aload_n C 0 (i := 0) (k0 := 0) rfl rfl (by decide +kernel) ?_
    refine x_gR C fl_RX6_22 (fun _ _ _ => rfl) (by decide +kernel) (fun starts_6 => ?_)
    show X z 0 0 σ5 28 [(0, ar this), (1, ai p0), (2, ai p1), (3, al p2)] [ar starts_6] _
    refine x_aload_n C 0 (i := 0) (k0 := 0) rfl rfl (by decide +kernel) ?_
    refine x_gI C fl_RX6_55 (fun _ _ _ => rfl) (by decide +kernel) (fun tokens_7 => ?_)
    refine x_iload_n C 2 (i := 2) (k0 := 2) rfl rfl (by decide +kernel) ?_
    refine x_astI C (by decide +kernel) (fun σ8 => ?_)
    refine x_aload_n C 0 (i := 0) (k0 := 0) rfl rfl (by decide +kernel) ?_
    refine x_gR C fl_RX6_25 (fun _ _ _ => rfl) (by decide +kernel) (fun worths_9 => ?_)
    refine x_aload_n C 0 (i := 0) (k0 := 0) rfl rfl (by decide +kernel) ?_
    refine x_gI C fl_RX6_55 (fun _ _ _ => rfl) (by decide +kernel) (fun tokens_10 => ?_)
    show X z 0 0 σ8 42 [(0, ar this), (1, ai p0), (2, ai p1), (3, al p2)] [ai tokens_10, ar worths_9] _
    refine x_lload_n C 3 (i := 3) (k0 := 3) rfl rfl (by decide +kernel) ?_
    refine x_astL C (by decide +kernel) (fun σ11 => ?_)
    refine x_aload_n C 0 (i := 0) (k0 := 0) rfl rfl (by decide +kernel) ?_
    refine x_dup C rfl (by decide +kernel) ?_
    refine x_gI C fl_RX6_55 (fun _ _ _ => rfl) (by decide +kernel) (fun tokens_12 => ?_)
    refine x_iconst C (n := 1) (by decide +kernel) ?_
    refine x_iadd C (by decide +kernel) ?_
    refine x_pI C fl_RX6_55 rfl (fun q h => by cases h; rfl) (by decide +kernel) (fun σ13 => ?_)
    show X z 0 0 σ13 54 [(0, ar this), (1, ai p0), (2, ai p1), (3, al p2)] [] _
    exact x_vret C ⟨Nat.zero_le _, Nat.zero_le _⟩ (by decide +kernel)

def L_X6_splitNumber_5 (N : Nat) (σ : St) (this : Nat) (p0 : Int) (J62_13 : (Int × Int → Option (St × Int))) : (Int × Int) → Option (St × Int) := fixN N fun b5_15 t15 =>
 Option.bind (gI shx σ 6 this 2) fun length_17 =>
 (if wr t15.2 < wr length_17 then Option.bind (rcv shx σ 6 this (f_X6_byteAt N σ this t15.2)) fun q18 =>
 Option.bind (f_X6_isDigit N σ q18.2) fun q19 =>
 (if wr q19.2 = 0 then J62_13 (t15.1, t15.2) else Jn (fun t20 : Int => Lt (t15.2 + 1) fun x21 =>
 b5_15 (t20, x21)) fun J55_21 =>
 (if wr (t15.2 - p0) < wr 4 then Option.bind (rcv shx σ 6 this (f_X6_byteAt N σ this t15.2)) fun q23 =>
 J55_21 (((t15.1 * 10) + (wr q23.2)) - 48) else J55_21 t15.1)) else J62_13 (t15.1, t15.2))
def rm_X6_splitNumber : Room := { frames := 2, cells := 0, slots := 0, locals := 46 }
def f_X6_splitNumber (N : Nat) (σ : St) (this : Nat) (p0 : Int) : Option (St × Int) :=
 Jn (fun t1 : Int × Int => Jn (fun t2 : Int => Jn (fun t3 : Int => Option.bind (rcv shx σ 6 this (f_X6_putToken N σ this t3 p0 t1.1)) fun q4 =>
 some (q4.1, t1.2)) fun J102_4 =>
 (if wr t2 = 0 then J102_4 101 else J102_4 103)) fun J87_6 =>
 Jn (fun t8 : Unit => J87_6 1) fun J82_8 =>
 (if wr 4 < wr (t1.2 - p0) then J82_8 () else Option.bind (rcv shx σ 6 this (f_X6_byteAt N σ this t1.2)) fun q10 =>
 Option.bind (f_X6_isLetter N σ q10.2) fun q11 =>
 (if wr q11.2 = 0 then J87_6 0 else J82_8 ()))) fun J62_13 =>
 L_X6_splitNumber_5 N σ this p0 J62_13 (0, p0)
set_option maxRecDepth 100000 in
set_option maxHeartbeats 4000000 in
theorem c_X6_splitNumber (l : Launch) (D : va_G) (ca : Nat → ClassId) (ra : Nat → Nat) (N : Nat) (σ : St) (this : Nat) (p0 : Int) : Ctr l (D, ca, ra, shx) false yX6_splitNumber cX6_splitNumber 6 (some .int) rm_X6_splitNumber σ [ar this, ai p0] (f_X6_splitNumber N σ this p0) := by
  refine ctr_of (by decide) (Nat.le_of_ble_eq_true rfl) (fun z C => ?_)
  show X z 0 0 σ 0 [(0, ar this), (1, ai p0)] [] _
  unfold f_X6_splitNumber
  refine x_lconst C (n := 0) (v := 0) (by decide +kernel) (by decide +kernel) ?_
  refine x_lstore_n C (i := 2) (k0 := 2) rfl (Nat.le_of_ble_eq_true rfl) (by decide +kernel) (lv2 := [(2, al 0), (0, ar this), (1, ai p0)]) rfl ?_
  refine x_iload_n C 2 (i := 1) (k0 := 1) rfl rfl (by decide +kernel) ?_
  refine x_istore C (i := 4) (Nat.le_of_ble_eq_true rfl) (by decide +kernel) (lv2 := [(4, ai p0), (2, al 0), (0, ar this), (1, ai p0)]) rfl ?_
  refine x_join (T := Int × Int) (fun t => σ) 62 (fun t => [(0, ar this), (1, ai p0), (2, al t.1), (4, ai t.2)]) (fun t => []) (fun t1 => ?_) (fun J62_13 hJ62_13 => ?_)
  · show X z 0 0 σ 62 [(0, ar this), (1, ai p0), (2, al t1.1), (4, ai t1.2)] [] _
    refine x_iload C 3 (i := 4) rfl (by decide +kernel) ?_
    refine x_iload_n C 1 (i := 1) (k0 := 1) rfl rfl (by decide +kernel) ?_
    refine x_isub C (by decide +kernel) ?_
    refine x_iconst C (n := 4) (by decide +kernel) ?_
    refine x_join (T := Int) (fun t => σ) 87 (fun t => [(0, ar this), (1, ai p0), (2, al t1.1), (4, ai t1.2)]) (fun t => [ai t]) (fun t2 => ?_) (fun J87_6 hJ87_6 => ?_)
    · show X z 0 0 σ 87 [(0, ar this), (1, ai p0), (2, al t1.1), (4, ai t1.2)] [ai t2] _
      refine x_istore C (i := 5) (Nat.le_of_ble_eq_true rfl) (by decide +kernel) (lv2 := [(5, ai t2), (0, ar this), (1, ai p0), (2, al t1.1), (4, ai t1.2)]) rfl ?_
      refine x_aload_n C 1 (i := 0) (k0 := 0) rfl rfl (by decide +kernel) ?_
      refine x_iload C 0 (i := 5) rfl (by decide +kernel) ?_
      refine x_join (T := Int) (fun t => σ) 102 (fun t => [(1, ai p0), (2, al t1.1), (4, ai t1.2)]) (fun t => [ai t, ar this]) (fun t3 => ?_) (fun J102_4 hJ102_4 => ?_)
      · show X z 0 0 σ 102 [(1, ai p0), (2, al t1.1), (4, ai t1.2)] [ai t3, ar this] _
        refine x_iload_n C 0 (i := 1) (k0 := 1) rfl rfl (by decide +kernel) ?_
        refine x_lload_n C 1 (i := 2) (k0 := 2) rfl rfl (by decide +kernel) ?_
        refine x_callV C (ci := 6) (c_X6_putToken l D ca ra N σ this t3 p0 t1.1) mt_X6_putToken mv_X6_putToken rfl ml_RX6_130 rfl (fun h => Bool.noConfusion h) ⟨Nat.le_of_ble_eq_true rfl, Nat.le_of_ble_eq_true rfl⟩ (Nat.le_of_ble_eq_true rfl) 0 0 ⟨rfl, rfl⟩ ⟨Nat.zero_le _, Nat.zero_le _⟩ (by decide +kernel) _ rfl (fun q4 => []) (fun _ => rfl) (fun q4 => ?_)
        refine x_iload C 2 (i := 4) rfl (by decide +kernel) ?_
        exact x_iret C ⟨Nat.zero_le _, Nat.zero_le _⟩ (by decide +kernel)
      · skip
        refine x_if_eq C (tgt := 100) (off := 8) (by decide) (by decide +kernel) (fun h6 => ?_) (fun h6 => ?_)
        · skip
          refine x_bipush C (n := 101) (by decide +kernel) (by decide +kernel) ?_
          refine x_sub [2, 3, 4] (lv2 := [(1, ai p0), (2, al t1.1), (4, ai t1.2)]) rfl ?_
          exact hJ102_4 101
        · skip
          refine x_bipush C (n := 103) (by decide +kernel) (by decide +kernel) ?_
          refine x_goto C (tgt := 102) (off := 5) (by decide) (by decide +kernel) ?_
          refine x_sub [2, 3, 4] (lv2 := [(1, ai p0), (2, al t1.1), (4, ai t1.2)]) rfl ?_
          exact hJ102_4 103
    · skip
      refine x_join (T := Unit) (fun t => σ) 82 (fun t => [(0, ar this), (1, ai p0), (2, al t1.1), (4, ai t1.2)]) (fun t => []) (fun t8 => ?_) (fun J82_8 hJ82_8 => ?_)
      · show X z 0 0 σ 82 [(0, ar this), (1, ai p0), (2, al t1.1), (4, ai t1.2)] [] _
        refine x_iconst C (n := 1) (by decide +kernel) ?_
        refine x_goto C (tgt := 87) (off := 4) (by decide) (by decide +kernel) ?_
        exact hJ87_6 1
      · skip
        refine x_ic_gt C (tgt := 82) (off := 15) (by decide) (by decide +kernel) (fun h13 => ?_) (fun h13 => ?_)
        · skip
          exact hJ82_8 ()
        · skip
          refine x_aload_n C 0 (i := 0) (k0 := 0) rfl rfl (by decide +kernel) ?_
          refine x_iload C 3 (i := 4) rfl (by decide +kernel) ?_
          refine x_callVp C (ci := 6) (c_X6_byteAt l D ca ra N σ this t1.2) (p_X6_byteAt N σ this t1.2) mt_X6_byteAt mv_X6_byteAt rfl ml_RX6_108 rfl (fun h => Bool.noConfusion h) ⟨Nat.le_of_ble_eq_true rfl, Nat.le_of_ble_eq_true rfl⟩ (Nat.le_of_ble_eq_true rfl) 0 0 ⟨rfl, rfl⟩ ⟨Nat.zero_le _, Nat.zero_le _⟩ (by decide +kernel) _ rfl (fun q10 => [ai q10.2]) (fun _ => rfl) (fun q10 => ?_)
          refine x_callSp C (c_X6_isLetter l D ca ra N σ q10.2) (p_X6_isLetter N σ q10.2) mt_X6_isLetter ms_X6_isLetter ml_RX6_112 rfl (fun h => Bool.noConfusion h) ⟨Nat.le_of_ble_eq_true rfl, Nat.le_of_ble_eq_true rfl⟩ (Nat.le_of_ble_eq_true rfl) 0 0 ⟨rfl, rfl⟩ ⟨Nat.zero_le _, Nat.zero_le _⟩ (by decide +kernel) _ rfl (fun q11 => [ai q11.2]) (fun _ => rfl) (fun q11 => ?_)
          refine x_if_eq C (tgt := 86) (off := 7) (by decide) (by decide +kernel) (fun h12 => ?_) (fun h12 => ?_)
          · skip
            refine x_iconst C (n := 0) (by decide +kernel) ?_
            exact hJ87_6 0
          · skip
            exact hJ82_8 ()
  · skip
    refine x_sub [2, 3, 1, 0] (lv2 := [(0, ar this), (1, ai p0), (2, al 0), (4, ai p0)]) rfl ?_
    -- LOOP L_X6_splitNumber_5 hb5_15
    refine x_loop (T := Int × Int) (fun t => σ) (fun t => [(0, ar this), (1, ai p0), (2, al t.1), (4, ai t.2)]) (0, p0) rfl (fun b5_15 hb5_15 t15 => ?_)
    show X z 0 0 σ 5 [(0, ar this), (1, ai p0), (2, al t15.1), (4, ai t15.2)] [] _
    refine x_iload C 3 (i := 4) rfl (by decide +kernel) ?_
    refine x_aload_n C 0 (i := 0) (k0 := 0) rfl rfl (by decide +kernel) ?_
    refine x_gI C fl_RX6_40 (fun _ _ _ => rfl) (by decide +kernel) (fun length_17 => ?_)
    refine x_ic_ge C (tgt := 62) (off := 51) (by decide) (by decide +kernel) (fun h26 => ?_) (fun h26 => ?_)
    · skip
      exact hJ62_13 (t15.1, t15.2)
    · skip
      refine x_aload_n C 0 (i := 0) (k0 := 0) rfl rfl (by decide +kernel) ?_
      refine x_iload C 3 (i := 4) rfl (by decide +kernel) ?_
      refine x_callVp C (ci := 6) (c_X6_byteAt l D ca ra N σ this t15.2) (p_X6_byteAt N σ this t15.2) mt_X6_byteAt mv_X6_byteAt rfl ml_RX6_108 rfl (fun h => Bool.noConfusion h) ⟨Nat.le_of_ble_eq_true rfl, Nat.le_of_ble_eq_true rfl⟩ (Nat.le_of_ble_eq_true rfl) 0 0 ⟨rfl, rfl⟩ ⟨Nat.zero_le _, Nat.zero_le _⟩ (by decide +kernel) _ rfl (fun q18 => [ai q18.2]) (fun _ => rfl) (fun q18 => ?_)
      refine x_callSp C (c_X6_isDigit l D ca ra N σ q18.2) (p_X6_isDigit N σ q18.2) mt_X6_isDigit ms_X6_isDigit ml_RX6_119 rfl (fun h => Bool.noConfusion h) ⟨Nat.le_of_ble_eq_true rfl, Nat.le_of_ble_eq_true rfl⟩ (Nat.le_of_ble_eq_true rfl) 0 0 ⟨rfl, rfl⟩ ⟨Nat.zero_le _, Nat.zero_le _⟩ (by decide +kernel) _ rfl (fun q19 => [ai q19.2]) (fun _ => rfl) (fun q19 => ?_)
      refine x_if_eq C (tgt := 62) (off := 39) (by decide) (by decide +kernel) (fun h25 => ?_) (fun h25 => ?_)
      · skip
        exact hJ62_13 (t15.1, t15.2)
      · skip
        refine x_iload C 3 (i := 4) rfl (by decide +kernel) ?_
        refine x_iload_n C 1 (i := 1) (k0 := 1) rfl rfl (by decide +kernel) ?_
        refine x_isub C (by decide +kernel) ?_
        refine x_iconst C (n := 4) (by decide +kernel) ?_
        refine x_join (T := Int) (fun t => σ) 55 (fun t => [(0, ar this), (1, ai p0), (4, ai t15.2)]) (fun t => [al t]) (fun t20 => ?_) (fun J55_21 hJ55_21 => ?_)
        · show X z 0 0 σ 55 [(0, ar this), (1, ai p0), (4, ai t15.2)] [al t20] _
          refine x_lstore_n C (i := 2) (k0 := 2) rfl (Nat.le_of_ble_eq_true rfl) (by decide +kernel) (lv2 := [(2, al t20), (0, ar this), (1, ai p0), (4, ai t15.2)]) rfl ?_
          refine x_iinc C 3 (i := 4) (n := 1) (Nat.le_of_ble_eq_true rfl) rfl (by decide +kernel) (lv2 := fun x21 => [(4, ai x21), (2, al t20), (0, ar this), (1, ai p0)]) (fun _ => rfl) (fun x21 => ?_)
          refine x_goto C (tgt := 5) (off := (-54)) (by decide) (by decide +kernel) ?_
          refine x_sub [2, 3, 1, 0] (lv2 := [(0, ar this), (1, ai p0), (2, al t20), (4, ai x21)]) rfl ?_
          exact hb5_15 (t20, x21)
        · skip
          refine x_ic_ge C (tgt := 54) (off := 23) (by decide) (by decide +kernel) (fun h24 => ?_) (fun h24 => ?_)
          · skip
            refine x_lload_n C 2 (i := 2) (k0 := 2) rfl rfl (by decide +kernel) ?_
            refine x_sub [0, 1, 3] (lv2 := [(0, ar this), (1, ai p0), (4, ai t15.2)]) rfl ?_
            exact hJ55_21 t15.1
          · skip
            refine x_lload_n C 2 (i := 2) (k0 := 2) rfl rfl (by decide +kernel) ?_
            refine x_ldc2 C (n := 10) (v := 10) kl_RX6_138 (by decide +kernel) (by decide +kernel) ?_
            refine x_lmul C (by decide +kernel) ?_
            refine x_aload_n C 0 (i := 0) (k0 := 0) rfl rfl (by decide +kernel) ?_
            refine x_iload C 3 (i := 4) rfl (by decide +kernel) ?_
            refine x_callVp C (ci := 6) (c_X6_byteAt l D ca ra N σ this t15.2) (p_X6_byteAt N σ this t15.2) mt_X6_byteAt mv_X6_byteAt rfl ml_RX6_108 rfl (fun h => Bool.noConfusion h) ⟨Nat.le_of_ble_eq_true rfl, Nat.le_of_ble_eq_true rfl⟩ (Nat.le_of_ble_eq_true rfl) 0 0 ⟨rfl, rfl⟩ ⟨Nat.zero_le _, Nat.zero_le _⟩ (by decide +kernel) _ rfl (fun q23 => [ai q23.2, al (t15.1 * 10)]) (fun _ => rfl) (fun q23 => ?_)
            refine x_i2l C (by decide +kernel) ?_
            refine x_ladd C (by decide +kernel) ?_
            show X z 0 0 σ 47 [(0, ar this), (1, ai p0), (2, al t15.1), (4, ai t15.2)] [al ((t15.1 * 10) + (wr q23.2))] _
            refine x_ldc2 C (n := 48) (v := 48) kl_RX6_140 (by decide +kernel) (by decide +kernel) ?_
            refine x_lsub C (by decide +kernel) ?_
            refine x_goto C (tgt := 55) (off := 4) (by decide) (by decide +kernel) ?_
            refine x_sub [0, 1, 3] (lv2 := [(0, ar this), (1, ai p0), (4, ai t15.2)]) rfl ?_
            exact hJ55_21 (((t15.1 * 10) + (wr q23.2)) - 48)

def L_X6_kindOfWord_2 (N : Nat) (σ : St) (this : Nat) (p0 : Int) : Int → Option (St × Int) := fixN N fun b2_1 t1 =>
 (if wr t1 < wr 34 then Option.bind (gR shx σ 6 this 0) fun ownWords_3 =>
 Option.bind (aI shx σ 2 ownWords_3 t1) fun a4 =>
 (if wl a4 = wl p0 then some (σ, t1) else Lt (t1 + 1) fun x5 =>
 b2_1 x5) else some (σ, 100))
def rm_X6_kindOfWord : Room := { frames := 0, cells := 0, slots := 0, locals := 0 }
def f_X6_kindOfWord (N : Nat) (σ : St) (this : Nat) (p0 : Int) : Option (St × Int) :=
 L_X6_kindOfWord_2 N σ this p0 0
set_option maxRecDepth 100000 in
set_option maxHeartbeats 4000000 in
theorem c_X6_kindOfWord (l : Launch) (D : va_G) (ca : Nat → ClassId) (ra : Nat → Nat) (N : Nat) (σ : St) (this : Nat) (p0 : Int) : Ctr l (D, ca, ra, shx) false yX6_kindOfWord cX6_kindOfWord 4 (some .int) rm_X6_kindOfWord σ [ar this, al p0] (f_X6_kindOfWord N σ this p0) := by
  refine ctr_of (by decide) (Nat.le_of_ble_eq_true rfl) (fun z C => ?_)
  show X z 0 0 σ 0 [(0, ar this), (1, al p0)] [] _
  unfold f_X6_kindOfWord
  refine x_iconst C (n := 0) (by decide +kernel) ?_
  refine x_istore_n C (i := 3) (k0 := 3) rfl (Nat.le_of_ble_eq_true rfl) (by decide +kernel) (lv2 := [(3, ai 0), (0, ar this), (1, al p0)]) rfl ?_
  refine x_sub [1, 2, 0] (lv2 := [(0, ar this), (1, al p0), (3, ai 0)]) rfl ?_
  -- LOOP L_X6_kindOfWord_2 hb2_1
  refine x_loop (T := Int) (fun t => σ) (fun t => [(0, ar this), (1, al p0), (3, ai t)]) 0 rfl (fun b2_1 hb2_1 t1 => ?_)
  show X z 0 0 σ 2 [(0, ar this), (1, al p0), (3, ai t1)] [] _
  refine x_iload_n C 2 (i := 3) (k0 := 3) rfl rfl (by decide +kernel) ?_
  refine x_bipush C (n := 34) (by decide +kernel) (by decide +kernel) ?_
  refine x_ic_ge C (tgt := 27) (off := 22) (by decide) (by decide +kernel) (fun h7 => ?_) (fun h7 => ?_)
  · skip
    refine x_bipush C (n := 100) (by decide +kernel) (by decide +kernel) ?_
    exact x_iret C ⟨Nat.zero_le _, Nat.zero_le _⟩ (by decide +kernel)
  · skip
    refine x_aload_n C 0 (i := 0) (k0 := 0) rfl rfl (by decide +kernel) ?_
    refine x_gR C fl_RX6_11 (fun _ _ _ => rfl) (by decide +kernel) (fun ownWords_3 => ?_)
    refine x_iload_n C 2 (i := 3) (k0 := 3) rfl rfl (by decide +kernel) ?_
    refine x_aldL C (by decide +kernel) (fun a4 => ?_)
    refine x_lload_n C 1 (i := 1) (k0 := 1) rfl rfl (by decide +kernel) ?_
    refine x_lcmp_ne C (tgt := 21) (off := 5) (by decide) (by decide +kernel) (by decide +kernel) (fun h6 => ?_) (fun h6 => ?_)
    · skip
      refine x_iinc C 2 (i := 3) (n := 1) (Nat.le_of_ble_eq_true rfl) rfl (by decide +kernel) (lv2 := fun x5 => [(3, ai x5), (0, ar this), (1, al p0)]) (fun _ => rfl) (fun x5 => ?_)
      refine x_goto C (tgt := 2) (off := (-22)) (by decide) (by decide +kernel) ?_
      refine x_sub [1, 2, 0] (lv2 := [(0, ar this), (1, al p0), (3, ai x5)]) rfl ?_
      exact hb2_1 x5
    · skip
      refine x_iload_n C 2 (i := 3) (k0 := 3) rfl rfl (by decide +kernel) ?_
      exact x_iret C ⟨Nat.zero_le _, Nat.zero_le _⟩ (by decide +kernel)
theorem p_X6_kindOfWord (N : Nat) (σ : St) (this : Nat) (p0 : Int) : Pu σ (f_X6_kindOfWord N σ this p0) := by
  unfold f_X6_kindOfWord
  unfold L_X6_kindOfWord_2
  refine pu_fix (fun _ hb2_1 _ => ?_) _
  refine pu_ifs ?_ ?_
  · skip
    exact pu_some
  · skip
    refine pu_bind (fun _ => ?_)
    refine pu_bind (fun _ => ?_)
    refine pu_ifs ?_ ?_
    · skip
      refine pu_Lt (fun _ => ?_)
      exact hb2_1 _
    · skip
      exact pu_some

def rm_X6_withLetter : Room := { frames := 0, cells := 0, slots := 0, locals := 0 }
def f_X6_withLetter (N : Nat) (σ : St) (p0 : Int) (p1 : Int) : Option (St × Int) :=
 some (σ, ((((p0 * 32) + (wr p1)) - 97) + 1))
set_option maxRecDepth 100000 in
set_option maxHeartbeats 4000000 in
theorem c_X6_withLetter (l : Launch) (D : va_G) (ca : Nat → ClassId) (ra : Nat → Nat) (N : Nat) (σ : St) (p0 : Int) (p1 : Int) : Ctr l (D, ca, ra, shx) false yX6_withLetter cX6_withLetter 3 (some .long) rm_X6_withLetter σ [al p0, ai p1] (f_X6_withLetter N σ p0 p1) := by
  refine ctr_of (by decide) (Nat.le_of_ble_eq_true rfl) (fun z C => ?_)
  show X z 0 0 σ 0 [(0, al p0), (2, ai p1)] [] _
  unfold f_X6_withLetter
  refine x_lload_n C 0 (i := 0) (k0 := 0) rfl rfl (by decide +kernel) ?_
  refine x_ldc2 C (n := 32) (v := 32) kl_RX6_142 (by decide +kernel) (by decide +kernel) ?_
  refine x_lmul C (by decide +kernel) ?_
  refine x_iload_n C 1 (i := 2) (k0 := 2) rfl rfl (by decide +kernel) ?_
  refine x_i2l C (by decide +kernel) ?_
  refine x_ladd C (by decide +kernel) ?_
  refine x_ldc2 C (n := 97) (v := 97) kl_RX6_144 (by decide +kernel) (by decide +kernel) ?_
  refine x_lsub C (by decide +kernel) ?_
  show X z 0 0 σ 12 [(0, al p0), (2, ai p1)] [al (((p0 * 32) + (wr p1)) - 97)] _
  refine x_lconst C (n := 1) (v := 1) (by decide +kernel) (by decide +kernel) ?_
  refine x_ladd C (by decide +kernel) ?_
  exact x_lret C ⟨Nat.zero_le _, Nat.zero_le _⟩ (by decide +kernel)
theorem p_X6_withLetter (N : Nat) (σ : St) (p0 : Int) (p1 : Int) : Pu σ (f_X6_withLetter N σ p0 p1) := by
  unfold f_X6_withLetter
  exact pu_some

def L_X6_splitWord_5 (N : Nat) (σ : St) (this : Nat) (p0 : Int) (J56_6 : (Int × Int → Option (St × Int))) : (Int × Int) → Option (St × Int) := fixN N fun b5_8 t8 =>
 Option.bind (gI shx σ 6 this 2) fun length_10 =>
 (if wr t8.2 < wr length_10 then Option.bind (rcv shx σ 6 this (f_X6_byteAt N σ this t8.2)) fun q11 =>
 Option.bind (f_X6_isLetter N σ q11.2) fun q12 =>
 (if wr q12.2 = 0 then J56_6 (t8.1, t8.2) else Jn (fun t13 : Int => Lt (t8.2 + 1) fun x14 =>
 b5_8 (t13, x14)) fun J49_14 =>
 (if wr (t8.2 - p0) < wr 8 then Option.bind (rcv shx σ 6 this (f_X6_byteAt N σ this t8.2)) fun q16 =>
 Option.bind (f_X6_withLetter N σ t8.1 q16.2) fun q17 =>
 J49_14 q17.2 else J49_14 t8.1)) else J56_6 (t8.1, t8.2))
def rm_X6_splitWord : Room := { frames := 2, cells := 0, slots := 0, locals := 46 }
def f_X6_splitWord (N : Nat) (σ : St) (this : Nat) (p0 : Int) : Option (St × Int) :=
 Jn (fun t1 : Int × Int => Jn (fun t2 : Int => Option.bind (rcv shx σ 6 this (f_X6_putToken N σ this t2 p0 t1.1)) fun q3 =>
 some (q3.1, t1.2)) fun J76_3 =>
 (if wr 8 < wr (t1.2 - p0) then J76_3 103 else Option.bind (rcv shx σ 6 this (f_X6_kindOfWord N σ this t1.1)) fun q5 =>
 J76_3 q5.2)) fun J56_6 =>
 L_X6_splitWord_5 N σ this p0 J56_6 (0, p0)
set_option maxRecDepth 100000 in
set_option maxHeartbeats 4000000 in
theorem c_X6_splitWord (l : Launch) (D : va_G) (ca : Nat → ClassId) (ra : Nat → Nat) (N : Nat) (σ : St) (this : Nat) (p0 : Int) : Ctr l (D, ca, ra, shx) false yX6_splitWord cX6_splitWord 5 (some .int) rm_X6_splitWord σ [ar this, ai p0] (f_X6_splitWord N σ this p0) := by
  refine ctr_of (by decide) (Nat.le_of_ble_eq_true rfl) (fun z C => ?_)
  show X z 0 0 σ 0 [(0, ar this), (1, ai p0)] [] _
  unfold f_X6_splitWord
  refine x_lconst C (n := 0) (v := 0) (by decide +kernel) (by decide +kernel) ?_
  refine x_lstore_n C (i := 2) (k0 := 2) rfl (Nat.le_of_ble_eq_true rfl) (by decide +kernel) (lv2 := [(2, al 0), (0, ar this), (1, ai p0)]) rfl ?_
  refine x_iload_n C 2 (i := 1) (k0 := 1) rfl rfl (by decide +kernel) ?_
  refine x_istore C (i := 4) (Nat.le_of_ble_eq_true rfl) (by decide +kernel) (lv2 := [(4, ai p0), (2, al 0), (0, ar this), (1, ai p0)]) rfl ?_
  refine x_join (T := Int × Int) (fun t => σ) 56 (fun t => [(0, ar this), (1, ai p0), (2, al t.1), (4, ai t.2)]) (fun t => []) (fun t1 => ?_) (fun J56_6 hJ56_6 => ?_)
  · show X z 0 0 σ 56 [(0, ar this), (1, ai p0), (2, al t1.1), (4, ai t1.2)] [] _
    refine x_aload_n C 0 (i := 0) (k0 := 0) rfl rfl (by decide +kernel) ?_
    refine x_iload C 3 (i := 4) rfl (by decide +kernel) ?_
    refine x_iload_n C 1 (i := 1) (k0 := 1) rfl rfl (by decide +kernel) ?_
    refine x_isub C (by decide +kernel) ?_
    refine x_bipush C (n := 8) (by decide +kernel) (by decide +kernel) ?_
    refine x_join (T := Int) (fun t => σ) 76 (fun t => [(1, ai p0), (2, al t1.1), (4, ai t1.2)]) (fun t => [ai t, ar this]) (fun t2 => ?_) (fun J76_3 hJ76_3 => ?_)
    · show X z 0 0 σ 76 [(1, ai p0), (2, al t1.1), (4, ai t1.2)] [ai t2, ar this] _
      refine x_iload_n C 0 (i := 1) (k0 := 1) rfl rfl (by decide +kernel) ?_
      refine x_lload_n C 1 (i := 2) (k0 := 2) rfl rfl (by decide +kernel) ?_
      refine x_callV C (ci := 6) (c_X6_putToken l D ca ra N σ this t2 p0 t1.1) mt_X6_putToken mv_X6_putToken rfl ml_RX6_130 rfl (fun h => Bool.noConfusion h) ⟨Nat.le_of_ble_eq_true rfl, Nat.le_of_ble_eq_true rfl⟩ (Nat.le_of_ble_eq_true rfl) 0 0 ⟨rfl, rfl⟩ ⟨Nat.zero_le _, Nat.zero_le _⟩ (by decide +kernel) _ rfl (fun q3 => []) (fun _ => rfl) (fun q3 => ?_)
      refine x_iload C 2 (i := 4) rfl (by decide +kernel) ?_
      exact x_iret C ⟨Nat.zero_le _, Nat.zero_le _⟩ (by decide +kernel)
    · skip
      refine x_ic_le C (tgt := 71) (off := 8) (by decide) (by decide +kernel) (fun h6 => ?_) (fun h6 => ?_)
      · skip
        refine x_aload_n C 0 (i := 0) (k0 := 0) rfl rfl (by decide +kernel) ?_
        refine x_lload_n C 2 (i := 2) (k0 := 2) rfl rfl (by decide +kernel) ?_
        refine x_callVp C (ci := 6) (c_X6_kindOfWord l D ca ra N σ this t1.1) (p_X6_kindOfWord N σ this t1.1) mt_X6_kindOfWord mv_X6_kindOfWord rfl ml_RX6_134 rfl (fun h => Bool.noConfusion h) ⟨Nat.le_of_ble_eq_true rfl, Nat.le_of_ble_eq_true rfl⟩ (Nat.le_of_ble_eq_true rfl) 0 0 ⟨rfl, rfl⟩ ⟨Nat.zero_le _, Nat.zero_le _⟩ (by decide +kernel) _ rfl (fun q5 => [ai q5.2, ar this]) (fun _ => rfl) (fun q5 => ?_)
        refine x_sub [1, 2, 3] (lv2 := [(1, ai p0), (2, al t1.1), (4, ai t1.2)]) rfl ?_
        exact hJ76_3 q5.2
      · skip
        refine x_bipush C (n := 103) (by decide +kernel) (by decide +kernel) ?_
        refine x_goto C (tgt := 76) (off := 8) (by decide) (by decide +kernel) ?_
        refine x_sub [1, 2, 3] (lv2 := [(1, ai p0), (2, al t1.1), (4, ai t1.2)]) rfl ?_
        exact hJ76_3 103
  · skip
    refine x_sub [2, 3, 1, 0] (lv2 := [(0, ar this), (1, ai p0), (2, al 0), (4, ai p0)]) rfl ?_
    -- LOOP L_X6_splitWord_5 hb5_8
    refine x_loop (T := Int × Int) (fun t => σ) (fun t => [(0, ar this), (1, ai p0), (2, al t.1), (4, ai t.2)]) (0, p0) rfl (fun b5_8 hb5_8 t8 => ?_)
    show X z 0 0 σ 5 [(0, ar this), (1, ai p0), (2, al t8.1), (4, ai t8.2)] [] _
    refine x_iload C 3 (i := 4) rfl (by decide +kernel) ?_
    refine x_aload_n C 0 (i := 0) (k0 := 0) rfl rfl (by decide +kernel) ?_
    refine x_gI C fl_RX6_40 (fun _ _ _ => rfl) (by decide +kernel) (fun length_10 => ?_)
    refine x_ic_ge C (tgt := 56) (off := 45) (by decide) (by decide +kernel) (fun h20 => ?_) (fun h20 => ?_)
    · skip
      exact hJ56_6 (t8.1, t8.2)
    · skip
      refine x_aload_n C 0 (i := 0) (k0 := 0) rfl rfl (by decide +kernel) ?_
      refine x_iload C 3 (i := 4) rfl (by decide +kernel) ?_
      refine x_callVp C (ci := 6) (c_X6_byteAt l D ca ra N σ this t8.2) (p_X6_byteAt N σ this t8.2) mt_X6_byteAt mv_X6_byteAt rfl ml_RX6_108 rfl (fun h => Bool.noConfusion h) ⟨Nat.le_of_ble_eq_true rfl, Nat.le_of_ble_eq_true rfl⟩ (Nat.le_of_ble_eq_true rfl) 0 0 ⟨rfl, rfl⟩ ⟨Nat.zero_le _, Nat.zero_le _⟩ (by decide +kernel) _ rfl (fun q11 => [ai q11.2]) (fun _ => rfl) (fun q11 => ?_)
      refine x_callSp C (c_X6_isLetter l D ca ra N σ q11.2) (p_X6_isLetter N σ q11.2) mt_X6_isLetter ms_X6_isLetter ml_RX6_112 rfl (fun h => Bool.noConfusion h) ⟨Nat.le_of_ble_eq_true rfl, Nat.le_of_ble_eq_true rfl⟩ (Nat.le_of_ble_eq_true rfl) 0 0 ⟨rfl, rfl⟩ ⟨Nat.zero_le _, Nat.zero_le _⟩ (by decide +kernel) _ rfl (fun q12 => [ai q12.2]) (fun _ => rfl) (fun q12 => ?_)
      refine x_if_eq C (tgt := 56) (off := 33) (by decide) (by decide +kernel) (fun h19 => ?_) (fun h19 => ?_)
      · skip
        exact hJ56_6 (t8.1, t8.2)
      · skip
        refine x_iload C 3 (i := 4) rfl (by decide +kernel) ?_
        refine x_iload_n C 1 (i := 1) (k0 := 1) rfl rfl (by decide +kernel) ?_
        refine x_isub C (by decide +kernel) ?_
        refine x_bipush C (n := 8) (by decide +kernel) (by decide +kernel) ?_
        refine x_join (T := Int) (fun t => σ) 49 (fun t => [(0, ar this), (1, ai p0), (4, ai t8.2)]) (fun t => [al t]) (fun t13 => ?_) (fun J49_14 hJ49_14 => ?_)
        · show X z 0 0 σ 49 [(0, ar this), (1, ai p0), (4, ai t8.2)] [al t13] _
          refine x_lstore_n C (i := 2) (k0 := 2) rfl (Nat.le_of_ble_eq_true rfl) (by decide +kernel) (lv2 := [(2, al t13), (0, ar this), (1, ai p0), (4, ai t8.2)]) rfl ?_
          refine x_iinc C 3 (i := 4) (n := 1) (Nat.le_of_ble_eq_true rfl) rfl (by decide +kernel) (lv2 := fun x14 => [(4, ai x14), (2, al t13), (0, ar this), (1, ai p0)]) (fun _ => rfl) (fun x14 => ?_)
          refine x_goto C (tgt := 5) (off := (-48)) (by decide) (by decide +kernel) ?_
          refine x_sub [2, 3, 1, 0] (lv2 := [(0, ar this), (1, ai p0), (2, al t13), (4, ai x14)]) rfl ?_
          exact hb5_8 (t13, x14)
        · skip
          refine x_ic_ge C (tgt := 48) (off := 16) (by decide) (by decide +kernel) (fun h18 => ?_) (fun h18 => ?_)
          · skip
            refine x_lload_n C 2 (i := 2) (k0 := 2) rfl rfl (by decide +kernel) ?_
            refine x_sub [0, 1, 3] (lv2 := [(0, ar this), (1, ai p0), (4, ai t8.2)]) rfl ?_
            exact hJ49_14 t8.1
          · skip
            refine x_lload_n C 2 (i := 2) (k0 := 2) rfl rfl (by decide +kernel) ?_
            refine x_aload_n C 0 (i := 0) (k0 := 0) rfl rfl (by decide +kernel) ?_
            refine x_iload C 3 (i := 4) rfl (by decide +kernel) ?_
            refine x_callVp C (ci := 6) (c_X6_byteAt l D ca ra N σ this t8.2) (p_X6_byteAt N σ this t8.2) mt_X6_byteAt mv_X6_byteAt rfl ml_RX6_108 rfl (fun h => Bool.noConfusion h) ⟨Nat.le_of_ble_eq_true rfl, Nat.le_of_ble_eq_true rfl⟩ (Nat.le_of_ble_eq_true rfl) 0 0 ⟨rfl, rfl⟩ ⟨Nat.zero_le _, Nat.zero_le _⟩ (by decide +kernel) _ rfl (fun q16 => [ai q16.2, al t8.1]) (fun _ => rfl) (fun q16 => ?_)
            refine x_callSp C (c_X6_withLetter l D ca ra N σ t8.1 q16.2) (p_X6_withLetter N σ t8.1 q16.2) mt_X6_withLetter ms_X6_withLetter ml_RX6_104 rfl (fun h => Bool.noConfusion h) ⟨Nat.le_of_ble_eq_true rfl, Nat.le_of_ble_eq_true rfl⟩ (Nat.le_of_ble_eq_true rfl) 0 0 ⟨rfl, rfl⟩ ⟨Nat.zero_le _, Nat.zero_le _⟩ (by decide +kernel) _ rfl (fun q17 => [al q17.2]) (fun _ => rfl) (fun q17 => ?_)
            refine x_goto C (tgt := 49) (off := 4) (by decide) (by decide +kernel) ?_
            refine x_sub [0, 1, 3] (lv2 := [(0, ar this), (1, ai p0), (4, ai t8.2)]) rfl ?_
            exact hJ49_14 q17.2

def rm_X6_hasRoom : Room := { frames := 0, cells := 0, slots := 0, locals := 0 }
def f_X6_hasRoom (N : Nat) (σ : St) (this : Nat) (p0 : Int) : Option (St × Int) :=
 Option.bind (gI shx σ 6 this 2) fun length_1 =>
 (if wr 1300 < wr (length_1 + p0) then some (σ, 0) else some (σ, 1))
set_option maxRecDepth 100000 in
set_option maxHeartbeats 4000000 in
theorem c_X6_hasRoom (l : Launch) (D : va_G) (ca : Nat → ClassId) (ra : Nat → Nat) (N : Nat) (σ : St) (this : Nat) (p0 : Int) : Ctr l (D, ca, ra, shx) false yX6_hasRoom cX6_hasRoom 2 (some .boolean) rm_X6_hasRoom σ [ar this, ai p0] (f_X6_hasRoom N σ this p0) := by
  refine ctr_of (by decide) (Nat.le_of_ble_eq_true rfl) (fun z C => ?_)
  show X z 0 0 σ 0 [(0, ar this), (1, ai p0)] [] _
  unfold f_X6_hasRoom
  refine x_aload_n C 0 (i := 0) (k0 := 0) rfl rfl (by decide +kernel) ?_
  refine x_gI C fl_RX6_40 (fun _ _ _ => rfl) (by decide +kernel) (fun length_1 => ?_)
  refine x_iload_n C 1 (i := 1) (k0 := 1) rfl rfl (by decide +kernel) ?_
  refine x_iadd C (by decide +kernel) ?_
  refine x_sipush C (n := 1300) (by decide +kernel) (by decide +kernel) ?_
  refine x_ic_gt C (tgt := 16) (off := 7) (by decide) (by decide +kernel) (fun h2 => ?_) (fun h2 => ?_)
  · skip
    refine x_iconst C (n := 0) (by decide +kernel) ?_
    exact x_zret C (Or.inl rfl) ⟨Nat.zero_le _, Nat.zero_le _⟩ (by decide +kernel)
  · skip
    refine x_iconst C (n := 1) (by decide +kernel) ?_
    refine x_goto C (tgt := 17) (off := 4) (by decide) (by decide +kernel) ?_
    exact x_zret C (Or.inr rfl) ⟨Nat.zero_le _, Nat.zero_le _⟩ (by decide +kernel)
theorem p_X6_hasRoom (N : Nat) (σ : St) (this : Nat) (p0 : Int) : Pu σ (f_X6_hasRoom N σ this p0) := by
  unfold f_X6_hasRoom
  refine pu_bind (fun _ => ?_)
  refine pu_if ?_ ?_
  · skip
    exact pu_some
  · skip
    exact pu_some

def L_X6_append_3 (N : Nat) (this : Nat) (p0 : Int) : (St × Int) → Option (St × Int) := fixN N fun b3_1 t1 =>
 (if wr t1.2 < 0 then some (t1.1, 0) else Option.bind (gI shx t1.1 6 this 2) fun length_3 =>
 (if wr length_3 < wr 1300 then Option.bind (gR shx t1.1 6 this 1) fun text_4 =>
 Option.bind (gI shx t1.1 6 this 2) fun length_5 =>
 Option.bind (sI shx t1.1 1 text_4 length_5 (andZ (ushrZ p0 t1.2) 255)) fun σ6 =>
 Option.bind (gI shx σ6 6 this 2) fun length_7 =>
 Option.bind (pI shx σ6 6 this 2 (length_7 + 1)) fun σ8 =>
 Lt (t1.2 + (-8)) fun x9 =>
 b3_1 (σ8, x9) else some (t1.1, 0)))
def rm_X6_append : Room := { frames := 0, cells := 0, slots := 0, locals := 0 }
def f_X6_append (N : Nat) (σ : St) (this : Nat) (p0 : Int) : Option (St × Int) :=
 L_X6_append_3 N this p0 (σ, 24)
set_option maxRecDepth 100000 in
set_option maxHeartbeats 4000000 in
theorem c_X6_append (l : Launch) (D : va_G) (ca : Nat → ClassId) (ra : Nat → Nat) (N : Nat) (σ : St) (this : Nat) (p0 : Int) : Ctr l (D, ca, ra, shx) false yX6_append cX6_append 3 none rm_X6_append σ [ar this, ai p0] (f_X6_append N σ this p0) := by
  refine ctr_of (by decide) (Nat.le_of_ble_eq_true rfl) (fun z C => ?_)
  show X z 0 0 σ 0 [(0, ar this), (1, ai p0)] [] _
  unfold f_X6_append
  refine x_bipush C (n := 24) (by decide +kernel) (by decide +kernel) ?_
  refine x_istore_n C (i := 2) (k0 := 2) rfl (Nat.le_of_ble_eq_true rfl) (by decide +kernel) (lv2 := [(2, ai 24), (0, ar this), (1, ai p0)]) rfl ?_
  refine x_sub [1, 2, 0] (lv2 := [(0, ar this), (1, ai p0), (2, ai 24)]) rfl ?_
  -- LOOP L_X6_append_3 hb3_1
  refine x_loop (T := St × Int) (fun t => t.1) (fun t => [(0, ar this), (1, ai p0), (2, ai t.2)]) (σ, 24) rfl (fun b3_1 hb3_1 t1 => ?_)
  show X z 0 0 t1.1 3 [(0, ar this), (1, ai p0), (2, ai t1.2)] [] _
  refine x_iload_n C 2 (i := 2) (k0 := 2) rfl rfl (by decide +kernel) ?_
  refine x_if_lt C (tgt := 49) (off := 45) (by decide) (by decide +kernel) (fun h11 => ?_) (fun h11 => ?_)
  · skip
    exact x_vret C ⟨Nat.zero_le _, Nat.zero_le _⟩ (by decide +kernel)
  · skip
    refine x_aload_n C 0 (i := 0) (k0 := 0) rfl rfl (by decide +kernel) ?_
    refine x_gI C fl_RX6_40 (fun _ _ _ => rfl) (by decide +kernel) (fun length_3 => ?_)
    refine x_sipush C (n := 1300) (by decide +kernel) (by decide +kernel) ?_
    refine x_ic_ge C (tgt := 49) (off := 35) (by decide) (by decide +kernel) (fun h10 => ?_) (fun h10 => ?_)
    · skip
      exact x_vret C ⟨Nat.zero_le _, Nat.zero_le _⟩ (by decide +kernel)
    · skip
      refine x_aload_n C 0 (i := 0) (k0 := 0) rfl rfl (by decide +kernel) ?_
      refine x_gR C fl_RX6_15 (fun _ _ _ => rfl) (by decide +kernel) (fun text_4 => ?_)
      refine x_aload_n C 0 (i := 0) (k0 := 0) rfl rfl (by decide +kernel) ?_
      refine x_gI C fl_RX6_40 (fun _ _ _ => rfl) (by decide +kernel) (fun length_5 => ?_)
      refine x_iload_n C 1 (i := 1) (k0 := 1) rfl rfl (by decide +kernel) ?_
      refine x_iload_n C 2 (i := 2) (k0 := 2) rfl rfl (by decide +kernel) ?_
      refine x_iushr C (by decide +kernel) ?_
      refine x_sipush C (n := 255) (by decide +kernel) (by decide +kernel) ?_
      show X z 0 0 t1.1 31 [(0, ar this), (1, ai p0), (2, ai t1.2)] [ai 255, ai (ushrZ p0 t1.2), ai length_5, ar text_4] _
      refine x_iand C (by decide +kernel) ?_
      refine x_astI C (by decide +kernel) (fun σ6 => ?_)
      refine x_aload_n C 0 (i := 0) (k0 := 0) rfl rfl (by decide +kernel) ?_
      refine x_dup C rfl (by decide +kernel) ?_
      refine x_gI C fl_RX6_40 (fun _ _ _ => rfl) (by decide +kernel) (fun length_7 => ?_)
      refine x_iconst C (n := 1) (by decide +kernel) ?_
      refine x_iadd C (by decide +kernel) ?_
      refine x_pI C fl_RX6_40 rfl (fun q h => by cases h; rfl) (by decide +kernel) (fun σ8 => ?_)
      show X z 0 0 σ8 43 [(0, ar this), (1, ai p0), (2, ai t1.2)] [] _
      refine x_iinc C 2 (i := 2) (n := (-8)) (Nat.le_of_ble_eq_true rfl) rfl (by decide +kernel) (lv2 := fun x9 => [(2, ai x9), (0, ar this), (1, ai p0)]) (fun _ => rfl) (fun x9 => ?_)
      refine x_goto C (tgt := 3) (off := (-43)) (by decide) (by decide +kernel) ?_
      refine x_sub [1, 2, 0] (lv2 := [(0, ar this), (1, ai p0), (2, ai x9)]) rfl ?_
      exact hb3_1 (σ8, x9)
