def L_X4_fittingWith_5 (N : Nat) (σ : St) (p0 : Nat) (p1 : Int) (p2 : Int) : (Int × Int) → Option (St × Int) := fixN N fun b5_1 t1 =>
 Option.bind (gI shx σ 3 p0 7) fun joins_3 =>
 (if wr t1.2 < wr joins_3 then Option.bind (gR shx σ 3 p0 8) fun left_4 =>
 Option.bind (aI shx σ 1 left_4 t1.2) fun a5 =>
 Option.bind (gR shx σ 3 p0 9) fun right_6 =>
 Option.bind (aI shx σ 1 right_6 t1.2) fun a7 =>
 Jn (fun t8 : Int => Jn (fun t9 : Int => Option.bind (gR shx σ 3 p0 10) fun gap_10 =>
 Option.bind (aI shx σ 1 gap_10 t1.2) fun a11 =>
 Jn (fun t12 : Int => Lt (t1.2 + 1) fun x13 =>
 b5_1 (t12, x13)) fun J91_13 =>
 (if wr a11 < wr (abZ (t8 - t9)) then J91_13 t1.1 else Lt (t1.1 + 1) fun x15 =>
 J91_13 x15)) fun J68_16 =>
 (if wr a7 = wr p1 then J68_16 p2 else Option.bind (rcv shx σ 3 p0 (f_X3_lengthAt N σ p0 a7 0)) fun q18 =>
 J68_16 q18.2)) fun J49_19 =>
 (if wr a5 = wr p1 then J49_19 p2 else Option.bind (rcv shx σ 3 p0 (f_X3_lengthAt N σ p0 a5 0)) fun q21 =>
 J49_19 q21.2) else some (σ, t1.1))
def rm_X4_fittingWith : Room := { frames := 2, cells := 0, slots := 0, locals := 46 }
def f_X4_fittingWith (N : Nat) (σ : St) (p0 : Nat) (p1 : Int) (p2 : Int) : Option (St × Int) :=
 L_X4_fittingWith_5 N σ p0 p1 p2 (0, 0)
set_option maxRecDepth 100000 in
set_option maxHeartbeats 4000000 in
theorem c_X4_fittingWith (l : Launch) (D : va_G) (ca : Nat → ClassId) (ra : Nat → Nat) (N : Nat) (σ : St) (p0 : Nat) (p1 : Int) (p2 : Int) : Ctr l (D, ca, ra, shx) false yX4_fittingWith cX4_fittingWith 9 (some .int) rm_X4_fittingWith σ [ar p0, ai p1, ai p2] (f_X4_fittingWith N σ p0 p1 p2) := by
  refine ctr_of (by decide) (Nat.le_of_ble_eq_true rfl) (fun z C => ?_)
  show X z 0 0 σ 0 [(0, ar p0), (1, ai p1), (2, ai p2)] [] _
  unfold f_X4_fittingWith
  refine x_iconst C (n := 0) (by decide +kernel) ?_
  refine x_istore_n C (i := 3) (k0 := 3) rfl (Nat.le_of_ble_eq_true rfl) (by decide +kernel) (lv2 := [(3, ai 0), (0, ar p0), (1, ai p1), (2, ai p2)]) rfl ?_
  refine x_iconst C (n := 0) (by decide +kernel) ?_
  refine x_istore C (i := 4) (Nat.le_of_ble_eq_true rfl) (by decide +kernel) (lv2 := [(4, ai 0), (3, ai 0), (0, ar p0), (1, ai p1), (2, ai p2)]) rfl ?_
  refine x_sub [2, 3, 4, 1, 0] (lv2 := [(0, ar p0), (1, ai p1), (2, ai p2), (3, ai 0), (4, ai 0)]) rfl ?_
  -- LOOP L_X4_fittingWith_5 hb5_1
  refine x_loop (T := Int × Int) (fun t => σ) (fun t => [(0, ar p0), (1, ai p1), (2, ai p2), (3, ai t.1), (4, ai t.2)]) (0, 0) rfl (fun b5_1 hb5_1 t1 => ?_)
  show X z 0 0 σ 5 [(0, ar p0), (1, ai p1), (2, ai p2), (3, ai t1.1), (4, ai t1.2)] [] _
  refine x_iload C 4 (i := 4) rfl (by decide +kernel) ?_
  refine x_aload_n C 0 (i := 0) (k0 := 0) rfl rfl (by decide +kernel) ?_
  refine x_gI C fl_RX4_28 (fun _ _ _ => rfl) (by decide +kernel) (fun joins_3 => ?_)
  refine x_ic_ge C (tgt := 97) (off := 86) (by decide) (by decide +kernel) (fun h23 => ?_) (fun h23 => ?_)
  · skip
    refine x_iload_n C 3 (i := 3) (k0 := 3) rfl rfl (by decide +kernel) ?_
    exact x_iret C ⟨Nat.zero_le _, Nat.zero_le _⟩ (by decide +kernel)
  · skip
    refine x_aload_n C 0 (i := 0) (k0 := 0) rfl rfl (by decide +kernel) ?_
    refine x_gR C fl_RX4_33 (fun _ _ _ => rfl) (by decide +kernel) (fun left_4 => ?_)
    refine x_iload C 4 (i := 4) rfl (by decide +kernel) ?_
    refine x_aldI C (by decide +kernel) (fun a5 => ?_)
    refine x_istore C (i := 5) (Nat.le_of_ble_eq_true rfl) (by decide +kernel) (lv2 := [(5, ai a5), (0, ar p0), (1, ai p1), (2, ai p2), (3, ai t1.1), (4, ai t1.2)]) rfl ?_
    refine x_aload_n C 1 (i := 0) (k0 := 0) rfl rfl (by decide +kernel) ?_
    refine x_gR C fl_RX4_37 (fun _ _ _ => rfl) (by decide +kernel) (fun right_6 => ?_)
    refine x_iload C 5 (i := 4) rfl (by decide +kernel) ?_
    show X z 0 0 σ 29 [(5, ai a5), (0, ar p0), (1, ai p1), (2, ai p2), (3, ai t1.1), (4, ai t1.2)] [ai t1.2, ar right_6] _
    refine x_aldI C (by decide +kernel) (fun a7 => ?_)
    refine x_istore C (i := 6) (Nat.le_of_ble_eq_true rfl) (by decide +kernel) (lv2 := [(6, ai a7), (5, ai a5), (0, ar p0), (1, ai p1), (2, ai p2), (3, ai t1.1), (4, ai t1.2)]) rfl ?_
    refine x_iload C 1 (i := 5) rfl (by decide +kernel) ?_
    refine x_iload_n C 3 (i := 1) (k0 := 1) rfl rfl (by decide +kernel) ?_
    refine x_join (T := Int) (fun t => σ) 49 (fun t => [(0, ar p0), (1, ai p1), (2, ai p2), (3, ai t1.1), (4, ai t1.2), (6, ai a7)]) (fun t => [ai t]) (fun t8 => ?_) (fun J49_19 hJ49_19 => ?_)
    · show X z 0 0 σ 49 [(0, ar p0), (1, ai p1), (2, ai p2), (3, ai t1.1), (4, ai t1.2), (6, ai a7)] [ai t8] _
      refine x_istore C (i := 7) (Nat.le_of_ble_eq_true rfl) (by decide +kernel) (lv2 := [(7, ai t8), (0, ar p0), (1, ai p1), (2, ai p2), (3, ai t1.1), (4, ai t1.2), (6, ai a7)]) rfl ?_
      refine x_iload C 6 (i := 6) rfl (by decide +kernel) ?_
      refine x_iload_n C 2 (i := 1) (k0 := 1) rfl rfl (by decide +kernel) ?_
      refine x_join (T := Int) (fun t => σ) 68 (fun t => [(0, ar p0), (1, ai p1), (2, ai p2), (3, ai t1.1), (4, ai t1.2), (7, ai t8)]) (fun t => [ai t]) (fun t9 => ?_) (fun J68_16 hJ68_16 => ?_)
      · show X z 0 0 σ 68 [(0, ar p0), (1, ai p1), (2, ai p2), (3, ai t1.1), (4, ai t1.2), (7, ai t8)] [ai t9] _
        refine x_istore C (i := 8) (Nat.le_of_ble_eq_true rfl) (by decide +kernel) (lv2 := [(8, ai t9), (0, ar p0), (1, ai p1), (2, ai p2), (3, ai t1.1), (4, ai t1.2), (7, ai t8)]) rfl ?_
        refine x_iload C 6 (i := 7) rfl (by decide +kernel) ?_
        refine x_iload C 0 (i := 8) rfl (by decide +kernel) ?_
        refine x_isub C (by decide +kernel) ?_
        refine x_abs C mth_abs ml_RX4_55 ⟨Nat.le_of_ble_eq_true rfl, Nat.le_of_ble_eq_true rfl⟩ ⟨Nat.zero_le _, Nat.zero_le _⟩ (by decide +kernel) ?_
        refine x_aload_n C 1 (i := 0) (k0 := 0) rfl rfl (by decide +kernel) ?_
        refine x_gR C fl_RX4_40 (fun _ _ _ => rfl) (by decide +kernel) (fun gap_10 => ?_)
        refine x_iload C 5 (i := 4) rfl (by decide +kernel) ?_
        show X z 0 0 σ 84 [(8, ai t9), (0, ar p0), (1, ai p1), (2, ai p2), (3, ai t1.1), (4, ai t1.2), (7, ai t8)] [ai t1.2, ar gap_10, ai (abZ (t8 - t9))] _
        refine x_aldI C (by decide +kernel) (fun a11 => ?_)
        refine x_join (T := Int) (fun t => σ) 91 (fun t => [(0, ar p0), (1, ai p1), (2, ai p2), (3, ai t), (4, ai t1.2)]) (fun t => []) (fun t12 => ?_) (fun J91_13 hJ91_13 => ?_)
        · show X z 0 0 σ 91 [(0, ar p0), (1, ai p1), (2, ai p2), (3, ai t12), (4, ai t1.2)] [] _
          refine x_iinc C 4 (i := 4) (n := 1) (Nat.le_of_ble_eq_true rfl) rfl (by decide +kernel) (lv2 := fun x13 => [(4, ai x13), (0, ar p0), (1, ai p1), (2, ai p2), (3, ai t12)]) (fun _ => rfl) (fun x13 => ?_)
          refine x_goto C (tgt := 5) (off := (-89)) (by decide) (by decide +kernel) ?_
          refine x_sub [1, 2, 3, 4, 0] (lv2 := [(0, ar p0), (1, ai p1), (2, ai p2), (3, ai t12), (4, ai x13)]) rfl ?_
          exact hb5_1 (t12, x13)
        · skip
          refine x_ic_gt C (tgt := 91) (off := 6) (by decide) (by decide +kernel) (fun h16 => ?_) (fun h16 => ?_)
          · skip
            refine x_sub [1, 2, 3, 4, 5] (lv2 := [(0, ar p0), (1, ai p1), (2, ai p2), (3, ai t1.1), (4, ai t1.2)]) rfl ?_
            exact hJ91_13 t1.1
          · skip
            refine x_iinc C 4 (i := 3) (n := 1) (Nat.le_of_ble_eq_true rfl) rfl (by decide +kernel) (lv2 := fun x15 => [(3, ai x15), (8, ai t9), (0, ar p0), (1, ai p1), (2, ai p2), (4, ai t1.2), (7, ai t8)]) (fun _ => rfl) (fun x15 => ?_)
            refine x_sub [2, 3, 4, 0, 5] (lv2 := [(0, ar p0), (1, ai p1), (2, ai p2), (3, ai x15), (4, ai t1.2)]) rfl ?_
            exact hJ91_13 x15
      · skip
        refine x_ic_ne C (tgt := 61) (off := 7) (by decide) (by decide +kernel) (fun h19 => ?_) (fun h19 => ?_)
        · skip
          refine x_aload_n C 1 (i := 0) (k0 := 0) rfl rfl (by decide +kernel) ?_
          refine x_iload C 6 (i := 6) rfl (by decide +kernel) ?_
          refine x_iconst C (n := 0) (by decide +kernel) ?_
          refine x_callVp C (ci := 3) (c_X3_lengthAt l D ca ra N σ p0 a7 0) (p_X3_lengthAt N σ p0 a7 0) mt_X3_lengthAt mv_X3_lengthAt rfl ml_RX4_47 rfl (fun h => Bool.noConfusion h) ⟨Nat.le_of_ble_eq_true rfl, Nat.le_of_ble_eq_true rfl⟩ (Nat.le_of_ble_eq_true rfl) 0 0 ⟨rfl, rfl⟩ ⟨Nat.zero_le _, Nat.zero_le _⟩ (by decide +kernel) _ rfl (fun q18 => [ai q18.2]) (fun _ => rfl) (fun q18 => ?_)
          refine x_sub [1, 2, 3, 4, 5, 0] (lv2 := [(0, ar p0), (1, ai p1), (2, ai p2), (3, ai t1.1), (4, ai t1.2), (7, ai t8)]) rfl ?_
          exact hJ68_16 q18.2
        · skip
          refine x_iload_n C 3 (i := 2) (k0 := 2) rfl rfl (by decide +kernel) ?_
          refine x_goto C (tgt := 68) (off := 10) (by decide) (by decide +kernel) ?_
          refine x_sub [1, 2, 3, 4, 5, 0] (lv2 := [(0, ar p0), (1, ai p1), (2, ai p2), (3, ai t1.1), (4, ai t1.2), (7, ai t8)]) rfl ?_
          exact hJ68_16 p2
    · skip
      refine x_ic_ne C (tgt := 42) (off := 7) (by decide) (by decide +kernel) (fun h22 => ?_) (fun h22 => ?_)
      · skip
        refine x_aload_n C 2 (i := 0) (k0 := 0) rfl rfl (by decide +kernel) ?_
        refine x_iload C 1 (i := 5) rfl (by decide +kernel) ?_
        refine x_iconst C (n := 0) (by decide +kernel) ?_
        refine x_callVp C (ci := 3) (c_X3_lengthAt l D ca ra N σ p0 a5 0) (p_X3_lengthAt N σ p0 a5 0) mt_X3_lengthAt mv_X3_lengthAt rfl ml_RX4_47 rfl (fun h => Bool.noConfusion h) ⟨Nat.le_of_ble_eq_true rfl, Nat.le_of_ble_eq_true rfl⟩ (Nat.le_of_ble_eq_true rfl) 0 0 ⟨rfl, rfl⟩ ⟨Nat.zero_le _, Nat.zero_le _⟩ (by decide +kernel) _ rfl (fun q21 => [ai q21.2]) (fun _ => rfl) (fun q21 => ?_)
        refine x_sub [2, 3, 4, 5, 6, 0] (lv2 := [(0, ar p0), (1, ai p1), (2, ai p2), (3, ai t1.1), (4, ai t1.2), (6, ai a7)]) rfl ?_
        exact hJ49_19 q21.2
      · skip
        refine x_iload_n C 4 (i := 2) (k0 := 2) rfl rfl (by decide +kernel) ?_
        refine x_goto C (tgt := 49) (off := 10) (by decide) (by decide +kernel) ?_
        refine x_sub [2, 3, 4, 5, 6, 0] (lv2 := [(0, ar p0), (1, ai p1), (2, ai p2), (3, ai t1.1), (4, ai t1.2), (6, ai a7)]) rfl ?_
        exact hJ49_19 p2
theorem p_X4_fittingWith (N : Nat) (σ : St) (p0 : Nat) (p1 : Int) (p2 : Int) : Pu σ (f_X4_fittingWith N σ p0 p1 p2) := by
  unfold f_X4_fittingWith
  unfold L_X4_fittingWith_5
  refine pu_fix (fun _ hb5_1 _ => ?_) _
  refine pu_bind (fun _ => ?_)
  refine pu_ifs ?_ ?_
  · skip
    exact pu_some
  · skip
    refine pu_bind (fun _ => ?_)
    refine pu_bind (fun _ => ?_)
    refine pu_bind (fun _ => ?_)
    refine pu_bind (fun _ => ?_)
    refine pu_Jn (fun _ => ?_) (fun _ hJ49_19 => ?_)
    · skip
      refine pu_Jn (fun _ => ?_) (fun _ hJ68_16 => ?_)
      · skip
        refine pu_bind (fun _ => ?_)
        refine pu_bind (fun _ => ?_)
        refine pu_Jn (fun _ => ?_) (fun _ hJ91_13 => ?_)
        · skip
          refine pu_Lt (fun _ => ?_)
          exact hb5_1 _
        · skip
          refine pu_if ?_ ?_
          · skip
            exact hJ91_13 _
          · skip
            refine pu_Lt (fun _ => ?_)
            exact hJ91_13 _
      · skip
        refine pu_ifs ?_ ?_
        · skip
          refine pu_bind (fun _ => ?_)
          exact hJ68_16 _
        · skip
          exact hJ68_16 _
    · skip
      refine pu_ifs ?_ ?_
      · skip
        refine pu_bind (fun _ => ?_)
        exact hJ49_19 _
      · skip
        exact hJ49_19 _

def rm_X4_isNearer : Room := { frames := 0, cells := 0, slots := 0, locals := 0 }
def f_X4_isNearer (N : Nat) (σ : St) (this : Nat) (p0 : Int) (p1 : Int) (p2 : Int) : Option (St × Int) :=
 Option.bind (gI shx σ 4 this 3) fun change_1 =>
 (if wr p2 = wr change_1 then Option.bind (gI shx σ 4 this 0) fun part_2 =>
 (if wr p0 = wr part_2 then Option.bind (gI shx σ 4 this 1) fun length_3 =>
 (if wr p1 < wr length_3 then some (σ, 1) else some (σ, 0)) else Option.bind (gI shx σ 4 this 0) fun part_5 =>
 (if wr p0 < wr part_5 then some (σ, 1) else some (σ, 0))) else Option.bind (gI shx σ 4 this 3) fun change_8 =>
 (if wr p2 < wr change_8 then some (σ, 1) else some (σ, 0)))
set_option maxRecDepth 100000 in
set_option maxHeartbeats 4000000 in
theorem c_X4_isNearer (l : Launch) (D : va_G) (ca : Nat → ClassId) (ra : Nat → Nat) (N : Nat) (σ : St) (this : Nat) (p0 : Int) (p1 : Int) (p2 : Int) : Ctr l (D, ca, ra, shx) false yX4_isNearer cX4_isNearer 4 (some .boolean) rm_X4_isNearer σ [ar this, ai p0, ai p1, ai p2] (f_X4_isNearer N σ this p0 p1 p2) := by
  refine ctr_of (by decide) (Nat.le_of_ble_eq_true rfl) (fun z C => ?_)
  show X z 0 0 σ 0 [(0, ar this), (1, ai p0), (2, ai p1), (3, ai p2)] [] _
  unfold f_X4_isNearer
  refine x_iload_n C 3 (i := 3) (k0 := 3) rfl rfl (by decide +kernel) ?_
  refine x_aload_n C 0 (i := 0) (k0 := 0) rfl rfl (by decide +kernel) ?_
  refine x_gI C fl_RX4_18 (fun _ _ _ => rfl) (by decide +kernel) (fun change_1 => ?_)
  refine x_ic_eq C (tgt := 22) (off := 17) (by decide) (by decide +kernel) (fun h10 => ?_) (fun h10 => ?_)
  · skip
    refine x_iload_n C 1 (i := 1) (k0 := 1) rfl rfl (by decide +kernel) ?_
    refine x_aload_n C 0 (i := 0) (k0 := 0) rfl rfl (by decide +kernel) ?_
    refine x_gI C fl_RX4_9 (fun _ _ _ => rfl) (by decide +kernel) (fun part_2 => ?_)
    refine x_ic_eq C (tgt := 46) (off := 19) (by decide) (by decide +kernel) (fun h7 => ?_) (fun h7 => ?_)
    · skip
      refine x_iload_n C 2 (i := 2) (k0 := 2) rfl rfl (by decide +kernel) ?_
      refine x_aload_n C 0 (i := 0) (k0 := 0) rfl rfl (by decide +kernel) ?_
      refine x_gI C fl_RX4_15 (fun _ _ _ => rfl) (by decide +kernel) (fun length_3 => ?_)
      refine x_ic_ge C (tgt := 58) (off := 7) (by decide) (by decide +kernel) (fun h4 => ?_) (fun h4 => ?_)
      · skip
        refine x_iconst C (n := 0) (by decide +kernel) ?_
        exact x_zret C (Or.inl rfl) ⟨Nat.zero_le _, Nat.zero_le _⟩ (by decide +kernel)
      · skip
        refine x_iconst C (n := 1) (by decide +kernel) ?_
        refine x_goto C (tgt := 59) (off := 4) (by decide) (by decide +kernel) ?_
        exact x_zret C (Or.inr rfl) ⟨Nat.zero_le _, Nat.zero_le _⟩ (by decide +kernel)
    · skip
      refine x_iload_n C 1 (i := 1) (k0 := 1) rfl rfl (by decide +kernel) ?_
      refine x_aload_n C 0 (i := 0) (k0 := 0) rfl rfl (by decide +kernel) ?_
      refine x_gI C fl_RX4_9 (fun _ _ _ => rfl) (by decide +kernel) (fun part_5 => ?_)
      refine x_ic_ge C (tgt := 42) (off := 7) (by decide) (by decide +kernel) (fun h6 => ?_) (fun h6 => ?_)
      · skip
        refine x_iconst C (n := 0) (by decide +kernel) ?_
        refine x_goto C (tgt := 59) (off := 16) (by decide) (by decide +kernel) ?_
        exact x_zret C (Or.inl rfl) ⟨Nat.zero_le _, Nat.zero_le _⟩ (by decide +kernel)
      · skip
        refine x_iconst C (n := 1) (by decide +kernel) ?_
        refine x_goto C (tgt := 59) (off := 20) (by decide) (by decide +kernel) ?_
        exact x_zret C (Or.inr rfl) ⟨Nat.zero_le _, Nat.zero_le _⟩ (by decide +kernel)
  · skip
    refine x_iload_n C 3 (i := 3) (k0 := 3) rfl rfl (by decide +kernel) ?_
    refine x_aload_n C 0 (i := 0) (k0 := 0) rfl rfl (by decide +kernel) ?_
    refine x_gI C fl_RX4_18 (fun _ _ _ => rfl) (by decide +kernel) (fun change_8 => ?_)
    refine x_ic_ge C (tgt := 20) (off := 7) (by decide) (by decide +kernel) (fun h9 => ?_) (fun h9 => ?_)
    · skip
      refine x_iconst C (n := 0) (by decide +kernel) ?_
      exact x_zret C (Or.inl rfl) ⟨Nat.zero_le _, Nat.zero_le _⟩ (by decide +kernel)
    · skip
      refine x_iconst C (n := 1) (by decide +kernel) ?_
      refine x_goto C (tgt := 21) (off := 4) (by decide) (by decide +kernel) ?_
      exact x_zret C (Or.inr rfl) ⟨Nat.zero_le _, Nat.zero_le _⟩ (by decide +kernel)
theorem p_X4_isNearer (N : Nat) (σ : St) (this : Nat) (p0 : Int) (p1 : Int) (p2 : Int) : Pu σ (f_X4_isNearer N σ this p0 p1 p2) := by
  unfold f_X4_isNearer
  refine pu_bind (fun _ => ?_)
  refine pu_if ?_ ?_
  · skip
    refine pu_bind (fun _ => ?_)
    refine pu_if ?_ ?_
    · skip
      refine pu_bind (fun _ => ?_)
      refine pu_ifs ?_ ?_
      · skip
        exact pu_some
      · skip
        exact pu_some
    · skip
      refine pu_bind (fun _ => ?_)
      refine pu_ifs ?_ ?_
      · skip
        exact pu_some
      · skip
        exact pu_some
  · skip
    refine pu_bind (fun _ => ?_)
    refine pu_ifs ?_ ?_
    · skip
      exact pu_some
    · skip
      exact pu_some

def rm_X4_tryLength : Room := { frames := 3, cells := 0, slots := 0, locals := 74 }
def f_X4_tryLength (N : Nat) (σ : St) (this : Nat) (p0 : Nat) (p1 : Int) (p2 : Int) : Option (St × Int) :=
 Option.bind (rcv shx σ 3 p0 (f_X3_lengthAt N σ p0 p1 0)) fun q1 =>
 Lt (abZ (p2 - q1.2)) fun x2 =>
 (if wr x2 = 0 then some (σ, 0) else Option.bind (f_X11_within N σ p2 1 30000) fun q3 =>
 (if wr q3.2 = 0 then some (σ, 0) else Option.bind (f_X4_fittingWith N σ p0 p1 p2) fun q4 =>
 Option.bind (gI shx σ 4 this 2) fun fitting_5 =>
 Jn (fun t6 : Unit => Option.bind (pI shx σ 4 this 0 p1) fun σ7 =>
 Option.bind (pI shx σ7 4 this 1 p2) fun σ8 =>
 Option.bind (pI shx σ8 4 this 2 q4.2) fun σ9 =>
 Option.bind (pI shx σ9 4 this 3 x2) fun σ10 =>
 some (σ10, 0)) fun J75_10 =>
 (if wr fitting_5 < wr q4.2 then J75_10 () else Option.bind (gI shx σ 4 this 2) fun fitting_12 =>
 (if wr q4.2 = wr fitting_12 then Option.bind (gI shx σ 4 this 0) fun part_13 =>
 (if wr part_13 = wr (-1) then some (σ, 0) else Option.bind (rcv shx σ 4 this (f_X4_isNearer N σ this p1 p2 x2)) fun q14 =>
 (if wr q14.2 = 0 then some (σ, 0) else J75_10 ())) else some (σ, 0)))))
set_option maxRecDepth 100000 in
set_option maxHeartbeats 4000000 in
theorem c_X4_tryLength (l : Launch) (D : va_G) (ca : Nat → ClassId) (ra : Nat → Nat) (N : Nat) (σ : St) (this : Nat) (p0 : Nat) (p1 : Int) (p2 : Int) : Ctr l (D, ca, ra, shx) false yX4_tryLength cX4_tryLength 6 none rm_X4_tryLength σ [ar this, ar p0, ai p1, ai p2] (f_X4_tryLength N σ this p0 p1 p2) := by
  refine ctr_of (by decide) (Nat.le_of_ble_eq_true rfl) (fun z C => ?_)
  show X z 0 0 σ 0 [(0, ar this), (1, ar p0), (2, ai p1), (3, ai p2)] [] _
  unfold f_X4_tryLength
  refine x_iload_n C 3 (i := 3) (k0 := 3) rfl rfl (by decide +kernel) ?_
  refine x_aload_n C 1 (i := 1) (k0 := 1) rfl rfl (by decide +kernel) ?_
  refine x_iload_n C 2 (i := 2) (k0 := 2) rfl rfl (by decide +kernel) ?_
  refine x_iconst C (n := 0) (by decide +kernel) ?_
  refine x_callVp C (ci := 3) (c_X3_lengthAt l D ca ra N σ p0 p1 0) (p_X3_lengthAt N σ p0 p1 0) mt_X3_lengthAt mv_X3_lengthAt rfl ml_RX4_47 rfl (fun h => Bool.noConfusion h) ⟨Nat.le_of_ble_eq_true rfl, Nat.le_of_ble_eq_true rfl⟩ (Nat.le_of_ble_eq_true rfl) 0 0 ⟨rfl, rfl⟩ ⟨Nat.zero_le _, Nat.zero_le _⟩ (by decide +kernel) _ rfl (fun q1 => [ai q1.2, ai p2]) (fun _ => rfl) (fun q1 => ?_)
  refine x_isub C (by decide +kernel) ?_
  refine x_abs C mth_abs ml_RX4_55 ⟨Nat.le_of_ble_eq_true rfl, Nat.le_of_ble_eq_true rfl⟩ ⟨Nat.zero_le _, Nat.zero_le _⟩ (by decide +kernel) ?_
  refine x_istoreL C (i := 4) (Nat.le_of_ble_eq_true rfl) (by decide +kernel) (lv2 := fun x2 => [(4, ai x2), (0, ar this), (1, ar p0), (2, ai p1), (3, ai p2)]) (fun _ => rfl) (fun x2 => ?_)
  show X z 0 0 σ 13 [(4, ai x2), (0, ar this), (1, ar p0), (2, ai p1), (3, ai p2)] [] _
  refine x_iload C 0 (i := 4) rfl (by decide +kernel) ?_
  refine x_if_eq C (tgt := 29) (off := 14) (by decide) (by decide +kernel) (fun h20 => ?_) (fun h20 => ?_)
  · skip
    exact x_vret C ⟨Nat.zero_le _, Nat.zero_le _⟩ (by decide +kernel)
  · skip
    refine x_iload_n C 4 (i := 3) (k0 := 3) rfl rfl (by decide +kernel) ?_
    refine x_iconst C (n := 1) (by decide +kernel) ?_
    refine x_sipush C (n := 30000) (by decide +kernel) (by decide +kernel) ?_
    refine x_callSNp C (c_X11_within l D ca ra N σ p2 1 30000) (p_X11_within N σ p2 1 30000) mt_X11_within ms_X11_within (List.mem_of_getElem? (i := 11) rfl) rfl (fun h => Bool.noConfusion h) ⟨Nat.le_of_ble_eq_true rfl, Nat.le_of_ble_eq_true rfl⟩ (Nat.le_of_ble_eq_true rfl) 0 0 ⟨rfl, rfl⟩ ⟨Nat.zero_le _, Nat.zero_le _⟩ (by decide +kernel) _ rfl (fun q3 => [ai q3.2]) (fun _ => rfl) (fun q3 => ?_)
    refine x_if_ne C (tgt := 30) (off := 4) (by decide) (by decide +kernel) (fun h19 => ?_) (fun h19 => ?_)
    · skip
      refine x_aload_n C 2 (i := 1) (k0 := 1) rfl rfl (by decide +kernel) ?_
      refine x_iload_n C 3 (i := 2) (k0 := 2) rfl rfl (by decide +kernel) ?_
      refine x_iload_n C 4 (i := 3) (k0 := 3) rfl rfl (by decide +kernel) ?_
      refine x_callSp C (c_X4_fittingWith l D ca ra N σ p0 p1 p2) (p_X4_fittingWith N σ p0 p1 p2) mt_X4_fittingWith ms_X4_fittingWith ml_RX4_21 rfl (fun h => Bool.noConfusion h) ⟨Nat.le_of_ble_eq_true rfl, Nat.le_of_ble_eq_true rfl⟩ (Nat.le_of_ble_eq_true rfl) 0 0 ⟨rfl, rfl⟩ ⟨Nat.zero_le _, Nat.zero_le _⟩ (by decide +kernel) _ rfl (fun q4 => [ai q4.2]) (fun _ => rfl) (fun q4 => ?_)
      refine x_istore C (i := 5) (Nat.le_of_ble_eq_true rfl) (by decide +kernel) (lv2 := [(5, ai q4.2), (4, ai x2), (0, ar this), (1, ar p0), (2, ai p1), (3, ai p2)]) rfl ?_
      refine x_iload C 0 (i := 5) rfl (by decide +kernel) ?_
      refine x_aload_n C 2 (i := 0) (k0 := 0) rfl rfl (by decide +kernel) ?_
      refine x_gI C fl_RX4_25 (fun _ _ _ => rfl) (by decide +kernel) (fun fitting_5 => ?_)
      show X z 0 0 σ 44 [(5, ai q4.2), (4, ai x2), (0, ar this), (1, ar p0), (2, ai p1), (3, ai p2)] [ai fitting_5, ai q4.2] _
      refine x_join (T := Unit) (fun t => σ) 75 (fun t => [(0, ar this), (2, ai p1), (3, ai p2), (4, ai x2), (5, ai q4.2)]) (fun t => []) (fun t6 => ?_) (fun J75_10 hJ75_10 => ?_)
      · show X z 0 0 σ 75 [(0, ar this), (2, ai p1), (3, ai p2), (4, ai x2), (5, ai q4.2)] [] _
        refine x_aload_n C 0 (i := 0) (k0 := 0) rfl rfl (by decide +kernel) ?_
        refine x_iload_n C 1 (i := 2) (k0 := 2) rfl rfl (by decide +kernel) ?_
        refine x_pI C fl_RX4_9 rfl (fun q h => by cases h; rfl) (by decide +kernel) (fun σ7 => ?_)
        refine x_aload_n C 0 (i := 0) (k0 := 0) rfl rfl (by decide +kernel) ?_
        refine x_iload_n C 2 (i := 3) (k0 := 3) rfl rfl (by decide +kernel) ?_
        refine x_pI C fl_RX4_15 rfl (fun q h => by cases h; rfl) (by decide +kernel) (fun σ8 => ?_)
        refine x_aload_n C 0 (i := 0) (k0 := 0) rfl rfl (by decide +kernel) ?_
        refine x_iload C 4 (i := 5) rfl (by decide +kernel) ?_
        show X z 0 0 σ8 88 [(0, ar this), (2, ai p1), (3, ai p2), (4, ai x2), (5, ai q4.2)] [ai q4.2, ar this] _
        refine x_pI C fl_RX4_25 rfl (fun q h => by cases h; rfl) (by decide +kernel) (fun σ9 => ?_)
        refine x_aload_n C 0 (i := 0) (k0 := 0) rfl rfl (by decide +kernel) ?_
        refine x_iload C 3 (i := 4) rfl (by decide +kernel) ?_
        refine x_pI C fl_RX4_18 rfl (fun q h => by cases h; rfl) (by decide +kernel) (fun σ10 => ?_)
        exact x_vret C ⟨Nat.zero_le _, Nat.zero_le _⟩ (by decide +kernel)
      · skip
        refine x_ic_gt C (tgt := 75) (off := 31) (by decide) (by decide +kernel) (fun h18 => ?_) (fun h18 => ?_)
        · skip
          refine x_sub [2, 4, 5, 1, 0] (lv2 := [(0, ar this), (2, ai p1), (3, ai p2), (4, ai x2), (5, ai q4.2)]) rfl ?_
          exact hJ75_10 ()
        · skip
          refine x_iload C 0 (i := 5) rfl (by decide +kernel) ?_
          refine x_aload_n C 2 (i := 0) (k0 := 0) rfl rfl (by decide +kernel) ?_
          refine x_gI C fl_RX4_25 (fun _ _ _ => rfl) (by decide +kernel) (fun fitting_12 => ?_)
          refine x_ic_ne C (tgt := 97) (off := 44) (by decide) (by decide +kernel) (fun h17 => ?_) (fun h17 => ?_)
          · skip
            exact x_vret C ⟨Nat.zero_le _, Nat.zero_le _⟩ (by decide +kernel)
          · skip
            refine x_aload_n C 2 (i := 0) (k0 := 0) rfl rfl (by decide +kernel) ?_
            refine x_gI C fl_RX4_9 (fun _ _ _ => rfl) (by decide +kernel) (fun part_13 => ?_)
            refine x_iconst C (n := (-1)) (by decide +kernel) ?_
            refine x_ic_eq C (tgt := 97) (off := 36) (by decide) (by decide +kernel) (fun h16 => ?_) (fun h16 => ?_)
            · skip
              exact x_vret C ⟨Nat.zero_le _, Nat.zero_le _⟩ (by decide +kernel)
            · skip
              refine x_aload_n C 2 (i := 0) (k0 := 0) rfl rfl (by decide +kernel) ?_
              refine x_iload_n C 4 (i := 2) (k0 := 2) rfl rfl (by decide +kernel) ?_
              refine x_iload_n C 5 (i := 3) (k0 := 3) rfl rfl (by decide +kernel) ?_
              refine x_iload C 1 (i := 4) rfl (by decide +kernel) ?_
              refine x_callVp C (ci := 4) (c_X4_isNearer l D ca ra N σ this p1 p2 x2) (p_X4_isNearer N σ this p1 p2 x2) mt_X4_isNearer mv_X4_isNearer rfl ml_RX4_65 rfl (fun h => Bool.noConfusion h) ⟨Nat.le_of_ble_eq_true rfl, Nat.le_of_ble_eq_true rfl⟩ (Nat.le_of_ble_eq_true rfl) 0 0 ⟨rfl, rfl⟩ ⟨Nat.zero_le _, Nat.zero_le _⟩ (by decide +kernel) _ rfl (fun q14 => [ai q14.2]) (fun _ => rfl) (fun q14 => ?_)
              refine x_if_eq C (tgt := 97) (off := 25) (by decide) (by decide +kernel) (fun h15 => ?_) (fun h15 => ?_)
              · skip
                exact x_vret C ⟨Nat.zero_le _, Nat.zero_le _⟩ (by decide +kernel)
              · skip
                refine x_sub [2, 4, 5, 1, 0] (lv2 := [(0, ar this), (2, ai p1), (3, ai p2), (4, ai x2), (5, ai q4.2)]) rfl ?_
                exact hJ75_10 ()
    · skip
      exact x_vret C ⟨Nat.zero_le _, Nat.zero_le _⟩ (by decide +kernel)

def rm_X4_tryEnds : Room := { frames := 4, cells := 0, slots := 0, locals := 99 }
def f_X4_tryEnds (N : Nat) (σ : St) (this : Nat) (p0 : Nat) (p1 : Int) (p2 : Int) (p3 : Int) : Option (St × Int) :=
 Option.bind (rcv shx σ 3 p0 (f_X3_lengthAt N σ p0 p2 0)) fun q1 =>
 Option.bind (rcv shx σ 4 this (f_X4_tryLength N σ this p0 p1 (q1.2 - p3))) fun q2 =>
 Option.bind (rcv shx q2.1 4 this (f_X4_tryLength N q2.1 this p0 p1 (q1.2 + p3))) fun q3 =>
 some (q3.1, 0)
set_option maxRecDepth 100000 in
set_option maxHeartbeats 4000000 in
theorem c_X4_tryEnds (l : Launch) (D : va_G) (ca : Nat → ClassId) (ra : Nat → Nat) (N : Nat) (σ : St) (this : Nat) (p0 : Nat) (p1 : Int) (p2 : Int) (p3 : Int) : Ctr l (D, ca, ra, shx) false yX4_tryEnds cX4_tryEnds 6 none rm_X4_tryEnds σ [ar this, ar p0, ai p1, ai p2, ai p3] (f_X4_tryEnds N σ this p0 p1 p2 p3) := by
  refine ctr_of (by decide) (Nat.le_of_ble_eq_true rfl) (fun z C => ?_)
  show X z 0 0 σ 0 [(0, ar this), (1, ar p0), (2, ai p1), (3, ai p2), (4, ai p3)] [] _
  unfold f_X4_tryEnds
  refine x_aload_n C 1 (i := 1) (k0 := 1) rfl rfl (by decide +kernel) ?_
  refine x_iload_n C 3 (i := 3) (k0 := 3) rfl rfl (by decide +kernel) ?_
  refine x_iconst C (n := 0) (by decide +kernel) ?_
  refine x_callVp C (ci := 3) (c_X3_lengthAt l D ca ra N σ p0 p2 0) (p_X3_lengthAt N σ p0 p2 0) mt_X3_lengthAt mv_X3_lengthAt rfl ml_RX4_47 rfl (fun h => Bool.noConfusion h) ⟨Nat.le_of_ble_eq_true rfl, Nat.le_of_ble_eq_true rfl⟩ (Nat.le_of_ble_eq_true rfl) 0 0 ⟨rfl, rfl⟩ ⟨Nat.zero_le _, Nat.zero_le _⟩ (by decide +kernel) _ rfl (fun q1 => [ai q1.2]) (fun _ => rfl) (fun q1 => ?_)
  refine x_istore C (i := 5) (Nat.le_of_ble_eq_true rfl) (by decide +kernel) (lv2 := [(5, ai q1.2), (0, ar this), (1, ar p0), (2, ai p1), (3, ai p2), (4, ai p3)]) rfl ?_
  refine x_aload_n C 1 (i := 0) (k0 := 0) rfl rfl (by decide +kernel) ?_
  refine x_aload_n C 2 (i := 1) (k0 := 1) rfl rfl (by decide +kernel) ?_
  refine x_iload_n C 3 (i := 2) (k0 := 2) rfl rfl (by decide +kernel) ?_
  show X z 0 0 σ 11 [(5, ai q1.2), (0, ar this), (1, ar p0), (2, ai p1), (3, ai p2), (4, ai p3)] [ai p1, ar p0, ar this] _
  refine x_iload C 0 (i := 5) rfl (by decide +kernel) ?_
  refine x_iload C 5 (i := 4) rfl (by decide +kernel) ?_
  refine x_isub C (by decide +kernel) ?_
  refine x_callV C (ci := 4) (c_X4_tryLength l D ca ra N σ this p0 p1 (q1.2 - p3)) mt_X4_tryLength mv_X4_tryLength rfl ml_RX4_51 rfl (fun h => Bool.noConfusion h) ⟨Nat.le_of_ble_eq_true rfl, Nat.le_of_ble_eq_true rfl⟩ (Nat.le_of_ble_eq_true rfl) 0 0 ⟨rfl, rfl⟩ ⟨Nat.zero_le _, Nat.zero_le _⟩ (by decide +kernel) _ rfl (fun q2 => []) (fun _ => rfl) (fun q2 => ?_)
  refine x_aload_n C 1 (i := 0) (k0 := 0) rfl rfl (by decide +kernel) ?_
  refine x_aload_n C 2 (i := 1) (k0 := 1) rfl rfl (by decide +kernel) ?_
  refine x_iload_n C 3 (i := 2) (k0 := 2) rfl rfl (by decide +kernel) ?_
  refine x_iload C 0 (i := 5) rfl (by decide +kernel) ?_
  show X z 0 0 q2.1 24 [(5, ai q1.2), (0, ar this), (1, ar p0), (2, ai p1), (3, ai p2), (4, ai p3)] [ai q1.2, ai p1, ar p0, ar this] _
  refine x_iload C 5 (i := 4) rfl (by decide +kernel) ?_
  refine x_iadd C (by decide +kernel) ?_
  refine x_callV C (ci := 4) (c_X4_tryLength l D ca ra N q2.1 this p0 p1 (q1.2 + p3)) mt_X4_tryLength mv_X4_tryLength rfl ml_RX4_51 rfl (fun h => Bool.noConfusion h) ⟨Nat.le_of_ble_eq_true rfl, Nat.le_of_ble_eq_true rfl⟩ (Nat.le_of_ble_eq_true rfl) 0 0 ⟨rfl, rfl⟩ ⟨Nat.zero_le _, Nat.zero_le _⟩ (by decide +kernel) _ rfl (fun q3 => []) (fun _ => rfl) (fun q3 => ?_)
  exact x_vret C ⟨Nat.zero_le _, Nat.zero_le _⟩ (by decide +kernel)

def L_X4_search_27 (N : Nat) (this : Nat) (p0 : Nat) : (St × Int) → Option (St × Int) := fixN N fun b27_6 t6 =>
 Option.bind (gI shx t6.1 3 p0 7) fun joins_8 =>
 (if wr t6.2 < wr joins_8 then Option.bind (gR shx t6.1 3 p0 8) fun left_9 =>
 Option.bind (aI shx t6.1 1 left_9 t6.2) fun a10 =>
 Option.bind (gR shx t6.1 3 p0 9) fun right_11 =>
 Option.bind (aI shx t6.1 1 right_11 t6.2) fun a12 =>
 Option.bind (gR shx t6.1 3 p0 10) fun gap_13 =>
 Option.bind (aI shx t6.1 1 gap_13 t6.2) fun a14 =>
 Option.bind (rcv shx t6.1 4 this (f_X4_tryEnds N t6.1 this p0 a10 a12 a14)) fun q15 =>
 Option.bind (gR shx q15.1 3 p0 9) fun right_16 =>
 Option.bind (aI shx q15.1 1 right_16 t6.2) fun a17 =>
 Option.bind (gR shx q15.1 3 p0 8) fun left_18 =>
 Option.bind (aI shx q15.1 1 left_18 t6.2) fun a19 =>
 Option.bind (gR shx q15.1 3 p0 10) fun gap_20 =>
 Option.bind (aI shx q15.1 1 gap_20 t6.2) fun a21 =>
 Option.bind (rcv shx q15.1 4 this (f_X4_tryEnds N q15.1 this p0 a17 a19 a21)) fun q22 =>
 Lt (t6.2 + 1) fun x23 =>
 b27_6 (q22.1, x23) else some (t6.1, 0))
def rm_X4_search : Room := { frames := 5, cells := 0, slots := 0, locals := 124 }
def f_X4_search (N : Nat) (σ : St) (this : Nat) (p0 : Nat) : Option (St × Int) :=
 Option.bind (pI shx σ 4 this 0 (-1)) fun σ1 =>
 Option.bind (pI shx σ1 4 this 1 (-1)) fun σ2 =>
 Option.bind (pI shx σ2 4 this 3 0) fun σ3 =>
 Option.bind (f_X4_fittingWith N σ3 p0 (-1) 0) fun q4 =>
 Option.bind (pI shx σ3 4 this 2 q4.2) fun σ5 =>
 L_X4_search_27 N this p0 (σ5, 0)
set_option maxRecDepth 100000 in
set_option maxHeartbeats 4000000 in
theorem c_X4_search (l : Launch) (D : va_G) (ca : Nat → ClassId) (ra : Nat → Nat) (N : Nat) (σ : St) (this : Nat) (p0 : Nat) : Ctr l (D, ca, ra, shx) false yX4_search cX4_search 3 none rm_X4_search σ [ar this, ar p0] (f_X4_search N σ this p0) := by
  refine ctr_of (by decide) (Nat.le_of_ble_eq_true rfl) (fun z C => ?_)
  show X z 0 0 σ 0 [(0, ar this), (1, ar p0)] [] _
  unfold f_X4_search
  refine x_aload_n C 0 (i := 0) (k0 := 0) rfl rfl (by decide +kernel) ?_
  refine x_iconst C (n := (-1)) (by decide +kernel) ?_
  refine x_pI C fl_RX4_9 rfl (fun q h => by cases h; rfl) (by decide +kernel) (fun σ1 => ?_)
  refine x_aload_n C 0 (i := 0) (k0 := 0) rfl rfl (by decide +kernel) ?_
  refine x_iconst C (n := (-1)) (by decide +kernel) ?_
  refine x_pI C fl_RX4_15 rfl (fun q h => by cases h; rfl) (by decide +kernel) (fun σ2 => ?_)
  refine x_aload_n C 0 (i := 0) (k0 := 0) rfl rfl (by decide +kernel) ?_
  refine x_iconst C (n := 0) (by decide +kernel) ?_
  show X z 0 0 σ2 12 [(0, ar this), (1, ar p0)] [ai 0, ar this] _
  refine x_pI C fl_RX4_18 rfl (fun q h => by cases h; rfl) (by decide +kernel) (fun σ3 => ?_)
  refine x_aload_n C 0 (i := 0) (k0 := 0) rfl rfl (by decide +kernel) ?_
  refine x_aload_n C 1 (i := 1) (k0 := 1) rfl rfl (by decide +kernel) ?_
  refine x_iconst C (n := (-1)) (by decide +kernel) ?_
  refine x_iconst C (n := 0) (by decide +kernel) ?_
  refine x_callSp C (c_X4_fittingWith l D ca ra N σ3 p0 (-1) 0) (p_X4_fittingWith N σ3 p0 (-1) 0) mt_X4_fittingWith ms_X4_fittingWith ml_RX4_21 rfl (fun h => Bool.noConfusion h) ⟨Nat.le_of_ble_eq_true rfl, Nat.le_of_ble_eq_true rfl⟩ (Nat.le_of_ble_eq_true rfl) 0 0 ⟨rfl, rfl⟩ ⟨Nat.zero_le _, Nat.zero_le _⟩ (by decide +kernel) _ rfl (fun q4 => [ai q4.2, ar this]) (fun _ => rfl) (fun q4 => ?_)
  refine x_pI C fl_RX4_25 rfl (fun q h => by cases h; rfl) (by decide +kernel) (fun σ5 => ?_)
  refine x_iconst C (n := 0) (by decide +kernel) ?_
  show X z 0 0 σ5 26 [(0, ar this), (1, ar p0)] [ai 0] _
  refine x_istore_n C (i := 2) (k0 := 2) rfl (Nat.le_of_ble_eq_true rfl) (by decide +kernel) (lv2 := [(2, ai 0), (0, ar this), (1, ar p0)]) rfl ?_
  refine x_sub [1, 2, 0] (lv2 := [(0, ar this), (1, ar p0), (2, ai 0)]) rfl ?_
  -- LOOP L_X4_search_27 hb27_6
  refine x_loop (T := St × Int) (fun t => t.1) (fun t => [(0, ar this), (1, ar p0), (2, ai t.2)]) (σ5, 0) rfl (fun b27_6 hb27_6 t6 => ?_)
  show X z 0 0 t6.1 27 [(0, ar this), (1, ar p0), (2, ai t6.2)] [] _
  refine x_iload_n C 2 (i := 2) (k0 := 2) rfl rfl (by decide +kernel) ?_
  refine x_aload_n C 1 (i := 1) (k0 := 1) rfl rfl (by decide +kernel) ?_
  refine x_gI C fl_RX4_28 (fun _ _ _ => rfl) (by decide +kernel) (fun joins_8 => ?_)
  refine x_ic_ge C (tgt := 87) (off := 55) (by decide) (by decide +kernel) (fun h24 => ?_) (fun h24 => ?_)
  · skip
    exact x_vret C ⟨Nat.zero_le _, Nat.zero_le _⟩ (by decide +kernel)
  · skip
    refine x_aload_n C 0 (i := 0) (k0 := 0) rfl rfl (by decide +kernel) ?_
    refine x_aload_n C 1 (i := 1) (k0 := 1) rfl rfl (by decide +kernel) ?_
    refine x_aload_n C 1 (i := 1) (k0 := 1) rfl rfl (by decide +kernel) ?_
    refine x_gR C fl_RX4_33 (fun _ _ _ => rfl) (by decide +kernel) (fun left_9 => ?_)
    refine x_iload_n C 2 (i := 2) (k0 := 2) rfl rfl (by decide +kernel) ?_
    refine x_aldI C (by decide +kernel) (fun a10 => ?_)
    refine x_aload_n C 1 (i := 1) (k0 := 1) rfl rfl (by decide +kernel) ?_
    refine x_gR C fl_RX4_37 (fun _ _ _ => rfl) (by decide +kernel) (fun right_11 => ?_)
    show X z 0 0 t6.1 47 [(0, ar this), (1, ar p0), (2, ai t6.2)] [ar right_11, ai a10, ar p0, ar this] _
    refine x_iload_n C 2 (i := 2) (k0 := 2) rfl rfl (by decide +kernel) ?_
    refine x_aldI C (by decide +kernel) (fun a12 => ?_)
    refine x_aload_n C 1 (i := 1) (k0 := 1) rfl rfl (by decide +kernel) ?_
    refine x_gR C fl_RX4_40 (fun _ _ _ => rfl) (by decide +kernel) (fun gap_13 => ?_)
    refine x_iload_n C 2 (i := 2) (k0 := 2) rfl rfl (by decide +kernel) ?_
    refine x_aldI C (by decide +kernel) (fun a14 => ?_)
    refine x_callV C (ci := 4) (c_X4_tryEnds l D ca ra N t6.1 this p0 a10 a12 a14) mt_X4_tryEnds mv_X4_tryEnds rfl ml_RX4_43 rfl (fun h => Bool.noConfusion h) ⟨Nat.le_of_ble_eq_true rfl, Nat.le_of_ble_eq_true rfl⟩ (Nat.le_of_ble_eq_true rfl) 0 0 ⟨rfl, rfl⟩ ⟨Nat.zero_le _, Nat.zero_le _⟩ (by decide +kernel) _ rfl (fun q15 => []) (fun _ => rfl) (fun q15 => ?_)
    refine x_aload_n C 0 (i := 0) (k0 := 0) rfl rfl (by decide +kernel) ?_
    show X z 0 0 q15.1 59 [(0, ar this), (1, ar p0), (2, ai t6.2)] [ar this] _
    refine x_aload_n C 1 (i := 1) (k0 := 1) rfl rfl (by decide +kernel) ?_
    refine x_aload_n C 1 (i := 1) (k0 := 1) rfl rfl (by decide +kernel) ?_
    refine x_gR C fl_RX4_37 (fun _ _ _ => rfl) (by decide +kernel) (fun right_16 => ?_)
    refine x_iload_n C 2 (i := 2) (k0 := 2) rfl rfl (by decide +kernel) ?_
    refine x_aldI C (by decide +kernel) (fun a17 => ?_)
    refine x_aload_n C 1 (i := 1) (k0 := 1) rfl rfl (by decide +kernel) ?_
    refine x_gR C fl_RX4_33 (fun _ _ _ => rfl) (by decide +kernel) (fun left_18 => ?_)
    refine x_iload_n C 2 (i := 2) (k0 := 2) rfl rfl (by decide +kernel) ?_
    show X z 0 0 q15.1 71 [(0, ar this), (1, ar p0), (2, ai t6.2)] [ai t6.2, ar left_18, ai a17, ar p0, ar this] _
    refine x_aldI C (by decide +kernel) (fun a19 => ?_)
    refine x_aload_n C 1 (i := 1) (k0 := 1) rfl rfl (by decide +kernel) ?_
    refine x_gR C fl_RX4_40 (fun _ _ _ => rfl) (by decide +kernel) (fun gap_20 => ?_)
    refine x_iload_n C 2 (i := 2) (k0 := 2) rfl rfl (by decide +kernel) ?_
    refine x_aldI C (by decide +kernel) (fun a21 => ?_)
    refine x_callV C (ci := 4) (c_X4_tryEnds l D ca ra N q15.1 this p0 a17 a19 a21) mt_X4_tryEnds mv_X4_tryEnds rfl ml_RX4_43 rfl (fun h => Bool.noConfusion h) ⟨Nat.le_of_ble_eq_true rfl, Nat.le_of_ble_eq_true rfl⟩ (Nat.le_of_ble_eq_true rfl) 0 0 ⟨rfl, rfl⟩ ⟨Nat.zero_le _, Nat.zero_le _⟩ (by decide +kernel) _ rfl (fun q22 => []) (fun _ => rfl) (fun q22 => ?_)
    refine x_iinc C 2 (i := 2) (n := 1) (Nat.le_of_ble_eq_true rfl) rfl (by decide +kernel) (lv2 := fun x23 => [(2, ai x23), (0, ar this), (1, ar p0)]) (fun _ => rfl) (fun x23 => ?_)
    refine x_goto C (tgt := 27) (off := (-57)) (by decide) (by decide +kernel) ?_
    refine x_sub [1, 2, 0] (lv2 := [(0, ar this), (1, ar p0), (2, ai x23)]) rfl ?_
    exact hb27_6 (q22.1, x23)
