def rm_X2_addStep : Room := { frames := 1, cells := 0, slots := 0, locals := 22 }
def f_X2_addStep (N : Nat) (σ : St) (this : Nat) (p0 : Int) (p1 : Int) : Option (St × Int) :=
 Option.bind (f_X11_within N σ p0 0 99) fun q1 =>
 Jn (fun t2 : Int => (if wr t2 = 0 then some (σ, (-1)) else Option.bind (gI shx σ 2 this 0) fun steps_3 =>
 (if wr steps_3 < wr 12 then Option.bind (gR shx σ 2 this 3) fun from_4 =>
 Option.bind (gI shx σ 2 this 0) fun steps_5 =>
 Option.bind (sI shx σ 1 from_4 steps_5 p0) fun σ6 =>
 Option.bind (gR shx σ6 2 this 4) fun to_7 =>
 Option.bind (gI shx σ6 2 this 0) fun steps_8 =>
 Option.bind (sI shx σ6 1 to_7 steps_8 p1) fun σ9 =>
 Option.bind (gI shx σ9 2 this 0) fun steps_10 =>
 Option.bind (pI shx σ9 2 this 0 (steps_10 + 1)) fun σ11 =>
 Option.bind (pI shx σ11 2 this 2 (-1)) fun σ12 =>
 Option.bind (gI shx σ12 2 this 0) fun steps_13 =>
 some (σ12, steps_13) else some (σ, (-1))))) fun J25_15 =>
 Jn (fun t17 : Unit => J25_15 0) fun J24_17 =>
 (if wr q1.2 = 0 then J24_17 () else Option.bind (f_X11_within N σ p1 p0 99) fun q19 =>
 (if wr q19.2 = 0 then J24_17 () else J25_15 1))
set_option maxRecDepth 100000 in
set_option maxHeartbeats 4000000 in
theorem c_X2_addStep (l : Launch) (D : va_G) (ca : Nat → ClassId) (ra : Nat → Nat) (N : Nat) (σ : St) (this : Nat) (p0 : Int) (p1 : Int) : Ctr l (D, ca, ra, shx) false yX2_addStep cX2_addStep 4 (some .int) rm_X2_addStep σ [ar this, ai p0, ai p1] (f_X2_addStep N σ this p0 p1) := by
  refine ctr_of (by decide) (Nat.le_of_ble_eq_true rfl) (fun z C => ?_)
  show X z 0 0 σ 0 [(0, ar this), (1, ai p0), (2, ai p1)] [] _
  unfold f_X2_addStep
  refine x_iload_n C 1 (i := 1) (k0 := 1) rfl rfl (by decide +kernel) ?_
  refine x_iconst C (n := 0) (by decide +kernel) ?_
  refine x_bipush C (n := 99) (by decide +kernel) (by decide +kernel) ?_
  refine x_callSNp C (c_X11_within l D ca ra N σ p0 0 99) (p_X11_within N σ p0 0 99) mt_X11_within ms_X11_within (List.mem_of_getElem? (i := 14) rfl) rfl (fun h => Bool.noConfusion h) ⟨Nat.le_of_ble_eq_true rfl, Nat.le_of_ble_eq_true rfl⟩ (Nat.le_of_ble_eq_true rfl) 0 0 ⟨rfl, rfl⟩ ⟨Nat.zero_le _, Nat.zero_le _⟩ (by decide +kernel) _ rfl (fun q1 => [ai q1.2]) (fun _ => rfl) (fun q1 => ?_)
  refine x_join (T := Int) (fun t => σ) 25 (fun t => [(0, ar this), (1, ai p0), (2, ai p1)]) (fun t => [ai t]) (fun t2 => ?_) (fun J25_15 hJ25_15 => ?_)
  · show X z 0 0 σ 25 [(0, ar this), (1, ai p0), (2, ai p1)] [ai t2] _
    refine x_istore_n C (i := 3) (k0 := 3) rfl (Nat.le_of_ble_eq_true rfl) (by decide +kernel) (lv2 := [(3, ai t2), (0, ar this), (1, ai p0), (2, ai p1)]) rfl ?_
    refine x_iload_n C 0 (i := 3) (k0 := 3) rfl rfl (by decide +kernel) ?_
    refine x_if_eq C (tgt := 39) (off := 12) (by decide) (by decide +kernel) (fun h15 => ?_) (fun h15 => ?_)
    · skip
      refine x_iconst C (n := (-1)) (by decide +kernel) ?_
      exact x_iret C ⟨Nat.zero_le _, Nat.zero_le _⟩ (by decide +kernel)
    · skip
      refine x_aload_n C 1 (i := 0) (k0 := 0) rfl rfl (by decide +kernel) ?_
      refine x_gI C fl_RX2_42 (fun _ _ _ => rfl) (by decide +kernel) (fun steps_3 => ?_)
      refine x_bipush C (n := 12) (by decide +kernel) (by decide +kernel) ?_
      refine x_ic_lt C (tgt := 41) (off := 5) (by decide) (by decide +kernel) (fun h14 => ?_) (fun h14 => ?_)
      · skip
        refine x_aload_n C 1 (i := 0) (k0 := 0) rfl rfl (by decide +kernel) ?_
        refine x_gR C fl_RX2_20 (fun _ _ _ => rfl) (by decide +kernel) (fun from_4 => ?_)
        refine x_aload_n C 1 (i := 0) (k0 := 0) rfl rfl (by decide +kernel) ?_
        refine x_gI C fl_RX2_42 (fun _ _ _ => rfl) (by decide +kernel) (fun steps_5 => ?_)
        refine x_iload_n C 2 (i := 1) (k0 := 1) rfl rfl (by decide +kernel) ?_
        refine x_astI C (by decide +kernel) (fun σ6 => ?_)
        refine x_aload_n C 1 (i := 0) (k0 := 0) rfl rfl (by decide +kernel) ?_
        refine x_gR C fl_RX2_24 (fun _ _ _ => rfl) (by decide +kernel) (fun to_7 => ?_)
        show X z 0 0 σ6 55 [(3, ai t2), (0, ar this), (1, ai p0), (2, ai p1)] [ar to_7] _
        refine x_aload_n C 1 (i := 0) (k0 := 0) rfl rfl (by decide +kernel) ?_
        refine x_gI C fl_RX2_42 (fun _ _ _ => rfl) (by decide +kernel) (fun steps_8 => ?_)
        refine x_iload_n C 3 (i := 2) (k0 := 2) rfl rfl (by decide +kernel) ?_
        refine x_astI C (by decide +kernel) (fun σ9 => ?_)
        refine x_aload_n C 1 (i := 0) (k0 := 0) rfl rfl (by decide +kernel) ?_
        refine x_dup C rfl (by decide +kernel) ?_
        refine x_gI C fl_RX2_42 (fun _ _ _ => rfl) (by decide +kernel) (fun steps_10 => ?_)
        refine x_iconst C (n := 1) (by decide +kernel) ?_
        show X z 0 0 σ9 67 [(3, ai t2), (0, ar this), (1, ai p0), (2, ai p1)] [ai 1, ai steps_10, ar this] _
        refine x_iadd C (by decide +kernel) ?_
        refine x_pI C fl_RX2_42 rfl (fun q h => by cases h; rfl) (by decide +kernel) (fun σ11 => ?_)
        refine x_aload_n C 1 (i := 0) (k0 := 0) rfl rfl (by decide +kernel) ?_
        refine x_iconst C (n := (-1)) (by decide +kernel) ?_
        refine x_pI C fl_RX2_17 rfl (fun q h => by cases h; rfl) (by decide +kernel) (fun σ12 => ?_)
        refine x_aload_n C 1 (i := 0) (k0 := 0) rfl rfl (by decide +kernel) ?_
        refine x_gI C fl_RX2_42 (fun _ _ _ => rfl) (by decide +kernel) (fun steps_13 => ?_)
        exact x_iret C ⟨Nat.zero_le _, Nat.zero_le _⟩ (by decide +kernel)
      · skip
        refine x_iconst C (n := (-1)) (by decide +kernel) ?_
        exact x_iret C ⟨Nat.zero_le _, Nat.zero_le _⟩ (by decide +kernel)
  · skip
    refine x_join (T := Unit) (fun t => σ) 24 (fun t => [(0, ar this), (1, ai p0), (2, ai p1)]) (fun t => []) (fun t17 => ?_) (fun J24_17 hJ24_17 => ?_)
    · show X z 0 0 σ 24 [(0, ar this), (1, ai p0), (2, ai p1)] [] _
      refine x_iconst C (n := 0) (by decide +kernel) ?_
      exact hJ25_15 0
    · skip
      refine x_if_eq C (tgt := 24) (off := 17) (by decide) (by decide +kernel) (fun h21 => ?_) (fun h21 => ?_)
      · skip
        exact hJ24_17 ()
      · skip
        refine x_iload_n C 2 (i := 2) (k0 := 2) rfl rfl (by decide +kernel) ?_
        refine x_iload_n C 1 (i := 1) (k0 := 1) rfl rfl (by decide +kernel) ?_
        refine x_bipush C (n := 99) (by decide +kernel) (by decide +kernel) ?_
        refine x_callSNp C (c_X11_within l D ca ra N σ p1 p0 99) (p_X11_within N σ p1 p0 99) mt_X11_within ms_X11_within (List.mem_of_getElem? (i := 14) rfl) rfl (fun h => Bool.noConfusion h) ⟨Nat.le_of_ble_eq_true rfl, Nat.le_of_ble_eq_true rfl⟩ (Nat.le_of_ble_eq_true rfl) 0 0 ⟨rfl, rfl⟩ ⟨Nat.zero_le _, Nat.zero_le _⟩ (by decide +kernel) _ rfl (fun q19 => [ai q19.2]) (fun _ => rfl) (fun q19 => ?_)
        refine x_if_eq C (tgt := 24) (off := 7) (by decide) (by decide +kernel) (fun h20 => ?_) (fun h20 => ?_)
        · skip
          exact hJ24_17 ()
        · skip
          refine x_iconst C (n := 1) (by decide +kernel) ?_
          refine x_goto C (tgt := 25) (off := 4) (by decide) (by decide +kernel) ?_
          exact hJ25_15 1

def rm_X2_dropSteps : Room := { frames := 0, cells := 0, slots := 0, locals := 0 }
def f_X2_dropSteps (N : Nat) (σ : St) (this : Nat) : Option (St × Int) :=
 Option.bind (gI shx σ 2 this 0) fun steps_1 =>
 Option.bind (pI shx σ 2 this 0 0) fun σ2 =>
 Option.bind (pI shx σ2 2 this 2 (-1)) fun σ3 =>
 some (σ3, steps_1)
set_option maxRecDepth 100000 in
set_option maxHeartbeats 4000000 in
theorem c_X2_dropSteps (l : Launch) (D : va_G) (ca : Nat → ClassId) (ra : Nat → Nat) (N : Nat) (σ : St) (this : Nat) : Ctr l (D, ca, ra, shx) false yX2_dropSteps cX2_dropSteps 2 (some .int) rm_X2_dropSteps σ [ar this] (f_X2_dropSteps N σ this) := by
  refine ctr_of (by decide) (Nat.le_of_ble_eq_true rfl) (fun z C => ?_)
  show X z 0 0 σ 0 [(0, ar this)] [] _
  unfold f_X2_dropSteps
  refine x_aload_n C 0 (i := 0) (k0 := 0) rfl rfl (by decide +kernel) ?_
  refine x_gI C fl_RX2_42 (fun _ _ _ => rfl) (by decide +kernel) (fun steps_1 => ?_)
  refine x_istore_n C (i := 1) (k0 := 1) rfl (Nat.le_of_ble_eq_true rfl) (by decide +kernel) (lv2 := [(1, ai steps_1), (0, ar this)]) rfl ?_
  refine x_aload_n C 1 (i := 0) (k0 := 0) rfl rfl (by decide +kernel) ?_
  refine x_iconst C (n := 0) (by decide +kernel) ?_
  refine x_pI C fl_RX2_42 rfl (fun q h => by cases h; rfl) (by decide +kernel) (fun σ2 => ?_)
  refine x_aload_n C 1 (i := 0) (k0 := 0) rfl rfl (by decide +kernel) ?_
  refine x_iconst C (n := (-1)) (by decide +kernel) ?_
  show X z 0 0 σ2 12 [(1, ai steps_1), (0, ar this)] [ai (-1), ar this] _
  refine x_pI C fl_RX2_17 rfl (fun q h => by cases h; rfl) (by decide +kernel) (fun σ3 => ?_)
  refine x_iload_n C 0 (i := 1) (k0 := 1) rfl rfl (by decide +kernel) ?_
  exact x_iret C ⟨Nat.zero_le _, Nat.zero_le _⟩ (by decide +kernel)

def rm_X2_setPump : Room := { frames := 1, cells := 0, slots := 0, locals := 22 }
def f_X2_setPump (N : Nat) (σ : St) (this : Nat) (p0 : Int) : Option (St × Int) :=
 Option.bind (f_X11_within N σ p0 0 3) fun q1 =>
 (if wr q1.2 = 0 then some (σ, 0) else Option.bind (pI shx σ 2 this 1 p0) fun σ2 =>
 Option.bind (pI shx σ2 2 this 2 (-1)) fun σ3 =>
 some (σ3, 1))
set_option maxRecDepth 100000 in
set_option maxHeartbeats 4000000 in
theorem c_X2_setPump (l : Launch) (D : va_G) (ca : Nat → ClassId) (ra : Nat → Nat) (N : Nat) (σ : St) (this : Nat) (p0 : Int) : Ctr l (D, ca, ra, shx) false yX2_setPump cX2_setPump 2 (some .boolean) rm_X2_setPump σ [ar this, ai p0] (f_X2_setPump N σ this p0) := by
  refine ctr_of (by decide) (Nat.le_of_ble_eq_true rfl) (fun z C => ?_)
  show X z 0 0 σ 0 [(0, ar this), (1, ai p0)] [] _
  unfold f_X2_setPump
  refine x_iload_n C 1 (i := 1) (k0 := 1) rfl rfl (by decide +kernel) ?_
  refine x_iconst C (n := 0) (by decide +kernel) ?_
  refine x_iconst C (n := 3) (by decide +kernel) ?_
  refine x_callSNp C (c_X11_within l D ca ra N σ p0 0 3) (p_X11_within N σ p0 0 3) mt_X11_within ms_X11_within (List.mem_of_getElem? (i := 14) rfl) rfl (fun h => Bool.noConfusion h) ⟨Nat.le_of_ble_eq_true rfl, Nat.le_of_ble_eq_true rfl⟩ (Nat.le_of_ble_eq_true rfl) 0 0 ⟨rfl, rfl⟩ ⟨Nat.zero_le _, Nat.zero_le _⟩ (by decide +kernel) _ rfl (fun q1 => [ai q1.2]) (fun _ => rfl) (fun q1 => ?_)
  refine x_if_ne C (tgt := 11) (off := 5) (by decide) (by decide +kernel) (fun h4 => ?_) (fun h4 => ?_)
  · skip
    refine x_aload_n C 0 (i := 0) (k0 := 0) rfl rfl (by decide +kernel) ?_
    refine x_iload_n C 1 (i := 1) (k0 := 1) rfl rfl (by decide +kernel) ?_
    refine x_pI C fl_RX2_13 rfl (fun q h => by cases h; rfl) (by decide +kernel) (fun σ2 => ?_)
    refine x_aload_n C 0 (i := 0) (k0 := 0) rfl rfl (by decide +kernel) ?_
    refine x_iconst C (n := (-1)) (by decide +kernel) ?_
    refine x_pI C fl_RX2_17 rfl (fun q h => by cases h; rfl) (by decide +kernel) (fun σ3 => ?_)
    refine x_iconst C (n := 1) (by decide +kernel) ?_
    exact x_zret C (Or.inr rfl) ⟨Nat.zero_le _, Nat.zero_le _⟩ (by decide +kernel)
  · skip
    refine x_iconst C (n := 0) (by decide +kernel) ?_
    exact x_zret C (Or.inl rfl) ⟨Nat.zero_le _, Nat.zero_le _⟩ (by decide +kernel)

def rm_X2_canHold : Room := { frames := 0, cells := 0, slots := 0, locals := 0 }
def f_X2_canHold (N : Nat) (σ : St) (p0 : Nat) (p1 : Int) (p2 : Int) (p3 : Int) : Option (St × Int) :=
 Option.bind (gR shx σ 3 p0 17) fun tankHolds_1 =>
 Jn (fun t2 : Int => (if wr t2 = 0 then some (σ, 0) else Option.bind (aI shx σ 1 tankHolds_1 0) fun a3 =>
 (if wr a3 < wr p1 then some (σ, 0) else Option.bind (aI shx σ 1 tankHolds_1 1) fun a4 =>
 (if wr a4 < wr p2 then some (σ, 0) else Option.bind (aI shx σ 1 tankHolds_1 2) fun a5 =>
 (if wr a5 < wr p3 then some (σ, 0) else some (σ, 1)))))) fun J23_9 =>
 Jn (fun t11 : Unit => J23_9 0) fun J22_11 =>
 (if wr p1 < 0 then J22_11 () else (if wr p2 < 0 then J22_11 () else (if wr p3 < 0 then J22_11 () else J23_9 1)))
set_option maxRecDepth 100000 in
set_option maxHeartbeats 4000000 in
theorem c_X2_canHold (l : Launch) (D : va_G) (ca : Nat → ClassId) (ra : Nat → Nat) (N : Nat) (σ : St) (p0 : Nat) (p1 : Int) (p2 : Int) (p3 : Int) : Ctr l (D, ca, ra, shx) false yX2_canHold cX2_canHold 6 (some .boolean) rm_X2_canHold σ [ar p0, ai p1, ai p2, ai p3] (f_X2_canHold N σ p0 p1 p2 p3) := by
  refine ctr_of (by decide) (Nat.le_of_ble_eq_true rfl) (fun z C => ?_)
  show X z 0 0 σ 0 [(0, ar p0), (1, ai p1), (2, ai p2), (3, ai p3)] [] _
  unfold f_X2_canHold
  refine x_aload_n C 0 (i := 0) (k0 := 0) rfl rfl (by decide +kernel) ?_
  refine x_gR C fl_RX2_65 (fun _ _ _ => rfl) (by decide +kernel) (fun tankHolds_1 => ?_)
  refine x_astore C (i := 4) (Nat.le_of_ble_eq_true rfl) (by decide +kernel) (lv2 := [(4, ar tankHolds_1), (0, ar p0), (1, ai p1), (2, ai p2), (3, ai p3)]) rfl ?_
  refine x_iload_n C 2 (i := 1) (k0 := 1) rfl rfl (by decide +kernel) ?_
  refine x_join (T := Int) (fun t => σ) 23 (fun t => [(1, ai p1), (2, ai p2), (3, ai p3), (4, ar tankHolds_1)]) (fun t => [ai t]) (fun t2 => ?_) (fun J23_9 hJ23_9 => ?_)
  · show X z 0 0 σ 23 [(1, ai p1), (2, ai p2), (3, ai p3), (4, ar tankHolds_1)] [ai t2] _
    refine x_istore C (i := 5) (Nat.le_of_ble_eq_true rfl) (by decide +kernel) (lv2 := [(5, ai t2), (1, ai p1), (2, ai p2), (3, ai p3), (4, ar tankHolds_1)]) rfl ?_
    refine x_iload C 0 (i := 5) rfl (by decide +kernel) ?_
    refine x_if_eq C (tgt := 58) (off := 31) (by decide) (by decide +kernel) (fun h9 => ?_) (fun h9 => ?_)
    · skip
      refine x_iconst C (n := 0) (by decide +kernel) ?_
      exact x_zret C (Or.inl rfl) ⟨Nat.zero_le _, Nat.zero_le _⟩ (by decide +kernel)
    · skip
      refine x_iload_n C 1 (i := 1) (k0 := 1) rfl rfl (by decide +kernel) ?_
      refine x_aload C 4 (i := 4) rfl (by decide +kernel) ?_
      refine x_iconst C (n := 0) (by decide +kernel) ?_
      refine x_aldI C (by decide +kernel) (fun a3 => ?_)
      refine x_ic_gt C (tgt := 58) (off := 23) (by decide) (by decide +kernel) (fun h8 => ?_) (fun h8 => ?_)
      · skip
        refine x_iconst C (n := 0) (by decide +kernel) ?_
        exact x_zret C (Or.inl rfl) ⟨Nat.zero_le _, Nat.zero_le _⟩ (by decide +kernel)
      · skip
        refine x_iload_n C 2 (i := 2) (k0 := 2) rfl rfl (by decide +kernel) ?_
        refine x_aload C 4 (i := 4) rfl (by decide +kernel) ?_
        refine x_iconst C (n := 1) (by decide +kernel) ?_
        refine x_aldI C (by decide +kernel) (fun a4 => ?_)
        refine x_ic_gt C (tgt := 58) (off := 15) (by decide) (by decide +kernel) (fun h7 => ?_) (fun h7 => ?_)
        · skip
          refine x_iconst C (n := 0) (by decide +kernel) ?_
          exact x_zret C (Or.inl rfl) ⟨Nat.zero_le _, Nat.zero_le _⟩ (by decide +kernel)
        · skip
          refine x_iload_n C 3 (i := 3) (k0 := 3) rfl rfl (by decide +kernel) ?_
          refine x_aload C 4 (i := 4) rfl (by decide +kernel) ?_
          refine x_iconst C (n := 2) (by decide +kernel) ?_
          refine x_aldI C (by decide +kernel) (fun a5 => ?_)
          refine x_ic_gt C (tgt := 58) (off := 7) (by decide) (by decide +kernel) (fun h6 => ?_) (fun h6 => ?_)
          · skip
            refine x_iconst C (n := 0) (by decide +kernel) ?_
            exact x_zret C (Or.inl rfl) ⟨Nat.zero_le _, Nat.zero_le _⟩ (by decide +kernel)
          · skip
            refine x_iconst C (n := 1) (by decide +kernel) ?_
            refine x_goto C (tgt := 59) (off := 4) (by decide) (by decide +kernel) ?_
            exact x_zret C (Or.inr rfl) ⟨Nat.zero_le _, Nat.zero_le _⟩ (by decide +kernel)
  · skip
    refine x_join (T := Unit) (fun t => σ) 22 (fun t => [(1, ai p1), (2, ai p2), (3, ai p3), (4, ar tankHolds_1)]) (fun t => []) (fun t11 => ?_) (fun J22_11 hJ22_11 => ?_)
    · show X z 0 0 σ 22 [(1, ai p1), (2, ai p2), (3, ai p3), (4, ar tankHolds_1)] [] _
      refine x_iconst C (n := 0) (by decide +kernel) ?_
      exact hJ23_9 0
    · skip
      refine x_if_lt C (tgt := 22) (off := 15) (by decide) (by decide +kernel) (fun h15 => ?_) (fun h15 => ?_)
      · skip
        refine x_sub [2, 3, 4, 0] (lv2 := [(1, ai p1), (2, ai p2), (3, ai p3), (4, ar tankHolds_1)]) rfl ?_
        exact hJ22_11 ()
      · skip
        refine x_iload_n C 3 (i := 2) (k0 := 2) rfl rfl (by decide +kernel) ?_
        refine x_if_lt C (tgt := 22) (off := 11) (by decide) (by decide +kernel) (fun h14 => ?_) (fun h14 => ?_)
        · skip
          refine x_sub [2, 3, 4, 0] (lv2 := [(1, ai p1), (2, ai p2), (3, ai p3), (4, ar tankHolds_1)]) rfl ?_
          exact hJ22_11 ()
        · skip
          refine x_iload_n C 4 (i := 3) (k0 := 3) rfl rfl (by decide +kernel) ?_
          refine x_if_lt C (tgt := 22) (off := 7) (by decide) (by decide +kernel) (fun h13 => ?_) (fun h13 => ?_)
          · skip
            refine x_sub [2, 3, 4, 0] (lv2 := [(1, ai p1), (2, ai p2), (3, ai p3), (4, ar tankHolds_1)]) rfl ?_
            exact hJ22_11 ()
          · skip
            refine x_iconst C (n := 1) (by decide +kernel) ?_
            refine x_goto C (tgt := 23) (off := 4) (by decide) (by decide +kernel) ?_
            refine x_sub [2, 3, 4, 0] (lv2 := [(1, ai p1), (2, ai p2), (3, ai p3), (4, ar tankHolds_1)]) rfl ?_
            exact hJ23_9 1
theorem p_X2_canHold (N : Nat) (σ : St) (p0 : Nat) (p1 : Int) (p2 : Int) (p3 : Int) : Pu σ (f_X2_canHold N σ p0 p1 p2 p3) := by
  unfold f_X2_canHold
  refine pu_bind (fun _ => ?_)
  refine pu_Jn (fun _ => ?_) (fun _ hJ23_9 => ?_)
  · skip
    refine pu_if ?_ ?_
    · skip
      exact pu_some
    · skip
      refine pu_bind (fun _ => ?_)
      refine pu_if ?_ ?_
      · skip
        exact pu_some
      · skip
        refine pu_bind (fun _ => ?_)
        refine pu_if ?_ ?_
        · skip
          exact pu_some
        · skip
          refine pu_bind (fun _ => ?_)
          refine pu_if ?_ ?_
          · skip
            exact pu_some
          · skip
            exact pu_some
  · skip
    refine pu_Jn (fun _ => ?_) (fun _ hJ22_11 => ?_)
    · skip
      exact hJ23_9 _
    · skip
      refine pu_if ?_ ?_
      · skip
        exact hJ22_11 _
      · skip
        refine pu_if ?_ ?_
        · skip
          exact hJ22_11 _
        · skip
          refine pu_if ?_ ?_
          · skip
            exact hJ22_11 _
          · skip
            exact hJ23_9 _

def rm_X2_fill : Room := { frames := 1, cells := 0, slots := 0, locals := 25 }
def f_X2_fill (N : Nat) (σ : St) (this : Nat) (p0 : Nat) (p1 : Int) (p2 : Int) : Option (St × Int) :=
 Option.bind (gR shx σ 2 this 7) fun fuel_1 =>
 Option.bind (sI shx σ 1 fuel_1 0 (Int.tdiv (wr p2) 16)) fun σ2 =>
 Option.bind (gR shx σ2 2 this 7) fun fuel_3 =>
 Option.bind (sI shx σ2 1 fuel_3 1 (Int.tmod (wr p2) 16)) fun σ4 =>
 Option.bind (gR shx σ4 2 this 7) fun fuel_5 =>
 Option.bind (gI shx σ4 2 this 2) fun planned_6 =>
 Option.bind (gR shx σ4 2 this 7) fun fuel_7 =>
 Option.bind (aI shx σ4 1 fuel_7 0) fun a8 =>
 Option.bind (gR shx σ4 2 this 7) fun fuel_9 =>
 Option.bind (aI shx σ4 1 fuel_9 1) fun a10 =>
 Option.bind (sI shx σ4 1 fuel_5 2 (((planned_6 - p1) - a8) - a10)) fun σ11 =>
 Option.bind (gR shx σ11 2 this 7) fun fuel_12 =>
 Option.bind (aI shx σ11 1 fuel_12 0) fun a13 =>
 Option.bind (gR shx σ11 2 this 7) fun fuel_14 =>
 Option.bind (aI shx σ11 1 fuel_14 1) fun a15 =>
 Option.bind (gR shx σ11 2 this 7) fun fuel_16 =>
 Option.bind (aI shx σ11 1 fuel_16 2) fun a17 =>
 Option.bind (f_X2_canHold N σ11 p0 a13 a15 a17) fun q18 =>
 rZ σ11 q18.2
set_option maxRecDepth 100000 in
set_option maxHeartbeats 4000000 in
theorem c_X2_fill (l : Launch) (D : va_G) (ca : Nat → ClassId) (ra : Nat → Nat) (N : Nat) (σ : St) (this : Nat) (p0 : Nat) (p1 : Int) (p2 : Int) : Ctr l (D, ca, ra, shx) false yX2_fill cX2_fill 4 (some .boolean) rm_X2_fill σ [ar this, ar p0, ai p1, ai p2] (f_X2_fill N σ this p0 p1 p2) := by
  refine ctr_of (by decide) (Nat.le_of_ble_eq_true rfl) (fun z C => ?_)
  show X z 0 0 σ 0 [(0, ar this), (1, ar p0), (2, ai p1), (3, ai p2)] [] _
  unfold f_X2_fill
  refine x_aload_n C 0 (i := 0) (k0 := 0) rfl rfl (by decide +kernel) ?_
  refine x_gR C fl_RX2_35 (fun _ _ _ => rfl) (by decide +kernel) (fun fuel_1 => ?_)
  refine x_iconst C (n := 0) (by decide +kernel) ?_
  refine x_iload_n C 3 (i := 3) (k0 := 3) rfl rfl (by decide +kernel) ?_
  refine x_bipush C (n := 16) (by decide +kernel) (by decide +kernel) ?_
  refine x_idivC C (by decide) (by decide) (by decide +kernel) ?_
  refine x_astI C (by decide +kernel) (fun σ2 => ?_)
  refine x_aload_n C 0 (i := 0) (k0 := 0) rfl rfl (by decide +kernel) ?_
  show X z 0 0 σ2 11 [(0, ar this), (1, ar p0), (2, ai p1), (3, ai p2)] [ar this] _
  refine x_gR C fl_RX2_35 (fun _ _ _ => rfl) (by decide +kernel) (fun fuel_3 => ?_)
  refine x_iconst C (n := 1) (by decide +kernel) ?_
  refine x_iload_n C 3 (i := 3) (k0 := 3) rfl rfl (by decide +kernel) ?_
  refine x_bipush C (n := 16) (by decide +kernel) (by decide +kernel) ?_
  refine x_iremC C (by decide) (by decide) (by decide +kernel) ?_
  refine x_astI C (by decide +kernel) (fun σ4 => ?_)
  refine x_aload_n C 0 (i := 0) (k0 := 0) rfl rfl (by decide +kernel) ?_
  refine x_gR C fl_RX2_35 (fun _ _ _ => rfl) (by decide +kernel) (fun fuel_5 => ?_)
  show X z 0 0 σ4 24 [(0, ar this), (1, ar p0), (2, ai p1), (3, ai p2)] [ar fuel_5] _
  refine x_iconst C (n := 2) (by decide +kernel) ?_
  refine x_aload_n C 0 (i := 0) (k0 := 0) rfl rfl (by decide +kernel) ?_
  refine x_gI C fl_RX2_17 (fun _ _ _ => rfl) (by decide +kernel) (fun planned_6 => ?_)
  refine x_iload_n C 2 (i := 2) (k0 := 2) rfl rfl (by decide +kernel) ?_
  refine x_isub C (by decide +kernel) ?_
  refine x_aload_n C 0 (i := 0) (k0 := 0) rfl rfl (by decide +kernel) ?_
  refine x_gR C fl_RX2_35 (fun _ _ _ => rfl) (by decide +kernel) (fun fuel_7 => ?_)
  refine x_iconst C (n := 0) (by decide +kernel) ?_
  show X z 0 0 σ4 36 [(0, ar this), (1, ar p0), (2, ai p1), (3, ai p2)] [ai 0, ar fuel_7, ai (planned_6 - p1), ai 2, ar fuel_5] _
  refine x_aldI C (by decide +kernel) (fun a8 => ?_)
  refine x_isub C (by decide +kernel) ?_
  refine x_aload_n C 0 (i := 0) (k0 := 0) rfl rfl (by decide +kernel) ?_
  refine x_gR C fl_RX2_35 (fun _ _ _ => rfl) (by decide +kernel) (fun fuel_9 => ?_)
  refine x_iconst C (n := 1) (by decide +kernel) ?_
  refine x_aldI C (by decide +kernel) (fun a10 => ?_)
  refine x_isub C (by decide +kernel) ?_
  refine x_astI C (by decide +kernel) (fun σ11 => ?_)
  show X z 0 0 σ11 46 [(0, ar this), (1, ar p0), (2, ai p1), (3, ai p2)] [] _
  refine x_aload_n C 1 (i := 1) (k0 := 1) rfl rfl (by decide +kernel) ?_
  refine x_aload_n C 0 (i := 0) (k0 := 0) rfl rfl (by decide +kernel) ?_
  refine x_gR C fl_RX2_35 (fun _ _ _ => rfl) (by decide +kernel) (fun fuel_12 => ?_)
  refine x_iconst C (n := 0) (by decide +kernel) ?_
  refine x_aldI C (by decide +kernel) (fun a13 => ?_)
  refine x_aload_n C 0 (i := 0) (k0 := 0) rfl rfl (by decide +kernel) ?_
  refine x_gR C fl_RX2_35 (fun _ _ _ => rfl) (by decide +kernel) (fun fuel_14 => ?_)
  refine x_iconst C (n := 1) (by decide +kernel) ?_
  show X z 0 0 σ11 58 [(0, ar this), (1, ar p0), (2, ai p1), (3, ai p2)] [ai 1, ar fuel_14, ai a13, ar p0] _
  refine x_aldI C (by decide +kernel) (fun a15 => ?_)
  refine x_aload_n C 0 (i := 0) (k0 := 0) rfl rfl (by decide +kernel) ?_
  refine x_gR C fl_RX2_35 (fun _ _ _ => rfl) (by decide +kernel) (fun fuel_16 => ?_)
  refine x_iconst C (n := 2) (by decide +kernel) ?_
  refine x_aldI C (by decide +kernel) (fun a17 => ?_)
  refine x_callSp C (c_X2_canHold l D ca ra N σ11 p0 a13 a15 a17) (p_X2_canHold N σ11 p0 a13 a15 a17) mt_X2_canHold ms_X2_canHold ml_RX2_45 rfl (fun h => Bool.noConfusion h) ⟨Nat.le_of_ble_eq_true rfl, Nat.le_of_ble_eq_true rfl⟩ (Nat.le_of_ble_eq_true rfl) 0 0 ⟨rfl, rfl⟩ ⟨Nat.zero_le _, Nat.zero_le _⟩ (by decide +kernel) _ rfl (fun q18 => [ai q18.2]) (fun _ => rfl) (fun q18 => ?_)
  exact x_rZ C ⟨Nat.zero_le _, Nat.zero_le _⟩ (by decide +kernel)

def rm_X2_leastAt : Room := { frames := 1, cells := 0, slots := 0, locals := 22 }
def f_X2_leastAt (N : Nat) (σ : St) (this : Nat) (p0 : Int) (p1 : Int) : Option (St × Int) :=
 Option.bind (f_X11_within N σ p0 0 12) fun q1 =>
 Jn (fun t2 : Int => (if wr t2 = 0 then some (σ, 1000) else Option.bind (gR shx σ 2 this 5) fun least_3 =>
 Option.bind (aR shx σ 6 least_3 p0) fun r4 =>
 Option.bind (aI shx σ 1 r4 p1) fun a5 =>
 some (σ, a5))) fun J26_6 =>
 Jn (fun t8 : Unit => J26_6 0) fun J25_8 =>
 (if wr q1.2 = 0 then J25_8 () else Option.bind (f_X11_within N σ p1 0 255) fun q10 =>
 (if wr q10.2 = 0 then J25_8 () else J26_6 1))
set_option maxRecDepth 100000 in
set_option maxHeartbeats 4000000 in
theorem c_X2_leastAt (l : Launch) (D : va_G) (ca : Nat → ClassId) (ra : Nat → Nat) (N : Nat) (σ : St) (this : Nat) (p0 : Int) (p1 : Int) : Ctr l (D, ca, ra, shx) false yX2_leastAt cX2_leastAt 4 (some .int) rm_X2_leastAt σ [ar this, ai p0, ai p1] (f_X2_leastAt N σ this p0 p1) := by
  refine ctr_of (by decide) (Nat.le_of_ble_eq_true rfl) (fun z C => ?_)
  show X z 0 0 σ 0 [(0, ar this), (1, ai p0), (2, ai p1)] [] _
  unfold f_X2_leastAt
  refine x_iload_n C 1 (i := 1) (k0 := 1) rfl rfl (by decide +kernel) ?_
  refine x_iconst C (n := 0) (by decide +kernel) ?_
  refine x_bipush C (n := 12) (by decide +kernel) (by decide +kernel) ?_
  refine x_callSNp C (c_X11_within l D ca ra N σ p0 0 12) (p_X11_within N σ p0 0 12) mt_X11_within ms_X11_within (List.mem_of_getElem? (i := 14) rfl) rfl (fun h => Bool.noConfusion h) ⟨Nat.le_of_ble_eq_true rfl, Nat.le_of_ble_eq_true rfl⟩ (Nat.le_of_ble_eq_true rfl) 0 0 ⟨rfl, rfl⟩ ⟨Nat.zero_le _, Nat.zero_le _⟩ (by decide +kernel) _ rfl (fun q1 => [ai q1.2]) (fun _ => rfl) (fun q1 => ?_)
  refine x_join (T := Int) (fun t => σ) 26 (fun t => [(0, ar this), (1, ai p0), (2, ai p1)]) (fun t => [ai t]) (fun t2 => ?_) (fun J26_6 hJ26_6 => ?_)
  · show X z 0 0 σ 26 [(0, ar this), (1, ai p0), (2, ai p1)] [ai t2] _
    refine x_istore_n C (i := 3) (k0 := 3) rfl (Nat.le_of_ble_eq_true rfl) (by decide +kernel) (lv2 := [(3, ai t2), (0, ar this), (1, ai p0), (2, ai p1)]) rfl ?_
    refine x_iload_n C 0 (i := 3) (k0 := 3) rfl rfl (by decide +kernel) ?_
    refine x_if_eq C (tgt := 42) (off := 14) (by decide) (by decide +kernel) (fun h6 => ?_) (fun h6 => ?_)
    · skip
      refine x_sipush C (n := 1000) (by decide +kernel) (by decide +kernel) ?_
      exact x_iret C ⟨Nat.zero_le _, Nat.zero_le _⟩ (by decide +kernel)
    · skip
      refine x_aload_n C 1 (i := 0) (k0 := 0) rfl rfl (by decide +kernel) ?_
      refine x_gR C fl_RX2_29 (fun _ _ _ => rfl) (by decide +kernel) (fun least_3 => ?_)
      refine x_iload_n C 2 (i := 1) (k0 := 1) rfl rfl (by decide +kernel) ?_
      refine x_aldR6 C (by decide +kernel) (fun r4 => ?_)
      refine x_iload_n C 3 (i := 2) (k0 := 2) rfl rfl (by decide +kernel) ?_
      refine x_aldI C (by decide +kernel) (fun a5 => ?_)
      refine x_goto C (tgt := 45) (off := 6) (by decide) (by decide +kernel) ?_
      exact x_iret C ⟨Nat.zero_le _, Nat.zero_le _⟩ (by decide +kernel)
  · skip
    refine x_join (T := Unit) (fun t => σ) 25 (fun t => [(0, ar this), (1, ai p0), (2, ai p1)]) (fun t => []) (fun t8 => ?_) (fun J25_8 hJ25_8 => ?_)
    · show X z 0 0 σ 25 [(0, ar this), (1, ai p0), (2, ai p1)] [] _
      refine x_iconst C (n := 0) (by decide +kernel) ?_
      exact hJ26_6 0
    · skip
      refine x_if_eq C (tgt := 25) (off := 18) (by decide) (by decide +kernel) (fun h12 => ?_) (fun h12 => ?_)
      · skip
        exact hJ25_8 ()
      · skip
        refine x_iload_n C 2 (i := 2) (k0 := 2) rfl rfl (by decide +kernel) ?_
        refine x_iconst C (n := 0) (by decide +kernel) ?_
        refine x_sipush C (n := 255) (by decide +kernel) (by decide +kernel) ?_
        refine x_callSNp C (c_X11_within l D ca ra N σ p1 0 255) (p_X11_within N σ p1 0 255) mt_X11_within ms_X11_within (List.mem_of_getElem? (i := 14) rfl) rfl (fun h => Bool.noConfusion h) ⟨Nat.le_of_ble_eq_true rfl, Nat.le_of_ble_eq_true rfl⟩ (Nat.le_of_ble_eq_true rfl) 0 0 ⟨rfl, rfl⟩ ⟨Nat.zero_le _, Nat.zero_le _⟩ (by decide +kernel) _ rfl (fun q10 => [ai q10.2]) (fun _ => rfl) (fun q10 => ?_)
        refine x_if_eq C (tgt := 25) (off := 7) (by decide) (by decide +kernel) (fun h11 => ?_) (fun h11 => ?_)
        · skip
          exact hJ25_8 ()
        · skip
          refine x_iconst C (n := 1) (by decide +kernel) ?_
          refine x_goto C (tgt := 26) (off := 4) (by decide) (by decide +kernel) ?_
          exact hJ26_6 1
theorem p_X2_leastAt (N : Nat) (σ : St) (this : Nat) (p0 : Int) (p1 : Int) : Pu σ (f_X2_leastAt N σ this p0 p1) := by
  unfold f_X2_leastAt
  refine pu_bind (fun _ => ?_)
  refine pu_Jn (fun _ => ?_) (fun _ hJ26_6 => ?_)
  · skip
    refine pu_if ?_ ?_
    · skip
      exact pu_some
    · skip
      refine pu_bind (fun _ => ?_)
      refine pu_bind (fun _ => ?_)
      refine pu_bind (fun _ => ?_)
      exact pu_some
  · skip
    refine pu_Jn (fun _ => ?_) (fun _ hJ25_8 => ?_)
    · skip
      exact hJ26_6 _
    · skip
      refine pu_if ?_ ?_
      · skip
        exact hJ25_8 _
      · skip
        refine pu_bind (fun _ => ?_)
        refine pu_if ?_ ?_
        · skip
          exact hJ25_8 _
        · skip
          exact hJ26_6 _

def L_X2_findBurnt_39 (N : Nat) (this : Nat) (p1 : Int) (t3 : St × Int) (q6 : (St × Int)) (J96_8 : (St → Option (St × Int))) : (St × Int) → Option (St × Int) := fixN N fun b39_10 t10 =>
 (if wr t10.2 < wr 3 then (if wr q6.2 = 0 then J96_8 t10.1 else Option.bind (gR shx t10.1 2 this 7) fun fuel_12 =>
 Option.bind (aI shx t10.1 1 fuel_12 t10.2) fun a13 =>
 Jn (fun t14 : St => Lt (t10.2 + 1) fun x15 =>
 b39_10 (t14, x15)) fun J90_15 =>
 (if 0 < wr a13 then Option.bind (gR shx t10.1 2 this 6) fun burnt_17 =>
 Option.bind (gR shx t10.1 2 this 6) fun burnt_18 =>
 Option.bind (aI shx t10.1 1 burnt_18 t3.2) fun a19 =>
 Option.bind (wtZ t10.2) fun w20 =>
 Option.bind (rcv shx t10.1 2 this (f_X2_leastAt N t10.1 this (p1 + 1) (t3.2 - w20))) fun q21 =>
 Option.bind (sI shx t10.1 1 burnt_17 t3.2 (mnZ a19 q21.2)) fun σ22 =>
 J90_15 σ22 else J90_15 t10.1)) else J96_8 t10.1)
def L_X2_findBurnt_12 (N : Nat) (this : Nat) (p0 : Nat) (p1 : Int) : (St × Int) → Option (St × Int) := fixN N fun b12_3 t3 =>
 (if wr t3.2 < wr 256 then Option.bind (gI shx t3.1 2 this 0) fun steps_5 =>
 (if wr p1 < wr steps_5 then Option.bind (rcv shx t3.1 2 this (f_X2_fill N t3.1 this p0 p1 t3.2)) fun q6 =>
 Jn (fun t7 : St => Lt (t3.2 + 1) fun x8 =>
 b12_3 (t7, x8)) fun J96_8 =>
 L_X2_findBurnt_39 N this p1 t3 q6 J96_8 (q6.1, 0) else some (t3.1, 0)) else some (t3.1, 0))
def rm_X2_findBurnt : Room := { frames := 2, cells := 0, slots := 0, locals := 48 }
def f_X2_findBurnt (N : Nat) (σ : St) (this : Nat) (p0 : Nat) (p1 : Int) : Option (St × Int) :=
 Option.bind (gR shx σ 2 this 6) fun burnt_1 =>
 Option.bind (f_J7_fill_53178 N σ burnt_1 1000) fun q2 =>
 L_X2_findBurnt_12 N this p0 p1 (q2.1, 0)
set_option maxRecDepth 100000 in
set_option maxHeartbeats 4000000 in
theorem c_X2_findBurnt (l : Launch) (D : va_G) (ca : Nat → ClassId) (ra : Nat → Nat) (N : Nat) (σ : St) (this : Nat) (p0 : Nat) (p1 : Int) : Ctr l (D, ca, ra, shx) false yX2_findBurnt cX2_findBurnt 6 none rm_X2_findBurnt σ [ar this, ar p0, ai p1] (f_X2_findBurnt N σ this p0 p1) := by
  refine ctr_of (by decide) (Nat.le_of_ble_eq_true rfl) (fun z C => ?_)
  show X z 0 0 σ 0 [(0, ar this), (1, ar p0), (2, ai p1)] [] _
  unfold f_X2_findBurnt
  refine x_aload_n C 0 (i := 0) (k0 := 0) rfl rfl (by decide +kernel) ?_
  refine x_gR C fl_RX2_32 (fun _ _ _ => rfl) (by decide +kernel) (fun burnt_1 => ?_)
  refine x_sipush C (n := 1000) (by decide +kernel) (by decide +kernel) ?_
  refine x_callS C (c_J7_fill_53178 l D ca ra N σ burnt_1 1000) mt_J7_fill_53178 ms_J7_fill_53178 ml_RX2_74 rfl (fun h => Bool.noConfusion h) ⟨Nat.le_of_ble_eq_true rfl, Nat.le_of_ble_eq_true rfl⟩ (Nat.le_of_ble_eq_true rfl) 0 0 ⟨rfl, rfl⟩ ⟨Nat.zero_le _, Nat.zero_le _⟩ (by decide +kernel) _ rfl (fun q2 => []) (fun _ => rfl) (fun q2 => ?_)
  refine x_iconst C (n := 0) (by decide +kernel) ?_
  refine x_istore_n C (i := 3) (k0 := 3) rfl (Nat.le_of_ble_eq_true rfl) (by decide +kernel) (lv2 := [(3, ai 0), (0, ar this), (1, ar p0), (2, ai p1)]) rfl ?_
  refine x_sub [1, 2, 3, 0] (lv2 := [(0, ar this), (1, ar p0), (2, ai p1), (3, ai 0)]) rfl ?_
  -- LOOP L_X2_findBurnt_12 hb12_3
  refine x_loop (T := St × Int) (fun t => t.1) (fun t => [(0, ar this), (1, ar p0), (2, ai p1), (3, ai t.2)]) (q2.1, 0) rfl (fun b12_3 hb12_3 t3 => ?_)
  show X z 0 0 t3.1 12 [(0, ar this), (1, ar p0), (2, ai p1), (3, ai t3.2)] [] _
  refine x_iload_n C 3 (i := 3) (k0 := 3) rfl rfl (by decide +kernel) ?_
  refine x_sipush C (n := 256) (by decide +kernel) (by decide +kernel) ?_
  refine x_ic_ge C (tgt := 102) (off := 86) (by decide) (by decide +kernel) (fun h27 => ?_) (fun h27 => ?_)
  · skip
    exact x_vret C ⟨Nat.zero_le _, Nat.zero_le _⟩ (by decide +kernel)
  · skip
    refine x_iload_n C 2 (i := 2) (k0 := 2) rfl rfl (by decide +kernel) ?_
    refine x_aload_n C 0 (i := 0) (k0 := 0) rfl rfl (by decide +kernel) ?_
    refine x_gI C fl_RX2_42 (fun _ _ _ => rfl) (by decide +kernel) (fun steps_5 => ?_)
    refine x_ic_ge C (tgt := 102) (off := 78) (by decide) (by decide +kernel) (fun h26 => ?_) (fun h26 => ?_)
    · skip
      exact x_vret C ⟨Nat.zero_le _, Nat.zero_le _⟩ (by decide +kernel)
    · skip
      refine x_aload_n C 0 (i := 0) (k0 := 0) rfl rfl (by decide +kernel) ?_
      refine x_aload_n C 1 (i := 1) (k0 := 1) rfl rfl (by decide +kernel) ?_
      refine x_iload_n C 2 (i := 2) (k0 := 2) rfl rfl (by decide +kernel) ?_
      refine x_iload_n C 3 (i := 3) (k0 := 3) rfl rfl (by decide +kernel) ?_
      refine x_callV C (ci := 2) (c_X2_fill l D ca ra N t3.1 this p0 p1 t3.2) mt_X2_fill mv_X2_fill rfl ml_RX2_80 rfl (fun h => Bool.noConfusion h) ⟨Nat.le_of_ble_eq_true rfl, Nat.le_of_ble_eq_true rfl⟩ (Nat.le_of_ble_eq_true rfl) 0 0 ⟨rfl, rfl⟩ ⟨Nat.zero_le _, Nat.zero_le _⟩ (by decide +kernel) _ rfl (fun q6 => [ai q6.2]) (fun _ => rfl) (fun q6 => ?_)
      refine x_istore C (i := 4) (Nat.le_of_ble_eq_true rfl) (by decide +kernel) (lv2 := [(4, ai q6.2), (0, ar this), (1, ar p0), (2, ai p1), (3, ai t3.2)]) rfl ?_
      refine x_iconst C (n := 0) (by decide +kernel) ?_
      refine x_istore C (i := 5) (Nat.le_of_ble_eq_true rfl) (by decide +kernel) (lv2 := [(5, ai 0), (4, ai q6.2), (0, ar this), (1, ar p0), (2, ai p1), (3, ai t3.2)]) rfl ?_
      show X z 0 0 q6.1 39 [(5, ai 0), (4, ai q6.2), (0, ar this), (1, ar p0), (2, ai p1), (3, ai t3.2)] [] _
      refine x_join (T := St) (fun t => t) 96 (fun t => [(0, ar this), (1, ar p0), (2, ai p1), (3, ai t3.2)]) (fun t => []) (fun t7 => ?_) (fun J96_8 hJ96_8 => ?_)
      · show X z 0 0 t7 96 [(0, ar this), (1, ar p0), (2, ai p1), (3, ai t3.2)] [] _
        refine x_iinc C 3 (i := 3) (n := 1) (Nat.le_of_ble_eq_true rfl) rfl (by decide +kernel) (lv2 := fun x8 => [(3, ai x8), (0, ar this), (1, ar p0), (2, ai p1)]) (fun _ => rfl) (fun x8 => ?_)
        refine x_goto C (tgt := 12) (off := (-87)) (by decide) (by decide +kernel) ?_
        refine x_sub [1, 2, 3, 0] (lv2 := [(0, ar this), (1, ar p0), (2, ai p1), (3, ai x8)]) rfl ?_
        exact hb12_3 (t7, x8)
      · skip
        refine x_sub [2, 3, 4, 5, 1, 0] (lv2 := [(0, ar this), (1, ar p0), (2, ai p1), (3, ai t3.2), (4, ai q6.2), (5, ai 0)]) rfl ?_
        -- LOOP L_X2_findBurnt_39 hb39_10
        refine x_loop (T := St × Int) (fun t => t.1) (fun t => [(0, ar this), (1, ar p0), (2, ai p1), (3, ai t3.2), (4, ai q6.2), (5, ai t.2)]) (q6.1, 0) rfl (fun b39_10 hb39_10 t10 => ?_)
        show X z 0 0 t10.1 39 [(0, ar this), (1, ar p0), (2, ai p1), (3, ai t3.2), (4, ai q6.2), (5, ai t10.2)] [] _
        refine x_iload C 5 (i := 5) rfl (by decide +kernel) ?_
        refine x_iconst C (n := 3) (by decide +kernel) ?_
        refine x_ic_ge C (tgt := 96) (off := 54) (by decide) (by decide +kernel) (fun h25 => ?_) (fun h25 => ?_)
        · skip
          refine x_sub [0, 1, 2, 3] (lv2 := [(0, ar this), (1, ar p0), (2, ai p1), (3, ai t3.2)]) rfl ?_
          exact hJ96_8 t10.1
        · skip
          refine x_iload C 4 (i := 4) rfl (by decide +kernel) ?_
          refine x_if_eq C (tgt := 96) (off := 49) (by decide) (by decide +kernel) (fun h24 => ?_) (fun h24 => ?_)
          · skip
            refine x_sub [0, 1, 2, 3] (lv2 := [(0, ar this), (1, ar p0), (2, ai p1), (3, ai t3.2)]) rfl ?_
            exact hJ96_8 t10.1
          · skip
            refine x_aload_n C 0 (i := 0) (k0 := 0) rfl rfl (by decide +kernel) ?_
            refine x_gR C fl_RX2_35 (fun _ _ _ => rfl) (by decide +kernel) (fun fuel_12 => ?_)
            refine x_iload C 5 (i := 5) rfl (by decide +kernel) ?_
            refine x_aldI C (by decide +kernel) (fun a13 => ?_)
            refine x_join (T := St) (fun t => t) 90 (fun t => [(0, ar this), (1, ar p0), (2, ai p1), (3, ai t3.2), (4, ai q6.2), (5, ai t10.2)]) (fun t => []) (fun t14 => ?_) (fun J90_15 hJ90_15 => ?_)
            · show X z 0 0 t14 90 [(0, ar this), (1, ar p0), (2, ai p1), (3, ai t3.2), (4, ai q6.2), (5, ai t10.2)] [] _
              refine x_iinc C 5 (i := 5) (n := 1) (Nat.le_of_ble_eq_true rfl) rfl (by decide +kernel) (lv2 := fun x15 => [(5, ai x15), (0, ar this), (1, ar p0), (2, ai p1), (3, ai t3.2), (4, ai q6.2)]) (fun _ => rfl) (fun x15 => ?_)
              refine x_goto C (tgt := 39) (off := (-54)) (by decide) (by decide +kernel) ?_
              refine x_sub [1, 2, 3, 4, 5, 0] (lv2 := [(0, ar this), (1, ar p0), (2, ai p1), (3, ai t3.2), (4, ai q6.2), (5, ai x15)]) rfl ?_
              exact hb39_10 (t14, x15)
            · skip
              refine x_if_le C (tgt := 90) (off := 33) (by decide) (by decide +kernel) (fun h23 => ?_) (fun h23 => ?_)
              · skip
                exact hJ90_15 t10.1
              · skip
                refine x_aload_n C 0 (i := 0) (k0 := 0) rfl rfl (by decide +kernel) ?_
                refine x_gR C fl_RX2_32 (fun _ _ _ => rfl) (by decide +kernel) (fun burnt_17 => ?_)
                refine x_iload_n C 3 (i := 3) (k0 := 3) rfl rfl (by decide +kernel) ?_
                refine x_aload_n C 0 (i := 0) (k0 := 0) rfl rfl (by decide +kernel) ?_
                refine x_gR C fl_RX2_32 (fun _ _ _ => rfl) (by decide +kernel) (fun burnt_18 => ?_)
                refine x_iload_n C 3 (i := 3) (k0 := 3) rfl rfl (by decide +kernel) ?_
                refine x_aldI C (by decide +kernel) (fun a19 => ?_)
                refine x_aload_n C 0 (i := 0) (k0 := 0) rfl rfl (by decide +kernel) ?_
                show X z 0 0 t10.1 72 [(0, ar this), (1, ar p0), (2, ai p1), (3, ai t3.2), (4, ai q6.2), (5, ai t10.2)] [ar this, ai a19, ai t3.2, ar burnt_17] _
                refine x_iload_n C 2 (i := 2) (k0 := 2) rfl rfl (by decide +kernel) ?_
                refine x_iconst C (n := 1) (by decide +kernel) ?_
                refine x_iadd C (by decide +kernel) ?_
                refine x_iload_n C 3 (i := 3) (k0 := 3) rfl rfl (by decide +kernel) ?_
                refine x_getW C sw_RX2_83 (by decide +kernel) ?_
                refine x_iload C 5 (i := 5) rfl (by decide +kernel) ?_
                refine x_aldW C (by decide +kernel) (fun w20 => ?_)
                refine x_isub C (by decide +kernel) ?_
                show X z 0 0 t10.1 83 [(0, ar this), (1, ar p0), (2, ai p1), (3, ai t3.2), (4, ai q6.2), (5, ai t10.2)] [ai (t3.2 - w20), ai (p1 + 1), ar this, ai a19, ai t3.2, ar burnt_17] _
                refine x_callVp C (ci := 2) (c_X2_leastAt l D ca ra N t10.1 this (p1 + 1) (t3.2 - w20)) (p_X2_leastAt N t10.1 this (p1 + 1) (t3.2 - w20)) mt_X2_leastAt mv_X2_leastAt rfl ml_RX2_86 rfl (fun h => Bool.noConfusion h) ⟨Nat.le_of_ble_eq_true rfl, Nat.le_of_ble_eq_true rfl⟩ (Nat.le_of_ble_eq_true rfl) 0 0 ⟨rfl, rfl⟩ ⟨Nat.zero_le _, Nat.zero_le _⟩ (by decide +kernel) _ rfl (fun q21 => [ai q21.2, ai a19, ai t3.2, ar burnt_17]) (fun _ => rfl) (fun q21 => ?_)
                refine x_min C mth_min ml_RX2_89 ⟨Nat.le_of_ble_eq_true rfl, Nat.le_of_ble_eq_true rfl⟩ ⟨Nat.zero_le _, Nat.zero_le _⟩ (by decide +kernel) ?_
                refine x_astI C (by decide +kernel) (fun σ22 => ?_)
                exact hJ90_15 σ22

def rm_X2_burntAt : Room := { frames := 1, cells := 0, slots := 0, locals := 22 }
def f_X2_burntAt (N : Nat) (σ : St) (this : Nat) (p0 : Int) : Option (St × Int) :=
 Option.bind (f_X11_within N σ p0 0 255) fun q1 =>
 (if wr q1.2 = 0 then some (σ, 1000) else Option.bind (gR shx σ 2 this 6) fun burnt_2 =>
 Option.bind (aI shx σ 1 burnt_2 p0) fun a3 =>
 some (σ, a3))
set_option maxRecDepth 100000 in
set_option maxHeartbeats 4000000 in
theorem c_X2_burntAt (l : Launch) (D : va_G) (ca : Nat → ClassId) (ra : Nat → Nat) (N : Nat) (σ : St) (this : Nat) (p0 : Int) : Ctr l (D, ca, ra, shx) false yX2_burntAt cX2_burntAt 2 (some .int) rm_X2_burntAt σ [ar this, ai p0] (f_X2_burntAt N σ this p0) := by
  refine ctr_of (by decide) (Nat.le_of_ble_eq_true rfl) (fun z C => ?_)
  show X z 0 0 σ 0 [(0, ar this), (1, ai p0)] [] _
  unfold f_X2_burntAt
  refine x_iload_n C 1 (i := 1) (k0 := 1) rfl rfl (by decide +kernel) ?_
  refine x_iconst C (n := 0) (by decide +kernel) ?_
  refine x_sipush C (n := 255) (by decide +kernel) (by decide +kernel) ?_
  refine x_callSNp C (c_X11_within l D ca ra N σ p0 0 255) (p_X11_within N σ p0 0 255) mt_X11_within ms_X11_within (List.mem_of_getElem? (i := 14) rfl) rfl (fun h => Bool.noConfusion h) ⟨Nat.le_of_ble_eq_true rfl, Nat.le_of_ble_eq_true rfl⟩ (Nat.le_of_ble_eq_true rfl) 0 0 ⟨rfl, rfl⟩ ⟨Nat.zero_le _, Nat.zero_le _⟩ (by decide +kernel) _ rfl (fun q1 => [ai q1.2]) (fun _ => rfl) (fun q1 => ?_)
  refine x_if_eq C (tgt := 20) (off := 12) (by decide) (by decide +kernel) (fun h4 => ?_) (fun h4 => ?_)
  · skip
    refine x_sipush C (n := 1000) (by decide +kernel) (by decide +kernel) ?_
    exact x_iret C ⟨Nat.zero_le _, Nat.zero_le _⟩ (by decide +kernel)
  · skip
    refine x_aload_n C 0 (i := 0) (k0 := 0) rfl rfl (by decide +kernel) ?_
    refine x_gR C fl_RX2_32 (fun _ _ _ => rfl) (by decide +kernel) (fun burnt_2 => ?_)
    refine x_iload_n C 1 (i := 1) (k0 := 1) rfl rfl (by decide +kernel) ?_
    refine x_aldI C (by decide +kernel) (fun a3 => ?_)
    refine x_goto C (tgt := 23) (off := 6) (by decide) (by decide +kernel) ?_
    exact x_iret C ⟨Nat.zero_le _, Nat.zero_le _⟩ (by decide +kernel)
theorem p_X2_burntAt (N : Nat) (σ : St) (this : Nat) (p0 : Int) : Pu σ (f_X2_burntAt N σ this p0) := by
  unfold f_X2_burntAt
  refine pu_bind (fun _ => ?_)
  refine pu_if ?_ ?_
  · skip
    exact pu_some
  · skip
    refine pu_bind (fun _ => ?_)
    refine pu_bind (fun _ => ?_)
    exact pu_some

def rm_X2_canPump : Room := { frames := 0, cells := 0, slots := 0, locals := 0 }
def f_X2_canPump (N : Nat) (σ : St) (this : Nat) (p0 : Nat) (p1 : Int) : Option (St × Int) :=
 Lt (Int.tdiv (wr p1) 9) fun x1 =>
 Lt (Int.tmod (wr (Int.tdiv (wr p1) 3)) 3) fun x2 =>
 Lt (Int.tmod (wr p1) 3) fun x3 =>
 Jn (fun t4 : Int => (if wr t4 = 0 then some (σ, 0) else Option.bind (gR shx σ 2 this 7) fun fuel_5 =>
 Option.bind (aI shx σ 1 fuel_5 x2) fun a6 =>
 (if wr a6 < wr x1 then some (σ, 0) else Option.bind (gR shx σ 2 this 7) fun fuel_7 =>
 Option.bind (aI shx σ 1 fuel_7 x3) fun a8 =>
 Option.bind (gR shx σ 3 p0 17) fun tankHolds_9 =>
 Option.bind (aI shx σ 1 tankHolds_9 x3) fun a10 =>
 (if wr a10 < wr (a8 + x1) then some (σ, 0) else some (σ, 1))))) fun J33_13 =>
 Jn (fun t15 : Unit => J33_13 0) fun J32_15 =>
 (if 0 < wr x1 then (if wr x2 = wr x3 then J32_15 () else J33_13 1) else J32_15 ())
set_option maxRecDepth 100000 in
set_option maxHeartbeats 4000000 in
theorem c_X2_canPump (l : Launch) (D : va_G) (ca : Nat → ClassId) (ra : Nat → Nat) (N : Nat) (σ : St) (this : Nat) (p0 : Nat) (p1 : Int) : Ctr l (D, ca, ra, shx) false yX2_canPump cX2_canPump 7 (some .boolean) rm_X2_canPump σ [ar this, ar p0, ai p1] (f_X2_canPump N σ this p0 p1) := by
  refine ctr_of (by decide) (Nat.le_of_ble_eq_true rfl) (fun z C => ?_)
  show X z 0 0 σ 0 [(0, ar this), (1, ar p0), (2, ai p1)] [] _
  unfold f_X2_canPump
  refine x_iload_n C 2 (i := 2) (k0 := 2) rfl rfl (by decide +kernel) ?_
  refine x_bipush C (n := 9) (by decide +kernel) (by decide +kernel) ?_
  refine x_idivC C (by decide) (by decide) (by decide +kernel) ?_
  refine x_istore_nL C (i := 3) (k0 := 3) rfl (Nat.le_of_ble_eq_true rfl) (by decide +kernel) (lv2 := fun x1 => [(3, ai x1), (0, ar this), (1, ar p0), (2, ai p1)]) (fun _ => rfl) (fun x1 => ?_)
  refine x_iload_n C 3 (i := 2) (k0 := 2) rfl rfl (by decide +kernel) ?_
  refine x_iconst C (n := 3) (by decide +kernel) ?_
  refine x_idivC C (by decide) (by decide) (by decide +kernel) ?_
  refine x_iconst C (n := 3) (by decide +kernel) ?_
  show X z 0 0 σ 9 [(3, ai x1), (0, ar this), (1, ar p0), (2, ai p1)] [ai 3, ai (Int.tdiv (wr p1) 3)] _
  refine x_iremC C (by decide) (by decide) (by decide +kernel) ?_
  refine x_istoreL C (i := 4) (Nat.le_of_ble_eq_true rfl) (by decide +kernel) (lv2 := fun x2 => [(4, ai x2), (3, ai x1), (0, ar this), (1, ar p0), (2, ai p1)]) (fun _ => rfl) (fun x2 => ?_)
  refine x_iload_n C 4 (i := 2) (k0 := 2) rfl rfl (by decide +kernel) ?_
  refine x_iconst C (n := 3) (by decide +kernel) ?_
  refine x_iremC C (by decide) (by decide) (by decide +kernel) ?_
  refine x_istoreL C (i := 5) (Nat.le_of_ble_eq_true rfl) (by decide +kernel) (lv2 := fun x3 => [(5, ai x3), (4, ai x2), (3, ai x1), (0, ar this), (1, ar p0), (2, ai p1)]) (fun _ => rfl) (fun x3 => ?_)
  refine x_iload_n C 2 (i := 3) (k0 := 3) rfl rfl (by decide +kernel) ?_
  refine x_join (T := Int) (fun t => σ) 33 (fun t => [(0, ar this), (1, ar p0), (3, ai x1), (4, ai x2), (5, ai x3)]) (fun t => [ai t]) (fun t4 => ?_) (fun J33_13 hJ33_13 => ?_)
  · show X z 0 0 σ 33 [(0, ar this), (1, ar p0), (3, ai x1), (4, ai x2), (5, ai x3)] [ai t4] _
    refine x_istore C (i := 6) (Nat.le_of_ble_eq_true rfl) (by decide +kernel) (lv2 := [(6, ai t4), (0, ar this), (1, ar p0), (3, ai x1), (4, ai x2), (5, ai x3)]) rfl ?_
    refine x_iload C 0 (i := 6) rfl (by decide +kernel) ?_
    refine x_if_eq C (tgt := 74) (off := 37) (by decide) (by decide +kernel) (fun h13 => ?_) (fun h13 => ?_)
    · skip
      refine x_iconst C (n := 0) (by decide +kernel) ?_
      exact x_zret C (Or.inl rfl) ⟨Nat.zero_le _, Nat.zero_le _⟩ (by decide +kernel)
    · skip
      refine x_aload_n C 1 (i := 0) (k0 := 0) rfl rfl (by decide +kernel) ?_
      refine x_gR C fl_RX2_35 (fun _ _ _ => rfl) (by decide +kernel) (fun fuel_5 => ?_)
      refine x_iload C 4 (i := 4) rfl (by decide +kernel) ?_
      refine x_aldI C (by decide +kernel) (fun a6 => ?_)
      refine x_iload_n C 3 (i := 3) (k0 := 3) rfl rfl (by decide +kernel) ?_
      refine x_ic_lt C (tgt := 74) (off := 26) (by decide) (by decide +kernel) (fun h12 => ?_) (fun h12 => ?_)
      · skip
        refine x_iconst C (n := 0) (by decide +kernel) ?_
        exact x_zret C (Or.inl rfl) ⟨Nat.zero_le _, Nat.zero_le _⟩ (by decide +kernel)
      · skip
        refine x_aload_n C 1 (i := 0) (k0 := 0) rfl rfl (by decide +kernel) ?_
        refine x_gR C fl_RX2_35 (fun _ _ _ => rfl) (by decide +kernel) (fun fuel_7 => ?_)
        refine x_iload C 5 (i := 5) rfl (by decide +kernel) ?_
        refine x_aldI C (by decide +kernel) (fun a8 => ?_)
        refine x_iload_n C 3 (i := 3) (k0 := 3) rfl rfl (by decide +kernel) ?_
        refine x_iadd C (by decide +kernel) ?_
        refine x_aload_n C 2 (i := 1) (k0 := 1) rfl rfl (by decide +kernel) ?_
        refine x_gR C fl_RX2_65 (fun _ _ _ => rfl) (by decide +kernel) (fun tankHolds_9 => ?_)
        show X z 0 0 σ 64 [(6, ai t4), (0, ar this), (1, ar p0), (3, ai x1), (4, ai x2), (5, ai x3)] [ar tankHolds_9, ai (a8 + x1)] _
        refine x_iload C 5 (i := 5) rfl (by decide +kernel) ?_
        refine x_aldI C (by decide +kernel) (fun a10 => ?_)
        refine x_ic_gt C (tgt := 74) (off := 7) (by decide) (by decide +kernel) (fun h11 => ?_) (fun h11 => ?_)
        · skip
          refine x_iconst C (n := 0) (by decide +kernel) ?_
          exact x_zret C (Or.inl rfl) ⟨Nat.zero_le _, Nat.zero_le _⟩ (by decide +kernel)
        · skip
          refine x_iconst C (n := 1) (by decide +kernel) ?_
          refine x_goto C (tgt := 75) (off := 4) (by decide) (by decide +kernel) ?_
          exact x_zret C (Or.inr rfl) ⟨Nat.zero_le _, Nat.zero_le _⟩ (by decide +kernel)
  · skip
    refine x_join (T := Unit) (fun t => σ) 32 (fun t => [(0, ar this), (1, ar p0), (3, ai x1), (4, ai x2), (5, ai x3)]) (fun t => []) (fun t15 => ?_) (fun J32_15 hJ32_15 => ?_)
    · show X z 0 0 σ 32 [(0, ar this), (1, ar p0), (3, ai x1), (4, ai x2), (5, ai x3)] [] _
      refine x_iconst C (n := 0) (by decide +kernel) ?_
      exact hJ33_13 0
    · skip
      refine x_if_le C (tgt := 32) (off := 14) (by decide) (by decide +kernel) (fun h18 => ?_) (fun h18 => ?_)
      · skip
        refine x_sub [3, 4, 2, 1, 0] (lv2 := [(0, ar this), (1, ar p0), (3, ai x1), (4, ai x2), (5, ai x3)]) rfl ?_
        exact hJ32_15 ()
      · skip
        refine x_iload C 1 (i := 4) rfl (by decide +kernel) ?_
        refine x_iload C 0 (i := 5) rfl (by decide +kernel) ?_
        refine x_ic_eq C (tgt := 32) (off := 7) (by decide) (by decide +kernel) (fun h17 => ?_) (fun h17 => ?_)
        · skip
          refine x_sub [3, 4, 2, 1, 0] (lv2 := [(0, ar this), (1, ar p0), (3, ai x1), (4, ai x2), (5, ai x3)]) rfl ?_
          exact hJ32_15 ()
        · skip
          refine x_iconst C (n := 1) (by decide +kernel) ?_
          refine x_goto C (tgt := 33) (off := 4) (by decide) (by decide +kernel) ?_
          refine x_sub [3, 4, 2, 1, 0] (lv2 := [(0, ar this), (1, ar p0), (3, ai x1), (4, ai x2), (5, ai x3)]) rfl ?_
          exact hJ33_13 1
theorem p_X2_canPump (N : Nat) (σ : St) (this : Nat) (p0 : Nat) (p1 : Int) : Pu σ (f_X2_canPump N σ this p0 p1) := by
  unfold f_X2_canPump
  refine pu_Lt (fun _ => ?_)
  refine pu_Lt (fun _ => ?_)
  refine pu_Lt (fun _ => ?_)
  refine pu_Jn (fun _ => ?_) (fun _ hJ33_13 => ?_)
  · skip
    refine pu_if ?_ ?_
    · skip
      exact pu_some
    · skip
      refine pu_bind (fun _ => ?_)
      refine pu_bind (fun _ => ?_)
      refine pu_if ?_ ?_
      · skip
        exact pu_some
      · skip
        refine pu_bind (fun _ => ?_)
        refine pu_bind (fun _ => ?_)
        refine pu_bind (fun _ => ?_)
        refine pu_bind (fun _ => ?_)
        refine pu_if ?_ ?_
        · skip
          exact pu_some
        · skip
          exact pu_some
  · skip
    refine pu_Jn (fun _ => ?_) (fun _ hJ32_15 => ?_)
    · skip
      exact hJ33_13 _
    · skip
      refine pu_ifs ?_ ?_
      · skip
        exact hJ32_15 _
      · skip
        refine pu_if ?_ ?_
        · skip
          exact hJ32_15 _
        · skip
          exact hJ33_13 _

def L_X2_isBalanced_8 (N : Nat) (σ : St) (this : Nat) (p0 : Nat) (J50_8 : (Int × Int → Option (St × Int))) : (Int × Int × Int) → Option (St × Int) := fixN N fun b8_10 t10 =>
 (if wr t10.2.2 < wr 3 then Option.bind (gR shx σ 2 this 7) fun fuel_12 =>
 Option.bind (aI shx σ 1 fuel_12 t10.2.2) fun a13 =>
 Lt (t10.1 + a13) fun x14 =>
 Option.bind (gR shx σ 2 this 7) fun fuel_15 =>
 Option.bind (aI shx σ 1 fuel_15 t10.2.2) fun a16 =>
 Option.bind (gR shx σ 3 p0 16) fun tankAt_17 =>
 Option.bind (aI shx σ 1 tankAt_17 t10.2.2) fun a18 =>
 Lt (t10.2.1 + (a16 * a18)) fun x19 =>
 Lt (t10.2.2 + 1) fun x20 =>
 b8_10 (x14, x19, x20) else J50_8 (t10.1, t10.2.1))
def rm_X2_isBalanced : Room := { frames := 1, cells := 0, slots := 0, locals := 22 }
def f_X2_isBalanced (N : Nat) (σ : St) (this : Nat) (p0 : Nat) (p1 : Int) : Option (St × Int) :=
 Jn (fun t1 : Int × Int => (if wr t1.1 = 0 then some (σ, 1) else Option.bind (gR shx σ 2 this 3) fun from_2 =>
 Option.bind (aI shx σ 1 from_2 p1) fun a3 =>
 Option.bind (gR shx σ 2 this 4) fun to_4 =>
 Option.bind (aI shx σ 1 to_4 p1) fun a5 =>
 Option.bind (f_X11_within N σ t1.2 (a3 * t1.1) (a5 * t1.1)) fun q6 =>
 (if wr q6.2 = 0 then some (σ, 0) else some (σ, 1)))) fun J50_8 =>
 L_X2_isBalanced_8 N σ this p0 J50_8 (0, 0, 0)
set_option maxRecDepth 100000 in
set_option maxHeartbeats 4000000 in
theorem c_X2_isBalanced (l : Launch) (D : va_G) (ca : Nat → ClassId) (ra : Nat → Nat) (N : Nat) (σ : St) (this : Nat) (p0 : Nat) (p1 : Int) : Ctr l (D, ca, ra, shx) false yX2_isBalanced cX2_isBalanced 6 (some .boolean) rm_X2_isBalanced σ [ar this, ar p0, ai p1] (f_X2_isBalanced N σ this p0 p1) := by
  refine ctr_of (by decide) (Nat.le_of_ble_eq_true rfl) (fun z C => ?_)
  show X z 0 0 σ 0 [(0, ar this), (1, ar p0), (2, ai p1)] [] _
  unfold f_X2_isBalanced
  refine x_iconst C (n := 0) (by decide +kernel) ?_
  refine x_istore_n C (i := 3) (k0 := 3) rfl (Nat.le_of_ble_eq_true rfl) (by decide +kernel) (lv2 := [(3, ai 0), (0, ar this), (1, ar p0), (2, ai p1)]) rfl ?_
  refine x_iconst C (n := 0) (by decide +kernel) ?_
  refine x_istore C (i := 4) (Nat.le_of_ble_eq_true rfl) (by decide +kernel) (lv2 := [(4, ai 0), (3, ai 0), (0, ar this), (1, ar p0), (2, ai p1)]) rfl ?_
  refine x_iconst C (n := 0) (by decide +kernel) ?_
  refine x_istore C (i := 5) (Nat.le_of_ble_eq_true rfl) (by decide +kernel) (lv2 := [(5, ai 0), (4, ai 0), (3, ai 0), (0, ar this), (1, ar p0), (2, ai p1)]) rfl ?_
  refine x_join (T := Int × Int) (fun t => σ) 50 (fun t => [(0, ar this), (2, ai p1), (3, ai t.1), (4, ai t.2)]) (fun t => []) (fun t1 => ?_) (fun J50_8 hJ50_8 => ?_)
  · show X z 0 0 σ 50 [(0, ar this), (2, ai p1), (3, ai t1.1), (4, ai t1.2)] [] _
    refine x_iload_n C 2 (i := 3) (k0 := 3) rfl rfl (by decide +kernel) ?_
    refine x_if_eq C (tgt := 78) (off := 27) (by decide) (by decide +kernel) (fun h8 => ?_) (fun h8 => ?_)
    · skip
      refine x_iconst C (n := 1) (by decide +kernel) ?_
      refine x_goto C (tgt := 83) (off := 4) (by decide) (by decide +kernel) ?_
      exact x_zret C (Or.inr rfl) ⟨Nat.zero_le _, Nat.zero_le _⟩ (by decide +kernel)
    · skip
      refine x_iload C 3 (i := 4) rfl (by decide +kernel) ?_
      refine x_aload_n C 0 (i := 0) (k0 := 0) rfl rfl (by decide +kernel) ?_
      refine x_gR C fl_RX2_20 (fun _ _ _ => rfl) (by decide +kernel) (fun from_2 => ?_)
      refine x_iload_n C 1 (i := 2) (k0 := 2) rfl rfl (by decide +kernel) ?_
      refine x_aldI C (by decide +kernel) (fun a3 => ?_)
      refine x_iload_n C 2 (i := 3) (k0 := 3) rfl rfl (by decide +kernel) ?_
      refine x_imul C (by decide +kernel) ?_
      refine x_aload_n C 0 (i := 0) (k0 := 0) rfl rfl (by decide +kernel) ?_
      show X z 0 0 σ 65 [(0, ar this), (2, ai p1), (3, ai t1.1), (4, ai t1.2)] [ar this, ai (a3 * t1.1), ai t1.2] _
      refine x_gR C fl_RX2_24 (fun _ _ _ => rfl) (by decide +kernel) (fun to_4 => ?_)
      refine x_iload_n C 1 (i := 2) (k0 := 2) rfl rfl (by decide +kernel) ?_
      refine x_aldI C (by decide +kernel) (fun a5 => ?_)
      refine x_iload_n C 2 (i := 3) (k0 := 3) rfl rfl (by decide +kernel) ?_
      refine x_imul C (by decide +kernel) ?_
      refine x_callSNp C (c_X11_within l D ca ra N σ t1.2 (a3 * t1.1) (a5 * t1.1)) (p_X11_within N σ t1.2 (a3 * t1.1) (a5 * t1.1)) mt_X11_within ms_X11_within (List.mem_of_getElem? (i := 14) rfl) rfl (fun h => Bool.noConfusion h) ⟨Nat.le_of_ble_eq_true rfl, Nat.le_of_ble_eq_true rfl⟩ (Nat.le_of_ble_eq_true rfl) 0 0 ⟨rfl, rfl⟩ ⟨Nat.zero_le _, Nat.zero_le _⟩ (by decide +kernel) _ rfl (fun q6 => [ai q6.2]) (fun _ => rfl) (fun q6 => ?_)
      refine x_if_eq C (tgt := 82) (off := 7) (by decide) (by decide +kernel) (fun h7 => ?_) (fun h7 => ?_)
      · skip
        refine x_iconst C (n := 0) (by decide +kernel) ?_
        exact x_zret C (Or.inl rfl) ⟨Nat.zero_le _, Nat.zero_le _⟩ (by decide +kernel)
      · skip
        refine x_iconst C (n := 1) (by decide +kernel) ?_
        refine x_goto C (tgt := 83) (off := 4) (by decide) (by decide +kernel) ?_
        exact x_zret C (Or.inr rfl) ⟨Nat.zero_le _, Nat.zero_le _⟩ (by decide +kernel)
  · skip
    refine x_sub [3, 4, 5, 2, 1, 0] (lv2 := [(0, ar this), (1, ar p0), (2, ai p1), (3, ai 0), (4, ai 0), (5, ai 0)]) rfl ?_
    -- LOOP L_X2_isBalanced_8 hb8_10
    refine x_loop (T := Int × Int × Int) (fun t => σ) (fun t => [(0, ar this), (1, ar p0), (2, ai p1), (3, ai t.1), (4, ai t.2.1), (5, ai t.2.2)]) (0, 0, 0) rfl (fun b8_10 hb8_10 t10 => ?_)
    show X z 0 0 σ 8 [(0, ar this), (1, ar p0), (2, ai p1), (3, ai t10.1), (4, ai t10.2.1), (5, ai t10.2.2)] [] _
    refine x_iload C 5 (i := 5) rfl (by decide +kernel) ?_
    refine x_iconst C (n := 3) (by decide +kernel) ?_
    refine x_ic_ge C (tgt := 50) (off := 39) (by decide) (by decide +kernel) (fun h21 => ?_) (fun h21 => ?_)
    · skip
      refine x_sub [0, 2, 3, 4] (lv2 := [(0, ar this), (2, ai p1), (3, ai t10.1), (4, ai t10.2.1)]) rfl ?_
      exact hJ50_8 (t10.1, t10.2.1)
    · skip
      refine x_iload_n C 3 (i := 3) (k0 := 3) rfl rfl (by decide +kernel) ?_
      refine x_aload_n C 0 (i := 0) (k0 := 0) rfl rfl (by decide +kernel) ?_
      refine x_gR C fl_RX2_35 (fun _ _ _ => rfl) (by decide +kernel) (fun fuel_12 => ?_)
      refine x_iload C 5 (i := 5) rfl (by decide +kernel) ?_
      refine x_aldI C (by decide +kernel) (fun a13 => ?_)
      refine x_iadd C (by decide +kernel) ?_
      refine x_istore_nL C (i := 3) (k0 := 3) rfl (Nat.le_of_ble_eq_true rfl) (by decide +kernel) (lv2 := fun x14 => [(3, ai x14), (0, ar this), (1, ar p0), (2, ai p1), (4, ai t10.2.1), (5, ai t10.2.2)]) (fun _ => rfl) (fun x14 => ?_)
      refine x_iload C 4 (i := 4) rfl (by decide +kernel) ?_
      show X z 0 0 σ 26 [(3, ai x14), (0, ar this), (1, ar p0), (2, ai p1), (4, ai t10.2.1), (5, ai t10.2.2)] [ai t10.2.1] _
      refine x_aload_n C 1 (i := 0) (k0 := 0) rfl rfl (by decide +kernel) ?_
      refine x_gR C fl_RX2_35 (fun _ _ _ => rfl) (by decide +kernel) (fun fuel_15 => ?_)
      refine x_iload C 5 (i := 5) rfl (by decide +kernel) ?_
      refine x_aldI C (by decide +kernel) (fun a16 => ?_)
      refine x_aload_n C 2 (i := 1) (k0 := 1) rfl rfl (by decide +kernel) ?_
      refine x_gR C fl_RX2_115 (fun _ _ _ => rfl) (by decide +kernel) (fun tankAt_17 => ?_)
      refine x_iload C 5 (i := 5) rfl (by decide +kernel) ?_
      refine x_aldI C (by decide +kernel) (fun a18 => ?_)
      show X z 0 0 σ 40 [(3, ai x14), (0, ar this), (1, ar p0), (2, ai p1), (4, ai t10.2.1), (5, ai t10.2.2)] [ai a18, ai a16, ai t10.2.1] _
      refine x_imul C (by decide +kernel) ?_
      refine x_iadd C (by decide +kernel) ?_
      refine x_istoreL C (i := 4) (Nat.le_of_ble_eq_true rfl) (by decide +kernel) (lv2 := fun x19 => [(4, ai x19), (3, ai x14), (0, ar this), (1, ar p0), (2, ai p1), (5, ai t10.2.2)]) (fun _ => rfl) (fun x19 => ?_)
      refine x_iinc C 5 (i := 5) (n := 1) (Nat.le_of_ble_eq_true rfl) rfl (by decide +kernel) (lv2 := fun x20 => [(5, ai x20), (4, ai x19), (3, ai x14), (0, ar this), (1, ar p0), (2, ai p1)]) (fun _ => rfl) (fun x20 => ?_)
      refine x_goto C (tgt := 8) (off := (-39)) (by decide) (by decide +kernel) ?_
      refine x_sub [3, 4, 5, 2, 1, 0] (lv2 := [(0, ar this), (1, ar p0), (2, ai p1), (3, ai x14), (4, ai x19), (5, ai x20)]) rfl ?_
      exact hb8_10 (x14, x19, x20)
theorem p_X2_isBalanced (N : Nat) (σ : St) (this : Nat) (p0 : Nat) (p1 : Int) : Pu σ (f_X2_isBalanced N σ this p0 p1) := by
  unfold f_X2_isBalanced
  refine pu_Jn (fun _ => ?_) (fun _ hJ50_8 => ?_)
  · skip
    refine pu_if ?_ ?_
    · skip
      exact pu_some
    · skip
      refine pu_bind (fun _ => ?_)
      refine pu_bind (fun _ => ?_)
      refine pu_bind (fun _ => ?_)
      refine pu_bind (fun _ => ?_)
      refine pu_bind (fun _ => ?_)
      refine pu_if ?_ ?_
      · skip
        exact pu_some
      · skip
        exact pu_some
  · skip
    unfold L_X2_isBalanced_8
    refine pu_fix (fun _ hb8_10 _ => ?_) _
    refine pu_ifs ?_ ?_
    · skip
      exact hJ50_8 _
    · skip
      refine pu_bind (fun _ => ?_)
      refine pu_bind (fun _ => ?_)
      refine pu_Lt (fun _ => ?_)
      refine pu_bind (fun _ => ?_)
      refine pu_bind (fun _ => ?_)
      refine pu_bind (fun _ => ?_)
      refine pu_bind (fun _ => ?_)
      refine pu_Lt (fun _ => ?_)
      refine pu_Lt (fun _ => ?_)
      exact hb8_10 _

def rm_X2_pumpedState : Room := { frames := 0, cells := 0, slots := 0, locals := 0 }
def f_X2_pumpedState (N : Nat) (σ : St) (p0 : Int) (p1 : Int) : Option (St × Int) :=
 Lt (Int.tdiv (wr p1) 9) fun x1 =>
 Option.bind (wtZ (Int.tmod (wr (Int.tdiv (wr p1) 3)) 3)) fun w2 =>
 Option.bind (wtZ (Int.tmod (wr p1) 3)) fun w3 =>
 some (σ, ((p0 - (x1 * w2)) + (x1 * w3)))
set_option maxRecDepth 100000 in
set_option maxHeartbeats 4000000 in
theorem c_X2_pumpedState (l : Launch) (D : va_G) (ca : Nat → ClassId) (ra : Nat → Nat) (N : Nat) (σ : St) (p0 : Int) (p1 : Int) : Ctr l (D, ca, ra, shx) false yX2_pumpedState cX2_pumpedState 3 (some .int) rm_X2_pumpedState σ [ai p0, ai p1] (f_X2_pumpedState N σ p0 p1) := by
  refine ctr_of (by decide) (Nat.le_of_ble_eq_true rfl) (fun z C => ?_)
  show X z 0 0 σ 0 [(0, ai p0), (1, ai p1)] [] _
  unfold f_X2_pumpedState
  refine x_iload_n C 1 (i := 1) (k0 := 1) rfl rfl (by decide +kernel) ?_
  refine x_bipush C (n := 9) (by decide +kernel) (by decide +kernel) ?_
  refine x_idivC C (by decide) (by decide) (by decide +kernel) ?_
  refine x_istore_nL C (i := 2) (k0 := 2) rfl (Nat.le_of_ble_eq_true rfl) (by decide +kernel) (lv2 := fun x1 => [(2, ai x1), (0, ai p0), (1, ai p1)]) (fun _ => rfl) (fun x1 => ?_)
  refine x_iload_n C 1 (i := 0) (k0 := 0) rfl rfl (by decide +kernel) ?_
  refine x_iload_n C 0 (i := 2) (k0 := 2) rfl rfl (by decide +kernel) ?_
  refine x_getW C sw_RX2_83 (by decide +kernel) ?_
  refine x_iload_n C 2 (i := 1) (k0 := 1) rfl rfl (by decide +kernel) ?_
  show X z 0 0 σ 11 [(2, ai x1), (0, ai p0), (1, ai p1)] [ai p1, ao 20, ai x1, ai p0] _
  refine x_iconst C (n := 3) (by decide +kernel) ?_
  refine x_idivC C (by decide) (by decide) (by decide +kernel) ?_
  refine x_iconst C (n := 3) (by decide +kernel) ?_
  refine x_iremC C (by decide) (by decide) (by decide +kernel) ?_
  refine x_aldW C (by decide +kernel) (fun w2 => ?_)
  refine x_imul C (by decide +kernel) ?_
  refine x_isub C (by decide +kernel) ?_
  refine x_iload_n C 0 (i := 2) (k0 := 2) rfl rfl (by decide +kernel) ?_
  show X z 0 0 σ 19 [(2, ai x1), (0, ai p0), (1, ai p1)] [ai x1, ai (p0 - (x1 * w2))] _
  refine x_getW C sw_RX2_83 (by decide +kernel) ?_
  refine x_iload_n C 2 (i := 1) (k0 := 1) rfl rfl (by decide +kernel) ?_
  refine x_iconst C (n := 3) (by decide +kernel) ?_
  refine x_iremC C (by decide) (by decide) (by decide +kernel) ?_
  refine x_aldW C (by decide +kernel) (fun w3 => ?_)
  refine x_imul C (by decide +kernel) ?_
  refine x_iadd C (by decide +kernel) ?_
  exact x_iret C ⟨Nat.zero_le _, Nat.zero_le _⟩ (by decide +kernel)
theorem p_X2_pumpedState (N : Nat) (σ : St) (p0 : Int) (p1 : Int) : Pu σ (f_X2_pumpedState N σ p0 p1) := by
  unfold f_X2_pumpedState
  refine pu_Lt (fun _ => ?_)
  refine pu_bind (fun _ => ?_)
  refine pu_bind (fun _ => ?_)
  exact pu_some

def L_X2_leastFrom_51 (N : Nat) (this : Nat) (p0 : Nat) (p2 : Int) (q1 : (St × Int)) : (Int × Int) → Option (St × Int) := fixN N fun b51_6 t6 =>
 Option.bind (gI shx q1.1 2 this 1) fun pump_8 =>
 (if wr t6.2 < wr (9 * (mnZ (pump_8 + 1) t6.1)) then Option.bind (rcv shx q1.1 2 this (f_X2_canPump N q1.1 this p0 t6.2)) fun q9 =>
 Jn (fun t10 : Int => Lt (t6.2 + 1) fun x11 =>
 b51_6 (t10, x11)) fun J103_11 =>
 (if wr q9.2 = 0 then J103_11 t6.1 else Option.bind (f_X2_pumpedState N q1.1 p2 t6.2) fun q13 =>
 Option.bind (rcv shx q1.1 2 this (f_X2_burntAt N q1.1 this q13.2)) fun q14 =>
 Lt (mnZ t6.1 ((Int.tdiv (wr t6.2) 9) + q14.2)) fun x15 =>
 J103_11 x15) else some (q1.1, t6.1))
def rm_X2_leastFrom : Room := { frames := 2, cells := 0, slots := 0, locals := 48 }
def f_X2_leastFrom (N : Nat) (σ : St) (this : Nat) (p0 : Nat) (p1 : Int) (p2 : Int) : Option (St × Int) :=
 Option.bind (rcv shx σ 2 this (f_X2_fill N σ this p0 p1 p2)) fun q1 =>
 (if wr q1.2 = 0 then some (q1.1, 1000) else Jn (fun t2 : Unit => Option.bind (gI shx q1.1 2 this 0) fun steps_3 =>
 (if wr p1 = wr steps_3 then some (q1.1, 0) else Option.bind (gR shx q1.1 2 this 6) fun burnt_4 =>
 Option.bind (aI shx q1.1 1 burnt_4 p2) fun a5 =>
 L_X2_leastFrom_51 N this p0 p2 q1 (a5, 9))) fun J29_18 =>
 (if 0 < wr p1 then Option.bind (rcv shx q1.1 2 this (f_X2_isBalanced N q1.1 this p0 (p1 - 1))) fun q20 =>
 (if wr q20.2 = 0 then some (q1.1, 1000) else J29_18 ()) else J29_18 ()))
set_option maxRecDepth 100000 in
set_option maxHeartbeats 4000000 in
theorem c_X2_leastFrom (l : Launch) (D : va_G) (ca : Nat → ClassId) (ra : Nat → Nat) (N : Nat) (σ : St) (this : Nat) (p0 : Nat) (p1 : Int) (p2 : Int) : Ctr l (D, ca, ra, shx) false yX2_leastFrom cX2_leastFrom 6 (some .int) rm_X2_leastFrom σ [ar this, ar p0, ai p1, ai p2] (f_X2_leastFrom N σ this p0 p1 p2) := by
  refine ctr_of (by decide) (Nat.le_of_ble_eq_true rfl) (fun z C => ?_)
  show X z 0 0 σ 0 [(0, ar this), (1, ar p0), (2, ai p1), (3, ai p2)] [] _
  unfold f_X2_leastFrom
  refine x_aload_n C 0 (i := 0) (k0 := 0) rfl rfl (by decide +kernel) ?_
  refine x_aload_n C 1 (i := 1) (k0 := 1) rfl rfl (by decide +kernel) ?_
  refine x_iload_n C 2 (i := 2) (k0 := 2) rfl rfl (by decide +kernel) ?_
  refine x_iload_n C 3 (i := 3) (k0 := 3) rfl rfl (by decide +kernel) ?_
  refine x_callV C (ci := 2) (c_X2_fill l D ca ra N σ this p0 p1 p2) mt_X2_fill mv_X2_fill rfl ml_RX2_80 rfl (fun h => Bool.noConfusion h) ⟨Nat.le_of_ble_eq_true rfl, Nat.le_of_ble_eq_true rfl⟩ (Nat.le_of_ble_eq_true rfl) 0 0 ⟨rfl, rfl⟩ ⟨Nat.zero_le _, Nat.zero_le _⟩ (by decide +kernel) _ rfl (fun q1 => [ai q1.2]) (fun _ => rfl) (fun q1 => ?_)
  refine x_if_eq C (tgt := 25) (off := 18) (by decide) (by decide +kernel) (fun h23 => ?_) (fun h23 => ?_)
  · skip
    refine x_sipush C (n := 1000) (by decide +kernel) (by decide +kernel) ?_
    exact x_iret C ⟨Nat.zero_le _, Nat.zero_le _⟩ (by decide +kernel)
  · skip
    refine x_iload_n C 2 (i := 2) (k0 := 2) rfl rfl (by decide +kernel) ?_
    refine x_join (T := Unit) (fun t => q1.1) 29 (fun t => [(0, ar this), (1, ar p0), (2, ai p1), (3, ai p2)]) (fun t => []) (fun t2 => ?_) (fun J29_18 hJ29_18 => ?_)
    · show X z 0 0 q1.1 29 [(0, ar this), (1, ar p0), (2, ai p1), (3, ai p2)] [] _
      refine x_iload_n C 2 (i := 2) (k0 := 2) rfl rfl (by decide +kernel) ?_
      refine x_aload_n C 0 (i := 0) (k0 := 0) rfl rfl (by decide +kernel) ?_
      refine x_gI C fl_RX2_42 (fun _ _ _ => rfl) (by decide +kernel) (fun steps_3 => ?_)
      refine x_ic_ne C (tgt := 39) (off := 5) (by decide) (by decide +kernel) (fun h18 => ?_) (fun h18 => ?_)
      · skip
        refine x_aload_n C 0 (i := 0) (k0 := 0) rfl rfl (by decide +kernel) ?_
        refine x_gR C fl_RX2_32 (fun _ _ _ => rfl) (by decide +kernel) (fun burnt_4 => ?_)
        refine x_iload_n C 3 (i := 3) (k0 := 3) rfl rfl (by decide +kernel) ?_
        refine x_aldI C (by decide +kernel) (fun a5 => ?_)
        refine x_istore C (i := 4) (Nat.le_of_ble_eq_true rfl) (by decide +kernel) (lv2 := [(4, ai a5), (0, ar this), (1, ar p0), (2, ai p1), (3, ai p2)]) rfl ?_
        refine x_bipush C (n := 9) (by decide +kernel) (by decide +kernel) ?_
        refine x_istore C (i := 5) (Nat.le_of_ble_eq_true rfl) (by decide +kernel) (lv2 := [(5, ai 9), (4, ai a5), (0, ar this), (1, ar p0), (2, ai p1), (3, ai p2)]) rfl ?_
        refine x_sub [2, 3, 5, 1, 0] (lv2 := [(0, ar this), (1, ar p0), (3, ai p2), (4, ai a5), (5, ai 9)]) rfl ?_
        -- LOOP L_X2_leastFrom_51 hb51_6
        refine x_loop (T := Int × Int) (fun t => q1.1) (fun t => [(0, ar this), (1, ar p0), (3, ai p2), (4, ai t.1), (5, ai t.2)]) (a5, 9) rfl (fun b51_6 hb51_6 t6 => ?_)
        show X z 0 0 q1.1 51 [(0, ar this), (1, ar p0), (3, ai p2), (4, ai t6.1), (5, ai t6.2)] [] _
        refine x_iload C 4 (i := 5) rfl (by decide +kernel) ?_
        refine x_bipush C (n := 9) (by decide +kernel) (by decide +kernel) ?_
        refine x_aload_n C 0 (i := 0) (k0 := 0) rfl rfl (by decide +kernel) ?_
        refine x_gI C fl_RX2_13 (fun _ _ _ => rfl) (by decide +kernel) (fun pump_8 => ?_)
        refine x_iconst C (n := 1) (by decide +kernel) ?_
        refine x_iadd C (by decide +kernel) ?_
        refine x_iload C 3 (i := 4) rfl (by decide +kernel) ?_
        refine x_min C mth_min ml_RX2_89 ⟨Nat.le_of_ble_eq_true rfl, Nat.le_of_ble_eq_true rfl⟩ ⟨Nat.zero_le _, Nat.zero_le _⟩ (by decide +kernel) ?_
        show X z 0 0 q1.1 66 [(0, ar this), (1, ar p0), (3, ai p2), (4, ai t6.1), (5, ai t6.2)] [ai (mnZ (pump_8 + 1) t6.1), ai 9, ai t6.2] _
        refine x_imul C (by decide +kernel) ?_
        refine x_ic_ge C (tgt := 109) (off := 42) (by decide) (by decide +kernel) (fun h17 => ?_) (fun h17 => ?_)
        · skip
          refine x_iload C 3 (i := 4) rfl (by decide +kernel) ?_
          exact x_iret C ⟨Nat.zero_le _, Nat.zero_le _⟩ (by decide +kernel)
        · skip
          refine x_aload_n C 0 (i := 0) (k0 := 0) rfl rfl (by decide +kernel) ?_
          refine x_aload_n C 1 (i := 1) (k0 := 1) rfl rfl (by decide +kernel) ?_
          refine x_iload C 4 (i := 5) rfl (by decide +kernel) ?_
          refine x_callVp C (ci := 2) (c_X2_canPump l D ca ra N q1.1 this p0 t6.2) (p_X2_canPump N q1.1 this p0 t6.2) mt_X2_canPump mv_X2_canPump rfl ml_RX2_98 rfl (fun h => Bool.noConfusion h) ⟨Nat.le_of_ble_eq_true rfl, Nat.le_of_ble_eq_true rfl⟩ (Nat.le_of_ble_eq_true rfl) 0 0 ⟨rfl, rfl⟩ ⟨Nat.zero_le _, Nat.zero_le _⟩ (by decide +kernel) _ rfl (fun q9 => [ai q9.2]) (fun _ => rfl) (fun q9 => ?_)
          refine x_join (T := Int) (fun t => q1.1) 103 (fun t => [(0, ar this), (1, ar p0), (3, ai p2), (4, ai t), (5, ai t6.2)]) (fun t => []) (fun t10 => ?_) (fun J103_11 hJ103_11 => ?_)
          · show X z 0 0 q1.1 103 [(0, ar this), (1, ar p0), (3, ai p2), (4, ai t10), (5, ai t6.2)] [] _
            refine x_iinc C 4 (i := 5) (n := 1) (Nat.le_of_ble_eq_true rfl) rfl (by decide +kernel) (lv2 := fun x11 => [(5, ai x11), (0, ar this), (1, ar p0), (3, ai p2), (4, ai t10)]) (fun _ => rfl) (fun x11 => ?_)
            refine x_goto C (tgt := 51) (off := (-55)) (by decide) (by decide +kernel) ?_
            refine x_sub [1, 2, 3, 4, 0] (lv2 := [(0, ar this), (1, ar p0), (3, ai p2), (4, ai t10), (5, ai x11)]) rfl ?_
            exact hb51_6 (t10, x11)
          · skip
            refine x_if_eq C (tgt := 103) (off := 26) (by decide) (by decide +kernel) (fun h16 => ?_) (fun h16 => ?_)
            · skip
              exact hJ103_11 t6.1
            · skip
              refine x_iload C 3 (i := 4) rfl (by decide +kernel) ?_
              refine x_iload C 4 (i := 5) rfl (by decide +kernel) ?_
              refine x_bipush C (n := 9) (by decide +kernel) (by decide +kernel) ?_
              refine x_idivC C (by decide) (by decide) (by decide +kernel) ?_
              refine x_aload_n C 0 (i := 0) (k0 := 0) rfl rfl (by decide +kernel) ?_
              refine x_iload_n C 2 (i := 3) (k0 := 3) rfl rfl (by decide +kernel) ?_
              refine x_iload C 4 (i := 5) rfl (by decide +kernel) ?_
              refine x_callSp C (c_X2_pumpedState l D ca ra N q1.1 p2 t6.2) (p_X2_pumpedState N q1.1 p2 t6.2) mt_X2_pumpedState ms_X2_pumpedState ml_RX2_101 rfl (fun h => Bool.noConfusion h) ⟨Nat.le_of_ble_eq_true rfl, Nat.le_of_ble_eq_true rfl⟩ (Nat.le_of_ble_eq_true rfl) 0 0 ⟨rfl, rfl⟩ ⟨Nat.zero_le _, Nat.zero_le _⟩ (by decide +kernel) _ rfl (fun q13 => [ai q13.2, ar this, ai (Int.tdiv (wr t6.2) 9), ai t6.1]) (fun _ => rfl) (fun q13 => ?_)
              show X z 0 0 q1.1 94 [(0, ar this), (1, ar p0), (3, ai p2), (4, ai t6.1), (5, ai t6.2)] [ai q13.2, ar this, ai (Int.tdiv (wr t6.2) 9), ai t6.1] _
              refine x_callVp C (ci := 2) (c_X2_burntAt l D ca ra N q1.1 this q13.2) (p_X2_burntAt N q1.1 this q13.2) mt_X2_burntAt mv_X2_burntAt rfl ml_RX2_104 rfl (fun h => Bool.noConfusion h) ⟨Nat.le_of_ble_eq_true rfl, Nat.le_of_ble_eq_true rfl⟩ (Nat.le_of_ble_eq_true rfl) 0 0 ⟨rfl, rfl⟩ ⟨Nat.zero_le _, Nat.zero_le _⟩ (by decide +kernel) _ rfl (fun q14 => [ai q14.2, ai (Int.tdiv (wr t6.2) 9), ai t6.1]) (fun _ => rfl) (fun q14 => ?_)
              refine x_iadd C (by decide +kernel) ?_
              refine x_min C mth_min ml_RX2_89 ⟨Nat.le_of_ble_eq_true rfl, Nat.le_of_ble_eq_true rfl⟩ ⟨Nat.zero_le _, Nat.zero_le _⟩ (by decide +kernel) ?_
              refine x_istoreL C (i := 4) (Nat.le_of_ble_eq_true rfl) (by decide +kernel) (lv2 := fun x15 => [(4, ai x15), (0, ar this), (1, ar p0), (3, ai p2), (5, ai t6.2)]) (fun _ => rfl) (fun x15 => ?_)
              refine x_sub [1, 2, 3, 0, 4] (lv2 := [(0, ar this), (1, ar p0), (3, ai p2), (4, ai x15), (5, ai t6.2)]) rfl ?_
              exact hJ103_11 x15
      · skip
        refine x_iconst C (n := 0) (by decide +kernel) ?_
        exact x_iret C ⟨Nat.zero_le _, Nat.zero_le _⟩ (by decide +kernel)
    · skip
      refine x_if_le C (tgt := 29) (off := 18) (by decide) (by decide +kernel) (fun h22 => ?_) (fun h22 => ?_)
      · skip
        exact hJ29_18 ()
      · skip
        refine x_aload_n C 0 (i := 0) (k0 := 0) rfl rfl (by decide +kernel) ?_
        refine x_aload_n C 1 (i := 1) (k0 := 1) rfl rfl (by decide +kernel) ?_
        refine x_iload_n C 2 (i := 2) (k0 := 2) rfl rfl (by decide +kernel) ?_
        refine x_iconst C (n := 1) (by decide +kernel) ?_
        refine x_isub C (by decide +kernel) ?_
        refine x_callVp C (ci := 2) (c_X2_isBalanced l D ca ra N q1.1 this p0 (p1 - 1)) (p_X2_isBalanced N q1.1 this p0 (p1 - 1)) mt_X2_isBalanced mv_X2_isBalanced rfl ml_RX2_94 rfl (fun h => Bool.noConfusion h) ⟨Nat.le_of_ble_eq_true rfl, Nat.le_of_ble_eq_true rfl⟩ (Nat.le_of_ble_eq_true rfl) 0 0 ⟨rfl, rfl⟩ ⟨Nat.zero_le _, Nat.zero_le _⟩ (by decide +kernel) _ rfl (fun q20 => [ai q20.2]) (fun _ => rfl) (fun q20 => ?_)
        refine x_if_ne C (tgt := 29) (off := 7) (by decide) (by decide +kernel) (fun h21 => ?_) (fun h21 => ?_)
        · skip
          exact hJ29_18 ()
        · skip
          refine x_sipush C (n := 1000) (by decide +kernel) (by decide +kernel) ?_
          exact x_iret C ⟨Nat.zero_le _, Nat.zero_le _⟩ (by decide +kernel)

def L_X2_prepare_32 (N : Nat) (this : Nat) (p0 : Nat) (t4 : St × Int) (J63_8 : (St → Option (St × Int))) : (St × Int) → Option (St × Int) := fixN N fun b32_10 t10 =>
 (if wr t10.2 < wr 256 then Option.bind (gR shx t10.1 2 this 5) fun least_12 =>
 Option.bind (aR shx t10.1 6 least_12 t4.2) fun r13 =>
 Option.bind (rcv shx t10.1 2 this (f_X2_leastFrom N t10.1 this p0 t4.2 t10.2)) fun q14 =>
 Option.bind (sI shx q14.1 1 r13 t10.2 q14.2) fun σ15 =>
 Lt (t10.2 + 1) fun x16 =>
 b32_10 (σ15, x16) else J63_8 t10.1)
def L_X2_prepare_19 (N : Nat) (this : Nat) (p0 : Nat) : (St × Int) → Option (St × Int) := fixN N fun b19_4 t4 =>
 (if wr t4.2 < 0 then some (t4.1, 0) else Option.bind (rcv shx t4.1 2 this (f_X2_findBurnt N t4.1 this p0 t4.2)) fun q6 =>
 Jn (fun t7 : St => Lt (t4.2 + (-1)) fun x8 =>
 b19_4 (t7, x8)) fun J63_8 =>
 L_X2_prepare_32 N this p0 t4 J63_8 (q6.1, 0))
def rm_X2_prepare : Room := { frames := 3, cells := 0, slots := 0, locals := 73 }
def f_X2_prepare (N : Nat) (σ : St) (this : Nat) (p0 : Nat) (p1 : Int) : Option (St × Int) :=
 Option.bind (gI shx σ 2 this 2) fun planned_1 =>
 (if wr planned_1 = wr p1 then some (σ, 0) else Option.bind (pI shx σ 2 this 2 p1) fun σ2 =>
 Option.bind (gI shx σ2 2 this 0) fun steps_3 =>
 L_X2_prepare_19 N this p0 (σ2, steps_3))
set_option maxRecDepth 100000 in
set_option maxHeartbeats 4000000 in
theorem c_X2_prepare (l : Launch) (D : va_G) (ca : Nat → ClassId) (ra : Nat → Nat) (N : Nat) (σ : St) (this : Nat) (p0 : Nat) (p1 : Int) : Ctr l (D, ca, ra, shx) false yX2_prepare cX2_prepare 5 none rm_X2_prepare σ [ar this, ar p0, ai p1] (f_X2_prepare N σ this p0 p1) := by
  refine ctr_of (by decide) (Nat.le_of_ble_eq_true rfl) (fun z C => ?_)
  show X z 0 0 σ 0 [(0, ar this), (1, ar p0), (2, ai p1)] [] _
  unfold f_X2_prepare
  refine x_aload_n C 0 (i := 0) (k0 := 0) rfl rfl (by decide +kernel) ?_
  refine x_gI C fl_RX2_17 (fun _ _ _ => rfl) (by decide +kernel) (fun planned_1 => ?_)
  refine x_iload_n C 2 (i := 2) (k0 := 2) rfl rfl (by decide +kernel) ?_
  refine x_ic_ne C (tgt := 9) (off := 4) (by decide) (by decide +kernel) (fun h19 => ?_) (fun h19 => ?_)
  · skip
    refine x_aload_n C 0 (i := 0) (k0 := 0) rfl rfl (by decide +kernel) ?_
    refine x_iload_n C 2 (i := 2) (k0 := 2) rfl rfl (by decide +kernel) ?_
    refine x_pI C fl_RX2_17 rfl (fun q h => by cases h; rfl) (by decide +kernel) (fun σ2 => ?_)
    refine x_aload_n C 0 (i := 0) (k0 := 0) rfl rfl (by decide +kernel) ?_
    refine x_gI C fl_RX2_42 (fun _ _ _ => rfl) (by decide +kernel) (fun steps_3 => ?_)
    refine x_istore_n C (i := 3) (k0 := 3) rfl (Nat.le_of_ble_eq_true rfl) (by decide +kernel) (lv2 := [(3, ai steps_3), (0, ar this), (1, ar p0), (2, ai p1)]) rfl ?_
    refine x_sub [1, 2, 0] (lv2 := [(0, ar this), (1, ar p0), (3, ai steps_3)]) rfl ?_
    -- LOOP L_X2_prepare_19 hb19_4
    refine x_loop (T := St × Int) (fun t => t.1) (fun t => [(0, ar this), (1, ar p0), (3, ai t.2)]) (σ2, steps_3) rfl (fun b19_4 hb19_4 t4 => ?_)
    show X z 0 0 t4.1 19 [(0, ar this), (1, ar p0), (3, ai t4.2)] [] _
    refine x_iload_n C 2 (i := 3) (k0 := 3) rfl rfl (by decide +kernel) ?_
    refine x_if_lt C (tgt := 69) (off := 49) (by decide) (by decide +kernel) (fun h18 => ?_) (fun h18 => ?_)
    · skip
      exact x_vret C ⟨Nat.zero_le _, Nat.zero_le _⟩ (by decide +kernel)
    · skip
      refine x_aload_n C 0 (i := 0) (k0 := 0) rfl rfl (by decide +kernel) ?_
      refine x_aload_n C 1 (i := 1) (k0 := 1) rfl rfl (by decide +kernel) ?_
      refine x_iload_n C 2 (i := 3) (k0 := 3) rfl rfl (by decide +kernel) ?_
      refine x_callV C (ci := 2) (c_X2_findBurnt l D ca ra N t4.1 this p0 t4.2) mt_X2_findBurnt mv_X2_findBurnt rfl ml_RX2_68 rfl (fun h => Bool.noConfusion h) ⟨Nat.le_of_ble_eq_true rfl, Nat.le_of_ble_eq_true rfl⟩ (Nat.le_of_ble_eq_true rfl) 0 0 ⟨rfl, rfl⟩ ⟨Nat.zero_le _, Nat.zero_le _⟩ (by decide +kernel) _ rfl (fun q6 => []) (fun _ => rfl) (fun q6 => ?_)
      refine x_iconst C (n := 0) (by decide +kernel) ?_
      refine x_istore C (i := 4) (Nat.le_of_ble_eq_true rfl) (by decide +kernel) (lv2 := [(4, ai 0), (0, ar this), (1, ar p0), (3, ai t4.2)]) rfl ?_
      refine x_join (T := St) (fun t => t) 63 (fun t => [(0, ar this), (1, ar p0), (3, ai t4.2)]) (fun t => []) (fun t7 => ?_) (fun J63_8 hJ63_8 => ?_)
      · show X z 0 0 t7 63 [(0, ar this), (1, ar p0), (3, ai t4.2)] [] _
        refine x_iinc C 2 (i := 3) (n := (-1)) (Nat.le_of_ble_eq_true rfl) rfl (by decide +kernel) (lv2 := fun x8 => [(3, ai x8), (0, ar this), (1, ar p0)]) (fun _ => rfl) (fun x8 => ?_)
        refine x_goto C (tgt := 19) (off := (-47)) (by decide) (by decide +kernel) ?_
        refine x_sub [1, 2, 0] (lv2 := [(0, ar this), (1, ar p0), (3, ai x8)]) rfl ?_
        exact hb19_4 (t7, x8)
      · skip
        refine x_sub [1, 2, 3, 0] (lv2 := [(0, ar this), (1, ar p0), (3, ai t4.2), (4, ai 0)]) rfl ?_
        -- LOOP L_X2_prepare_32 hb32_10
        refine x_loop (T := St × Int) (fun t => t.1) (fun t => [(0, ar this), (1, ar p0), (3, ai t4.2), (4, ai t.2)]) (q6.1, 0) rfl (fun b32_10 hb32_10 t10 => ?_)
        show X z 0 0 t10.1 32 [(0, ar this), (1, ar p0), (3, ai t4.2), (4, ai t10.2)] [] _
        refine x_iload C 3 (i := 4) rfl (by decide +kernel) ?_
        refine x_sipush C (n := 256) (by decide +kernel) (by decide +kernel) ?_
        refine x_ic_ge C (tgt := 63) (off := 26) (by decide) (by decide +kernel) (fun h17 => ?_) (fun h17 => ?_)
        · skip
          refine x_sub [0, 1, 2] (lv2 := [(0, ar this), (1, ar p0), (3, ai t4.2)]) rfl ?_
          exact hJ63_8 t10.1
        · skip
          refine x_aload_n C 0 (i := 0) (k0 := 0) rfl rfl (by decide +kernel) ?_
          refine x_gR C fl_RX2_29 (fun _ _ _ => rfl) (by decide +kernel) (fun least_12 => ?_)
          refine x_iload_n C 2 (i := 3) (k0 := 3) rfl rfl (by decide +kernel) ?_
          refine x_aldR6 C (by decide +kernel) (fun r13 => ?_)
          refine x_iload C 3 (i := 4) rfl (by decide +kernel) ?_
          refine x_aload_n C 0 (i := 0) (k0 := 0) rfl rfl (by decide +kernel) ?_
          refine x_aload_n C 1 (i := 1) (k0 := 1) rfl rfl (by decide +kernel) ?_
          refine x_iload_n C 2 (i := 3) (k0 := 3) rfl rfl (by decide +kernel) ?_
          show X z 0 0 t10.1 51 [(0, ar this), (1, ar p0), (3, ai t4.2), (4, ai t10.2)] [ai t4.2, ar p0, ar this, ai t10.2, ar r13] _
          refine x_iload C 3 (i := 4) rfl (by decide +kernel) ?_
          refine x_callV C (ci := 2) (c_X2_leastFrom l D ca ra N t10.1 this p0 t4.2 t10.2) mt_X2_leastFrom mv_X2_leastFrom rfl ml_RX2_71 rfl (fun h => Bool.noConfusion h) ⟨Nat.le_of_ble_eq_true rfl, Nat.le_of_ble_eq_true rfl⟩ (Nat.le_of_ble_eq_true rfl) 0 0 ⟨rfl, rfl⟩ ⟨Nat.zero_le _, Nat.zero_le _⟩ (by decide +kernel) _ rfl (fun q14 => [ai q14.2, ai t10.2, ar r13]) (fun _ => rfl) (fun q14 => ?_)
          refine x_astI C (by decide +kernel) (fun σ15 => ?_)
          refine x_iinc C 3 (i := 4) (n := 1) (Nat.le_of_ble_eq_true rfl) rfl (by decide +kernel) (lv2 := fun x16 => [(4, ai x16), (0, ar this), (1, ar p0), (3, ai t4.2)]) (fun _ => rfl) (fun x16 => ?_)
          refine x_goto C (tgt := 32) (off := (-28)) (by decide) (by decide +kernel) ?_
          refine x_sub [1, 2, 3, 0] (lv2 := [(0, ar this), (1, ar p0), (3, ai t4.2), (4, ai x16)]) rfl ?_
          exact hb32_10 (σ15, x16)
  · skip
    exact x_vret C ⟨Nat.zero_le _, Nat.zero_le _⟩ (by decide +kernel)

def rm_X2_leastPumped : Room := { frames := 4, cells := 0, slots := 0, locals := 97 }
def f_X2_leastPumped (N : Nat) (σ : St) (this : Nat) (p0 : Nat) (p1 : Int) (p2 : Int) (p3 : Int) : Option (St × Int) :=
 Option.bind (gI shx σ 2 this 0) fun steps_1 =>
 (if wr steps_1 = 0 then some (σ, (-1)) else Option.bind (f_X2_canHold N σ p0 p1 p2 p3) fun q2 =>
 (if wr q2.2 = 0 then some (σ, (-1)) else Option.bind (rcv shx σ 2 this (f_X2_prepare N σ this p0 ((p1 + p2) + p3))) fun q3 =>
 Option.bind (gR shx q3.1 2 this 5) fun least_4 =>
 Option.bind (aR shx q3.1 6 least_4 0) fun r5 =>
 Option.bind (aI shx q3.1 1 r5 ((16 * p1) + p2)) fun a6 =>
 (if wr a6 < wr 1000 then some (q3.1, a6) else some (q3.1, (-1)))))
set_option maxRecDepth 100000 in
set_option maxHeartbeats 4000000 in
theorem c_X2_leastPumped (l : Launch) (D : va_G) (ca : Nat → ClassId) (ra : Nat → Nat) (N : Nat) (σ : St) (this : Nat) (p0 : Nat) (p1 : Int) (p2 : Int) (p3 : Int) : Ctr l (D, ca, ra, shx) false yX2_leastPumped cX2_leastPumped 6 (some .int) rm_X2_leastPumped σ [ar this, ar p0, ai p1, ai p2, ai p3] (f_X2_leastPumped N σ this p0 p1 p2 p3) := by
  refine ctr_of (by decide) (Nat.le_of_ble_eq_true rfl) (fun z C => ?_)
  show X z 0 0 σ 0 [(0, ar this), (1, ar p0), (2, ai p1), (3, ai p2), (4, ai p3)] [] _
  unfold f_X2_leastPumped
  refine x_aload_n C 0 (i := 0) (k0 := 0) rfl rfl (by decide +kernel) ?_
  refine x_gI C fl_RX2_42 (fun _ _ _ => rfl) (by decide +kernel) (fun steps_1 => ?_)
  refine x_if_eq C (tgt := 18) (off := 14) (by decide) (by decide +kernel) (fun h9 => ?_) (fun h9 => ?_)
  · skip
    refine x_iconst C (n := (-1)) (by decide +kernel) ?_
    exact x_iret C ⟨Nat.zero_le _, Nat.zero_le _⟩ (by decide +kernel)
  · skip
    refine x_aload_n C 1 (i := 1) (k0 := 1) rfl rfl (by decide +kernel) ?_
    refine x_iload_n C 2 (i := 2) (k0 := 2) rfl rfl (by decide +kernel) ?_
    refine x_iload_n C 3 (i := 3) (k0 := 3) rfl rfl (by decide +kernel) ?_
    refine x_iload C 4 (i := 4) rfl (by decide +kernel) ?_
    refine x_callSp C (c_X2_canHold l D ca ra N σ p0 p1 p2 p3) (p_X2_canHold N σ p0 p1 p2 p3) mt_X2_canHold ms_X2_canHold ml_RX2_45 rfl (fun h => Bool.noConfusion h) ⟨Nat.le_of_ble_eq_true rfl, Nat.le_of_ble_eq_true rfl⟩ (Nat.le_of_ble_eq_true rfl) 0 0 ⟨rfl, rfl⟩ ⟨Nat.zero_le _, Nat.zero_le _⟩ (by decide +kernel) _ rfl (fun q2 => [ai q2.2]) (fun _ => rfl) (fun q2 => ?_)
    refine x_if_ne C (tgt := 20) (off := 5) (by decide) (by decide +kernel) (fun h8 => ?_) (fun h8 => ?_)
    · skip
      refine x_aload_n C 0 (i := 0) (k0 := 0) rfl rfl (by decide +kernel) ?_
      refine x_aload_n C 1 (i := 1) (k0 := 1) rfl rfl (by decide +kernel) ?_
      refine x_iload_n C 2 (i := 2) (k0 := 2) rfl rfl (by decide +kernel) ?_
      refine x_iload_n C 3 (i := 3) (k0 := 3) rfl rfl (by decide +kernel) ?_
      refine x_iadd C (by decide +kernel) ?_
      refine x_iload C 4 (i := 4) rfl (by decide +kernel) ?_
      refine x_iadd C (by decide +kernel) ?_
      refine x_callV C (ci := 2) (c_X2_prepare l D ca ra N σ this p0 ((p1 + p2) + p3)) mt_X2_prepare mv_X2_prepare rfl ml_RX2_49 rfl (fun h => Bool.noConfusion h) ⟨Nat.le_of_ble_eq_true rfl, Nat.le_of_ble_eq_true rfl⟩ (Nat.le_of_ble_eq_true rfl) 0 0 ⟨rfl, rfl⟩ ⟨Nat.zero_le _, Nat.zero_le _⟩ (by decide +kernel) _ rfl (fun q3 => []) (fun _ => rfl) (fun q3 => ?_)
      show X z 0 0 q3.1 31 [(0, ar this), (1, ar p0), (2, ai p1), (3, ai p2), (4, ai p3)] [] _
      refine x_aload_n C 0 (i := 0) (k0 := 0) rfl rfl (by decide +kernel) ?_
      refine x_gR C fl_RX2_29 (fun _ _ _ => rfl) (by decide +kernel) (fun least_4 => ?_)
      refine x_iconst C (n := 0) (by decide +kernel) ?_
      refine x_aldR6 C (by decide +kernel) (fun r5 => ?_)
      refine x_bipush C (n := 16) (by decide +kernel) (by decide +kernel) ?_
      refine x_iload_n C 2 (i := 2) (k0 := 2) rfl rfl (by decide +kernel) ?_
      refine x_imul C (by decide +kernel) ?_
      refine x_iload_n C 3 (i := 3) (k0 := 3) rfl rfl (by decide +kernel) ?_
      show X z 0 0 q3.1 42 [(0, ar this), (1, ar p0), (2, ai p1), (3, ai p2), (4, ai p3)] [ai p2, ai (16 * p1), ar r5] _
      refine x_iadd C (by decide +kernel) ?_
      refine x_aldI C (by decide +kernel) (fun a6 => ?_)
      refine x_istore C (i := 5) (Nat.le_of_ble_eq_true rfl) (by decide +kernel) (lv2 := [(5, ai a6), (0, ar this), (1, ar p0), (2, ai p1), (3, ai p2), (4, ai p3)]) rfl ?_
      refine x_iload C 0 (i := 5) rfl (by decide +kernel) ?_
      refine x_sipush C (n := 1000) (by decide +kernel) (by decide +kernel) ?_
      refine x_ic_lt C (tgt := 58) (off := 7) (by decide) (by decide +kernel) (fun h7 => ?_) (fun h7 => ?_)
      · skip
        refine x_iload C 0 (i := 5) rfl (by decide +kernel) ?_
        exact x_iret C ⟨Nat.zero_le _, Nat.zero_le _⟩ (by decide +kernel)
      · skip
        refine x_iconst C (n := (-1)) (by decide +kernel) ?_
        refine x_goto C (tgt := 60) (off := 5) (by decide) (by decide +kernel) ?_
        exact x_iret C ⟨Nat.zero_le _, Nat.zero_le _⟩ (by decide +kernel)
    · skip
      refine x_iconst C (n := (-1)) (by decide +kernel) ?_
      exact x_iret C ⟨Nat.zero_le _, Nat.zero_le _⟩ (by decide +kernel)

def rm_X2_fuelBehind : Room := { frames := 0, cells := 0, slots := 0, locals := 0 }
def f_X2_fuelBehind (N : Nat) (σ : St) (this : Nat) (p0 : Int) (p1 : Int) : Option (St × Int) :=
 Lt (Int.tdiv (wr p1) 9) fun x1 =>
 Jn (fun t2 : Int => Jn (fun t3 : Int => Option.bind (gR shx σ 2 this 7) fun fuel_4 =>
 Option.bind (aI shx σ 1 fuel_4 p0) fun a5 =>
 some (σ, ((a5 - t2) + t3))) fun J33_5 =>
 (if wr (Int.tmod (wr p1) 3) = wr p0 then J33_5 x1 else J33_5 0)) fun J19_7 =>
 (if wr (Int.tmod (wr (Int.tdiv (wr p1) 3)) 3) = wr p0 then J19_7 x1 else J19_7 0)
set_option maxRecDepth 100000 in
set_option maxHeartbeats 4000000 in
theorem c_X2_fuelBehind (l : Launch) (D : va_G) (ca : Nat → ClassId) (ra : Nat → Nat) (N : Nat) (σ : St) (this : Nat) (p0 : Int) (p1 : Int) : Ctr l (D, ca, ra, shx) false yX2_fuelBehind cX2_fuelBehind 6 (some .int) rm_X2_fuelBehind σ [ar this, ai p0, ai p1] (f_X2_fuelBehind N σ this p0 p1) := by
  refine ctr_of (by decide) (Nat.le_of_ble_eq_true rfl) (fun z C => ?_)
  show X z 0 0 σ 0 [(0, ar this), (1, ai p0), (2, ai p1)] [] _
  unfold f_X2_fuelBehind
  refine x_iload_n C 2 (i := 2) (k0 := 2) rfl rfl (by decide +kernel) ?_
  refine x_bipush C (n := 9) (by decide +kernel) (by decide +kernel) ?_
  refine x_idivC C (by decide) (by decide) (by decide +kernel) ?_
  refine x_istore_nL C (i := 3) (k0 := 3) rfl (Nat.le_of_ble_eq_true rfl) (by decide +kernel) (lv2 := fun x1 => [(3, ai x1), (0, ar this), (1, ai p0), (2, ai p1)]) (fun _ => rfl) (fun x1 => ?_)
  refine x_iload_n C 3 (i := 2) (k0 := 2) rfl rfl (by decide +kernel) ?_
  refine x_iconst C (n := 3) (by decide +kernel) ?_
  refine x_idivC C (by decide) (by decide) (by decide +kernel) ?_
  refine x_iconst C (n := 3) (by decide +kernel) ?_
  show X z 0 0 σ 9 [(3, ai x1), (0, ar this), (1, ai p0), (2, ai p1)] [ai 3, ai (Int.tdiv (wr p1) 3)] _
  refine x_iremC C (by decide) (by decide) (by decide +kernel) ?_
  refine x_iload_n C 2 (i := 1) (k0 := 1) rfl rfl (by decide +kernel) ?_
  refine x_join (T := Int) (fun t => σ) 19 (fun t => [(0, ar this), (1, ai p0), (2, ai p1), (3, ai x1)]) (fun t => [ai t]) (fun t2 => ?_) (fun J19_7 hJ19_7 => ?_)
  · show X z 0 0 σ 19 [(0, ar this), (1, ai p0), (2, ai p1), (3, ai x1)] [ai t2] _
    refine x_istore C (i := 4) (Nat.le_of_ble_eq_true rfl) (by decide +kernel) (lv2 := [(4, ai t2), (0, ar this), (1, ai p0), (2, ai p1), (3, ai x1)]) rfl ?_
    refine x_iload_n C 3 (i := 2) (k0 := 2) rfl rfl (by decide +kernel) ?_
    refine x_iconst C (n := 3) (by decide +kernel) ?_
    refine x_iremC C (by decide) (by decide) (by decide +kernel) ?_
    refine x_iload_n C 2 (i := 1) (k0 := 1) rfl rfl (by decide +kernel) ?_
    refine x_join (T := Int) (fun t => σ) 33 (fun t => [(0, ar this), (1, ai p0), (4, ai t2)]) (fun t => [ai t]) (fun t3 => ?_) (fun J33_5 hJ33_5 => ?_)
    · show X z 0 0 σ 33 [(0, ar this), (1, ai p0), (4, ai t2)] [ai t3] _
      refine x_istore C (i := 5) (Nat.le_of_ble_eq_true rfl) (by decide +kernel) (lv2 := [(5, ai t3), (0, ar this), (1, ai p0), (4, ai t2)]) rfl ?_
      refine x_aload_n C 1 (i := 0) (k0 := 0) rfl rfl (by decide +kernel) ?_
      refine x_gR C fl_RX2_35 (fun _ _ _ => rfl) (by decide +kernel) (fun fuel_4 => ?_)
      refine x_iload_n C 2 (i := 1) (k0 := 1) rfl rfl (by decide +kernel) ?_
      refine x_aldI C (by decide +kernel) (fun a5 => ?_)
      refine x_iload C 3 (i := 4) rfl (by decide +kernel) ?_
      refine x_isub C (by decide +kernel) ?_
      refine x_iload C 0 (i := 5) rfl (by decide +kernel) ?_
      show X z 0 0 σ 46 [(5, ai t3), (0, ar this), (1, ai p0), (4, ai t2)] [ai t3, ai (a5 - t2)] _
      refine x_iadd C (by decide +kernel) ?_
      exact x_iret C ⟨Nat.zero_le _, Nat.zero_le _⟩ (by decide +kernel)
    · skip
      refine x_ic_ne C (tgt := 32) (off := 7) (by decide) (by decide +kernel) (fun h7 => ?_) (fun h7 => ?_)
      · skip
        refine x_iconst C (n := 0) (by decide +kernel) ?_
        refine x_sub [1, 2, 0] (lv2 := [(0, ar this), (1, ai p0), (4, ai t2)]) rfl ?_
        exact hJ33_5 0
      · skip
        refine x_iload_n C 4 (i := 3) (k0 := 3) rfl rfl (by decide +kernel) ?_
        refine x_goto C (tgt := 33) (off := 4) (by decide) (by decide +kernel) ?_
        refine x_sub [1, 2, 0] (lv2 := [(0, ar this), (1, ai p0), (4, ai t2)]) rfl ?_
        exact hJ33_5 x1
  · skip
    refine x_ic_ne C (tgt := 18) (off := 7) (by decide) (by decide +kernel) (fun h9 => ?_) (fun h9 => ?_)
    · skip
      refine x_iconst C (n := 0) (by decide +kernel) ?_
      refine x_sub [1, 2, 3, 0] (lv2 := [(0, ar this), (1, ai p0), (2, ai p1), (3, ai x1)]) rfl ?_
      exact hJ19_7 0
    · skip
      refine x_iload_n C 0 (i := 3) (k0 := 3) rfl rfl (by decide +kernel) ?_
      refine x_goto C (tgt := 19) (off := 4) (by decide) (by decide +kernel) ?_
      refine x_sub [1, 2, 3, 0] (lv2 := [(0, ar this), (1, ai p0), (2, ai p1), (3, ai x1)]) rfl ?_
      exact hJ19_7 x1
theorem p_X2_fuelBehind (N : Nat) (σ : St) (this : Nat) (p0 : Int) (p1 : Int) : Pu σ (f_X2_fuelBehind N σ this p0 p1) := by
  unfold f_X2_fuelBehind
  refine pu_Lt (fun _ => ?_)
  refine pu_Jn (fun _ => ?_) (fun _ hJ19_7 => ?_)
  · skip
    refine pu_Jn (fun _ => ?_) (fun _ hJ33_5 => ?_)
    · skip
      refine pu_bind (fun _ => ?_)
      refine pu_bind (fun _ => ?_)
      exact pu_some
    · skip
      refine pu_ifs ?_ ?_
      · skip
        exact hJ33_5 _
      · skip
        exact hJ33_5 _
  · skip
    refine pu_ifs ?_ ?_
    · skip
      exact hJ19_7 _
    · skip
      exact hJ19_7 _

def rm_X2_keepsLeast : Room := { frames := 2, cells := 0, slots := 0, locals := 45 }
def f_X2_keepsLeast (N : Nat) (σ : St) (this : Nat) (p0 : Int) (p1 : Int) (p2 : Int) (p3 : Int) : Option (St × Int) :=
 Option.bind (f_X2_pumpedState N σ p1 p3) fun q1 =>
 Option.bind (wtZ p2) fun w2 =>
 Option.bind (rcv shx σ 2 this (f_X2_leastAt N σ this (p0 + 1) (q1.2 - w2))) fun q3 =>
 Option.bind (rcv shx σ 2 this (f_X2_leastAt N σ this p0 p1)) fun q4 =>
 (if wr ((Int.tdiv (wr p3) 9) + q3.2) = wr q4.2 then some (σ, 1) else some (σ, 0))
set_option maxRecDepth 100000 in
set_option maxHeartbeats 4000000 in
theorem c_X2_keepsLeast (l : Launch) (D : va_G) (ca : Nat → ClassId) (ra : Nat → Nat) (N : Nat) (σ : St) (this : Nat) (p0 : Int) (p1 : Int) (p2 : Int) (p3 : Int) : Ctr l (D, ca, ra, shx) false yX2_keepsLeast cX2_keepsLeast 6 (some .boolean) rm_X2_keepsLeast σ [ar this, ai p0, ai p1, ai p2, ai p3] (f_X2_keepsLeast N σ this p0 p1 p2 p3) := by
  refine ctr_of (by decide) (Nat.le_of_ble_eq_true rfl) (fun z C => ?_)
  show X z 0 0 σ 0 [(0, ar this), (1, ai p0), (2, ai p1), (3, ai p2), (4, ai p3)] [] _
  unfold f_X2_keepsLeast
  refine x_aload_n C 0 (i := 0) (k0 := 0) rfl rfl (by decide +kernel) ?_
  refine x_iload_n C 1 (i := 1) (k0 := 1) rfl rfl (by decide +kernel) ?_
  refine x_iconst C (n := 1) (by decide +kernel) ?_
  refine x_iadd C (by decide +kernel) ?_
  refine x_iload_n C 2 (i := 2) (k0 := 2) rfl rfl (by decide +kernel) ?_
  refine x_iload C 4 (i := 4) rfl (by decide +kernel) ?_
  refine x_callSp C (c_X2_pumpedState l D ca ra N σ p1 p3) (p_X2_pumpedState N σ p1 p3) mt_X2_pumpedState ms_X2_pumpedState ml_RX2_101 rfl (fun h => Bool.noConfusion h) ⟨Nat.le_of_ble_eq_true rfl, Nat.le_of_ble_eq_true rfl⟩ (Nat.le_of_ble_eq_true rfl) 0 0 ⟨rfl, rfl⟩ ⟨Nat.zero_le _, Nat.zero_le _⟩ (by decide +kernel) _ rfl (fun q1 => [ai q1.2, ai (p0 + 1), ar this]) (fun _ => rfl) (fun q1 => ?_)
  refine x_getW C sw_RX2_83 (by decide +kernel) ?_
  show X z 0 0 σ 13 [(0, ar this), (1, ai p0), (2, ai p1), (3, ai p2), (4, ai p3)] [ao 20, ai q1.2, ai (p0 + 1), ar this] _
  refine x_iload_n C 3 (i := 3) (k0 := 3) rfl rfl (by decide +kernel) ?_
  refine x_aldW C (by decide +kernel) (fun w2 => ?_)
  refine x_isub C (by decide +kernel) ?_
  refine x_callVp C (ci := 2) (c_X2_leastAt l D ca ra N σ this (p0 + 1) (q1.2 - w2)) (p_X2_leastAt N σ this (p0 + 1) (q1.2 - w2)) mt_X2_leastAt mv_X2_leastAt rfl ml_RX2_86 rfl (fun h => Bool.noConfusion h) ⟨Nat.le_of_ble_eq_true rfl, Nat.le_of_ble_eq_true rfl⟩ (Nat.le_of_ble_eq_true rfl) 0 0 ⟨rfl, rfl⟩ ⟨Nat.zero_le _, Nat.zero_le _⟩ (by decide +kernel) _ rfl (fun q3 => [ai q3.2]) (fun _ => rfl) (fun q3 => ?_)
  refine x_istore C (i := 5) (Nat.le_of_ble_eq_true rfl) (by decide +kernel) (lv2 := [(5, ai q3.2), (0, ar this), (1, ai p0), (2, ai p1), (3, ai p2), (4, ai p3)]) rfl ?_
  refine x_iload C 5 (i := 4) rfl (by decide +kernel) ?_
  refine x_bipush C (n := 9) (by decide +kernel) (by decide +kernel) ?_
  refine x_idivC C (by decide) (by decide) (by decide +kernel) ?_
  show X z 0 0 σ 26 [(5, ai q3.2), (0, ar this), (1, ai p0), (2, ai p1), (3, ai p2), (4, ai p3)] [ai (Int.tdiv (wr p3) 9)] _
  refine x_iload C 0 (i := 5) rfl (by decide +kernel) ?_
  refine x_iadd C (by decide +kernel) ?_
  refine x_aload_n C 1 (i := 0) (k0 := 0) rfl rfl (by decide +kernel) ?_
  refine x_iload_n C 2 (i := 1) (k0 := 1) rfl rfl (by decide +kernel) ?_
  refine x_iload_n C 3 (i := 2) (k0 := 2) rfl rfl (by decide +kernel) ?_
  refine x_callVp C (ci := 2) (c_X2_leastAt l D ca ra N σ this p0 p1) (p_X2_leastAt N σ this p0 p1) mt_X2_leastAt mv_X2_leastAt rfl ml_RX2_86 rfl (fun h => Bool.noConfusion h) ⟨Nat.le_of_ble_eq_true rfl, Nat.le_of_ble_eq_true rfl⟩ (Nat.le_of_ble_eq_true rfl) 0 0 ⟨rfl, rfl⟩ ⟨Nat.zero_le _, Nat.zero_le _⟩ (by decide +kernel) _ rfl (fun q4 => [ai q4.2, ai ((Int.tdiv (wr p3) 9) + q3.2)]) (fun _ => rfl) (fun q4 => ?_)
  refine x_ic_ne C (tgt := 42) (off := 7) (by decide) (by decide +kernel) (fun h5 => ?_) (fun h5 => ?_)
  · skip
    refine x_iconst C (n := 0) (by decide +kernel) ?_
    exact x_zret C (Or.inl rfl) ⟨Nat.zero_le _, Nat.zero_le _⟩ (by decide +kernel)
  · skip
    refine x_iconst C (n := 1) (by decide +kernel) ?_
    refine x_goto C (tgt := 43) (off := 4) (by decide) (by decide +kernel) ?_
    exact x_zret C (Or.inr rfl) ⟨Nat.zero_le _, Nat.zero_le _⟩ (by decide +kernel)
theorem p_X2_keepsLeast (N : Nat) (σ : St) (this : Nat) (p0 : Int) (p1 : Int) (p2 : Int) (p3 : Int) : Pu σ (f_X2_keepsLeast N σ this p0 p1 p2 p3) := by
  unfold f_X2_keepsLeast
  refine pu_bind (fun _ => ?_)
  refine pu_bind (fun _ => ?_)
  refine pu_bind (fun _ => ?_)
  refine pu_bind (fun _ => ?_)
  refine pu_ifs ?_ ?_
  · skip
    exact pu_some
  · skip
    exact pu_some

def L_X2_firstMove_24 (N : Nat) (this : Nat) (p0 : Nat) (p1 : Int) (p2 : Int) (q1 : (St × Int)) (J89_2 : (Int × Int → Option (St × Int))) (t4 : Int) (J104_7 : (Unit → Option (St × Int))) : Int → Option (St × Int) := fixN N fun b24_9 t9 =>
 Option.bind (gI shx q1.1 2 this 1) fun pump_11 =>
 (if wr t9 < wr (9 * (pump_11 + 1)) then Jn (fun t12 : Int => Jn (fun t13 : Unit => Lt (t9 + 1) fun x14 =>
 b24_9 x14) fun J98_14 =>
 (if wr t12 = 0 then J98_14 () else Option.bind (rcv shx q1.1 2 this (f_X2_fuelBehind N q1.1 this t4 t9)) fun q16 =>
 (if 0 < wr q16.2 then Option.bind (rcv shx q1.1 2 this (f_X2_keepsLeast N q1.1 this p1 p2 t4 t9)) fun q17 =>
 (if wr q17.2 = 0 then J98_14 () else J89_2 (t4, t9)) else J98_14 ()))) fun J58_20 =>
 Jn (fun t22 : Unit => J58_20 1) fun J53_22 =>
 (if wr t9 = 0 then J53_22 () else Option.bind (rcv shx q1.1 2 this (f_X2_canPump N q1.1 this p0 t9)) fun q24 =>
 (if wr q24.2 = 0 then J58_20 0 else J53_22 ())) else J104_7 ())
def L_X2_firstMove_15 (N : Nat) (this : Nat) (p0 : Nat) (p1 : Int) (p2 : Int) (q1 : (St × Int)) (J89_2 : (Int × Int → Option (St × Int))) : Int → Option (St × Int) := fixN N fun b15_4 t4 =>
 (if wr t4 < wr 3 then Jn (fun t6 : Unit => Lt (t4 + 1) fun x7 =>
 b15_4 x7) fun J104_7 =>
 L_X2_firstMove_24 N this p0 p1 p2 q1 J89_2 t4 J104_7 0 else some (q1.1, (-1)))
def rm_X2_firstMove : Room := { frames := 3, cells := 0, slots := 0, locals := 70 }
def f_X2_firstMove (N : Nat) (σ : St) (this : Nat) (p0 : Nat) (p1 : Int) (p2 : Int) : Option (St × Int) :=
 Option.bind (rcv shx σ 2 this (f_X2_fill N σ this p0 p1 p2)) fun q1 =>
 (if wr q1.2 = 0 then some (q1.1, (-1)) else Jn (fun t2 : Int × Int => some (q1.1, ((100 * t2.1) + t2.2))) fun J89_2 =>
 L_X2_firstMove_15 N this p0 p1 p2 q1 J89_2 0)
set_option maxRecDepth 100000 in
set_option maxHeartbeats 4000000 in
theorem c_X2_firstMove (l : Launch) (D : va_G) (ca : Nat → ClassId) (ra : Nat → Nat) (N : Nat) (σ : St) (this : Nat) (p0 : Nat) (p1 : Int) (p2 : Int) : Ctr l (D, ca, ra, shx) false yX2_firstMove cX2_firstMove 7 (some .int) rm_X2_firstMove σ [ar this, ar p0, ai p1, ai p2] (f_X2_firstMove N σ this p0 p1 p2) := by
  refine ctr_of (by decide) (Nat.le_of_ble_eq_true rfl) (fun z C => ?_)
  show X z 0 0 σ 0 [(0, ar this), (1, ar p0), (2, ai p1), (3, ai p2)] [] _
  unfold f_X2_firstMove
  refine x_aload_n C 0 (i := 0) (k0 := 0) rfl rfl (by decide +kernel) ?_
  refine x_aload_n C 1 (i := 1) (k0 := 1) rfl rfl (by decide +kernel) ?_
  refine x_iload_n C 2 (i := 2) (k0 := 2) rfl rfl (by decide +kernel) ?_
  refine x_iload_n C 3 (i := 3) (k0 := 3) rfl rfl (by decide +kernel) ?_
  refine x_callV C (ci := 2) (c_X2_fill l D ca ra N σ this p0 p1 p2) mt_X2_fill mv_X2_fill rfl ml_RX2_80 rfl (fun h => Bool.noConfusion h) ⟨Nat.le_of_ble_eq_true rfl, Nat.le_of_ble_eq_true rfl⟩ (Nat.le_of_ble_eq_true rfl) 0 0 ⟨rfl, rfl⟩ ⟨Nat.zero_le _, Nat.zero_le _⟩ (by decide +kernel) _ rfl (fun q1 => [ai q1.2]) (fun _ => rfl) (fun q1 => ?_)
  refine x_if_ne C (tgt := 12) (off := 5) (by decide) (by decide +kernel) (fun h29 => ?_) (fun h29 => ?_)
  · skip
    refine x_iconst C (n := 0) (by decide +kernel) ?_
    refine x_istore C (i := 4) (Nat.le_of_ble_eq_true rfl) (by decide +kernel) (lv2 := [(4, ai 0), (0, ar this), (1, ar p0), (2, ai p1), (3, ai p2)]) rfl ?_
    refine x_join (T := Int × Int) (fun t => q1.1) 89 (fun t => [(4, ai t.1), (5, ai t.2)]) (fun t => []) (fun t2 => ?_) (fun J89_2 hJ89_2 => ?_)
    · show X z 0 0 q1.1 89 [(4, ai t2.1), (5, ai t2.2)] [] _
      refine x_bipush C (n := 100) (by decide +kernel) (by decide +kernel) ?_
      refine x_iload C 0 (i := 4) rfl (by decide +kernel) ?_
      refine x_imul C (by decide +kernel) ?_
      refine x_iload C 1 (i := 5) rfl (by decide +kernel) ?_
      refine x_iadd C (by decide +kernel) ?_
      exact x_iret C ⟨Nat.zero_le _, Nat.zero_le _⟩ (by decide +kernel)
    · skip
      refine x_sub [1, 2, 3, 4, 0] (lv2 := [(0, ar this), (1, ar p0), (2, ai p1), (3, ai p2), (4, ai 0)]) rfl ?_
      -- LOOP L_X2_firstMove_15 hb15_4
      refine x_loop (T := Int) (fun t => q1.1) (fun t => [(0, ar this), (1, ar p0), (2, ai p1), (3, ai p2), (4, ai t)]) 0 rfl (fun b15_4 hb15_4 t4 => ?_)
      show X z 0 0 q1.1 15 [(0, ar this), (1, ar p0), (2, ai p1), (3, ai p2), (4, ai t4)] [] _
      refine x_iload C 4 (i := 4) rfl (by decide +kernel) ?_
      refine x_iconst C (n := 3) (by decide +kernel) ?_
      refine x_ic_ge C (tgt := 110) (off := 92) (by decide) (by decide +kernel) (fun h28 => ?_) (fun h28 => ?_)
      · skip
        refine x_iconst C (n := (-1)) (by decide +kernel) ?_
        exact x_iret C ⟨Nat.zero_le _, Nat.zero_le _⟩ (by decide +kernel)
      · skip
        refine x_iconst C (n := 0) (by decide +kernel) ?_
        refine x_istore C (i := 5) (Nat.le_of_ble_eq_true rfl) (by decide +kernel) (lv2 := [(5, ai 0), (0, ar this), (1, ar p0), (2, ai p1), (3, ai p2), (4, ai t4)]) rfl ?_
        refine x_join (T := Unit) (fun t => q1.1) 104 (fun t => [(0, ar this), (1, ar p0), (2, ai p1), (3, ai p2), (4, ai t4)]) (fun t => []) (fun t6 => ?_) (fun J104_7 hJ104_7 => ?_)
        · show X z 0 0 q1.1 104 [(0, ar this), (1, ar p0), (2, ai p1), (3, ai p2), (4, ai t4)] [] _
          refine x_iinc C 4 (i := 4) (n := 1) (Nat.le_of_ble_eq_true rfl) rfl (by decide +kernel) (lv2 := fun x7 => [(4, ai x7), (0, ar this), (1, ar p0), (2, ai p1), (3, ai p2)]) (fun _ => rfl) (fun x7 => ?_)
          refine x_goto C (tgt := 15) (off := (-92)) (by decide) (by decide +kernel) ?_
          refine x_sub [1, 2, 3, 4, 0] (lv2 := [(0, ar this), (1, ar p0), (2, ai p1), (3, ai p2), (4, ai x7)]) rfl ?_
          exact hb15_4 x7
        · skip
          refine x_sub [1, 2, 3, 4, 5, 0] (lv2 := [(0, ar this), (1, ar p0), (2, ai p1), (3, ai p2), (4, ai t4), (5, ai 0)]) rfl ?_
          -- LOOP L_X2_firstMove_24 hb24_9
          refine x_loop (T := Int) (fun t => q1.1) (fun t => [(0, ar this), (1, ar p0), (2, ai p1), (3, ai p2), (4, ai t4), (5, ai t)]) 0 rfl (fun b24_9 hb24_9 t9 => ?_)
          show X z 0 0 q1.1 24 [(0, ar this), (1, ar p0), (2, ai p1), (3, ai p2), (4, ai t4), (5, ai t9)] [] _
          refine x_iload C 5 (i := 5) rfl (by decide +kernel) ?_
          refine x_bipush C (n := 9) (by decide +kernel) (by decide +kernel) ?_
          refine x_aload_n C 0 (i := 0) (k0 := 0) rfl rfl (by decide +kernel) ?_
          refine x_gI C fl_RX2_13 (fun _ _ _ => rfl) (by decide +kernel) (fun pump_11 => ?_)
          refine x_iconst C (n := 1) (by decide +kernel) ?_
          refine x_iadd C (by decide +kernel) ?_
          refine x_imul C (by decide +kernel) ?_
          refine x_ic_ge C (tgt := 104) (off := 69) (by decide) (by decide +kernel) (fun h27 => ?_) (fun h27 => ?_)
          · skip
            refine x_sub [0, 1, 2, 3, 4] (lv2 := [(0, ar this), (1, ar p0), (2, ai p1), (3, ai p2), (4, ai t4)]) rfl ?_
            exact hJ104_7 ()
          · skip
            refine x_iload C 5 (i := 5) rfl (by decide +kernel) ?_
            refine x_join (T := Int) (fun t => q1.1) 58 (fun t => [(0, ar this), (1, ar p0), (2, ai p1), (3, ai p2), (4, ai t4), (5, ai t9)]) (fun t => [ai t]) (fun t12 => ?_) (fun J58_20 hJ58_20 => ?_)
            · show X z 0 0 q1.1 58 [(0, ar this), (1, ar p0), (2, ai p1), (3, ai p2), (4, ai t4), (5, ai t9)] [ai t12] _
              refine x_istore C (i := 6) (Nat.le_of_ble_eq_true rfl) (by decide +kernel) (lv2 := [(6, ai t12), (0, ar this), (1, ar p0), (2, ai p1), (3, ai p2), (4, ai t4), (5, ai t9)]) rfl ?_
              refine x_iload C 0 (i := 6) rfl (by decide +kernel) ?_
              refine x_join (T := Unit) (fun t => q1.1) 98 (fun t => [(0, ar this), (1, ar p0), (2, ai p1), (3, ai p2), (4, ai t4), (5, ai t9)]) (fun t => []) (fun t13 => ?_) (fun J98_14 hJ98_14 => ?_)
              · show X z 0 0 q1.1 98 [(0, ar this), (1, ar p0), (2, ai p1), (3, ai p2), (4, ai t4), (5, ai t9)] [] _
                refine x_iinc C 5 (i := 5) (n := 1) (Nat.le_of_ble_eq_true rfl) rfl (by decide +kernel) (lv2 := fun x14 => [(5, ai x14), (0, ar this), (1, ar p0), (2, ai p1), (3, ai p2), (4, ai t4)]) (fun _ => rfl) (fun x14 => ?_)
                refine x_goto C (tgt := 24) (off := (-77)) (by decide) (by decide +kernel) ?_
                refine x_sub [1, 2, 3, 4, 5, 0] (lv2 := [(0, ar this), (1, ar p0), (2, ai p1), (3, ai p2), (4, ai t4), (5, ai x14)]) rfl ?_
                exact hb24_9 x14
              · skip
                refine x_if_eq C (tgt := 98) (off := 36) (by decide) (by decide +kernel) (fun h20 => ?_) (fun h20 => ?_)
                · skip
                  refine x_sub [1, 2, 3, 4, 5, 6] (lv2 := [(0, ar this), (1, ar p0), (2, ai p1), (3, ai p2), (4, ai t4), (5, ai t9)]) rfl ?_
                  exact hJ98_14 ()
                · skip
                  refine x_aload_n C 1 (i := 0) (k0 := 0) rfl rfl (by decide +kernel) ?_
                  refine x_iload C 5 (i := 4) rfl (by decide +kernel) ?_
                  refine x_iload C 6 (i := 5) rfl (by decide +kernel) ?_
                  refine x_callVp C (ci := 2) (c_X2_fuelBehind l D ca ra N q1.1 this t4 t9) (p_X2_fuelBehind N q1.1 this t4 t9) mt_X2_fuelBehind mv_X2_fuelBehind rfl ml_RX2_108 rfl (fun h => Bool.noConfusion h) ⟨Nat.le_of_ble_eq_true rfl, Nat.le_of_ble_eq_true rfl⟩ (Nat.le_of_ble_eq_true rfl) 0 0 ⟨rfl, rfl⟩ ⟨Nat.zero_le _, Nat.zero_le _⟩ (by decide +kernel) _ rfl (fun q16 => [ai q16.2]) (fun _ => rfl) (fun q16 => ?_)
                  refine x_if_le C (tgt := 98) (off := 25) (by decide) (by decide +kernel) (fun h19 => ?_) (fun h19 => ?_)
                  · skip
                    refine x_sub [1, 2, 3, 4, 5, 6] (lv2 := [(0, ar this), (1, ar p0), (2, ai p1), (3, ai p2), (4, ai t4), (5, ai t9)]) rfl ?_
                    exact hJ98_14 ()
                  · skip
                    refine x_aload_n C 1 (i := 0) (k0 := 0) rfl rfl (by decide +kernel) ?_
                    refine x_iload_n C 3 (i := 2) (k0 := 2) rfl rfl (by decide +kernel) ?_
                    refine x_iload_n C 4 (i := 3) (k0 := 3) rfl rfl (by decide +kernel) ?_
                    refine x_iload C 5 (i := 4) rfl (by decide +kernel) ?_
                    refine x_iload C 6 (i := 5) rfl (by decide +kernel) ?_
                    refine x_callVp C (ci := 2) (c_X2_keepsLeast l D ca ra N q1.1 this p1 p2 t4 t9) (p_X2_keepsLeast N q1.1 this p1 p2 t4 t9) mt_X2_keepsLeast mv_X2_keepsLeast rfl ml_RX2_111 rfl (fun h => Bool.noConfusion h) ⟨Nat.le_of_ble_eq_true rfl, Nat.le_of_ble_eq_true rfl⟩ (Nat.le_of_ble_eq_true rfl) 0 0 ⟨rfl, rfl⟩ ⟨Nat.zero_le _, Nat.zero_le _⟩ (by decide +kernel) _ rfl (fun q17 => [ai q17.2]) (fun _ => rfl) (fun q17 => ?_)
                    refine x_if_eq C (tgt := 98) (off := 12) (by decide) (by decide +kernel) (fun h18 => ?_) (fun h18 => ?_)
                    · skip
                      refine x_sub [1, 2, 3, 4, 5, 6] (lv2 := [(0, ar this), (1, ar p0), (2, ai p1), (3, ai p2), (4, ai t4), (5, ai t9)]) rfl ?_
                      exact hJ98_14 ()
                    · skip
                      refine x_sub [5, 6] (lv2 := [(4, ai t4), (5, ai t9)]) rfl ?_
                      exact hJ89_2 (t4, t9)
            · skip
              refine x_join (T := Unit) (fun t => q1.1) 53 (fun t => [(0, ar this), (1, ar p0), (2, ai p1), (3, ai p2), (4, ai t4), (5, ai t9)]) (fun t => []) (fun t22 => ?_) (fun J53_22 hJ53_22 => ?_)
              · show X z 0 0 q1.1 53 [(0, ar this), (1, ar p0), (2, ai p1), (3, ai p2), (4, ai t4), (5, ai t9)] [] _
                refine x_iconst C (n := 1) (by decide +kernel) ?_
                refine x_goto C (tgt := 58) (off := 4) (by decide) (by decide +kernel) ?_
                exact hJ58_20 1
              · skip
                refine x_if_eq C (tgt := 53) (off := 13) (by decide) (by decide +kernel) (fun h26 => ?_) (fun h26 => ?_)
                · skip
                  exact hJ53_22 ()
                · skip
                  refine x_aload_n C 0 (i := 0) (k0 := 0) rfl rfl (by decide +kernel) ?_
                  refine x_aload_n C 1 (i := 1) (k0 := 1) rfl rfl (by decide +kernel) ?_
                  refine x_iload C 5 (i := 5) rfl (by decide +kernel) ?_
                  refine x_callVp C (ci := 2) (c_X2_canPump l D ca ra N q1.1 this p0 t9) (p_X2_canPump N q1.1 this p0 t9) mt_X2_canPump mv_X2_canPump rfl ml_RX2_98 rfl (fun h => Bool.noConfusion h) ⟨Nat.le_of_ble_eq_true rfl, Nat.le_of_ble_eq_true rfl⟩ (Nat.le_of_ble_eq_true rfl) 0 0 ⟨rfl, rfl⟩ ⟨Nat.zero_le _, Nat.zero_le _⟩ (by decide +kernel) _ rfl (fun q24 => [ai q24.2]) (fun _ => rfl) (fun q24 => ?_)
                  refine x_if_eq C (tgt := 57) (off := 7) (by decide) (by decide +kernel) (fun h25 => ?_) (fun h25 => ?_)
                  · skip
                    refine x_iconst C (n := 0) (by decide +kernel) ?_
                    exact hJ58_20 0
                  · skip
                    exact hJ53_22 ()
  · skip
    refine x_iconst C (n := (-1)) (by decide +kernel) ?_
    exact x_iret C ⟨Nat.zero_le _, Nat.zero_le _⟩ (by decide +kernel)

def rm_X2_stateBehind : Room := { frames := 1, cells := 0, slots := 0, locals := 22 }
def f_X2_stateBehind (N : Nat) (σ : St) (p0 : Int) (p1 : Int) : Option (St × Int) :=
 Option.bind (f_X2_pumpedState N σ p0 (Int.tmod (wr p1) 100)) fun q1 =>
 Option.bind (wtZ (Int.tmod (wr (Int.tdiv (wr p1) 100)) 3)) fun w2 =>
 some (σ, (q1.2 - w2))
set_option maxRecDepth 100000 in
set_option maxHeartbeats 4000000 in
theorem c_X2_stateBehind (l : Launch) (D : va_G) (ca : Nat → ClassId) (ra : Nat → Nat) (N : Nat) (σ : St) (p0 : Int) (p1 : Int) : Ctr l (D, ca, ra, shx) false yX2_stateBehind cX2_stateBehind 2 (some .int) rm_X2_stateBehind σ [ai p0, ai p1] (f_X2_stateBehind N σ p0 p1) := by
  refine ctr_of (by decide) (Nat.le_of_ble_eq_true rfl) (fun z C => ?_)
  show X z 0 0 σ 0 [(0, ai p0), (1, ai p1)] [] _
  unfold f_X2_stateBehind
  refine x_iload_n C 0 (i := 0) (k0 := 0) rfl rfl (by decide +kernel) ?_
  refine x_iload_n C 1 (i := 1) (k0 := 1) rfl rfl (by decide +kernel) ?_
  refine x_bipush C (n := 100) (by decide +kernel) (by decide +kernel) ?_
  refine x_iremC C (by decide) (by decide) (by decide +kernel) ?_
  refine x_callSp C (c_X2_pumpedState l D ca ra N σ p0 (Int.tmod (wr p1) 100)) (p_X2_pumpedState N σ p0 (Int.tmod (wr p1) 100)) mt_X2_pumpedState ms_X2_pumpedState ml_RX2_101 rfl (fun h => Bool.noConfusion h) ⟨Nat.le_of_ble_eq_true rfl, Nat.le_of_ble_eq_true rfl⟩ (Nat.le_of_ble_eq_true rfl) 0 0 ⟨rfl, rfl⟩ ⟨Nat.zero_le _, Nat.zero_le _⟩ (by decide +kernel) _ rfl (fun q1 => [ai q1.2]) (fun _ => rfl) (fun q1 => ?_)
  refine x_getW C sw_RX2_83 (by decide +kernel) ?_
  refine x_iload_n C 1 (i := 1) (k0 := 1) rfl rfl (by decide +kernel) ?_
  refine x_bipush C (n := 100) (by decide +kernel) (by decide +kernel) ?_
  show X z 0 0 σ 14 [(0, ai p0), (1, ai p1)] [ai 100, ai p1, ao 20, ai q1.2] _
  refine x_idivC C (by decide) (by decide) (by decide +kernel) ?_
  refine x_iconst C (n := 3) (by decide +kernel) ?_
  refine x_iremC C (by decide) (by decide) (by decide +kernel) ?_
  refine x_aldW C (by decide +kernel) (fun w2 => ?_)
  refine x_isub C (by decide +kernel) ?_
  exact x_iret C ⟨Nat.zero_le _, Nat.zero_le _⟩ (by decide +kernel)
theorem p_X2_stateBehind (N : Nat) (σ : St) (p0 : Int) (p1 : Int) : Pu σ (f_X2_stateBehind N σ p0 p1) := by
  unfold f_X2_stateBehind
  refine pu_bind (fun _ => ?_)
  refine pu_bind (fun _ => ?_)
  exact pu_some

def L_X2_moveOf_51 (N : Nat) (this : Nat) (p0 : Nat) (p4 : Int) : (St × Int × Int × Int) → Option (St × Int) := fixN N fun b51_6 t6 =>
 (if wr p4 < wr t6.2.2.2 then some (t6.1, t6.2.2.1) else (if wr t6.2.2.1 = wr (-1) then some (t6.1, t6.2.2.1) else Option.bind (f_X2_stateBehind N t6.1 t6.2.1 t6.2.2.1) fun q8 =>
 Option.bind (rcv shx t6.1 2 this (f_X2_firstMove N t6.1 this p0 t6.2.2.2 q8.2)) fun q9 =>
 Lt (t6.2.2.2 + 1) fun x10 =>
 b51_6 (q9.1, q8.2, q9.2, x10)))
def rm_X2_moveOf : Room := { frames := 5, cells := 0, slots := 0, locals := 122 }
def f_X2_moveOf (N : Nat) (σ : St) (this : Nat) (p0 : Nat) (p1 : Int) (p2 : Int) (p3 : Int) (p4 : Int) : Option (St × Int) :=
 Option.bind (rcv shx σ 2 this (f_X2_leastPumped N σ this p0 p1 p2 p3)) fun q1 =>
 (if wr q1.2 = wr (-1) then some (q1.1, (-1)) else Option.bind (gI shx q1.1 2 this 0) fun steps_2 =>
 Option.bind (f_X11_within N q1.1 p4 0 (steps_2 - 1)) fun q3 =>
 (if wr q3.2 = 0 then some (q1.1, (-1)) else Lt ((16 * p1) + p2) fun x4 =>
 Option.bind (rcv shx q1.1 2 this (f_X2_firstMove N q1.1 this p0 0 x4)) fun q5 =>
 L_X2_moveOf_51 N this p0 p4 (q5.1, x4, q5.2, 1)))
set_option maxRecDepth 100000 in
set_option maxHeartbeats 4000000 in
theorem c_X2_moveOf (l : Launch) (D : va_G) (ca : Nat → ClassId) (ra : Nat → Nat) (N : Nat) (σ : St) (this : Nat) (p0 : Nat) (p1 : Int) (p2 : Int) (p3 : Int) (p4 : Int) : Ctr l (D, ca, ra, shx) false yX2_moveOf cX2_moveOf 9 (some .int) rm_X2_moveOf σ [ar this, ar p0, ai p1, ai p2, ai p3, ai p4] (f_X2_moveOf N σ this p0 p1 p2 p3 p4) := by
  refine ctr_of (by decide) (Nat.le_of_ble_eq_true rfl) (fun z C => ?_)
  show X z 0 0 σ 0 [(0, ar this), (1, ar p0), (2, ai p1), (3, ai p2), (4, ai p3), (5, ai p4)] [] _
  unfold f_X2_moveOf
  refine x_aload_n C 0 (i := 0) (k0 := 0) rfl rfl (by decide +kernel) ?_
  refine x_aload_n C 1 (i := 1) (k0 := 1) rfl rfl (by decide +kernel) ?_
  refine x_iload_n C 2 (i := 2) (k0 := 2) rfl rfl (by decide +kernel) ?_
  refine x_iload_n C 3 (i := 3) (k0 := 3) rfl rfl (by decide +kernel) ?_
  refine x_iload C 4 (i := 4) rfl (by decide +kernel) ?_
  refine x_callV C (ci := 2) (c_X2_leastPumped l D ca ra N σ this p0 p1 p2 p3) mt_X2_leastPumped mv_X2_leastPumped rfl ml_RX2_53 rfl (fun h => Bool.noConfusion h) ⟨Nat.le_of_ble_eq_true rfl, Nat.le_of_ble_eq_true rfl⟩ (Nat.le_of_ble_eq_true rfl) 0 0 ⟨rfl, rfl⟩ ⟨Nat.zero_le _, Nat.zero_le _⟩ (by decide +kernel) _ rfl (fun q1 => [ai q1.2]) (fun _ => rfl) (fun q1 => ?_)
  refine x_iconst C (n := (-1)) (by decide +kernel) ?_
  refine x_ic_eq C (tgt := 28) (off := 18) (by decide) (by decide +kernel) (fun h14 => ?_) (fun h14 => ?_)
  · skip
    refine x_iconst C (n := (-1)) (by decide +kernel) ?_
    exact x_iret C ⟨Nat.zero_le _, Nat.zero_le _⟩ (by decide +kernel)
  · skip
    refine x_iload C 5 (i := 5) rfl (by decide +kernel) ?_
    refine x_iconst C (n := 0) (by decide +kernel) ?_
    refine x_aload_n C 0 (i := 0) (k0 := 0) rfl rfl (by decide +kernel) ?_
    refine x_gI C fl_RX2_42 (fun _ _ _ => rfl) (by decide +kernel) (fun steps_2 => ?_)
    refine x_iconst C (n := 1) (by decide +kernel) ?_
    refine x_isub C (by decide +kernel) ?_
    refine x_callSNp C (c_X11_within l D ca ra N q1.1 p4 0 (steps_2 - 1)) (p_X11_within N q1.1 p4 0 (steps_2 - 1)) mt_X11_within ms_X11_within (List.mem_of_getElem? (i := 14) rfl) rfl (fun h => Bool.noConfusion h) ⟨Nat.le_of_ble_eq_true rfl, Nat.le_of_ble_eq_true rfl⟩ (Nat.le_of_ble_eq_true rfl) 0 0 ⟨rfl, rfl⟩ ⟨Nat.zero_le _, Nat.zero_le _⟩ (by decide +kernel) _ rfl (fun q3 => [ai q3.2]) (fun _ => rfl) (fun q3 => ?_)
    refine x_if_ne C (tgt := 30) (off := 5) (by decide) (by decide +kernel) (fun h13 => ?_) (fun h13 => ?_)
    · skip
      refine x_bipush C (n := 16) (by decide +kernel) (by decide +kernel) ?_
      refine x_iload_n C 2 (i := 2) (k0 := 2) rfl rfl (by decide +kernel) ?_
      refine x_imul C (by decide +kernel) ?_
      refine x_iload_n C 3 (i := 3) (k0 := 3) rfl rfl (by decide +kernel) ?_
      refine x_iadd C (by decide +kernel) ?_
      refine x_istoreL C (i := 6) (Nat.le_of_ble_eq_true rfl) (by decide +kernel) (lv2 := fun x4 => [(6, ai x4), (0, ar this), (1, ar p0), (2, ai p1), (3, ai p2), (4, ai p3), (5, ai p4)]) (fun _ => rfl) (fun x4 => ?_)
      refine x_aload_n C 1 (i := 0) (k0 := 0) rfl rfl (by decide +kernel) ?_
      refine x_aload_n C 2 (i := 1) (k0 := 1) rfl rfl (by decide +kernel) ?_
      show X z 0 0 q1.1 40 [(6, ai x4), (0, ar this), (1, ar p0), (2, ai p1), (3, ai p2), (4, ai p3), (5, ai p4)] [ar p0, ar this] _
      refine x_iconst C (n := 0) (by decide +kernel) ?_
      refine x_iload C 0 (i := 6) rfl (by decide +kernel) ?_
      refine x_callV C (ci := 2) (c_X2_firstMove l D ca ra N q1.1 this p0 0 x4) mt_X2_firstMove mv_X2_firstMove rfl ml_RX2_57 rfl (fun h => Bool.noConfusion h) ⟨Nat.le_of_ble_eq_true rfl, Nat.le_of_ble_eq_true rfl⟩ (Nat.le_of_ble_eq_true rfl) 0 0 ⟨rfl, rfl⟩ ⟨Nat.zero_le _, Nat.zero_le _⟩ (by decide +kernel) _ rfl (fun q5 => [ai q5.2]) (fun _ => rfl) (fun q5 => ?_)
      refine x_istore C (i := 7) (Nat.le_of_ble_eq_true rfl) (by decide +kernel) (lv2 := [(7, ai q5.2), (6, ai x4), (0, ar this), (1, ar p0), (2, ai p1), (3, ai p2), (4, ai p3), (5, ai p4)]) rfl ?_
      refine x_iconst C (n := 1) (by decide +kernel) ?_
      refine x_istore C (i := 8) (Nat.le_of_ble_eq_true rfl) (by decide +kernel) (lv2 := [(8, ai 1), (7, ai q5.2), (6, ai x4), (0, ar this), (1, ar p0), (2, ai p1), (3, ai p2), (4, ai p3), (5, ai p4)]) rfl ?_
      refine x_sub [3, 4, 8, 2, 1, 0] (lv2 := [(0, ar this), (1, ar p0), (5, ai p4), (6, ai x4), (7, ai q5.2), (8, ai 1)]) rfl ?_
      -- LOOP L_X2_moveOf_51 hb51_6
      refine x_loop (T := St × Int × Int × Int) (fun t => t.1) (fun t => [(0, ar this), (1, ar p0), (5, ai p4), (6, ai t.2.1), (7, ai t.2.2.1), (8, ai t.2.2.2)]) (q5.1, x4, q5.2, 1) rfl (fun b51_6 hb51_6 t6 => ?_)
      show X z 0 0 t6.1 51 [(0, ar this), (1, ar p0), (5, ai p4), (6, ai t6.2.1), (7, ai t6.2.2.1), (8, ai t6.2.2.2)] [] _
      refine x_iload C 5 (i := 8) rfl (by decide +kernel) ?_
      refine x_iload C 2 (i := 5) rfl (by decide +kernel) ?_
      refine x_ic_gt C (tgt := 90) (off := 35) (by decide) (by decide +kernel) (fun h12 => ?_) (fun h12 => ?_)
      · skip
        refine x_iload C 4 (i := 7) rfl (by decide +kernel) ?_
        exact x_iret C ⟨Nat.zero_le _, Nat.zero_le _⟩ (by decide +kernel)
      · skip
        refine x_iload C 4 (i := 7) rfl (by decide +kernel) ?_
        refine x_iconst C (n := (-1)) (by decide +kernel) ?_
        refine x_ic_eq C (tgt := 90) (off := 29) (by decide) (by decide +kernel) (fun h11 => ?_) (fun h11 => ?_)
        · skip
          refine x_iload C 4 (i := 7) rfl (by decide +kernel) ?_
          exact x_iret C ⟨Nat.zero_le _, Nat.zero_le _⟩ (by decide +kernel)
        · skip
          refine x_iload C 3 (i := 6) rfl (by decide +kernel) ?_
          refine x_iload C 4 (i := 7) rfl (by decide +kernel) ?_
          refine x_callSp C (c_X2_stateBehind l D ca ra N t6.1 t6.2.1 t6.2.2.1) (p_X2_stateBehind N t6.1 t6.2.1 t6.2.2.1) mt_X2_stateBehind ms_X2_stateBehind ml_RX2_61 rfl (fun h => Bool.noConfusion h) ⟨Nat.le_of_ble_eq_true rfl, Nat.le_of_ble_eq_true rfl⟩ (Nat.le_of_ble_eq_true rfl) 0 0 ⟨rfl, rfl⟩ ⟨Nat.zero_le _, Nat.zero_le _⟩ (by decide +kernel) _ rfl (fun q8 => [ai q8.2]) (fun _ => rfl) (fun q8 => ?_)
          refine x_istore C (i := 6) (Nat.le_of_ble_eq_true rfl) (by decide +kernel) (lv2 := [(6, ai q8.2), (0, ar this), (1, ar p0), (5, ai p4), (7, ai t6.2.2.1), (8, ai t6.2.2.2)]) rfl ?_
          refine x_aload_n C 1 (i := 0) (k0 := 0) rfl rfl (by decide +kernel) ?_
          refine x_aload_n C 2 (i := 1) (k0 := 1) rfl rfl (by decide +kernel) ?_
          refine x_iload C 5 (i := 8) rfl (by decide +kernel) ?_
          refine x_iload C 0 (i := 6) rfl (by decide +kernel) ?_
          show X z 0 0 t6.1 79 [(6, ai q8.2), (0, ar this), (1, ar p0), (5, ai p4), (7, ai t6.2.2.1), (8, ai t6.2.2.2)] [ai q8.2, ai t6.2.2.2, ar p0, ar this] _
          refine x_callV C (ci := 2) (c_X2_firstMove l D ca ra N t6.1 this p0 t6.2.2.2 q8.2) mt_X2_firstMove mv_X2_firstMove rfl ml_RX2_57 rfl (fun h => Bool.noConfusion h) ⟨Nat.le_of_ble_eq_true rfl, Nat.le_of_ble_eq_true rfl⟩ (Nat.le_of_ble_eq_true rfl) 0 0 ⟨rfl, rfl⟩ ⟨Nat.zero_le _, Nat.zero_le _⟩ (by decide +kernel) _ rfl (fun q9 => [ai q9.2]) (fun _ => rfl) (fun q9 => ?_)
          refine x_istore C (i := 7) (Nat.le_of_ble_eq_true rfl) (by decide +kernel) (lv2 := [(7, ai q9.2), (6, ai q8.2), (0, ar this), (1, ar p0), (5, ai p4), (8, ai t6.2.2.2)]) rfl ?_
          refine x_iinc C 5 (i := 8) (n := 1) (Nat.le_of_ble_eq_true rfl) rfl (by decide +kernel) (lv2 := fun x10 => [(8, ai x10), (7, ai q9.2), (6, ai q8.2), (0, ar this), (1, ar p0), (5, ai p4)]) (fun _ => rfl) (fun x10 => ?_)
          refine x_goto C (tgt := 51) (off := (-36)) (by decide) (by decide +kernel) ?_
          refine x_sub [3, 4, 5, 2, 1, 0] (lv2 := [(0, ar this), (1, ar p0), (5, ai p4), (6, ai q8.2), (7, ai q9.2), (8, ai x10)]) rfl ?_
          exact hb51_6 (q9.1, q8.2, q9.2, x10)
    · skip
      refine x_iconst C (n := (-1)) (by decide +kernel) ?_
      exact x_iret C ⟨Nat.zero_le _, Nat.zero_le _⟩ (by decide +kernel)
