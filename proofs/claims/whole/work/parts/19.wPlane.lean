def rm_X11_feed : Room := { frames := 1, cells := 0, slots := 0, locals := 22 }
def f_X11_feed (N : Nat) (σ : St) (this : Nat) (p0 : Int) (p1 : Int) (p2 : Int) (p3 : Int) (p4 : Int) : Option (St × Int) :=
 Option.bind (gR shx σ 11 this 0) fun tape_1 =>
 Option.bind (rcv shx σ 6 tape_1 (f_X6_hasRoom N σ tape_1 20)) fun q2 =>
 (if wr q2.2 = 0 then some (σ, (-1)) else Option.bind (gR shx σ 11 this 0) fun tape_3 =>
 Option.bind (rcv shx σ 6 tape_3 (f_X6_append N σ tape_3 p0)) fun q4 =>
 Option.bind (gR shx q4.1 11 this 0) fun tape_5 =>
 Option.bind (rcv shx q4.1 6 tape_5 (f_X6_append N q4.1 tape_5 p1)) fun q6 =>
 Option.bind (gR shx q6.1 11 this 0) fun tape_7 =>
 Option.bind (rcv shx q6.1 6 tape_7 (f_X6_append N q6.1 tape_7 p2)) fun q8 =>
 Option.bind (gR shx q8.1 11 this 0) fun tape_9 =>
 Option.bind (rcv shx q8.1 6 tape_9 (f_X6_append N q8.1 tape_9 p3)) fun q10 =>
 Option.bind (gR shx q10.1 11 this 0) fun tape_11 =>
 Option.bind (rcv shx q10.1 6 tape_11 (f_X6_append N q10.1 tape_11 p4)) fun q12 =>
 Option.bind (gR shx q12.1 11 this 0) fun tape_13 =>
 Option.bind (gI shx q12.1 6 tape_13 2) fun length_14 =>
 some (q12.1, length_14))
set_option maxRecDepth 100000 in
set_option maxHeartbeats 4000000 in
theorem c_X11_feed (l : Launch) (D : va_G) (ca : Nat → ClassId) (ra : Nat → Nat) (N : Nat) (σ : St) (this : Nat) (p0 : Int) (p1 : Int) (p2 : Int) (p3 : Int) (p4 : Int) : Ctr l (D, ca, ra, shx) false yX11_feed cX11_feed 6 (some .int) rm_X11_feed σ [ar this, ai p0, ai p1, ai p2, ai p3, ai p4] (f_X11_feed N σ this p0 p1 p2 p3 p4) := by
  refine ctr_of (by decide) (Nat.le_of_ble_eq_true rfl) (fun z C => ?_)
  show X z 0 0 σ 0 [(0, ar this), (1, ai p0), (2, ai p1), (3, ai p2), (4, ai p3), (5, ai p4)] [] _
  unfold f_X11_feed
  refine x_aload_n C 0 (i := 0) (k0 := 0) rfl rfl (by decide +kernel) ?_
  refine x_gR C fl_RX11_10 (fun _ _ _ => rfl) (by decide +kernel) (fun tape_1 => ?_)
  refine x_bipush C (n := 20) (by decide +kernel) (by decide +kernel) ?_
  refine x_callVp C (ci := 6) (c_X6_hasRoom l D ca ra N σ tape_1 20) (p_X6_hasRoom N σ tape_1 20) mt_X6_hasRoom mv_X6_hasRoom rfl ml_RX11_93 rfl (fun h => Bool.noConfusion h) ⟨Nat.le_of_ble_eq_true rfl, Nat.le_of_ble_eq_true rfl⟩ (Nat.le_of_ble_eq_true rfl) 0 0 ⟨rfl, rfl⟩ ⟨Nat.zero_le _, Nat.zero_le _⟩ (by decide +kernel) _ rfl (fun q2 => [ai q2.2]) (fun _ => rfl) (fun q2 => ?_)
  refine x_if_ne C (tgt := 14) (off := 5) (by decide) (by decide +kernel) (fun h15 => ?_) (fun h15 => ?_)
  · skip
    refine x_aload_n C 0 (i := 0) (k0 := 0) rfl rfl (by decide +kernel) ?_
    refine x_gR C fl_RX11_10 (fun _ _ _ => rfl) (by decide +kernel) (fun tape_3 => ?_)
    refine x_iload_n C 1 (i := 1) (k0 := 1) rfl rfl (by decide +kernel) ?_
    refine x_callV C (ci := 6) (c_X6_append l D ca ra N σ tape_3 p0) mt_X6_append mv_X6_append rfl ml_RX11_97 rfl (fun h => Bool.noConfusion h) ⟨Nat.le_of_ble_eq_true rfl, Nat.le_of_ble_eq_true rfl⟩ (Nat.le_of_ble_eq_true rfl) 0 0 ⟨rfl, rfl⟩ ⟨Nat.zero_le _, Nat.zero_le _⟩ (by decide +kernel) _ rfl (fun q4 => []) (fun _ => rfl) (fun q4 => ?_)
    refine x_aload_n C 0 (i := 0) (k0 := 0) rfl rfl (by decide +kernel) ?_
    refine x_gR C fl_RX11_10 (fun _ _ _ => rfl) (by decide +kernel) (fun tape_5 => ?_)
    refine x_iload_n C 2 (i := 2) (k0 := 2) rfl rfl (by decide +kernel) ?_
    refine x_callV C (ci := 6) (c_X6_append l D ca ra N q4.1 tape_5 p1) mt_X6_append mv_X6_append rfl ml_RX11_97 rfl (fun h => Bool.noConfusion h) ⟨Nat.le_of_ble_eq_true rfl, Nat.le_of_ble_eq_true rfl⟩ (Nat.le_of_ble_eq_true rfl) 0 0 ⟨rfl, rfl⟩ ⟨Nat.zero_le _, Nat.zero_le _⟩ (by decide +kernel) _ rfl (fun q6 => []) (fun _ => rfl) (fun q6 => ?_)
    show X z 0 0 q6.1 30 [(0, ar this), (1, ai p0), (2, ai p1), (3, ai p2), (4, ai p3), (5, ai p4)] [] _
    refine x_aload_n C 0 (i := 0) (k0 := 0) rfl rfl (by decide +kernel) ?_
    refine x_gR C fl_RX11_10 (fun _ _ _ => rfl) (by decide +kernel) (fun tape_7 => ?_)
    refine x_iload_n C 3 (i := 3) (k0 := 3) rfl rfl (by decide +kernel) ?_
    refine x_callV C (ci := 6) (c_X6_append l D ca ra N q6.1 tape_7 p2) mt_X6_append mv_X6_append rfl ml_RX11_97 rfl (fun h => Bool.noConfusion h) ⟨Nat.le_of_ble_eq_true rfl, Nat.le_of_ble_eq_true rfl⟩ (Nat.le_of_ble_eq_true rfl) 0 0 ⟨rfl, rfl⟩ ⟨Nat.zero_le _, Nat.zero_le _⟩ (by decide +kernel) _ rfl (fun q8 => []) (fun _ => rfl) (fun q8 => ?_)
    refine x_aload_n C 0 (i := 0) (k0 := 0) rfl rfl (by decide +kernel) ?_
    refine x_gR C fl_RX11_10 (fun _ _ _ => rfl) (by decide +kernel) (fun tape_9 => ?_)
    refine x_iload C 4 (i := 4) rfl (by decide +kernel) ?_
    refine x_callV C (ci := 6) (c_X6_append l D ca ra N q8.1 tape_9 p3) mt_X6_append mv_X6_append rfl ml_RX11_97 rfl (fun h => Bool.noConfusion h) ⟨Nat.le_of_ble_eq_true rfl, Nat.le_of_ble_eq_true rfl⟩ (Nat.le_of_ble_eq_true rfl) 0 0 ⟨rfl, rfl⟩ ⟨Nat.zero_le _, Nat.zero_le _⟩ (by decide +kernel) _ rfl (fun q10 => []) (fun _ => rfl) (fun q10 => ?_)
    show X z 0 0 q10.1 47 [(0, ar this), (1, ai p0), (2, ai p1), (3, ai p2), (4, ai p3), (5, ai p4)] [] _
    refine x_aload_n C 0 (i := 0) (k0 := 0) rfl rfl (by decide +kernel) ?_
    refine x_gR C fl_RX11_10 (fun _ _ _ => rfl) (by decide +kernel) (fun tape_11 => ?_)
    refine x_iload C 5 (i := 5) rfl (by decide +kernel) ?_
    refine x_callV C (ci := 6) (c_X6_append l D ca ra N q10.1 tape_11 p4) mt_X6_append mv_X6_append rfl ml_RX11_97 rfl (fun h => Bool.noConfusion h) ⟨Nat.le_of_ble_eq_true rfl, Nat.le_of_ble_eq_true rfl⟩ (Nat.le_of_ble_eq_true rfl) 0 0 ⟨rfl, rfl⟩ ⟨Nat.zero_le _, Nat.zero_le _⟩ (by decide +kernel) _ rfl (fun q12 => []) (fun _ => rfl) (fun q12 => ?_)
    refine x_aload_n C 0 (i := 0) (k0 := 0) rfl rfl (by decide +kernel) ?_
    refine x_gR C fl_RX11_10 (fun _ _ _ => rfl) (by decide +kernel) (fun tape_13 => ?_)
    refine x_gI C fl_RX11_101 (fun _ _ _ => rfl) (by decide +kernel) (fun length_14 => ?_)
    exact x_iret C ⟨Nat.zero_le _, Nat.zero_le _⟩ (by decide +kernel)
  · skip
    refine x_iconst C (n := (-1)) (by decide +kernel) ?_
    exact x_iret C ⟨Nat.zero_le _, Nat.zero_le _⟩ (by decide +kernel)

def rm_X11_end : Room := { frames := 1, cells := 0, slots := 0, locals := 22 }
def f_X11_end (N : Nat) (σ : St) (this : Nat) (p0 : Int) : Option (St × Int) :=
 Option.bind (gR shx σ 11 this 0) fun tape_1 =>
 Option.bind (gI shx σ 6 tape_1 2) fun length_2 =>
 Option.bind (f_X11_within N σ p0 0 length_2) fun q3 =>
 (if wr q3.2 = 0 then some (σ, (-1)) else Option.bind (gR shx σ 11 this 0) fun tape_4 =>
 Option.bind (pI shx σ 6 tape_4 2 p0) fun σ5 =>
 some (σ5, p0))
set_option maxRecDepth 100000 in
set_option maxHeartbeats 4000000 in
theorem c_X11_end (l : Launch) (D : va_G) (ca : Nat → ClassId) (ra : Nat → Nat) (N : Nat) (σ : St) (this : Nat) (p0 : Int) : Ctr l (D, ca, ra, shx) false yX11_end cX11_end 2 (some .int) rm_X11_end σ [ar this, ai p0] (f_X11_end N σ this p0) := by
  refine ctr_of (by decide) (Nat.le_of_ble_eq_true rfl) (fun z C => ?_)
  show X z 0 0 σ 0 [(0, ar this), (1, ai p0)] [] _
  unfold f_X11_end
  refine x_iload_n C 1 (i := 1) (k0 := 1) rfl rfl (by decide +kernel) ?_
  refine x_iconst C (n := 0) (by decide +kernel) ?_
  refine x_aload_n C 0 (i := 0) (k0 := 0) rfl rfl (by decide +kernel) ?_
  refine x_gR C fl_RX11_10 (fun _ _ _ => rfl) (by decide +kernel) (fun tape_1 => ?_)
  refine x_gI C fl_RX11_101 (fun _ _ _ => rfl) (by decide +kernel) (fun length_2 => ?_)
  refine x_callSp C (c_X11_within l D ca ra N σ p0 0 length_2) (p_X11_within N σ p0 0 length_2) mt_X11_within ms_X11_within ml_RX11_105 rfl (fun h => Bool.noConfusion h) ⟨Nat.le_of_ble_eq_true rfl, Nat.le_of_ble_eq_true rfl⟩ (Nat.le_of_ble_eq_true rfl) 0 0 ⟨rfl, rfl⟩ ⟨Nat.zero_le _, Nat.zero_le _⟩ (by decide +kernel) _ rfl (fun q3 => [ai q3.2]) (fun _ => rfl) (fun q3 => ?_)
  refine x_if_ne C (tgt := 17) (off := 5) (by decide) (by decide +kernel) (fun h6 => ?_) (fun h6 => ?_)
  · skip
    refine x_aload_n C 0 (i := 0) (k0 := 0) rfl rfl (by decide +kernel) ?_
    refine x_gR C fl_RX11_10 (fun _ _ _ => rfl) (by decide +kernel) (fun tape_4 => ?_)
    refine x_iload_n C 1 (i := 1) (k0 := 1) rfl rfl (by decide +kernel) ?_
    refine x_pI C fl_RX11_101 rfl (fun q h => by cases h; rfl) (by decide +kernel) (fun σ5 => ?_)
    refine x_iload_n C 1 (i := 1) (k0 := 1) rfl rfl (by decide +kernel) ?_
    exact x_iret C ⟨Nat.zero_le _, Nat.zero_le _⟩ (by decide +kernel)
  · skip
    refine x_iconst C (n := (-1)) (by decide +kernel) ?_
    exact x_iret C ⟨Nat.zero_le _, Nat.zero_le _⟩ (by decide +kernel)

def rm_X11_fault : Room := { frames := 0, cells := 0, slots := 0, locals := 0 }
def f_X11_fault (N : Nat) (σ : St) (this : Nat) (p0 : Int) : Option (St × Int) :=
 (if wr p0 = 0 then Option.bind (gR shx σ 11 this 0) fun tape_4 =>
 Option.bind (gI shx σ 6 tape_4 12) fun fault_5 =>
 some (σ, fault_5) else (if wr p0 = wr 1 then Option.bind (gR shx σ 11 this 0) fun tape_1 =>
 Option.bind (gI shx σ 6 tape_1 13) fun place_2 =>
 some (σ, place_2) else some (σ, (-1))))
set_option maxRecDepth 100000 in
set_option maxHeartbeats 4000000 in
theorem c_X11_fault (l : Launch) (D : va_G) (ca : Nat → ClassId) (ra : Nat → Nat) (N : Nat) (σ : St) (this : Nat) (p0 : Int) : Ctr l (D, ca, ra, shx) false yX11_fault cX11_fault 2 (some .int) rm_X11_fault σ [ar this, ai p0] (f_X11_fault N σ this p0) := by
  refine ctr_of (by decide) (Nat.le_of_ble_eq_true rfl) (fun z C => ?_)
  show X z 0 0 σ 0 [(0, ar this), (1, ai p0)] [] _
  unfold f_X11_fault
  refine x_iload_n C 1 (i := 1) (k0 := 1) rfl rfl (by decide +kernel) ?_
  refine x_if_ne C (tgt := 12) (off := 11) (by decide) (by decide +kernel) (fun h6 => ?_) (fun h6 => ?_)
  · skip
    refine x_iload_n C 1 (i := 1) (k0 := 1) rfl rfl (by decide +kernel) ?_
    refine x_iconst C (n := 1) (by decide +kernel) ?_
    refine x_ic_ne C (tgt := 27) (off := 13) (by decide) (by decide +kernel) (fun h3 => ?_) (fun h3 => ?_)
    · skip
      refine x_iconst C (n := (-1)) (by decide +kernel) ?_
      exact x_iret C ⟨Nat.zero_le _, Nat.zero_le _⟩ (by decide +kernel)
    · skip
      refine x_aload_n C 0 (i := 0) (k0 := 0) rfl rfl (by decide +kernel) ?_
      refine x_gR C fl_RX11_10 (fun _ _ _ => rfl) (by decide +kernel) (fun tape_1 => ?_)
      refine x_gI C fl_RX11_133 (fun _ _ _ => rfl) (by decide +kernel) (fun place_2 => ?_)
      refine x_goto C (tgt := 28) (off := 4) (by decide) (by decide +kernel) ?_
      exact x_iret C ⟨Nat.zero_le _, Nat.zero_le _⟩ (by decide +kernel)
  · skip
    refine x_aload_n C 0 (i := 0) (k0 := 0) rfl rfl (by decide +kernel) ?_
    refine x_gR C fl_RX11_10 (fun _ _ _ => rfl) (by decide +kernel) (fun tape_4 => ?_)
    refine x_gI C fl_RX11_130 (fun _ _ _ => rfl) (by decide +kernel) (fun fault_5 => ?_)
    exact x_iret C ⟨Nat.zero_le _, Nat.zero_le _⟩ (by decide +kernel)
theorem p_X11_fault (N : Nat) (σ : St) (this : Nat) (p0 : Int) : Pu σ (f_X11_fault N σ this p0) := by
  unfold f_X11_fault
  refine pu_ifs ?_ ?_
  · skip
    refine pu_ifs ?_ ?_
    · skip
      exact pu_some
    · skip
      refine pu_bind (fun _ => ?_)
      refine pu_bind (fun _ => ?_)
      exact pu_some
  · skip
    refine pu_bind (fun _ => ?_)
    refine pu_bind (fun _ => ?_)
    exact pu_some

def rm_X11_isPart : Room := { frames := 1, cells := 0, slots := 0, locals := 22 }
def f_X11_isPart (N : Nat) (σ : St) (this : Nat) (p0 : Int) : Option (St × Int) :=
 Option.bind (gR shx σ 11 this 1) fun machine_1 =>
 Option.bind (gI shx σ 3 machine_1 1) fun parts_2 =>
 Option.bind (f_X11_within N σ p0 0 (parts_2 - 1)) fun q3 =>
 rZ σ q3.2
set_option maxRecDepth 100000 in
set_option maxHeartbeats 4000000 in
theorem c_X11_isPart (l : Launch) (D : va_G) (ca : Nat → ClassId) (ra : Nat → Nat) (N : Nat) (σ : St) (this : Nat) (p0 : Int) : Ctr l (D, ca, ra, shx) false yX11_isPart cX11_isPart 2 (some .boolean) rm_X11_isPart σ [ar this, ai p0] (f_X11_isPart N σ this p0) := by
  refine ctr_of (by decide) (Nat.le_of_ble_eq_true rfl) (fun z C => ?_)
  show X z 0 0 σ 0 [(0, ar this), (1, ai p0)] [] _
  unfold f_X11_isPart
  refine x_iload_n C 1 (i := 1) (k0 := 1) rfl rfl (by decide +kernel) ?_
  refine x_iconst C (n := 0) (by decide +kernel) ?_
  refine x_aload_n C 0 (i := 0) (k0 := 0) rfl rfl (by decide +kernel) ?_
  refine x_gR C fl_RX11_19 (fun _ _ _ => rfl) (by decide +kernel) (fun machine_1 => ?_)
  refine x_gI C fl_RX11_262 (fun _ _ _ => rfl) (by decide +kernel) (fun parts_2 => ?_)
  refine x_iconst C (n := 1) (by decide +kernel) ?_
  refine x_isub C (by decide +kernel) ?_
  refine x_callSp C (c_X11_within l D ca ra N σ p0 0 (parts_2 - 1)) (p_X11_within N σ p0 0 (parts_2 - 1)) mt_X11_within ms_X11_within ml_RX11_105 rfl (fun h => Bool.noConfusion h) ⟨Nat.le_of_ble_eq_true rfl, Nat.le_of_ble_eq_true rfl⟩ (Nat.le_of_ble_eq_true rfl) 0 0 ⟨rfl, rfl⟩ ⟨Nat.zero_le _, Nat.zero_le _⟩ (by decide +kernel) _ rfl (fun q3 => [ai q3.2]) (fun _ => rfl) (fun q3 => ?_)
  show X z 0 0 σ 14 [(0, ar this), (1, ai p0)] [ai q3.2] _
  exact x_rZ C ⟨Nat.zero_le _, Nat.zero_le _⟩ (by decide +kernel)
theorem p_X11_isPart (N : Nat) (σ : St) (this : Nat) (p0 : Int) : Pu σ (f_X11_isPart N σ this p0) := by
  unfold f_X11_isPart
  refine pu_bind (fun _ => ?_)
  refine pu_bind (fun _ => ?_)
  refine pu_bind (fun _ => ?_)
  exact pu_rZ

def rm_X11_mm : Room := { frames := 2, cells := 0, slots := 0, locals := 46 }
def f_X11_mm (N : Nat) (σ : St) (this : Nat) (p0 : Int) (p1 : Int) : Option (St × Int) :=
 Option.bind (rcv shx σ 11 this (f_X11_isPart N σ this p0)) fun q1 =>
 (if wr q1.2 = 0 then some (σ, (-1)) else Option.bind (f_X11_within N σ p1 0 30) fun q2 =>
 (if wr q2.2 = 0 then some (σ, (-1)) else Option.bind (gR shx σ 11 this 1) fun machine_3 =>
 Option.bind (rcv shx σ 3 machine_3 (f_X3_lengthAt N σ machine_3 p0 p1)) fun q4 =>
 some (σ, q4.2)))
set_option maxRecDepth 100000 in
set_option maxHeartbeats 4000000 in
theorem c_X11_mm (l : Launch) (D : va_G) (ca : Nat → ClassId) (ra : Nat → Nat) (N : Nat) (σ : St) (this : Nat) (p0 : Int) (p1 : Int) : Ctr l (D, ca, ra, shx) false yX11_mm cX11_mm 3 (some .int) rm_X11_mm σ [ar this, ai p0, ai p1] (f_X11_mm N σ this p0 p1) := by
  refine ctr_of (by decide) (Nat.le_of_ble_eq_true rfl) (fun z C => ?_)
  show X z 0 0 σ 0 [(0, ar this), (1, ai p0), (2, ai p1)] [] _
  unfold f_X11_mm
  refine x_aload_n C 0 (i := 0) (k0 := 0) rfl rfl (by decide +kernel) ?_
  refine x_iload_n C 1 (i := 1) (k0 := 1) rfl rfl (by decide +kernel) ?_
  refine x_callVp C (ci := 11) (c_X11_isPart l D ca ra N σ this p0) (p_X11_isPart N σ this p0) mt_X11_isPart mv_X11_isPart rfl ml_RX11_136 rfl (fun h => Bool.noConfusion h) ⟨Nat.le_of_ble_eq_true rfl, Nat.le_of_ble_eq_true rfl⟩ (Nat.le_of_ble_eq_true rfl) 0 0 ⟨rfl, rfl⟩ ⟨Nat.zero_le _, Nat.zero_le _⟩ (by decide +kernel) _ rfl (fun q1 => [ai q1.2]) (fun _ => rfl) (fun q1 => ?_)
  refine x_if_eq C (tgt := 18) (off := 13) (by decide) (by decide +kernel) (fun h6 => ?_) (fun h6 => ?_)
  · skip
    refine x_iconst C (n := (-1)) (by decide +kernel) ?_
    exact x_iret C ⟨Nat.zero_le _, Nat.zero_le _⟩ (by decide +kernel)
  · skip
    refine x_iload_n C 2 (i := 2) (k0 := 2) rfl rfl (by decide +kernel) ?_
    refine x_iconst C (n := 0) (by decide +kernel) ?_
    refine x_bipush C (n := 30) (by decide +kernel) (by decide +kernel) ?_
    refine x_callSp C (c_X11_within l D ca ra N σ p1 0 30) (p_X11_within N σ p1 0 30) mt_X11_within ms_X11_within ml_RX11_105 rfl (fun h => Bool.noConfusion h) ⟨Nat.le_of_ble_eq_true rfl, Nat.le_of_ble_eq_true rfl⟩ (Nat.le_of_ble_eq_true rfl) 0 0 ⟨rfl, rfl⟩ ⟨Nat.zero_le _, Nat.zero_le _⟩ (by decide +kernel) _ rfl (fun q2 => [ai q2.2]) (fun _ => rfl) (fun q2 => ?_)
    refine x_if_ne C (tgt := 20) (off := 5) (by decide) (by decide +kernel) (fun h5 => ?_) (fun h5 => ?_)
    · skip
      refine x_aload_n C 0 (i := 0) (k0 := 0) rfl rfl (by decide +kernel) ?_
      refine x_gR C fl_RX11_19 (fun _ _ _ => rfl) (by decide +kernel) (fun machine_3 => ?_)
      refine x_iload_n C 1 (i := 1) (k0 := 1) rfl rfl (by decide +kernel) ?_
      refine x_iload_n C 2 (i := 2) (k0 := 2) rfl rfl (by decide +kernel) ?_
      refine x_callVp C (ci := 3) (c_X3_lengthAt l D ca ra N σ machine_3 p0 p1) (p_X3_lengthAt N σ machine_3 p0 p1) mt_X3_lengthAt mv_X3_lengthAt rfl ml_RX11_139 rfl (fun h => Bool.noConfusion h) ⟨Nat.le_of_ble_eq_true rfl, Nat.le_of_ble_eq_true rfl⟩ (Nat.le_of_ble_eq_true rfl) 0 0 ⟨rfl, rfl⟩ ⟨Nat.zero_le _, Nat.zero_le _⟩ (by decide +kernel) _ rfl (fun q4 => [ai q4.2]) (fun _ => rfl) (fun q4 => ?_)
      exact x_iret C ⟨Nat.zero_le _, Nat.zero_le _⟩ (by decide +kernel)
    · skip
      refine x_iconst C (n := (-1)) (by decide +kernel) ?_
      exact x_iret C ⟨Nat.zero_le _, Nat.zero_le _⟩ (by decide +kernel)
theorem p_X11_mm (N : Nat) (σ : St) (this : Nat) (p0 : Int) (p1 : Int) : Pu σ (f_X11_mm N σ this p0 p1) := by
  unfold f_X11_mm
  refine pu_bind (fun _ => ?_)
  refine pu_if ?_ ?_
  · skip
    exact pu_some
  · skip
    refine pu_bind (fun _ => ?_)
    refine pu_ifs ?_ ?_
    · skip
      refine pu_bind (fun _ => ?_)
      refine pu_bind (fun _ => ?_)
      exact pu_some
    · skip
      exact pu_some

def L_X11_clash_16 (N : Nat) (σ : St) (this : Nat) (p0 : Int) : (Int × Int) → Option (St × Int) := fixN N fun b16_2 t2 =>
 Option.bind (gR shx σ 11 this 1) fun machine_4 =>
 Option.bind (gI shx σ 3 machine_4 7) fun joins_5 =>
 (if wr t2.2 < wr joins_5 then Option.bind (gR shx σ 11 this 1) fun machine_6 =>
 Option.bind (rcv shx σ 3 machine_6 (f_X3_fits N σ machine_6 t2.2 p0)) fun q7 =>
 Jn (fun t8 : Int => Lt (t2.2 + 1) fun x9 =>
 b16_2 (t8, x9)) fun J45_9 =>
 (if wr q7.2 = 0 then Lt (orZ t2.1 (shlZ 1 t2.2)) fun x11 =>
 J45_9 x11 else J45_9 t2.1) else some (σ, t2.1))
def rm_X11_clash : Room := { frames := 3, cells := 0, slots := 0, locals := 68 }
def f_X11_clash (N : Nat) (σ : St) (this : Nat) (p0 : Int) : Option (St × Int) :=
 Option.bind (f_X11_within N σ p0 0 30) fun q1 =>
 (if wr q1.2 = 0 then some (σ, (-1)) else L_X11_clash_16 N σ this p0 (0, 0))
set_option maxRecDepth 100000 in
set_option maxHeartbeats 4000000 in
theorem c_X11_clash (l : Launch) (D : va_G) (ca : Nat → ClassId) (ra : Nat → Nat) (N : Nat) (σ : St) (this : Nat) (p0 : Int) : Ctr l (D, ca, ra, shx) false yX11_clash cX11_clash 4 (some .int) rm_X11_clash σ [ar this, ai p0] (f_X11_clash N σ this p0) := by
  refine ctr_of (by decide) (Nat.le_of_ble_eq_true rfl) (fun z C => ?_)
  show X z 0 0 σ 0 [(0, ar this), (1, ai p0)] [] _
  unfold f_X11_clash
  refine x_iload_n C 1 (i := 1) (k0 := 1) rfl rfl (by decide +kernel) ?_
  refine x_iconst C (n := 0) (by decide +kernel) ?_
  refine x_bipush C (n := 30) (by decide +kernel) (by decide +kernel) ?_
  refine x_callSp C (c_X11_within l D ca ra N σ p0 0 30) (p_X11_within N σ p0 0 30) mt_X11_within ms_X11_within ml_RX11_105 rfl (fun h => Bool.noConfusion h) ⟨Nat.le_of_ble_eq_true rfl, Nat.le_of_ble_eq_true rfl⟩ (Nat.le_of_ble_eq_true rfl) 0 0 ⟨rfl, rfl⟩ ⟨Nat.zero_le _, Nat.zero_le _⟩ (by decide +kernel) _ rfl (fun q1 => [ai q1.2]) (fun _ => rfl) (fun q1 => ?_)
  refine x_if_ne C (tgt := 12) (off := 5) (by decide) (by decide +kernel) (fun h14 => ?_) (fun h14 => ?_)
  · skip
    refine x_iconst C (n := 0) (by decide +kernel) ?_
    refine x_istore_n C (i := 2) (k0 := 2) rfl (Nat.le_of_ble_eq_true rfl) (by decide +kernel) (lv2 := [(2, ai 0), (0, ar this), (1, ai p0)]) rfl ?_
    refine x_iconst C (n := 0) (by decide +kernel) ?_
    refine x_istore_n C (i := 3) (k0 := 3) rfl (Nat.le_of_ble_eq_true rfl) (by decide +kernel) (lv2 := [(3, ai 0), (2, ai 0), (0, ar this), (1, ai p0)]) rfl ?_
    refine x_sub [2, 3, 1, 0] (lv2 := [(0, ar this), (1, ai p0), (2, ai 0), (3, ai 0)]) rfl ?_
    -- LOOP L_X11_clash_16 hb16_2
    refine x_loop (T := Int × Int) (fun t => σ) (fun t => [(0, ar this), (1, ai p0), (2, ai t.1), (3, ai t.2)]) (0, 0) rfl (fun b16_2 hb16_2 t2 => ?_)
    show X z 0 0 σ 16 [(0, ar this), (1, ai p0), (2, ai t2.1), (3, ai t2.2)] [] _
    refine x_iload_n C 3 (i := 3) (k0 := 3) rfl rfl (by decide +kernel) ?_
    refine x_aload_n C 0 (i := 0) (k0 := 0) rfl rfl (by decide +kernel) ?_
    refine x_gR C fl_RX11_19 (fun _ _ _ => rfl) (by decide +kernel) (fun machine_4 => ?_)
    refine x_gI C fl_RX11_143 (fun _ _ _ => rfl) (by decide +kernel) (fun joins_5 => ?_)
    refine x_ic_ge C (tgt := 51) (off := 27) (by decide) (by decide +kernel) (fun h13 => ?_) (fun h13 => ?_)
    · skip
      refine x_iload_n C 2 (i := 2) (k0 := 2) rfl rfl (by decide +kernel) ?_
      exact x_iret C ⟨Nat.zero_le _, Nat.zero_le _⟩ (by decide +kernel)
    · skip
      refine x_aload_n C 0 (i := 0) (k0 := 0) rfl rfl (by decide +kernel) ?_
      refine x_gR C fl_RX11_19 (fun _ _ _ => rfl) (by decide +kernel) (fun machine_6 => ?_)
      refine x_iload_n C 3 (i := 3) (k0 := 3) rfl rfl (by decide +kernel) ?_
      refine x_iload_n C 1 (i := 1) (k0 := 1) rfl rfl (by decide +kernel) ?_
      refine x_callVp C (ci := 3) (c_X3_fits l D ca ra N σ machine_6 t2.2 p0) (p_X3_fits N σ machine_6 t2.2 p0) mt_X3_fits mv_X3_fits rfl ml_RX11_146 rfl (fun h => Bool.noConfusion h) ⟨Nat.le_of_ble_eq_true rfl, Nat.le_of_ble_eq_true rfl⟩ (Nat.le_of_ble_eq_true rfl) 0 0 ⟨rfl, rfl⟩ ⟨Nat.zero_le _, Nat.zero_le _⟩ (by decide +kernel) _ rfl (fun q7 => [ai q7.2]) (fun _ => rfl) (fun q7 => ?_)
      refine x_join (T := Int) (fun t => σ) 45 (fun t => [(0, ar this), (1, ai p0), (2, ai t), (3, ai t2.2)]) (fun t => []) (fun t8 => ?_) (fun J45_9 hJ45_9 => ?_)
      · show X z 0 0 σ 45 [(0, ar this), (1, ai p0), (2, ai t8), (3, ai t2.2)] [] _
        refine x_iinc C 3 (i := 3) (n := 1) (Nat.le_of_ble_eq_true rfl) rfl (by decide +kernel) (lv2 := fun x9 => [(3, ai x9), (0, ar this), (1, ai p0), (2, ai t8)]) (fun _ => rfl) (fun x9 => ?_)
        refine x_goto C (tgt := 16) (off := (-32)) (by decide) (by decide +kernel) ?_
        refine x_sub [1, 2, 3, 0] (lv2 := [(0, ar this), (1, ai p0), (2, ai t8), (3, ai x9)]) rfl ?_
        exact hb16_2 (t8, x9)
      · skip
        refine x_if_ne C (tgt := 45) (off := 9) (by decide) (by decide +kernel) (fun h12 => ?_) (fun h12 => ?_)
        · skip
          exact hJ45_9 t2.1
        · skip
          refine x_iload_n C 2 (i := 2) (k0 := 2) rfl rfl (by decide +kernel) ?_
          refine x_iconst C (n := 1) (by decide +kernel) ?_
          refine x_iload_n C 3 (i := 3) (k0 := 3) rfl rfl (by decide +kernel) ?_
          refine x_ishl C (by decide +kernel) ?_
          refine x_ior C (by decide +kernel) ?_
          refine x_istore_nL C (i := 2) (k0 := 2) rfl (Nat.le_of_ble_eq_true rfl) (by decide +kernel) (lv2 := fun x11 => [(2, ai x11), (0, ar this), (1, ai p0), (3, ai t2.2)]) (fun _ => rfl) (fun x11 => ?_)
          refine x_sub [1, 2, 0, 3] (lv2 := [(0, ar this), (1, ai p0), (2, ai x11), (3, ai t2.2)]) rfl ?_
          exact hJ45_9 x11
  · skip
    refine x_iconst C (n := (-1)) (by decide +kernel) ?_
    exact x_iret C ⟨Nat.zero_le _, Nat.zero_le _⟩ (by decide +kernel)
theorem p_X11_clash (N : Nat) (σ : St) (this : Nat) (p0 : Int) : Pu σ (f_X11_clash N σ this p0) := by
  unfold f_X11_clash
  refine pu_bind (fun _ => ?_)
  refine pu_ifs ?_ ?_
  · skip
    unfold L_X11_clash_16
    refine pu_fix (fun _ hb16_2 _ => ?_) _
    refine pu_bind (fun _ => ?_)
    refine pu_bind (fun _ => ?_)
    refine pu_ifs ?_ ?_
    · skip
      exact pu_some
    · skip
      refine pu_bind (fun _ => ?_)
      refine pu_bind (fun _ => ?_)
      refine pu_Jn (fun _ => ?_) (fun _ hJ45_9 => ?_)
      · skip
        refine pu_Lt (fun _ => ?_)
        exact hb16_2 _
      · skip
        refine pu_ifs ?_ ?_
        · skip
          exact hJ45_9 _
        · skip
          refine pu_Lt (fun _ => ?_)
          exact hJ45_9 _
  · skip
    exact pu_some

def L_X11_breaks_21 (N : Nat) (σ : St) (this : Nat) (p0 : Int) : Int → Option (St × Int) := fixN N fun b21_4 t4 =>
 (if wr 30 < wr t4 then some (σ, (-1)) else Option.bind (gR shx σ 11 this 1) fun machine_6 =>
 Option.bind (rcv shx σ 3 machine_6 (f_X3_fits N σ machine_6 p0 t4)) fun q7 =>
 (if wr q7.2 = 0 then some (σ, t4) else Lt (t4 + 1) fun x8 =>
 b21_4 x8))
def rm_X11_breaks : Room := { frames := 3, cells := 0, slots := 0, locals := 68 }
def f_X11_breaks (N : Nat) (σ : St) (this : Nat) (p0 : Int) : Option (St × Int) :=
 Option.bind (gR shx σ 11 this 1) fun machine_1 =>
 Option.bind (gI shx σ 3 machine_1 7) fun joins_2 =>
 Option.bind (f_X11_within N σ p0 0 (joins_2 - 1)) fun q3 =>
 (if wr q3.2 = 0 then some (σ, (-1)) else L_X11_breaks_21 N σ this p0 0)
set_option maxRecDepth 100000 in
set_option maxHeartbeats 4000000 in
theorem c_X11_breaks (l : Launch) (D : va_G) (ca : Nat → ClassId) (ra : Nat → Nat) (N : Nat) (σ : St) (this : Nat) (p0 : Int) : Ctr l (D, ca, ra, shx) false yX11_breaks cX11_breaks 3 (some .int) rm_X11_breaks σ [ar this, ai p0] (f_X11_breaks N σ this p0) := by
  refine ctr_of (by decide) (Nat.le_of_ble_eq_true rfl) (fun z C => ?_)
  show X z 0 0 σ 0 [(0, ar this), (1, ai p0)] [] _
  unfold f_X11_breaks
  refine x_iload_n C 1 (i := 1) (k0 := 1) rfl rfl (by decide +kernel) ?_
  refine x_iconst C (n := 0) (by decide +kernel) ?_
  refine x_aload_n C 0 (i := 0) (k0 := 0) rfl rfl (by decide +kernel) ?_
  refine x_gR C fl_RX11_19 (fun _ _ _ => rfl) (by decide +kernel) (fun machine_1 => ?_)
  refine x_gI C fl_RX11_143 (fun _ _ _ => rfl) (by decide +kernel) (fun joins_2 => ?_)
  refine x_iconst C (n := 1) (by decide +kernel) ?_
  refine x_isub C (by decide +kernel) ?_
  refine x_callSp C (c_X11_within l D ca ra N σ p0 0 (joins_2 - 1)) (p_X11_within N σ p0 0 (joins_2 - 1)) mt_X11_within ms_X11_within ml_RX11_105 rfl (fun h => Bool.noConfusion h) ⟨Nat.le_of_ble_eq_true rfl, Nat.le_of_ble_eq_true rfl⟩ (Nat.le_of_ble_eq_true rfl) 0 0 ⟨rfl, rfl⟩ ⟨Nat.zero_le _, Nat.zero_le _⟩ (by decide +kernel) _ rfl (fun q3 => [ai q3.2]) (fun _ => rfl) (fun q3 => ?_)
  show X z 0 0 σ 14 [(0, ar this), (1, ai p0)] [ai q3.2] _
  refine x_if_ne C (tgt := 19) (off := 5) (by decide) (by decide +kernel) (fun h11 => ?_) (fun h11 => ?_)
  · skip
    refine x_iconst C (n := 0) (by decide +kernel) ?_
    refine x_istore_n C (i := 2) (k0 := 2) rfl (Nat.le_of_ble_eq_true rfl) (by decide +kernel) (lv2 := [(2, ai 0), (0, ar this), (1, ai p0)]) rfl ?_
    refine x_sub [1, 2, 0] (lv2 := [(0, ar this), (1, ai p0), (2, ai 0)]) rfl ?_
    -- LOOP L_X11_breaks_21 hb21_4
    refine x_loop (T := Int) (fun t => σ) (fun t => [(0, ar this), (1, ai p0), (2, ai t)]) 0 rfl (fun b21_4 hb21_4 t4 => ?_)
    show X z 0 0 σ 21 [(0, ar this), (1, ai p0), (2, ai t4)] [] _
    refine x_iload_n C 2 (i := 2) (k0 := 2) rfl rfl (by decide +kernel) ?_
    refine x_bipush C (n := 30) (by decide +kernel) (by decide +kernel) ?_
    refine x_ic_gt C (tgt := 47) (off := 23) (by decide) (by decide +kernel) (fun h10 => ?_) (fun h10 => ?_)
    · skip
      refine x_iconst C (n := (-1)) (by decide +kernel) ?_
      exact x_iret C ⟨Nat.zero_le _, Nat.zero_le _⟩ (by decide +kernel)
    · skip
      refine x_aload_n C 0 (i := 0) (k0 := 0) rfl rfl (by decide +kernel) ?_
      refine x_gR C fl_RX11_19 (fun _ _ _ => rfl) (by decide +kernel) (fun machine_6 => ?_)
      refine x_iload_n C 1 (i := 1) (k0 := 1) rfl rfl (by decide +kernel) ?_
      refine x_iload_n C 2 (i := 2) (k0 := 2) rfl rfl (by decide +kernel) ?_
      refine x_callVp C (ci := 3) (c_X3_fits l D ca ra N σ machine_6 p0 t4) (p_X3_fits N σ machine_6 p0 t4) mt_X3_fits mv_X3_fits rfl ml_RX11_146 rfl (fun h => Bool.noConfusion h) ⟨Nat.le_of_ble_eq_true rfl, Nat.le_of_ble_eq_true rfl⟩ (Nat.le_of_ble_eq_true rfl) 0 0 ⟨rfl, rfl⟩ ⟨Nat.zero_le _, Nat.zero_le _⟩ (by decide +kernel) _ rfl (fun q7 => [ai q7.2]) (fun _ => rfl) (fun q7 => ?_)
      refine x_if_ne C (tgt := 41) (off := 5) (by decide) (by decide +kernel) (fun h9 => ?_) (fun h9 => ?_)
      · skip
        refine x_iinc C 2 (i := 2) (n := 1) (Nat.le_of_ble_eq_true rfl) rfl (by decide +kernel) (lv2 := fun x8 => [(2, ai x8), (0, ar this), (1, ai p0)]) (fun _ => rfl) (fun x8 => ?_)
        refine x_goto C (tgt := 21) (off := (-23)) (by decide) (by decide +kernel) ?_
        refine x_sub [1, 2, 0] (lv2 := [(0, ar this), (1, ai p0), (2, ai x8)]) rfl ?_
        exact hb21_4 x8
      · skip
        refine x_iload_n C 2 (i := 2) (k0 := 2) rfl rfl (by decide +kernel) ?_
        exact x_iret C ⟨Nat.zero_le _, Nat.zero_le _⟩ (by decide +kernel)
  · skip
    refine x_iconst C (n := (-1)) (by decide +kernel) ?_
    exact x_iret C ⟨Nat.zero_le _, Nat.zero_le _⟩ (by decide +kernel)
theorem p_X11_breaks (N : Nat) (σ : St) (this : Nat) (p0 : Int) : Pu σ (f_X11_breaks N σ this p0) := by
  unfold f_X11_breaks
  refine pu_bind (fun _ => ?_)
  refine pu_bind (fun _ => ?_)
  refine pu_bind (fun _ => ?_)
  refine pu_ifs ?_ ?_
  · skip
    unfold L_X11_breaks_21
    refine pu_fix (fun _ hb21_4 _ => ?_) _
    refine pu_if ?_ ?_
    · skip
      exact pu_some
    · skip
      refine pu_bind (fun _ => ?_)
      refine pu_bind (fun _ => ?_)
      refine pu_ifs ?_ ?_
      · skip
        refine pu_Lt (fun _ => ?_)
        exact hb21_4 _
      · skip
        exact pu_some
  · skip
    exact pu_some

def rm_X11_mend : Room := { frames := 6, cells := 0, slots := 0, locals := 146 }
def f_X11_mend (N : Nat) (σ : St) (this : Nat) (p0 : Int) : Option (St × Int) :=
 Option.bind (f_X11_within N σ p0 0 2) fun q1 =>
 (if wr q1.2 = 0 then some (σ, (-1)) else Option.bind (gR shx σ 11 this 3) fun mender_2 =>
 Option.bind (gR shx σ 11 this 1) fun machine_3 =>
 Option.bind (rcv shx σ 4 mender_2 (f_X4_search N σ mender_2 machine_3)) fun q4 =>
 Option.bind (gR shx q4.1 11 this 3) fun mender_5 =>
 Option.bind (gI shx q4.1 4 mender_5 0) fun part_6 =>
 (if wr part_6 = wr (-1) then some (q4.1, (-1)) else (if wr p0 = 0 then Option.bind (gR shx q4.1 11 this 3) fun mender_12 =>
 Option.bind (gI shx q4.1 4 mender_12 0) fun part_13 =>
 some (q4.1, part_13) else (if wr p0 = wr 1 then Option.bind (gR shx q4.1 11 this 3) fun mender_9 =>
 Option.bind (gI shx q4.1 4 mender_9 1) fun length_10 =>
 some (q4.1, length_10) else Option.bind (gR shx q4.1 11 this 3) fun mender_7 =>
 Option.bind (gI shx q4.1 4 mender_7 2) fun fitting_8 =>
 some (q4.1, fitting_8)))))
set_option maxRecDepth 100000 in
set_option maxHeartbeats 4000000 in
theorem c_X11_mend (l : Launch) (D : va_G) (ca : Nat → ClassId) (ra : Nat → Nat) (N : Nat) (σ : St) (this : Nat) (p0 : Int) : Ctr l (D, ca, ra, shx) false yX11_mend cX11_mend 2 (some .int) rm_X11_mend σ [ar this, ai p0] (f_X11_mend N σ this p0) := by
  refine ctr_of (by decide) (Nat.le_of_ble_eq_true rfl) (fun z C => ?_)
  show X z 0 0 σ 0 [(0, ar this), (1, ai p0)] [] _
  unfold f_X11_mend
  refine x_iload_n C 1 (i := 1) (k0 := 1) rfl rfl (by decide +kernel) ?_
  refine x_iconst C (n := 0) (by decide +kernel) ?_
  refine x_iconst C (n := 2) (by decide +kernel) ?_
  refine x_callSp C (c_X11_within l D ca ra N σ p0 0 2) (p_X11_within N σ p0 0 2) mt_X11_within ms_X11_within ml_RX11_105 rfl (fun h => Bool.noConfusion h) ⟨Nat.le_of_ble_eq_true rfl, Nat.le_of_ble_eq_true rfl⟩ (Nat.le_of_ble_eq_true rfl) 0 0 ⟨rfl, rfl⟩ ⟨Nat.zero_le _, Nat.zero_le _⟩ (by decide +kernel) _ rfl (fun q1 => [ai q1.2]) (fun _ => rfl) (fun q1 => ?_)
  refine x_if_ne C (tgt := 11) (off := 5) (by decide) (by decide +kernel) (fun h16 => ?_) (fun h16 => ?_)
  · skip
    refine x_aload_n C 0 (i := 0) (k0 := 0) rfl rfl (by decide +kernel) ?_
    refine x_gR C fl_RX11_29 (fun _ _ _ => rfl) (by decide +kernel) (fun mender_2 => ?_)
    refine x_aload_n C 0 (i := 0) (k0 := 0) rfl rfl (by decide +kernel) ?_
    refine x_gR C fl_RX11_19 (fun _ _ _ => rfl) (by decide +kernel) (fun machine_3 => ?_)
    refine x_callV C (ci := 4) (c_X4_search l D ca ra N σ mender_2 machine_3) mt_X4_search mv_X4_search rfl ml_RX11_150 rfl (fun h => Bool.noConfusion h) ⟨Nat.le_of_ble_eq_true rfl, Nat.le_of_ble_eq_true rfl⟩ (Nat.le_of_ble_eq_true rfl) 0 0 ⟨rfl, rfl⟩ ⟨Nat.zero_le _, Nat.zero_le _⟩ (by decide +kernel) _ rfl (fun q4 => []) (fun _ => rfl) (fun q4 => ?_)
    refine x_aload_n C 0 (i := 0) (k0 := 0) rfl rfl (by decide +kernel) ?_
    refine x_gR C fl_RX11_29 (fun _ _ _ => rfl) (by decide +kernel) (fun mender_5 => ?_)
    refine x_gI C fl_RX11_154 (fun _ _ _ => rfl) (by decide +kernel) (fun part_6 => ?_)
    show X z 0 0 q4.1 29 [(0, ar this), (1, ai p0)] [ai part_6] _
    refine x_iconst C (n := (-1)) (by decide +kernel) ?_
    refine x_ic_ne C (tgt := 35) (off := 5) (by decide) (by decide +kernel) (fun h15 => ?_) (fun h15 => ?_)
    · skip
      refine x_iload_n C 1 (i := 1) (k0 := 1) rfl rfl (by decide +kernel) ?_
      refine x_if_ne C (tgt := 47) (off := 11) (by decide) (by decide +kernel) (fun h14 => ?_) (fun h14 => ?_)
      · skip
        refine x_iload_n C 1 (i := 1) (k0 := 1) rfl rfl (by decide +kernel) ?_
        refine x_iconst C (n := 1) (by decide +kernel) ?_
        refine x_ic_ne C (tgt := 62) (off := 13) (by decide) (by decide +kernel) (fun h11 => ?_) (fun h11 => ?_)
        · skip
          refine x_aload_n C 0 (i := 0) (k0 := 0) rfl rfl (by decide +kernel) ?_
          refine x_gR C fl_RX11_29 (fun _ _ _ => rfl) (by decide +kernel) (fun mender_7 => ?_)
          refine x_gI C fl_RX11_158 (fun _ _ _ => rfl) (by decide +kernel) (fun fitting_8 => ?_)
          exact x_iret C ⟨Nat.zero_le _, Nat.zero_le _⟩ (by decide +kernel)
        · skip
          refine x_aload_n C 0 (i := 0) (k0 := 0) rfl rfl (by decide +kernel) ?_
          refine x_gR C fl_RX11_29 (fun _ _ _ => rfl) (by decide +kernel) (fun mender_9 => ?_)
          refine x_gI C fl_RX11_157 (fun _ _ _ => rfl) (by decide +kernel) (fun length_10 => ?_)
          refine x_goto C (tgt := 69) (off := 10) (by decide) (by decide +kernel) ?_
          exact x_iret C ⟨Nat.zero_le _, Nat.zero_le _⟩ (by decide +kernel)
      · skip
        refine x_aload_n C 0 (i := 0) (k0 := 0) rfl rfl (by decide +kernel) ?_
        refine x_gR C fl_RX11_29 (fun _ _ _ => rfl) (by decide +kernel) (fun mender_12 => ?_)
        refine x_gI C fl_RX11_154 (fun _ _ _ => rfl) (by decide +kernel) (fun part_13 => ?_)
        exact x_iret C ⟨Nat.zero_le _, Nat.zero_le _⟩ (by decide +kernel)
    · skip
      refine x_iconst C (n := (-1)) (by decide +kernel) ?_
      exact x_iret C ⟨Nat.zero_le _, Nat.zero_le _⟩ (by decide +kernel)
  · skip
    refine x_iconst C (n := (-1)) (by decide +kernel) ?_
    exact x_iret C ⟨Nat.zero_le _, Nat.zero_le _⟩ (by decide +kernel)

def rm_X11_unlike : Room := { frames := 6, cells := 0, slots := 0, locals := 145 }
def f_X11_unlike (N : Nat) (σ : St) (this : Nat) (p0 : Int) (p1 : Int) (p2 : Int) : Option (St × Int) :=
 Option.bind (f_X11_isTongue N σ p0) fun q1 =>
 (if wr q1.2 = 0 then some (σ, (-1)) else Option.bind (f_X11_isTongue N σ p1) fun q2 =>
 (if wr q2.2 = 0 then some (σ, (-1)) else Option.bind (gR shx σ 11 this 6) fun differences_3 =>
 Option.bind (gR shx σ 11 this 4) fun treaties_4 =>
 Option.bind (rcv shx σ 8 differences_3 (f_X8_between N σ differences_3 treaties_4 p0 p1 p2)) fun q5 =>
 some (q5.1, q5.2)))
set_option maxRecDepth 100000 in
set_option maxHeartbeats 4000000 in
theorem c_X11_unlike (l : Launch) (D : va_G) (ca : Nat → ClassId) (ra : Nat → Nat) (N : Nat) (σ : St) (this : Nat) (p0 : Int) (p1 : Int) (p2 : Int) : Ctr l (D, ca, ra, shx) false yX11_unlike cX11_unlike 4 (some .int) rm_X11_unlike σ [ar this, ai p0, ai p1, ai p2] (f_X11_unlike N σ this p0 p1 p2) := by
  refine ctr_of (by decide) (Nat.le_of_ble_eq_true rfl) (fun z C => ?_)
  show X z 0 0 σ 0 [(0, ar this), (1, ai p0), (2, ai p1), (3, ai p2)] [] _
  unfold f_X11_unlike
  refine x_iload_n C 1 (i := 1) (k0 := 1) rfl rfl (by decide +kernel) ?_
  refine x_callSp C (c_X11_isTongue l D ca ra N σ p0) (p_X11_isTongue N σ p0) mt_X11_isTongue ms_X11_isTongue ml_RX11_124 rfl (fun h => Bool.noConfusion h) ⟨Nat.le_of_ble_eq_true rfl, Nat.le_of_ble_eq_true rfl⟩ (Nat.le_of_ble_eq_true rfl) 0 0 ⟨rfl, rfl⟩ ⟨Nat.zero_le _, Nat.zero_le _⟩ (by decide +kernel) _ rfl (fun q1 => [ai q1.2]) (fun _ => rfl) (fun q1 => ?_)
  refine x_if_eq C (tgt := 14) (off := 10) (by decide) (by decide +kernel) (fun h7 => ?_) (fun h7 => ?_)
  · skip
    refine x_iconst C (n := (-1)) (by decide +kernel) ?_
    exact x_iret C ⟨Nat.zero_le _, Nat.zero_le _⟩ (by decide +kernel)
  · skip
    refine x_iload_n C 2 (i := 2) (k0 := 2) rfl rfl (by decide +kernel) ?_
    refine x_callSp C (c_X11_isTongue l D ca ra N σ p1) (p_X11_isTongue N σ p1) mt_X11_isTongue ms_X11_isTongue ml_RX11_124 rfl (fun h => Bool.noConfusion h) ⟨Nat.le_of_ble_eq_true rfl, Nat.le_of_ble_eq_true rfl⟩ (Nat.le_of_ble_eq_true rfl) 0 0 ⟨rfl, rfl⟩ ⟨Nat.zero_le _, Nat.zero_le _⟩ (by decide +kernel) _ rfl (fun q2 => [ai q2.2]) (fun _ => rfl) (fun q2 => ?_)
    refine x_if_ne C (tgt := 16) (off := 5) (by decide) (by decide +kernel) (fun h6 => ?_) (fun h6 => ?_)
    · skip
      refine x_aload_n C 0 (i := 0) (k0 := 0) rfl rfl (by decide +kernel) ?_
      refine x_gR C fl_RX11_47 (fun _ _ _ => rfl) (by decide +kernel) (fun differences_3 => ?_)
      refine x_aload_n C 0 (i := 0) (k0 := 0) rfl rfl (by decide +kernel) ?_
      refine x_gR C fl_RX11_35 (fun _ _ _ => rfl) (by decide +kernel) (fun treaties_4 => ?_)
      refine x_iload_n C 1 (i := 1) (k0 := 1) rfl rfl (by decide +kernel) ?_
      refine x_iload_n C 2 (i := 2) (k0 := 2) rfl rfl (by decide +kernel) ?_
      refine x_iload_n C 3 (i := 3) (k0 := 3) rfl rfl (by decide +kernel) ?_
      refine x_callV C (ci := 8) (c_X8_between l D ca ra N σ differences_3 treaties_4 p0 p1 p2) mt_X8_between mv_X8_between rfl ml_RX11_161 rfl (fun h => Bool.noConfusion h) ⟨Nat.le_of_ble_eq_true rfl, Nat.le_of_ble_eq_true rfl⟩ (Nat.le_of_ble_eq_true rfl) 0 0 ⟨rfl, rfl⟩ ⟨Nat.zero_le _, Nat.zero_le _⟩ (by decide +kernel) _ rfl (fun q5 => [ai q5.2]) (fun _ => rfl) (fun q5 => ?_)
      show X z 0 0 q5.1 30 [(0, ar this), (1, ai p0), (2, ai p1), (3, ai p2)] [ai q5.2] _
      exact x_iret C ⟨Nat.zero_le _, Nat.zero_le _⟩ (by decide +kernel)
    · skip
      refine x_iconst C (n := (-1)) (by decide +kernel) ?_
      exact x_iret C ⟨Nat.zero_le _, Nat.zero_le _⟩ (by decide +kernel)

def rm_X11_change : Room := { frames := 2, cells := 0, slots := 0, locals := 43 }
def f_X11_change (N : Nat) (σ : St) (this : Nat) (p0 : Int) (p1 : Int) : Option (St × Int) :=
 Option.bind (rcv shx σ 11 this (f_X11_isPart N σ this p0)) fun q1 =>
 (if wr q1.2 = 0 then some (σ, (-1)) else Option.bind (f_X11_isMonth N σ p1) fun q2 =>
 (if wr q2.2 = 0 then some (σ, (-1)) else Option.bind (gR shx σ 11 this 7) fun facts_3 =>
 Option.bind (rcv shx σ 1 facts_3 (f_X1_tell N σ facts_3 0 p1 p0)) fun q4 =>
 some (q4.1, q4.2)))
set_option maxRecDepth 100000 in
set_option maxHeartbeats 4000000 in
theorem c_X11_change (l : Launch) (D : va_G) (ca : Nat → ClassId) (ra : Nat → Nat) (N : Nat) (σ : St) (this : Nat) (p0 : Int) (p1 : Int) : Ctr l (D, ca, ra, shx) false yX11_change cX11_change 3 (some .int) rm_X11_change σ [ar this, ai p0, ai p1] (f_X11_change N σ this p0 p1) := by
  refine ctr_of (by decide) (Nat.le_of_ble_eq_true rfl) (fun z C => ?_)
  show X z 0 0 σ 0 [(0, ar this), (1, ai p0), (2, ai p1)] [] _
  unfold f_X11_change
  refine x_aload_n C 0 (i := 0) (k0 := 0) rfl rfl (by decide +kernel) ?_
  refine x_iload_n C 1 (i := 1) (k0 := 1) rfl rfl (by decide +kernel) ?_
  refine x_callVp C (ci := 11) (c_X11_isPart l D ca ra N σ this p0) (p_X11_isPart N σ this p0) mt_X11_isPart mv_X11_isPart rfl ml_RX11_136 rfl (fun h => Bool.noConfusion h) ⟨Nat.le_of_ble_eq_true rfl, Nat.le_of_ble_eq_true rfl⟩ (Nat.le_of_ble_eq_true rfl) 0 0 ⟨rfl, rfl⟩ ⟨Nat.zero_le _, Nat.zero_le _⟩ (by decide +kernel) _ rfl (fun q1 => [ai q1.2]) (fun _ => rfl) (fun q1 => ?_)
  refine x_if_eq C (tgt := 15) (off := 10) (by decide) (by decide +kernel) (fun h6 => ?_) (fun h6 => ?_)
  · skip
    refine x_iconst C (n := (-1)) (by decide +kernel) ?_
    exact x_iret C ⟨Nat.zero_le _, Nat.zero_le _⟩ (by decide +kernel)
  · skip
    refine x_iload_n C 2 (i := 2) (k0 := 2) rfl rfl (by decide +kernel) ?_
    refine x_callSp C (c_X11_isMonth l D ca ra N σ p1) (p_X11_isMonth N σ p1) mt_X11_isMonth ms_X11_isMonth ml_RX11_165 rfl (fun h => Bool.noConfusion h) ⟨Nat.le_of_ble_eq_true rfl, Nat.le_of_ble_eq_true rfl⟩ (Nat.le_of_ble_eq_true rfl) 0 0 ⟨rfl, rfl⟩ ⟨Nat.zero_le _, Nat.zero_le _⟩ (by decide +kernel) _ rfl (fun q2 => [ai q2.2]) (fun _ => rfl) (fun q2 => ?_)
    refine x_if_ne C (tgt := 17) (off := 5) (by decide) (by decide +kernel) (fun h5 => ?_) (fun h5 => ?_)
    · skip
      refine x_aload_n C 0 (i := 0) (k0 := 0) rfl rfl (by decide +kernel) ?_
      refine x_gR C fl_RX11_54 (fun _ _ _ => rfl) (by decide +kernel) (fun facts_3 => ?_)
      refine x_iconst C (n := 0) (by decide +kernel) ?_
      refine x_iload_n C 2 (i := 2) (k0 := 2) rfl rfl (by decide +kernel) ?_
      refine x_iload_n C 1 (i := 1) (k0 := 1) rfl rfl (by decide +kernel) ?_
      refine x_callV C (ci := 1) (c_X1_tell l D ca ra N σ facts_3 0 p1 p0) mt_X1_tell mv_X1_tell rfl ml_RX11_168 rfl (fun h => Bool.noConfusion h) ⟨Nat.le_of_ble_eq_true rfl, Nat.le_of_ble_eq_true rfl⟩ (Nat.le_of_ble_eq_true rfl) 0 0 ⟨rfl, rfl⟩ ⟨Nat.zero_le _, Nat.zero_le _⟩ (by decide +kernel) _ rfl (fun q4 => [ai q4.2]) (fun _ => rfl) (fun q4 => ?_)
      exact x_iret C ⟨Nat.zero_le _, Nat.zero_le _⟩ (by decide +kernel)
    · skip
      refine x_iconst C (n := (-1)) (by decide +kernel) ?_
      exact x_iret C ⟨Nat.zero_le _, Nat.zero_le _⟩ (by decide +kernel)

def rm_X11_estimate : Room := { frames := 2, cells := 0, slots := 0, locals := 42 }
def f_X11_estimate (N : Nat) (σ : St) (this : Nat) (p0 : Int) (p1 : Int) : Option (St × Int) :=
 Option.bind (f_X11_isMonth N σ p0) fun q1 =>
 (if wr q1.2 = 0 then some (σ, (-1)) else Option.bind (f_X11_within N σ p1 0 99999) fun q2 =>
 (if wr q2.2 = 0 then some (σ, (-1)) else Option.bind (gR shx σ 11 this 7) fun facts_3 =>
 Option.bind (rcv shx σ 1 facts_3 (f_X1_tell N σ facts_3 1 p0 p1)) fun q4 =>
 some (q4.1, q4.2)))
set_option maxRecDepth 100000 in
set_option maxHeartbeats 4000000 in
theorem c_X11_estimate (l : Launch) (D : va_G) (ca : Nat → ClassId) (ra : Nat → Nat) (N : Nat) (σ : St) (this : Nat) (p0 : Int) (p1 : Int) : Ctr l (D, ca, ra, shx) false yX11_estimate cX11_estimate 3 (some .int) rm_X11_estimate σ [ar this, ai p0, ai p1] (f_X11_estimate N σ this p0 p1) := by
  refine ctr_of (by decide) (Nat.le_of_ble_eq_true rfl) (fun z C => ?_)
  show X z 0 0 σ 0 [(0, ar this), (1, ai p0), (2, ai p1)] [] _
  unfold f_X11_estimate
  refine x_iload_n C 1 (i := 1) (k0 := 1) rfl rfl (by decide +kernel) ?_
  refine x_callSp C (c_X11_isMonth l D ca ra N σ p0) (p_X11_isMonth N σ p0) mt_X11_isMonth ms_X11_isMonth ml_RX11_165 rfl (fun h => Bool.noConfusion h) ⟨Nat.le_of_ble_eq_true rfl, Nat.le_of_ble_eq_true rfl⟩ (Nat.le_of_ble_eq_true rfl) 0 0 ⟨rfl, rfl⟩ ⟨Nat.zero_le _, Nat.zero_le _⟩ (by decide +kernel) _ rfl (fun q1 => [ai q1.2]) (fun _ => rfl) (fun q1 => ?_)
  refine x_if_eq C (tgt := 17) (off := 13) (by decide) (by decide +kernel) (fun h6 => ?_) (fun h6 => ?_)
  · skip
    refine x_iconst C (n := (-1)) (by decide +kernel) ?_
    exact x_iret C ⟨Nat.zero_le _, Nat.zero_le _⟩ (by decide +kernel)
  · skip
    refine x_iload_n C 2 (i := 2) (k0 := 2) rfl rfl (by decide +kernel) ?_
    refine x_iconst C (n := 0) (by decide +kernel) ?_
    refine x_ldc C (n := 99999) (v := 99999) kc_RX11_172 (by decide +kernel) (by decide +kernel) ?_
    refine x_callSp C (c_X11_within l D ca ra N σ p1 0 99999) (p_X11_within N σ p1 0 99999) mt_X11_within ms_X11_within ml_RX11_105 rfl (fun h => Bool.noConfusion h) ⟨Nat.le_of_ble_eq_true rfl, Nat.le_of_ble_eq_true rfl⟩ (Nat.le_of_ble_eq_true rfl) 0 0 ⟨rfl, rfl⟩ ⟨Nat.zero_le _, Nat.zero_le _⟩ (by decide +kernel) _ rfl (fun q2 => [ai q2.2]) (fun _ => rfl) (fun q2 => ?_)
    refine x_if_ne C (tgt := 19) (off := 5) (by decide) (by decide +kernel) (fun h5 => ?_) (fun h5 => ?_)
    · skip
      refine x_aload_n C 0 (i := 0) (k0 := 0) rfl rfl (by decide +kernel) ?_
      refine x_gR C fl_RX11_54 (fun _ _ _ => rfl) (by decide +kernel) (fun facts_3 => ?_)
      refine x_iconst C (n := 1) (by decide +kernel) ?_
      refine x_iload_n C 1 (i := 1) (k0 := 1) rfl rfl (by decide +kernel) ?_
      refine x_iload_n C 2 (i := 2) (k0 := 2) rfl rfl (by decide +kernel) ?_
      refine x_callV C (ci := 1) (c_X1_tell l D ca ra N σ facts_3 1 p0 p1) mt_X1_tell mv_X1_tell rfl ml_RX11_168 rfl (fun h => Bool.noConfusion h) ⟨Nat.le_of_ble_eq_true rfl, Nat.le_of_ble_eq_true rfl⟩ (Nat.le_of_ble_eq_true rfl) 0 0 ⟨rfl, rfl⟩ ⟨Nat.zero_le _, Nat.zero_le _⟩ (by decide +kernel) _ rfl (fun q4 => [ai q4.2]) (fun _ => rfl) (fun q4 => ?_)
      exact x_iret C ⟨Nat.zero_le _, Nat.zero_le _⟩ (by decide +kernel)
    · skip
      refine x_iconst C (n := (-1)) (by decide +kernel) ?_
      exact x_iret C ⟨Nat.zero_le _, Nat.zero_le _⟩ (by decide +kernel)

def rm_X11_show : Room := { frames := 2, cells := 0, slots := 0, locals := 42 }
def f_X11_show (N : Nat) (σ : St) (this : Nat) (p0 : Int) (p1 : Int) : Option (St × Int) :=
 Option.bind (f_X11_isMonth N σ p0) fun q1 =>
 (if wr q1.2 = 0 then some (σ, (-1)) else Option.bind (f_X11_within N σ p1 1 255) fun q2 =>
 (if wr q2.2 = 0 then some (σ, (-1)) else Option.bind (gR shx σ 11 this 7) fun facts_3 =>
 Option.bind (rcv shx σ 1 facts_3 (f_X1_tell N σ facts_3 2 p0 p1)) fun q4 =>
 some (q4.1, q4.2)))
set_option maxRecDepth 100000 in
set_option maxHeartbeats 4000000 in
theorem c_X11_show (l : Launch) (D : va_G) (ca : Nat → ClassId) (ra : Nat → Nat) (N : Nat) (σ : St) (this : Nat) (p0 : Int) (p1 : Int) : Ctr l (D, ca, ra, shx) false yX11_show cX11_show 3 (some .int) rm_X11_show σ [ar this, ai p0, ai p1] (f_X11_show N σ this p0 p1) := by
  refine ctr_of (by decide) (Nat.le_of_ble_eq_true rfl) (fun z C => ?_)
  show X z 0 0 σ 0 [(0, ar this), (1, ai p0), (2, ai p1)] [] _
  unfold f_X11_show
  refine x_iload_n C 1 (i := 1) (k0 := 1) rfl rfl (by decide +kernel) ?_
  refine x_callSp C (c_X11_isMonth l D ca ra N σ p0) (p_X11_isMonth N σ p0) mt_X11_isMonth ms_X11_isMonth ml_RX11_165 rfl (fun h => Bool.noConfusion h) ⟨Nat.le_of_ble_eq_true rfl, Nat.le_of_ble_eq_true rfl⟩ (Nat.le_of_ble_eq_true rfl) 0 0 ⟨rfl, rfl⟩ ⟨Nat.zero_le _, Nat.zero_le _⟩ (by decide +kernel) _ rfl (fun q1 => [ai q1.2]) (fun _ => rfl) (fun q1 => ?_)
  refine x_if_eq C (tgt := 18) (off := 14) (by decide) (by decide +kernel) (fun h6 => ?_) (fun h6 => ?_)
  · skip
    refine x_iconst C (n := (-1)) (by decide +kernel) ?_
    exact x_iret C ⟨Nat.zero_le _, Nat.zero_le _⟩ (by decide +kernel)
  · skip
    refine x_iload_n C 2 (i := 2) (k0 := 2) rfl rfl (by decide +kernel) ?_
    refine x_iconst C (n := 1) (by decide +kernel) ?_
    refine x_sipush C (n := 255) (by decide +kernel) (by decide +kernel) ?_
    refine x_callSp C (c_X11_within l D ca ra N σ p1 1 255) (p_X11_within N σ p1 1 255) mt_X11_within ms_X11_within ml_RX11_105 rfl (fun h => Bool.noConfusion h) ⟨Nat.le_of_ble_eq_true rfl, Nat.le_of_ble_eq_true rfl⟩ (Nat.le_of_ble_eq_true rfl) 0 0 ⟨rfl, rfl⟩ ⟨Nat.zero_le _, Nat.zero_le _⟩ (by decide +kernel) _ rfl (fun q2 => [ai q2.2]) (fun _ => rfl) (fun q2 => ?_)
    refine x_if_ne C (tgt := 20) (off := 5) (by decide) (by decide +kernel) (fun h5 => ?_) (fun h5 => ?_)
    · skip
      refine x_aload_n C 0 (i := 0) (k0 := 0) rfl rfl (by decide +kernel) ?_
      refine x_gR C fl_RX11_54 (fun _ _ _ => rfl) (by decide +kernel) (fun facts_3 => ?_)
      refine x_iconst C (n := 2) (by decide +kernel) ?_
      refine x_iload_n C 1 (i := 1) (k0 := 1) rfl rfl (by decide +kernel) ?_
      refine x_iload_n C 2 (i := 2) (k0 := 2) rfl rfl (by decide +kernel) ?_
      refine x_callV C (ci := 1) (c_X1_tell l D ca ra N σ facts_3 2 p0 p1) mt_X1_tell mv_X1_tell rfl ml_RX11_168 rfl (fun h => Bool.noConfusion h) ⟨Nat.le_of_ble_eq_true rfl, Nat.le_of_ble_eq_true rfl⟩ (Nat.le_of_ble_eq_true rfl) 0 0 ⟨rfl, rfl⟩ ⟨Nat.zero_le _, Nat.zero_le _⟩ (by decide +kernel) _ rfl (fun q4 => [ai q4.2]) (fun _ => rfl) (fun q4 => ?_)
      exact x_iret C ⟨Nat.zero_le _, Nat.zero_le _⟩ (by decide +kernel)
    · skip
      refine x_iconst C (n := (-1)) (by decide +kernel) ?_
      exact x_iret C ⟨Nat.zero_le _, Nat.zero_le _⟩ (by decide +kernel)

def rm_X11_untell : Room := { frames := 2, cells := 0, slots := 0, locals := 43 }
def f_X11_untell (N : Nat) (σ : St) (this : Nat) (p0 : Int) : Option (St × Int) :=
 Option.bind (gR shx σ 11 this 7) fun facts_1 =>
 Option.bind (rcv shx σ 1 facts_1 (f_X1_takeBack N σ facts_1 p0)) fun q2 =>
 rZ q2.1 q2.2
set_option maxRecDepth 100000 in
set_option maxHeartbeats 4000000 in
theorem c_X11_untell (l : Launch) (D : va_G) (ca : Nat → ClassId) (ra : Nat → Nat) (N : Nat) (σ : St) (this : Nat) (p0 : Int) : Ctr l (D, ca, ra, shx) false yX11_untell cX11_untell 2 (some .boolean) rm_X11_untell σ [ar this, ai p0] (f_X11_untell N σ this p0) := by
  refine ctr_of (by decide) (Nat.le_of_ble_eq_true rfl) (fun z C => ?_)
  show X z 0 0 σ 0 [(0, ar this), (1, ai p0)] [] _
  unfold f_X11_untell
  refine x_aload_n C 0 (i := 0) (k0 := 0) rfl rfl (by decide +kernel) ?_
  refine x_gR C fl_RX11_54 (fun _ _ _ => rfl) (by decide +kernel) (fun facts_1 => ?_)
  refine x_iload_n C 1 (i := 1) (k0 := 1) rfl rfl (by decide +kernel) ?_
  refine x_callV C (ci := 1) (c_X1_takeBack l D ca ra N σ facts_1 p0) mt_X1_takeBack mv_X1_takeBack rfl ml_RX11_173 rfl (fun h => Bool.noConfusion h) ⟨Nat.le_of_ble_eq_true rfl, Nat.le_of_ble_eq_true rfl⟩ (Nat.le_of_ble_eq_true rfl) 0 0 ⟨rfl, rfl⟩ ⟨Nat.zero_le _, Nat.zero_le _⟩ (by decide +kernel) _ rfl (fun q2 => [ai q2.2]) (fun _ => rfl) (fun q2 => ?_)
  exact x_rZ C ⟨Nat.zero_le _, Nat.zero_le _⟩ (by decide +kernel)

def rm_X11_later : Room := { frames := 2, cells := 0, slots := 0, locals := 43 }
def f_X11_later (N : Nat) (σ : St) (this : Nat) (p0 : Int) : Option (St × Int) :=
 Option.bind (gR shx σ 11 this 7) fun facts_1 =>
 Option.bind (rcv shx σ 1 facts_1 (f_X1_letPass N σ facts_1 p0)) fun q2 =>
 some (q2.1, q2.2)
set_option maxRecDepth 100000 in
set_option maxHeartbeats 4000000 in
theorem c_X11_later (l : Launch) (D : va_G) (ca : Nat → ClassId) (ra : Nat → Nat) (N : Nat) (σ : St) (this : Nat) (p0 : Int) : Ctr l (D, ca, ra, shx) false yX11_later cX11_later 2 (some .int) rm_X11_later σ [ar this, ai p0] (f_X11_later N σ this p0) := by
  refine ctr_of (by decide) (Nat.le_of_ble_eq_true rfl) (fun z C => ?_)
  show X z 0 0 σ 0 [(0, ar this), (1, ai p0)] [] _
  unfold f_X11_later
  refine x_aload_n C 0 (i := 0) (k0 := 0) rfl rfl (by decide +kernel) ?_
  refine x_gR C fl_RX11_54 (fun _ _ _ => rfl) (by decide +kernel) (fun facts_1 => ?_)
  refine x_iload_n C 1 (i := 1) (k0 := 1) rfl rfl (by decide +kernel) ?_
  refine x_callV C (ci := 1) (c_X1_letPass l D ca ra N σ facts_1 p0) mt_X1_letPass mv_X1_letPass rfl ml_RX11_176 rfl (fun h => Bool.noConfusion h) ⟨Nat.le_of_ble_eq_true rfl, Nat.le_of_ble_eq_true rfl⟩ (Nat.le_of_ble_eq_true rfl) 0 0 ⟨rfl, rfl⟩ ⟨Nat.zero_le _, Nat.zero_le _⟩ (by decide +kernel) _ rfl (fun q2 => [ai q2.2]) (fun _ => rfl) (fun q2 => ?_)
  exact x_iret C ⟨Nat.zero_le _, Nat.zero_le _⟩ (by decide +kernel)

def rm_X11_moves : Room := { frames := 4, cells := 0, slots := 0, locals := 90 }
def f_X11_moves (N : Nat) (σ : St) (this : Nat) (p0 : Int) (p1 : Int) : Option (St × Int) :=
 Option.bind (rcv shx σ 11 this (f_X11_isPart N σ this p0)) fun q1 =>
 (if wr q1.2 = 0 then some (σ, (-1)) else Option.bind (gR shx σ 11 this 7) fun facts_2 =>
 Option.bind (gR shx σ 11 this 1) fun machine_3 =>
 Option.bind (rcv shx σ 1 facts_2 (f_X1_findMonths N σ facts_2 machine_3 p1)) fun q4 =>
 Option.bind (gR shx q4.1 11 this 7) fun facts_5 =>
 Option.bind (rcv shx q4.1 1 facts_5 (f_X1_monthOf N q4.1 facts_5 p0)) fun q6 =>
 some (q4.1, q6.2))
set_option maxRecDepth 100000 in
set_option maxHeartbeats 4000000 in
theorem c_X11_moves (l : Launch) (D : va_G) (ca : Nat → ClassId) (ra : Nat → Nat) (N : Nat) (σ : St) (this : Nat) (p0 : Int) (p1 : Int) : Ctr l (D, ca, ra, shx) false yX11_moves cX11_moves 3 (some .int) rm_X11_moves σ [ar this, ai p0, ai p1] (f_X11_moves N σ this p0 p1) := by
  refine ctr_of (by decide) (Nat.le_of_ble_eq_true rfl) (fun z C => ?_)
  show X z 0 0 σ 0 [(0, ar this), (1, ai p0), (2, ai p1)] [] _
  unfold f_X11_moves
  refine x_aload_n C 0 (i := 0) (k0 := 0) rfl rfl (by decide +kernel) ?_
  refine x_iload_n C 1 (i := 1) (k0 := 1) rfl rfl (by decide +kernel) ?_
  refine x_callVp C (ci := 11) (c_X11_isPart l D ca ra N σ this p0) (p_X11_isPart N σ this p0) mt_X11_isPart mv_X11_isPart rfl ml_RX11_136 rfl (fun h => Bool.noConfusion h) ⟨Nat.le_of_ble_eq_true rfl, Nat.le_of_ble_eq_true rfl⟩ (Nat.le_of_ble_eq_true rfl) 0 0 ⟨rfl, rfl⟩ ⟨Nat.zero_le _, Nat.zero_le _⟩ (by decide +kernel) _ rfl (fun q1 => [ai q1.2]) (fun _ => rfl) (fun q1 => ?_)
  refine x_if_ne C (tgt := 10) (off := 5) (by decide) (by decide +kernel) (fun h7 => ?_) (fun h7 => ?_)
  · skip
    refine x_aload_n C 0 (i := 0) (k0 := 0) rfl rfl (by decide +kernel) ?_
    refine x_gR C fl_RX11_54 (fun _ _ _ => rfl) (by decide +kernel) (fun facts_2 => ?_)
    refine x_aload_n C 0 (i := 0) (k0 := 0) rfl rfl (by decide +kernel) ?_
    refine x_gR C fl_RX11_19 (fun _ _ _ => rfl) (by decide +kernel) (fun machine_3 => ?_)
    refine x_iload_n C 2 (i := 2) (k0 := 2) rfl rfl (by decide +kernel) ?_
    refine x_callV C (ci := 1) (c_X1_findMonths l D ca ra N σ facts_2 machine_3 p1) mt_X1_findMonths mv_X1_findMonths rfl ml_RX11_180 rfl (fun h => Bool.noConfusion h) ⟨Nat.le_of_ble_eq_true rfl, Nat.le_of_ble_eq_true rfl⟩ (Nat.le_of_ble_eq_true rfl) 0 0 ⟨rfl, rfl⟩ ⟨Nat.zero_le _, Nat.zero_le _⟩ (by decide +kernel) _ rfl (fun q4 => []) (fun _ => rfl) (fun q4 => ?_)
    refine x_aload_n C 0 (i := 0) (k0 := 0) rfl rfl (by decide +kernel) ?_
    refine x_gR C fl_RX11_54 (fun _ _ _ => rfl) (by decide +kernel) (fun facts_5 => ?_)
    show X z 0 0 q4.1 26 [(0, ar this), (1, ai p0), (2, ai p1)] [ar facts_5] _
    refine x_iload_n C 1 (i := 1) (k0 := 1) rfl rfl (by decide +kernel) ?_
    refine x_callVp C (ci := 1) (c_X1_monthOf l D ca ra N q4.1 facts_5 p0) (p_X1_monthOf N q4.1 facts_5 p0) mt_X1_monthOf mv_X1_monthOf rfl ml_RX11_184 rfl (fun h => Bool.noConfusion h) ⟨Nat.le_of_ble_eq_true rfl, Nat.le_of_ble_eq_true rfl⟩ (Nat.le_of_ble_eq_true rfl) 0 0 ⟨rfl, rfl⟩ ⟨Nat.zero_le _, Nat.zero_le _⟩ (by decide +kernel) _ rfl (fun q6 => [ai q6.2]) (fun _ => rfl) (fun q6 => ?_)
    exact x_iret C ⟨Nat.zero_le _, Nat.zero_le _⟩ (by decide +kernel)
  · skip
    refine x_iconst C (n := (-1)) (by decide +kernel) ?_
    exact x_iret C ⟨Nat.zero_le _, Nat.zero_le _⟩ (by decide +kernel)

def rm_X11_cost : Room := { frames := 4, cells := 0, slots := 0, locals := 90 }
def f_X11_cost (N : Nat) (σ : St) (this : Nat) (p0 : Int) (p1 : Int) : Option (St × Int) :=
 Option.bind (f_X11_within N σ p0 0 999) fun q1 =>
 (if wr q1.2 = 0 then some (σ, (-1)) else Option.bind (gR shx σ 11 this 7) fun facts_2 =>
 Option.bind (gR shx σ 11 this 1) fun machine_3 =>
 Option.bind (rcv shx σ 1 facts_2 (f_X1_findMonths N σ facts_2 machine_3 p1)) fun q4 =>
 Option.bind (gR shx q4.1 11 this 7) fun facts_5 =>
 Option.bind (gR shx q4.1 11 this 1) fun machine_6 =>
 Option.bind (rcv shx q4.1 1 facts_5 (f_X1_spent N q4.1 facts_5 machine_6 p0 p0)) fun q7 =>
 some (q4.1, q7.2))
set_option maxRecDepth 100000 in
set_option maxHeartbeats 4000000 in
theorem c_X11_cost (l : Launch) (D : va_G) (ca : Nat → ClassId) (ra : Nat → Nat) (N : Nat) (σ : St) (this : Nat) (p0 : Int) (p1 : Int) : Ctr l (D, ca, ra, shx) false yX11_cost cX11_cost 3 (some .int) rm_X11_cost σ [ar this, ai p0, ai p1] (f_X11_cost N σ this p0 p1) := by
  refine ctr_of (by decide) (Nat.le_of_ble_eq_true rfl) (fun z C => ?_)
  show X z 0 0 σ 0 [(0, ar this), (1, ai p0), (2, ai p1)] [] _
  unfold f_X11_cost
  refine x_iload_n C 1 (i := 1) (k0 := 1) rfl rfl (by decide +kernel) ?_
  refine x_iconst C (n := 0) (by decide +kernel) ?_
  refine x_sipush C (n := 999) (by decide +kernel) (by decide +kernel) ?_
  refine x_callSp C (c_X11_within l D ca ra N σ p0 0 999) (p_X11_within N σ p0 0 999) mt_X11_within ms_X11_within ml_RX11_105 rfl (fun h => Bool.noConfusion h) ⟨Nat.le_of_ble_eq_true rfl, Nat.le_of_ble_eq_true rfl⟩ (Nat.le_of_ble_eq_true rfl) 0 0 ⟨rfl, rfl⟩ ⟨Nat.zero_le _, Nat.zero_le _⟩ (by decide +kernel) _ rfl (fun q1 => [ai q1.2]) (fun _ => rfl) (fun q1 => ?_)
  refine x_if_ne C (tgt := 13) (off := 5) (by decide) (by decide +kernel) (fun h8 => ?_) (fun h8 => ?_)
  · skip
    refine x_aload_n C 0 (i := 0) (k0 := 0) rfl rfl (by decide +kernel) ?_
    refine x_gR C fl_RX11_54 (fun _ _ _ => rfl) (by decide +kernel) (fun facts_2 => ?_)
    refine x_aload_n C 0 (i := 0) (k0 := 0) rfl rfl (by decide +kernel) ?_
    refine x_gR C fl_RX11_19 (fun _ _ _ => rfl) (by decide +kernel) (fun machine_3 => ?_)
    refine x_iload_n C 2 (i := 2) (k0 := 2) rfl rfl (by decide +kernel) ?_
    refine x_callV C (ci := 1) (c_X1_findMonths l D ca ra N σ facts_2 machine_3 p1) mt_X1_findMonths mv_X1_findMonths rfl ml_RX11_180 rfl (fun h => Bool.noConfusion h) ⟨Nat.le_of_ble_eq_true rfl, Nat.le_of_ble_eq_true rfl⟩ (Nat.le_of_ble_eq_true rfl) 0 0 ⟨rfl, rfl⟩ ⟨Nat.zero_le _, Nat.zero_le _⟩ (by decide +kernel) _ rfl (fun q4 => []) (fun _ => rfl) (fun q4 => ?_)
    refine x_aload_n C 0 (i := 0) (k0 := 0) rfl rfl (by decide +kernel) ?_
    refine x_gR C fl_RX11_54 (fun _ _ _ => rfl) (by decide +kernel) (fun facts_5 => ?_)
    show X z 0 0 q4.1 29 [(0, ar this), (1, ai p0), (2, ai p1)] [ar facts_5] _
    refine x_aload_n C 0 (i := 0) (k0 := 0) rfl rfl (by decide +kernel) ?_
    refine x_gR C fl_RX11_19 (fun _ _ _ => rfl) (by decide +kernel) (fun machine_6 => ?_)
    refine x_iload_n C 1 (i := 1) (k0 := 1) rfl rfl (by decide +kernel) ?_
    refine x_iload_n C 1 (i := 1) (k0 := 1) rfl rfl (by decide +kernel) ?_
    refine x_callVp C (ci := 1) (c_X1_spent l D ca ra N q4.1 facts_5 machine_6 p0 p0) (p_X1_spent N q4.1 facts_5 machine_6 p0 p0) mt_X1_spent mv_X1_spent rfl ml_RX11_187 rfl (fun h => Bool.noConfusion h) ⟨Nat.le_of_ble_eq_true rfl, Nat.le_of_ble_eq_true rfl⟩ (Nat.le_of_ble_eq_true rfl) 0 0 ⟨rfl, rfl⟩ ⟨Nat.zero_le _, Nat.zero_le _⟩ (by decide +kernel) _ rfl (fun q7 => [ai q7.2]) (fun _ => rfl) (fun q7 => ?_)
    exact x_iret C ⟨Nat.zero_le _, Nat.zero_le _⟩ (by decide +kernel)
  · skip
    refine x_iconst C (n := (-1)) (by decide +kernel) ?_
    exact x_iret C ⟨Nat.zero_le _, Nat.zero_le _⟩ (by decide +kernel)

def rm_X11_pays : Room := { frames := 5, cells := 0, slots := 0, locals := 119 }
def f_X11_pays (N : Nat) (σ : St) (this : Nat) (p0 : Int) (p1 : Int) (p2 : Int) : Option (St × Int) :=
 Option.bind (f_X11_within N σ p0 0 1) fun q1 =>
 (if wr q1.2 = 0 then some (σ, (-1)) else Option.bind (f_X11_isTongue N σ p1) fun q2 =>
 (if wr q2.2 = 0 then some (σ, (-1)) else Option.bind (gR shx σ 11 this 7) fun facts_3 =>
 Option.bind (gR shx σ 11 this 1) fun machine_4 =>
 Option.bind (rcv shx σ 1 facts_3 (f_X1_findMonths N σ facts_3 machine_4 p2)) fun q5 =>
 Option.bind (gR shx q5.1 11 this 7) fun facts_6 =>
 Option.bind (gR shx q5.1 11 this 1) fun machine_7 =>
 Option.bind (gR shx q5.1 11 this 4) fun treaties_8 =>
 Option.bind (aR shx q5.1 5 treaties_8 p1) fun r9 =>
 Option.bind (rcv shx q5.1 1 facts_6 (f_X1_paidBy N q5.1 facts_6 p0 machine_7 r9)) fun q10 =>
 some (q10.1, q10.2)))
set_option maxRecDepth 100000 in
set_option maxHeartbeats 4000000 in
theorem c_X11_pays (l : Launch) (D : va_G) (ca : Nat → ClassId) (ra : Nat → Nat) (N : Nat) (σ : St) (this : Nat) (p0 : Int) (p1 : Int) (p2 : Int) : Ctr l (D, ca, ra, shx) false yX11_pays cX11_pays 4 (some .int) rm_X11_pays σ [ar this, ai p0, ai p1, ai p2] (f_X11_pays N σ this p0 p1 p2) := by
  refine ctr_of (by decide) (Nat.le_of_ble_eq_true rfl) (fun z C => ?_)
  show X z 0 0 σ 0 [(0, ar this), (1, ai p0), (2, ai p1), (3, ai p2)] [] _
  unfold f_X11_pays
  refine x_iload_n C 1 (i := 1) (k0 := 1) rfl rfl (by decide +kernel) ?_
  refine x_iconst C (n := 0) (by decide +kernel) ?_
  refine x_iconst C (n := 1) (by decide +kernel) ?_
  refine x_callSp C (c_X11_within l D ca ra N σ p0 0 1) (p_X11_within N σ p0 0 1) mt_X11_within ms_X11_within ml_RX11_105 rfl (fun h => Bool.noConfusion h) ⟨Nat.le_of_ble_eq_true rfl, Nat.le_of_ble_eq_true rfl⟩ (Nat.le_of_ble_eq_true rfl) 0 0 ⟨rfl, rfl⟩ ⟨Nat.zero_le _, Nat.zero_le _⟩ (by decide +kernel) _ rfl (fun q1 => [ai q1.2]) (fun _ => rfl) (fun q1 => ?_)
  refine x_if_eq C (tgt := 16) (off := 10) (by decide) (by decide +kernel) (fun h12 => ?_) (fun h12 => ?_)
  · skip
    refine x_iconst C (n := (-1)) (by decide +kernel) ?_
    exact x_iret C ⟨Nat.zero_le _, Nat.zero_le _⟩ (by decide +kernel)
  · skip
    refine x_iload_n C 2 (i := 2) (k0 := 2) rfl rfl (by decide +kernel) ?_
    refine x_callSp C (c_X11_isTongue l D ca ra N σ p1) (p_X11_isTongue N σ p1) mt_X11_isTongue ms_X11_isTongue ml_RX11_124 rfl (fun h => Bool.noConfusion h) ⟨Nat.le_of_ble_eq_true rfl, Nat.le_of_ble_eq_true rfl⟩ (Nat.le_of_ble_eq_true rfl) 0 0 ⟨rfl, rfl⟩ ⟨Nat.zero_le _, Nat.zero_le _⟩ (by decide +kernel) _ rfl (fun q2 => [ai q2.2]) (fun _ => rfl) (fun q2 => ?_)
    refine x_if_ne C (tgt := 18) (off := 5) (by decide) (by decide +kernel) (fun h11 => ?_) (fun h11 => ?_)
    · skip
      refine x_aload_n C 0 (i := 0) (k0 := 0) rfl rfl (by decide +kernel) ?_
      refine x_gR C fl_RX11_54 (fun _ _ _ => rfl) (by decide +kernel) (fun facts_3 => ?_)
      refine x_aload_n C 0 (i := 0) (k0 := 0) rfl rfl (by decide +kernel) ?_
      refine x_gR C fl_RX11_19 (fun _ _ _ => rfl) (by decide +kernel) (fun machine_4 => ?_)
      refine x_iload_n C 3 (i := 3) (k0 := 3) rfl rfl (by decide +kernel) ?_
      refine x_callV C (ci := 1) (c_X1_findMonths l D ca ra N σ facts_3 machine_4 p2) mt_X1_findMonths mv_X1_findMonths rfl ml_RX11_180 rfl (fun h => Bool.noConfusion h) ⟨Nat.le_of_ble_eq_true rfl, Nat.le_of_ble_eq_true rfl⟩ (Nat.le_of_ble_eq_true rfl) 0 0 ⟨rfl, rfl⟩ ⟨Nat.zero_le _, Nat.zero_le _⟩ (by decide +kernel) _ rfl (fun q5 => []) (fun _ => rfl) (fun q5 => ?_)
      refine x_aload_n C 0 (i := 0) (k0 := 0) rfl rfl (by decide +kernel) ?_
      refine x_gR C fl_RX11_54 (fun _ _ _ => rfl) (by decide +kernel) (fun facts_6 => ?_)
      show X z 0 0 q5.1 34 [(0, ar this), (1, ai p0), (2, ai p1), (3, ai p2)] [ar facts_6] _
      refine x_iload_n C 1 (i := 1) (k0 := 1) rfl rfl (by decide +kernel) ?_
      refine x_aload_n C 0 (i := 0) (k0 := 0) rfl rfl (by decide +kernel) ?_
      refine x_gR C fl_RX11_19 (fun _ _ _ => rfl) (by decide +kernel) (fun machine_7 => ?_)
      refine x_aload_n C 0 (i := 0) (k0 := 0) rfl rfl (by decide +kernel) ?_
      refine x_gR C fl_RX11_35 (fun _ _ _ => rfl) (by decide +kernel) (fun treaties_8 => ?_)
      refine x_iload_n C 2 (i := 2) (k0 := 2) rfl rfl (by decide +kernel) ?_
      refine x_aldR5 C (by decide +kernel) (fun r9 => ?_)
      refine x_callV C (ci := 1) (c_X1_paidBy l D ca ra N q5.1 facts_6 p0 machine_7 r9) mt_X1_paidBy mv_X1_paidBy rfl ml_RX11_191 rfl (fun h => Bool.noConfusion h) ⟨Nat.le_of_ble_eq_true rfl, Nat.le_of_ble_eq_true rfl⟩ (Nat.le_of_ble_eq_true rfl) 0 0 ⟨rfl, rfl⟩ ⟨Nat.zero_le _, Nat.zero_le _⟩ (by decide +kernel) _ rfl (fun q10 => [ai q10.2]) (fun _ => rfl) (fun q10 => ?_)
      show X z 0 0 q10.1 48 [(0, ar this), (1, ai p0), (2, ai p1), (3, ai p2)] [ai q10.2] _
      exact x_iret C ⟨Nat.zero_le _, Nat.zero_le _⟩ (by decide +kernel)
    · skip
      refine x_iconst C (n := (-1)) (by decide +kernel) ?_
      exact x_iret C ⟨Nat.zero_le _, Nat.zero_le _⟩ (by decide +kernel)

def rm_X11_over : Room := { frames := 5, cells := 0, slots := 0, locals := 114 }
def f_X11_over (N : Nat) (σ : St) (this : Nat) (p0 : Int) (p1 : Int) : Option (St × Int) :=
 Option.bind (f_X11_isMonth N σ p0) fun q1 =>
 (if wr q1.2 = 0 then some (σ, (-1)) else Option.bind (gR shx σ 11 this 7) fun facts_2 =>
 Option.bind (gR shx σ 11 this 1) fun machine_3 =>
 Option.bind (rcv shx σ 1 facts_2 (f_X1_overrun N σ facts_2 machine_3 p0 p1)) fun q4 =>
 some (q4.1, q4.2))
set_option maxRecDepth 100000 in
set_option maxHeartbeats 4000000 in
theorem c_X11_over (l : Launch) (D : va_G) (ca : Nat → ClassId) (ra : Nat → Nat) (N : Nat) (σ : St) (this : Nat) (p0 : Int) (p1 : Int) : Ctr l (D, ca, ra, shx) false yX11_over cX11_over 3 (some .int) rm_X11_over σ [ar this, ai p0, ai p1] (f_X11_over N σ this p0 p1) := by
  refine ctr_of (by decide) (Nat.le_of_ble_eq_true rfl) (fun z C => ?_)
  show X z 0 0 σ 0 [(0, ar this), (1, ai p0), (2, ai p1)] [] _
  unfold f_X11_over
  refine x_iload_n C 1 (i := 1) (k0 := 1) rfl rfl (by decide +kernel) ?_
  refine x_callSp C (c_X11_isMonth l D ca ra N σ p0) (p_X11_isMonth N σ p0) mt_X11_isMonth ms_X11_isMonth ml_RX11_165 rfl (fun h => Bool.noConfusion h) ⟨Nat.le_of_ble_eq_true rfl, Nat.le_of_ble_eq_true rfl⟩ (Nat.le_of_ble_eq_true rfl) 0 0 ⟨rfl, rfl⟩ ⟨Nat.zero_le _, Nat.zero_le _⟩ (by decide +kernel) _ rfl (fun q1 => [ai q1.2]) (fun _ => rfl) (fun q1 => ?_)
  refine x_if_ne C (tgt := 9) (off := 5) (by decide) (by decide +kernel) (fun h5 => ?_) (fun h5 => ?_)
  · skip
    refine x_aload_n C 0 (i := 0) (k0 := 0) rfl rfl (by decide +kernel) ?_
    refine x_gR C fl_RX11_54 (fun _ _ _ => rfl) (by decide +kernel) (fun facts_2 => ?_)
    refine x_aload_n C 0 (i := 0) (k0 := 0) rfl rfl (by decide +kernel) ?_
    refine x_gR C fl_RX11_19 (fun _ _ _ => rfl) (by decide +kernel) (fun machine_3 => ?_)
    refine x_iload_n C 1 (i := 1) (k0 := 1) rfl rfl (by decide +kernel) ?_
    refine x_iload_n C 2 (i := 2) (k0 := 2) rfl rfl (by decide +kernel) ?_
    refine x_callV C (ci := 1) (c_X1_overrun l D ca ra N σ facts_2 machine_3 p0 p1) mt_X1_overrun mv_X1_overrun rfl ml_RX11_195 rfl (fun h => Bool.noConfusion h) ⟨Nat.le_of_ble_eq_true rfl, Nat.le_of_ble_eq_true rfl⟩ (Nat.le_of_ble_eq_true rfl) 0 0 ⟨rfl, rfl⟩ ⟨Nat.zero_le _, Nat.zero_le _⟩ (by decide +kernel) _ rfl (fun q4 => [ai q4.2]) (fun _ => rfl) (fun q4 => ?_)
    exact x_iret C ⟨Nat.zero_le _, Nat.zero_le _⟩ (by decide +kernel)
  · skip
    refine x_iconst C (n := (-1)) (by decide +kernel) ?_
    exact x_iret C ⟨Nat.zero_le _, Nat.zero_le _⟩ (by decide +kernel)

def rm_X11_leave : Room := { frames := 5, cells := 0, slots := 0, locals := 114 }
def f_X11_leave (N : Nat) (σ : St) (this : Nat) (p0 : Int) (p1 : Int) (p2 : Int) : Option (St × Int) :=
 Option.bind (f_X11_isMonth N σ p0) fun q1 =>
 (if wr q1.2 = 0 then some (σ, (-1)) else Option.bind (f_X11_isTongue N σ p1) fun q2 =>
 (if wr q2.2 = 0 then some (σ, (-1)) else Option.bind (gR shx σ 11 this 4) fun treaties_3 =>
 Option.bind (aR shx σ 5 treaties_3 p1) fun r4 =>
 Option.bind (gR shx σ 11 this 7) fun facts_5 =>
 Option.bind (gR shx σ 11 this 1) fun machine_6 =>
 Option.bind (rcv shx σ 1 facts_5 (f_X1_overrun N σ facts_5 machine_6 p0 p2)) fun q7 =>
 Option.bind (rcv shx q7.1 7 r4 (f_X7_mayLeave N q7.1 r4 p0 q7.2)) fun q8 =>
 (if wr q8.2 = 0 then some (q8.1, 0) else some (q8.1, 1))))
set_option maxRecDepth 100000 in
set_option maxHeartbeats 4000000 in
theorem c_X11_leave (l : Launch) (D : va_G) (ca : Nat → ClassId) (ra : Nat → Nat) (N : Nat) (σ : St) (this : Nat) (p0 : Int) (p1 : Int) (p2 : Int) : Ctr l (D, ca, ra, shx) false yX11_leave cX11_leave 4 (some .int) rm_X11_leave σ [ar this, ai p0, ai p1, ai p2] (f_X11_leave N σ this p0 p1 p2) := by
  refine ctr_of (by decide) (Nat.le_of_ble_eq_true rfl) (fun z C => ?_)
  show X z 0 0 σ 0 [(0, ar this), (1, ai p0), (2, ai p1), (3, ai p2)] [] _
  unfold f_X11_leave
  refine x_iload_n C 1 (i := 1) (k0 := 1) rfl rfl (by decide +kernel) ?_
  refine x_callSp C (c_X11_isMonth l D ca ra N σ p0) (p_X11_isMonth N σ p0) mt_X11_isMonth ms_X11_isMonth ml_RX11_165 rfl (fun h => Bool.noConfusion h) ⟨Nat.le_of_ble_eq_true rfl, Nat.le_of_ble_eq_true rfl⟩ (Nat.le_of_ble_eq_true rfl) 0 0 ⟨rfl, rfl⟩ ⟨Nat.zero_le _, Nat.zero_le _⟩ (by decide +kernel) _ rfl (fun q1 => [ai q1.2]) (fun _ => rfl) (fun q1 => ?_)
  refine x_if_eq C (tgt := 14) (off := 10) (by decide) (by decide +kernel) (fun h11 => ?_) (fun h11 => ?_)
  · skip
    refine x_iconst C (n := (-1)) (by decide +kernel) ?_
    exact x_iret C ⟨Nat.zero_le _, Nat.zero_le _⟩ (by decide +kernel)
  · skip
    refine x_iload_n C 2 (i := 2) (k0 := 2) rfl rfl (by decide +kernel) ?_
    refine x_callSp C (c_X11_isTongue l D ca ra N σ p1) (p_X11_isTongue N σ p1) mt_X11_isTongue ms_X11_isTongue ml_RX11_124 rfl (fun h => Bool.noConfusion h) ⟨Nat.le_of_ble_eq_true rfl, Nat.le_of_ble_eq_true rfl⟩ (Nat.le_of_ble_eq_true rfl) 0 0 ⟨rfl, rfl⟩ ⟨Nat.zero_le _, Nat.zero_le _⟩ (by decide +kernel) _ rfl (fun q2 => [ai q2.2]) (fun _ => rfl) (fun q2 => ?_)
    refine x_if_ne C (tgt := 16) (off := 5) (by decide) (by decide +kernel) (fun h10 => ?_) (fun h10 => ?_)
    · skip
      refine x_aload_n C 0 (i := 0) (k0 := 0) rfl rfl (by decide +kernel) ?_
      refine x_gR C fl_RX11_35 (fun _ _ _ => rfl) (by decide +kernel) (fun treaties_3 => ?_)
      refine x_iload_n C 2 (i := 2) (k0 := 2) rfl rfl (by decide +kernel) ?_
      refine x_aldR5 C (by decide +kernel) (fun r4 => ?_)
      refine x_iload_n C 1 (i := 1) (k0 := 1) rfl rfl (by decide +kernel) ?_
      refine x_aload_n C 0 (i := 0) (k0 := 0) rfl rfl (by decide +kernel) ?_
      refine x_gR C fl_RX11_54 (fun _ _ _ => rfl) (by decide +kernel) (fun facts_5 => ?_)
      refine x_aload_n C 0 (i := 0) (k0 := 0) rfl rfl (by decide +kernel) ?_
      show X z 0 0 σ 28 [(0, ar this), (1, ai p0), (2, ai p1), (3, ai p2)] [ar this, ar facts_5, ai p0, ar r4] _
      refine x_gR C fl_RX11_19 (fun _ _ _ => rfl) (by decide +kernel) (fun machine_6 => ?_)
      refine x_iload_n C 1 (i := 1) (k0 := 1) rfl rfl (by decide +kernel) ?_
      refine x_iload_n C 3 (i := 3) (k0 := 3) rfl rfl (by decide +kernel) ?_
      refine x_callV C (ci := 1) (c_X1_overrun l D ca ra N σ facts_5 machine_6 p0 p2) mt_X1_overrun mv_X1_overrun rfl ml_RX11_195 rfl (fun h => Bool.noConfusion h) ⟨Nat.le_of_ble_eq_true rfl, Nat.le_of_ble_eq_true rfl⟩ (Nat.le_of_ble_eq_true rfl) 0 0 ⟨rfl, rfl⟩ ⟨Nat.zero_le _, Nat.zero_le _⟩ (by decide +kernel) _ rfl (fun q7 => [ai q7.2, ai p0, ar r4]) (fun _ => rfl) (fun q7 => ?_)
      refine x_callV C (ci := 7) (c_X7_mayLeave l D ca ra N q7.1 r4 p0 q7.2) mt_X7_mayLeave mv_X7_mayLeave rfl ml_RX11_198 rfl (fun h => Bool.noConfusion h) ⟨Nat.le_of_ble_eq_true rfl, Nat.le_of_ble_eq_true rfl⟩ (Nat.le_of_ble_eq_true rfl) 0 0 ⟨rfl, rfl⟩ ⟨Nat.zero_le _, Nat.zero_le _⟩ (by decide +kernel) _ rfl (fun q8 => [ai q8.2]) (fun _ => rfl) (fun q8 => ?_)
      refine x_if_eq C (tgt := 46) (off := 7) (by decide) (by decide +kernel) (fun h9 => ?_) (fun h9 => ?_)
      · skip
        refine x_iconst C (n := 0) (by decide +kernel) ?_
        exact x_iret C ⟨Nat.zero_le _, Nat.zero_le _⟩ (by decide +kernel)
      · skip
        refine x_iconst C (n := 1) (by decide +kernel) ?_
        refine x_goto C (tgt := 47) (off := 4) (by decide) (by decide +kernel) ?_
        exact x_iret C ⟨Nat.zero_le _, Nat.zero_le _⟩ (by decide +kernel)
    · skip
      refine x_iconst C (n := (-1)) (by decide +kernel) ?_
      exact x_iret C ⟨Nat.zero_le _, Nat.zero_le _⟩ (by decide +kernel)

def rm_X11_bounds : Room := { frames := 2, cells := 0, slots := 0, locals := 45 }
def f_X11_bounds (N : Nat) (σ : St) (this : Nat) (p0 : Int) (p1 : Int) : Option (St × Int) :=
 Option.bind (gR shx σ 11 this 8) fun flight_1 =>
 Option.bind (rcv shx σ 2 flight_1 (f_X2_addStep N σ flight_1 p0 p1)) fun q2 =>
 some (q2.1, q2.2)
set_option maxRecDepth 100000 in
set_option maxHeartbeats 4000000 in
theorem c_X11_bounds (l : Launch) (D : va_G) (ca : Nat → ClassId) (ra : Nat → Nat) (N : Nat) (σ : St) (this : Nat) (p0 : Int) (p1 : Int) : Ctr l (D, ca, ra, shx) false yX11_bounds cX11_bounds 3 (some .int) rm_X11_bounds σ [ar this, ai p0, ai p1] (f_X11_bounds N σ this p0 p1) := by
  refine ctr_of (by decide) (Nat.le_of_ble_eq_true rfl) (fun z C => ?_)
  show X z 0 0 σ 0 [(0, ar this), (1, ai p0), (2, ai p1)] [] _
  unfold f_X11_bounds
  refine x_aload_n C 0 (i := 0) (k0 := 0) rfl rfl (by decide +kernel) ?_
  refine x_gR C fl_RX11_61 (fun _ _ _ => rfl) (by decide +kernel) (fun flight_1 => ?_)
  refine x_iload_n C 1 (i := 1) (k0 := 1) rfl rfl (by decide +kernel) ?_
  refine x_iload_n C 2 (i := 2) (k0 := 2) rfl rfl (by decide +kernel) ?_
  refine x_callV C (ci := 2) (c_X2_addStep l D ca ra N σ flight_1 p0 p1) mt_X2_addStep mv_X2_addStep rfl ml_RX11_201 rfl (fun h => Bool.noConfusion h) ⟨Nat.le_of_ble_eq_true rfl, Nat.le_of_ble_eq_true rfl⟩ (Nat.le_of_ble_eq_true rfl) 0 0 ⟨rfl, rfl⟩ ⟨Nat.zero_le _, Nat.zero_le _⟩ (by decide +kernel) _ rfl (fun q2 => [ai q2.2]) (fun _ => rfl) (fun q2 => ?_)
  exact x_iret C ⟨Nat.zero_le _, Nat.zero_le _⟩ (by decide +kernel)

def rm_X11_land : Room := { frames := 1, cells := 0, slots := 0, locals := 21 }
def f_X11_land (N : Nat) (σ : St) (this : Nat) : Option (St × Int) :=
 Option.bind (gR shx σ 11 this 8) fun flight_1 =>
 Option.bind (rcv shx σ 2 flight_1 (f_X2_dropSteps N σ flight_1)) fun q2 =>
 some (q2.1, q2.2)
set_option maxRecDepth 100000 in
set_option maxHeartbeats 4000000 in
theorem c_X11_land (l : Launch) (D : va_G) (ca : Nat → ClassId) (ra : Nat → Nat) (N : Nat) (σ : St) (this : Nat) : Ctr l (D, ca, ra, shx) false yX11_land cX11_land 1 (some .int) rm_X11_land σ [ar this] (f_X11_land N σ this) := by
  refine ctr_of (by decide) (Nat.le_of_ble_eq_true rfl) (fun z C => ?_)
  show X z 0 0 σ 0 [(0, ar this)] [] _
  unfold f_X11_land
  refine x_aload_n C 0 (i := 0) (k0 := 0) rfl rfl (by decide +kernel) ?_
  refine x_gR C fl_RX11_61 (fun _ _ _ => rfl) (by decide +kernel) (fun flight_1 => ?_)
  refine x_callV C (ci := 2) (c_X2_dropSteps l D ca ra N σ flight_1) mt_X2_dropSteps mv_X2_dropSteps rfl ml_RX11_116 rfl (fun h => Bool.noConfusion h) ⟨Nat.le_of_ble_eq_true rfl, Nat.le_of_ble_eq_true rfl⟩ (Nat.le_of_ble_eq_true rfl) 0 0 ⟨rfl, rfl⟩ ⟨Nat.zero_le _, Nat.zero_le _⟩ (by decide +kernel) _ rfl (fun q2 => [ai q2.2]) (fun _ => rfl) (fun q2 => ?_)
  exact x_iret C ⟨Nat.zero_le _, Nat.zero_le _⟩ (by decide +kernel)

def rm_X11_pump : Room := { frames := 2, cells := 0, slots := 0, locals := 43 }
def f_X11_pump (N : Nat) (σ : St) (this : Nat) (p0 : Int) : Option (St × Int) :=
 Option.bind (gR shx σ 11 this 8) fun flight_1 =>
 Option.bind (rcv shx σ 2 flight_1 (f_X2_setPump N σ flight_1 p0)) fun q2 =>
 rZ q2.1 q2.2
set_option maxRecDepth 100000 in
set_option maxHeartbeats 4000000 in
theorem c_X11_pump (l : Launch) (D : va_G) (ca : Nat → ClassId) (ra : Nat → Nat) (N : Nat) (σ : St) (this : Nat) (p0 : Int) : Ctr l (D, ca, ra, shx) false yX11_pump cX11_pump 2 (some .boolean) rm_X11_pump σ [ar this, ai p0] (f_X11_pump N σ this p0) := by
  refine ctr_of (by decide) (Nat.le_of_ble_eq_true rfl) (fun z C => ?_)
  show X z 0 0 σ 0 [(0, ar this), (1, ai p0)] [] _
  unfold f_X11_pump
  refine x_aload_n C 0 (i := 0) (k0 := 0) rfl rfl (by decide +kernel) ?_
  refine x_gR C fl_RX11_61 (fun _ _ _ => rfl) (by decide +kernel) (fun flight_1 => ?_)
  refine x_iload_n C 1 (i := 1) (k0 := 1) rfl rfl (by decide +kernel) ?_
  refine x_callV C (ci := 2) (c_X2_setPump l D ca ra N σ flight_1 p0) mt_X2_setPump mv_X2_setPump rfl ml_RX11_204 rfl (fun h => Bool.noConfusion h) ⟨Nat.le_of_ble_eq_true rfl, Nat.le_of_ble_eq_true rfl⟩ (Nat.le_of_ble_eq_true rfl) 0 0 ⟨rfl, rfl⟩ ⟨Nat.zero_le _, Nat.zero_le _⟩ (by decide +kernel) _ rfl (fun q2 => [ai q2.2]) (fun _ => rfl) (fun q2 => ?_)
  exact x_rZ C ⟨Nat.zero_le _, Nat.zero_le _⟩ (by decide +kernel)

def rm_X11_plan : Room := { frames := 5, cells := 0, slots := 0, locals := 122 }
def f_X11_plan (N : Nat) (σ : St) (this : Nat) (p0 : Int) (p1 : Int) (p2 : Int) : Option (St × Int) :=
 Option.bind (gR shx σ 11 this 8) fun flight_1 =>
 Option.bind (gR shx σ 11 this 1) fun machine_2 =>
 Option.bind (rcv shx σ 2 flight_1 (f_X2_leastPumped N σ flight_1 machine_2 p0 p1 p2)) fun q3 =>
 some (q3.1, q3.2)
set_option maxRecDepth 100000 in
set_option maxHeartbeats 4000000 in
theorem c_X11_plan (l : Launch) (D : va_G) (ca : Nat → ClassId) (ra : Nat → Nat) (N : Nat) (σ : St) (this : Nat) (p0 : Int) (p1 : Int) (p2 : Int) : Ctr l (D, ca, ra, shx) false yX11_plan cX11_plan 4 (some .int) rm_X11_plan σ [ar this, ai p0, ai p1, ai p2] (f_X11_plan N σ this p0 p1 p2) := by
  refine ctr_of (by decide) (Nat.le_of_ble_eq_true rfl) (fun z C => ?_)
  show X z 0 0 σ 0 [(0, ar this), (1, ai p0), (2, ai p1), (3, ai p2)] [] _
  unfold f_X11_plan
  refine x_aload_n C 0 (i := 0) (k0 := 0) rfl rfl (by decide +kernel) ?_
  refine x_gR C fl_RX11_61 (fun _ _ _ => rfl) (by decide +kernel) (fun flight_1 => ?_)
  refine x_aload_n C 0 (i := 0) (k0 := 0) rfl rfl (by decide +kernel) ?_
  refine x_gR C fl_RX11_19 (fun _ _ _ => rfl) (by decide +kernel) (fun machine_2 => ?_)
  refine x_iload_n C 1 (i := 1) (k0 := 1) rfl rfl (by decide +kernel) ?_
  refine x_iload_n C 2 (i := 2) (k0 := 2) rfl rfl (by decide +kernel) ?_
  refine x_iload_n C 3 (i := 3) (k0 := 3) rfl rfl (by decide +kernel) ?_
  refine x_callV C (ci := 2) (c_X2_leastPumped l D ca ra N σ flight_1 machine_2 p0 p1 p2) mt_X2_leastPumped mv_X2_leastPumped rfl ml_RX11_207 rfl (fun h => Bool.noConfusion h) ⟨Nat.le_of_ble_eq_true rfl, Nat.le_of_ble_eq_true rfl⟩ (Nat.le_of_ble_eq_true rfl) 0 0 ⟨rfl, rfl⟩ ⟨Nat.zero_le _, Nat.zero_le _⟩ (by decide +kernel) _ rfl (fun q3 => [ai q3.2]) (fun _ => rfl) (fun q3 => ?_)
  show X z 0 0 q3.1 14 [(0, ar this), (1, ai p0), (2, ai p1), (3, ai p2)] [ai q3.2] _
  exact x_iret C ⟨Nat.zero_le _, Nat.zero_le _⟩ (by decide +kernel)

def rm_X11_move : Room := { frames := 6, cells := 0, slots := 0, locals := 150 }
def f_X11_move (N : Nat) (σ : St) (this : Nat) (p0 : Int) (p1 : Int) (p2 : Int) (p3 : Int) : Option (St × Int) :=
 Option.bind (gR shx σ 11 this 8) fun flight_1 =>
 Option.bind (gR shx σ 11 this 1) fun machine_2 =>
 Option.bind (rcv shx σ 2 flight_1 (f_X2_moveOf N σ flight_1 machine_2 p0 p1 p2 p3)) fun q3 =>
 some (q3.1, q3.2)
set_option maxRecDepth 100000 in
set_option maxHeartbeats 4000000 in
theorem c_X11_move (l : Launch) (D : va_G) (ca : Nat → ClassId) (ra : Nat → Nat) (N : Nat) (σ : St) (this : Nat) (p0 : Int) (p1 : Int) (p2 : Int) (p3 : Int) : Ctr l (D, ca, ra, shx) false yX11_move cX11_move 5 (some .int) rm_X11_move σ [ar this, ai p0, ai p1, ai p2, ai p3] (f_X11_move N σ this p0 p1 p2 p3) := by
  refine ctr_of (by decide) (Nat.le_of_ble_eq_true rfl) (fun z C => ?_)
  show X z 0 0 σ 0 [(0, ar this), (1, ai p0), (2, ai p1), (3, ai p2), (4, ai p3)] [] _
  unfold f_X11_move
  refine x_aload_n C 0 (i := 0) (k0 := 0) rfl rfl (by decide +kernel) ?_
  refine x_gR C fl_RX11_61 (fun _ _ _ => rfl) (by decide +kernel) (fun flight_1 => ?_)
  refine x_aload_n C 0 (i := 0) (k0 := 0) rfl rfl (by decide +kernel) ?_
  refine x_gR C fl_RX11_19 (fun _ _ _ => rfl) (by decide +kernel) (fun machine_2 => ?_)
  refine x_iload_n C 1 (i := 1) (k0 := 1) rfl rfl (by decide +kernel) ?_
  refine x_iload_n C 2 (i := 2) (k0 := 2) rfl rfl (by decide +kernel) ?_
  refine x_iload_n C 3 (i := 3) (k0 := 3) rfl rfl (by decide +kernel) ?_
  refine x_iload C 4 (i := 4) rfl (by decide +kernel) ?_
  show X z 0 0 σ 13 [(0, ar this), (1, ai p0), (2, ai p1), (3, ai p2), (4, ai p3)] [ai p3, ai p2, ai p1, ai p0, ar machine_2, ar flight_1] _
  refine x_callV C (ci := 2) (c_X2_moveOf l D ca ra N σ flight_1 machine_2 p0 p1 p2 p3) mt_X2_moveOf mv_X2_moveOf rfl ml_RX11_211 rfl (fun h => Bool.noConfusion h) ⟨Nat.le_of_ble_eq_true rfl, Nat.le_of_ble_eq_true rfl⟩ (Nat.le_of_ble_eq_true rfl) 0 0 ⟨rfl, rfl⟩ ⟨Nat.zero_le _, Nat.zero_le _⟩ (by decide +kernel) _ rfl (fun q3 => [ai q3.2]) (fun _ => rfl) (fun q3 => ?_)
  exact x_iret C ⟨Nat.zero_le _, Nat.zero_le _⟩ (by decide +kernel)

def rm_X11_soonest : Room := { frames := 5, cells := 0, slots := 0, locals := 122 }
def f_X11_soonest (N : Nat) (σ : St) (this : Nat) (p0 : Int) (p1 : Int) (p2 : Int) (p3 : Int) (p4 : Int) (p5 : Int) : Option (St × Int) :=
 Option.bind (f_X11_within N σ p0 0 63) fun q1 =>
 (if wr q1.2 = 0 then some (σ, (-1)) else Option.bind (f_X11_within N σ p1 0 63) fun q2 =>
 (if wr q2.2 = 0 then some (σ, (-1)) else Option.bind (f_X11_isTongue N σ p2) fun q3 =>
 (if wr q3.2 = 0 then some (σ, (-1)) else Option.bind (f_X11_within N σ p3 0 23) fun q4 =>
 (if wr q4.2 = 0 then some (σ, (-1)) else Option.bind (f_X11_within N σ p4 0 255) fun q5 =>
 (if wr q5.2 = 0 then some (σ, (-1)) else Option.bind (f_X11_within N σ p5 0 99) fun q6 =>
 (if wr q6.2 = 0 then some (σ, (-1)) else Option.bind (gR shx σ 11 this 9) fun ways_7 =>
 Option.bind (gR shx σ 11 this 4) fun treaties_8 =>
 Option.bind (aR shx σ 5 treaties_8 p2) fun r9 =>
 Option.bind (rcv shx σ 9 ways_7 (f_X9_open N σ ways_7 r9 p3 p4)) fun q10 =>
 Option.bind (gR shx q10.1 11 this 9) fun ways_11 =>
 Option.bind (gR shx q10.1 11 this 1) fun machine_12 =>
 Option.bind (rcv shx q10.1 9 ways_11 (f_X9_fewestMinutes N q10.1 ways_11 machine_12 p0 p1 p5)) fun q13 =>
 some (q13.1, q13.2)))))))
set_option maxRecDepth 100000 in
set_option maxHeartbeats 4000000 in
theorem c_X11_soonest (l : Launch) (D : va_G) (ca : Nat → ClassId) (ra : Nat → Nat) (N : Nat) (σ : St) (this : Nat) (p0 : Int) (p1 : Int) (p2 : Int) (p3 : Int) (p4 : Int) (p5 : Int) : Ctr l (D, ca, ra, shx) false yX11_soonest cX11_soonest 7 (some .int) rm_X11_soonest σ [ar this, ai p0, ai p1, ai p2, ai p3, ai p4, ai p5] (f_X11_soonest N σ this p0 p1 p2 p3 p4 p5) := by
  refine ctr_of (by decide) (Nat.le_of_ble_eq_true rfl) (fun z C => ?_)
  show X z 0 0 σ 0 [(0, ar this), (1, ai p0), (2, ai p1), (3, ai p2), (4, ai p3), (5, ai p4), (6, ai p5)] [] _
  unfold f_X11_soonest
  refine x_iload_n C 1 (i := 1) (k0 := 1) rfl rfl (by decide +kernel) ?_
  refine x_iconst C (n := 0) (by decide +kernel) ?_
  refine x_bipush C (n := 63) (by decide +kernel) (by decide +kernel) ?_
  refine x_callSp C (c_X11_within l D ca ra N σ p0 0 63) (p_X11_within N σ p0 0 63) mt_X11_within ms_X11_within ml_RX11_105 rfl (fun h => Bool.noConfusion h) ⟨Nat.le_of_ble_eq_true rfl, Nat.le_of_ble_eq_true rfl⟩ (Nat.le_of_ble_eq_true rfl) 0 0 ⟨rfl, rfl⟩ ⟨Nat.zero_le _, Nat.zero_le _⟩ (by decide +kernel) _ rfl (fun q1 => [ai q1.2]) (fun _ => rfl) (fun q1 => ?_)
  refine x_if_eq C (tgt := 20) (off := 13) (by decide) (by decide +kernel) (fun h19 => ?_) (fun h19 => ?_)
  · skip
    refine x_iconst C (n := (-1)) (by decide +kernel) ?_
    exact x_iret C ⟨Nat.zero_le _, Nat.zero_le _⟩ (by decide +kernel)
  · skip
    refine x_iload_n C 2 (i := 2) (k0 := 2) rfl rfl (by decide +kernel) ?_
    refine x_iconst C (n := 0) (by decide +kernel) ?_
    refine x_bipush C (n := 63) (by decide +kernel) (by decide +kernel) ?_
    refine x_callSp C (c_X11_within l D ca ra N σ p1 0 63) (p_X11_within N σ p1 0 63) mt_X11_within ms_X11_within ml_RX11_105 rfl (fun h => Bool.noConfusion h) ⟨Nat.le_of_ble_eq_true rfl, Nat.le_of_ble_eq_true rfl⟩ (Nat.le_of_ble_eq_true rfl) 0 0 ⟨rfl, rfl⟩ ⟨Nat.zero_le _, Nat.zero_le _⟩ (by decide +kernel) _ rfl (fun q2 => [ai q2.2]) (fun _ => rfl) (fun q2 => ?_)
    refine x_if_ne C (tgt := 22) (off := 5) (by decide) (by decide +kernel) (fun h18 => ?_) (fun h18 => ?_)
    · skip
      refine x_iload_n C 3 (i := 3) (k0 := 3) rfl rfl (by decide +kernel) ?_
      refine x_callSp C (c_X11_isTongue l D ca ra N σ p2) (p_X11_isTongue N σ p2) mt_X11_isTongue ms_X11_isTongue ml_RX11_124 rfl (fun h => Bool.noConfusion h) ⟨Nat.le_of_ble_eq_true rfl, Nat.le_of_ble_eq_true rfl⟩ (Nat.le_of_ble_eq_true rfl) 0 0 ⟨rfl, rfl⟩ ⟨Nat.zero_le _, Nat.zero_le _⟩ (by decide +kernel) _ rfl (fun q3 => [ai q3.2]) (fun _ => rfl) (fun q3 => ?_)
      refine x_if_eq C (tgt := 40) (off := 14) (by decide) (by decide +kernel) (fun h17 => ?_) (fun h17 => ?_)
      · skip
        refine x_iconst C (n := (-1)) (by decide +kernel) ?_
        exact x_iret C ⟨Nat.zero_le _, Nat.zero_le _⟩ (by decide +kernel)
      · skip
        refine x_iload C 4 (i := 4) rfl (by decide +kernel) ?_
        refine x_iconst C (n := 0) (by decide +kernel) ?_
        refine x_bipush C (n := 23) (by decide +kernel) (by decide +kernel) ?_
        refine x_callSp C (c_X11_within l D ca ra N σ p3 0 23) (p_X11_within N σ p3 0 23) mt_X11_within ms_X11_within ml_RX11_105 rfl (fun h => Bool.noConfusion h) ⟨Nat.le_of_ble_eq_true rfl, Nat.le_of_ble_eq_true rfl⟩ (Nat.le_of_ble_eq_true rfl) 0 0 ⟨rfl, rfl⟩ ⟨Nat.zero_le _, Nat.zero_le _⟩ (by decide +kernel) _ rfl (fun q4 => [ai q4.2]) (fun _ => rfl) (fun q4 => ?_)
        refine x_if_ne C (tgt := 42) (off := 5) (by decide) (by decide +kernel) (fun h16 => ?_) (fun h16 => ?_)
        · skip
          refine x_iload C 5 (i := 5) rfl (by decide +kernel) ?_
          refine x_iconst C (n := 0) (by decide +kernel) ?_
          refine x_sipush C (n := 255) (by decide +kernel) (by decide +kernel) ?_
          refine x_callSp C (c_X11_within l D ca ra N σ p4 0 255) (p_X11_within N σ p4 0 255) mt_X11_within ms_X11_within ml_RX11_105 rfl (fun h => Bool.noConfusion h) ⟨Nat.le_of_ble_eq_true rfl, Nat.le_of_ble_eq_true rfl⟩ (Nat.le_of_ble_eq_true rfl) 0 0 ⟨rfl, rfl⟩ ⟨Nat.zero_le _, Nat.zero_le _⟩ (by decide +kernel) _ rfl (fun q5 => [ai q5.2]) (fun _ => rfl) (fun q5 => ?_)
          refine x_if_eq C (tgt := 65) (off := 14) (by decide) (by decide +kernel) (fun h15 => ?_) (fun h15 => ?_)
          · skip
            refine x_iconst C (n := (-1)) (by decide +kernel) ?_
            exact x_iret C ⟨Nat.zero_le _, Nat.zero_le _⟩ (by decide +kernel)
          · skip
            refine x_iload C 6 (i := 6) rfl (by decide +kernel) ?_
            refine x_iconst C (n := 0) (by decide +kernel) ?_
            refine x_bipush C (n := 99) (by decide +kernel) (by decide +kernel) ?_
            refine x_callSp C (c_X11_within l D ca ra N σ p5 0 99) (p_X11_within N σ p5 0 99) mt_X11_within ms_X11_within ml_RX11_105 rfl (fun h => Bool.noConfusion h) ⟨Nat.le_of_ble_eq_true rfl, Nat.le_of_ble_eq_true rfl⟩ (Nat.le_of_ble_eq_true rfl) 0 0 ⟨rfl, rfl⟩ ⟨Nat.zero_le _, Nat.zero_le _⟩ (by decide +kernel) _ rfl (fun q6 => [ai q6.2]) (fun _ => rfl) (fun q6 => ?_)
            refine x_if_ne C (tgt := 67) (off := 5) (by decide) (by decide +kernel) (fun h14 => ?_) (fun h14 => ?_)
            · skip
              refine x_aload_n C 0 (i := 0) (k0 := 0) rfl rfl (by decide +kernel) ?_
              refine x_gR C fl_RX11_68 (fun _ _ _ => rfl) (by decide +kernel) (fun ways_7 => ?_)
              refine x_aload_n C 0 (i := 0) (k0 := 0) rfl rfl (by decide +kernel) ?_
              refine x_gR C fl_RX11_35 (fun _ _ _ => rfl) (by decide +kernel) (fun treaties_8 => ?_)
              refine x_iload_n C 3 (i := 3) (k0 := 3) rfl rfl (by decide +kernel) ?_
              refine x_aldR5 C (by decide +kernel) (fun r9 => ?_)
              refine x_iload C 4 (i := 4) rfl (by decide +kernel) ?_
              refine x_iload C 5 (i := 5) rfl (by decide +kernel) ?_
              show X z 0 0 σ 81 [(0, ar this), (1, ai p0), (2, ai p1), (3, ai p2), (4, ai p3), (5, ai p4), (6, ai p5)] [ai p4, ai p3, ar r9, ar ways_7] _
              refine x_callV C (ci := 9) (c_X9_open l D ca ra N σ ways_7 r9 p3 p4) mt_X9_open mv_X9_open rfl ml_RX11_215 rfl (fun h => Bool.noConfusion h) ⟨Nat.le_of_ble_eq_true rfl, Nat.le_of_ble_eq_true rfl⟩ (Nat.le_of_ble_eq_true rfl) 0 0 ⟨rfl, rfl⟩ ⟨Nat.zero_le _, Nat.zero_le _⟩ (by decide +kernel) _ rfl (fun q10 => []) (fun _ => rfl) (fun q10 => ?_)
              refine x_aload_n C 0 (i := 0) (k0 := 0) rfl rfl (by decide +kernel) ?_
              refine x_gR C fl_RX11_68 (fun _ _ _ => rfl) (by decide +kernel) (fun ways_11 => ?_)
              refine x_aload_n C 0 (i := 0) (k0 := 0) rfl rfl (by decide +kernel) ?_
              refine x_gR C fl_RX11_19 (fun _ _ _ => rfl) (by decide +kernel) (fun machine_12 => ?_)
              refine x_iload_n C 1 (i := 1) (k0 := 1) rfl rfl (by decide +kernel) ?_
              refine x_iload_n C 2 (i := 2) (k0 := 2) rfl rfl (by decide +kernel) ?_
              refine x_iload C 6 (i := 6) rfl (by decide +kernel) ?_
              show X z 0 0 q10.1 96 [(0, ar this), (1, ai p0), (2, ai p1), (3, ai p2), (4, ai p3), (5, ai p4), (6, ai p5)] [ai p5, ai p1, ai p0, ar machine_12, ar ways_11] _
              refine x_callV C (ci := 9) (c_X9_fewestMinutes l D ca ra N q10.1 ways_11 machine_12 p0 p1 p5) mt_X9_fewestMinutes mv_X9_fewestMinutes rfl ml_RX11_219 rfl (fun h => Bool.noConfusion h) ⟨Nat.le_of_ble_eq_true rfl, Nat.le_of_ble_eq_true rfl⟩ (Nat.le_of_ble_eq_true rfl) 0 0 ⟨rfl, rfl⟩ ⟨Nat.zero_le _, Nat.zero_le _⟩ (by decide +kernel) _ rfl (fun q13 => [ai q13.2]) (fun _ => rfl) (fun q13 => ?_)
              exact x_iret C ⟨Nat.zero_le _, Nat.zero_le _⟩ (by decide +kernel)
            · skip
              refine x_iconst C (n := (-1)) (by decide +kernel) ?_
              exact x_iret C ⟨Nat.zero_le _, Nat.zero_le _⟩ (by decide +kernel)
        · skip
          refine x_iconst C (n := (-1)) (by decide +kernel) ?_
          exact x_iret C ⟨Nat.zero_le _, Nat.zero_le _⟩ (by decide +kernel)
    · skip
      refine x_iconst C (n := (-1)) (by decide +kernel) ?_
      exact x_iret C ⟨Nat.zero_le _, Nat.zero_le _⟩ (by decide +kernel)

def rm_X11_airline : Room := { frames := 2, cells := 0, slots := 0, locals := 42 }
def f_X11_airline (N : Nat) (σ : St) (this : Nat) (p0 : Int) (p1 : Int) : Option (St × Int) :=
 Option.bind (f_X11_within N σ p0 0 999) fun q1 =>
 (if wr q1.2 = 0 then some (σ, (-1)) else Option.bind (f_X11_isMonth N σ p1) fun q2 =>
 (if wr q2.2 = 0 then some (σ, (-1)) else Option.bind (gR shx σ 11 this 10) fun airlines_3 =>
 Option.bind (rcv shx σ 0 airlines_3 (f_X0_add N σ airlines_3 p0 p1)) fun q4 =>
 some (q4.1, q4.2)))
set_option maxRecDepth 100000 in
set_option maxHeartbeats 4000000 in
theorem c_X11_airline (l : Launch) (D : va_G) (ca : Nat → ClassId) (ra : Nat → Nat) (N : Nat) (σ : St) (this : Nat) (p0 : Int) (p1 : Int) : Ctr l (D, ca, ra, shx) false yX11_airline cX11_airline 3 (some .int) rm_X11_airline σ [ar this, ai p0, ai p1] (f_X11_airline N σ this p0 p1) := by
  refine ctr_of (by decide) (Nat.le_of_ble_eq_true rfl) (fun z C => ?_)
  show X z 0 0 σ 0 [(0, ar this), (1, ai p0), (2, ai p1)] [] _
  unfold f_X11_airline
  refine x_iload_n C 1 (i := 1) (k0 := 1) rfl rfl (by decide +kernel) ?_
  refine x_iconst C (n := 0) (by decide +kernel) ?_
  refine x_sipush C (n := 999) (by decide +kernel) (by decide +kernel) ?_
  refine x_callSp C (c_X11_within l D ca ra N σ p0 0 999) (p_X11_within N σ p0 0 999) mt_X11_within ms_X11_within ml_RX11_105 rfl (fun h => Bool.noConfusion h) ⟨Nat.le_of_ble_eq_true rfl, Nat.le_of_ble_eq_true rfl⟩ (Nat.le_of_ble_eq_true rfl) 0 0 ⟨rfl, rfl⟩ ⟨Nat.zero_le _, Nat.zero_le _⟩ (by decide +kernel) _ rfl (fun q1 => [ai q1.2]) (fun _ => rfl) (fun q1 => ?_)
  refine x_if_eq C (tgt := 18) (off := 10) (by decide) (by decide +kernel) (fun h6 => ?_) (fun h6 => ?_)
  · skip
    refine x_iconst C (n := (-1)) (by decide +kernel) ?_
    exact x_iret C ⟨Nat.zero_le _, Nat.zero_le _⟩ (by decide +kernel)
  · skip
    refine x_iload_n C 2 (i := 2) (k0 := 2) rfl rfl (by decide +kernel) ?_
    refine x_callSp C (c_X11_isMonth l D ca ra N σ p1) (p_X11_isMonth N σ p1) mt_X11_isMonth ms_X11_isMonth ml_RX11_165 rfl (fun h => Bool.noConfusion h) ⟨Nat.le_of_ble_eq_true rfl, Nat.le_of_ble_eq_true rfl⟩ (Nat.le_of_ble_eq_true rfl) 0 0 ⟨rfl, rfl⟩ ⟨Nat.zero_le _, Nat.zero_le _⟩ (by decide +kernel) _ rfl (fun q2 => [ai q2.2]) (fun _ => rfl) (fun q2 => ?_)
    refine x_if_ne C (tgt := 20) (off := 5) (by decide) (by decide +kernel) (fun h5 => ?_) (fun h5 => ?_)
    · skip
      refine x_aload_n C 0 (i := 0) (k0 := 0) rfl rfl (by decide +kernel) ?_
      refine x_gR C fl_RX11_75 (fun _ _ _ => rfl) (by decide +kernel) (fun airlines_3 => ?_)
      refine x_iload_n C 1 (i := 1) (k0 := 1) rfl rfl (by decide +kernel) ?_
      refine x_iload_n C 2 (i := 2) (k0 := 2) rfl rfl (by decide +kernel) ?_
      refine x_callV C (ci := 0) (c_X0_add l D ca ra N σ airlines_3 p0 p1) mt_X0_add mv_X0_add rfl ml_RX11_222 rfl (fun h => Bool.noConfusion h) ⟨Nat.le_of_ble_eq_true rfl, Nat.le_of_ble_eq_true rfl⟩ (Nat.le_of_ble_eq_true rfl) 0 0 ⟨rfl, rfl⟩ ⟨Nat.zero_le _, Nat.zero_le _⟩ (by decide +kernel) _ rfl (fun q4 => [ai q4.2]) (fun _ => rfl) (fun q4 => ?_)
      exact x_iret C ⟨Nat.zero_le _, Nat.zero_le _⟩ (by decide +kernel)
    · skip
      refine x_iconst C (n := (-1)) (by decide +kernel) ?_
      exact x_iret C ⟨Nat.zero_le _, Nat.zero_le _⟩ (by decide +kernel)

def rm_X11_hold : Room := { frames := 5, cells := 0, slots := 0, locals := 119 }
def f_X11_hold (N : Nat) (σ : St) (this : Nat) (p0 : Int) (p1 : Int) (p2 : Int) : Option (St × Int) :=
 Option.bind (f_X11_isMonth N σ p0) fun q1 =>
 (if wr q1.2 = 0 then some (σ, (-1)) else Option.bind (f_X11_isTongue N σ p1) fun q2 =>
 (if wr q2.2 = 0 then some (σ, (-1)) else Option.bind (gR shx σ 11 this 10) fun airlines_3 =>
 Option.bind (gR shx σ 11 this 4) fun treaties_4 =>
 Option.bind (aR shx σ 5 treaties_4 p1) fun r5 =>
 Option.bind (gR shx σ 11 this 7) fun facts_6 =>
 Option.bind (rcv shx σ 1 facts_6 (f_X1_shownBy N σ facts_6 p0 p2)) fun q7 =>
 Option.bind (rcv shx σ 0 airlines_3 (f_X0_settle N σ airlines_3 r5 p0 q7.2)) fun q8 =>
 Option.bind (gR shx q8.1 11 this 10) fun airlines_9 =>
 Option.bind (rcv shx q8.1 0 airlines_9 (f_X0_holders N q8.1 airlines_9)) fun q10 =>
 some (q8.1, q10.2)))
set_option maxRecDepth 100000 in
set_option maxHeartbeats 4000000 in
theorem c_X11_hold (l : Launch) (D : va_G) (ca : Nat → ClassId) (ra : Nat → Nat) (N : Nat) (σ : St) (this : Nat) (p0 : Int) (p1 : Int) (p2 : Int) : Ctr l (D, ca, ra, shx) false yX11_hold cX11_hold 4 (some .int) rm_X11_hold σ [ar this, ai p0, ai p1, ai p2] (f_X11_hold N σ this p0 p1 p2) := by
  refine ctr_of (by decide) (Nat.le_of_ble_eq_true rfl) (fun z C => ?_)
  show X z 0 0 σ 0 [(0, ar this), (1, ai p0), (2, ai p1), (3, ai p2)] [] _
  unfold f_X11_hold
  refine x_iload_n C 1 (i := 1) (k0 := 1) rfl rfl (by decide +kernel) ?_
  refine x_callSp C (c_X11_isMonth l D ca ra N σ p0) (p_X11_isMonth N σ p0) mt_X11_isMonth ms_X11_isMonth ml_RX11_165 rfl (fun h => Bool.noConfusion h) ⟨Nat.le_of_ble_eq_true rfl, Nat.le_of_ble_eq_true rfl⟩ (Nat.le_of_ble_eq_true rfl) 0 0 ⟨rfl, rfl⟩ ⟨Nat.zero_le _, Nat.zero_le _⟩ (by decide +kernel) _ rfl (fun q1 => [ai q1.2]) (fun _ => rfl) (fun q1 => ?_)
  refine x_if_eq C (tgt := 14) (off := 10) (by decide) (by decide +kernel) (fun h12 => ?_) (fun h12 => ?_)
  · skip
    refine x_iconst C (n := (-1)) (by decide +kernel) ?_
    exact x_iret C ⟨Nat.zero_le _, Nat.zero_le _⟩ (by decide +kernel)
  · skip
    refine x_iload_n C 2 (i := 2) (k0 := 2) rfl rfl (by decide +kernel) ?_
    refine x_callSp C (c_X11_isTongue l D ca ra N σ p1) (p_X11_isTongue N σ p1) mt_X11_isTongue ms_X11_isTongue ml_RX11_124 rfl (fun h => Bool.noConfusion h) ⟨Nat.le_of_ble_eq_true rfl, Nat.le_of_ble_eq_true rfl⟩ (Nat.le_of_ble_eq_true rfl) 0 0 ⟨rfl, rfl⟩ ⟨Nat.zero_le _, Nat.zero_le _⟩ (by decide +kernel) _ rfl (fun q2 => [ai q2.2]) (fun _ => rfl) (fun q2 => ?_)
    refine x_if_ne C (tgt := 16) (off := 5) (by decide) (by decide +kernel) (fun h11 => ?_) (fun h11 => ?_)
    · skip
      refine x_aload_n C 0 (i := 0) (k0 := 0) rfl rfl (by decide +kernel) ?_
      refine x_gR C fl_RX11_75 (fun _ _ _ => rfl) (by decide +kernel) (fun airlines_3 => ?_)
      refine x_aload_n C 0 (i := 0) (k0 := 0) rfl rfl (by decide +kernel) ?_
      refine x_gR C fl_RX11_35 (fun _ _ _ => rfl) (by decide +kernel) (fun treaties_4 => ?_)
      refine x_iload_n C 2 (i := 2) (k0 := 2) rfl rfl (by decide +kernel) ?_
      refine x_aldR5 C (by decide +kernel) (fun r5 => ?_)
      refine x_iload_n C 1 (i := 1) (k0 := 1) rfl rfl (by decide +kernel) ?_
      refine x_aload_n C 0 (i := 0) (k0 := 0) rfl rfl (by decide +kernel) ?_
      show X z 0 0 σ 28 [(0, ar this), (1, ai p0), (2, ai p1), (3, ai p2)] [ar this, ai p0, ar r5, ar airlines_3] _
      refine x_gR C fl_RX11_54 (fun _ _ _ => rfl) (by decide +kernel) (fun facts_6 => ?_)
      refine x_iload_n C 1 (i := 1) (k0 := 1) rfl rfl (by decide +kernel) ?_
      refine x_iload_n C 3 (i := 3) (k0 := 3) rfl rfl (by decide +kernel) ?_
      refine x_callVp C (ci := 1) (c_X1_shownBy l D ca ra N σ facts_6 p0 p2) (p_X1_shownBy N σ facts_6 p0 p2) mt_X1_shownBy mv_X1_shownBy rfl ml_RX11_225 rfl (fun h => Bool.noConfusion h) ⟨Nat.le_of_ble_eq_true rfl, Nat.le_of_ble_eq_true rfl⟩ (Nat.le_of_ble_eq_true rfl) 0 0 ⟨rfl, rfl⟩ ⟨Nat.zero_le _, Nat.zero_le _⟩ (by decide +kernel) _ rfl (fun q7 => [ai q7.2, ai p0, ar r5, ar airlines_3]) (fun _ => rfl) (fun q7 => ?_)
      refine x_callV C (ci := 0) (c_X0_settle l D ca ra N σ airlines_3 r5 p0 q7.2) mt_X0_settle mv_X0_settle rfl ml_RX11_228 rfl (fun h => Bool.noConfusion h) ⟨Nat.le_of_ble_eq_true rfl, Nat.le_of_ble_eq_true rfl⟩ (Nat.le_of_ble_eq_true rfl) 0 0 ⟨rfl, rfl⟩ ⟨Nat.zero_le _, Nat.zero_le _⟩ (by decide +kernel) _ rfl (fun q8 => []) (fun _ => rfl) (fun q8 => ?_)
      refine x_aload_n C 0 (i := 0) (k0 := 0) rfl rfl (by decide +kernel) ?_
      refine x_gR C fl_RX11_75 (fun _ _ _ => rfl) (by decide +kernel) (fun airlines_9 => ?_)
      refine x_callVp C (ci := 0) (c_X0_holders l D ca ra N q8.1 airlines_9) (p_X0_holders N q8.1 airlines_9) mt_X0_holders mv_X0_holders rfl ml_RX11_231 rfl (fun h => Bool.noConfusion h) ⟨Nat.le_of_ble_eq_true rfl, Nat.le_of_ble_eq_true rfl⟩ (Nat.le_of_ble_eq_true rfl) 0 0 ⟨rfl, rfl⟩ ⟨Nat.zero_le _, Nat.zero_le _⟩ (by decide +kernel) _ rfl (fun q10 => [ai q10.2]) (fun _ => rfl) (fun q10 => ?_)
      show X z 0 0 q8.1 46 [(0, ar this), (1, ai p0), (2, ai p1), (3, ai p2)] [ai q10.2] _
      exact x_iret C ⟨Nat.zero_le _, Nat.zero_le _⟩ (by decide +kernel)
    · skip
      refine x_iconst C (n := (-1)) (by decide +kernel) ?_
      exact x_iret C ⟨Nat.zero_le _, Nat.zero_le _⟩ (by decide +kernel)

def rm_X11_lapse : Room := { frames := 5, cells := 0, slots := 0, locals := 119 }
def f_X11_lapse (N : Nat) (σ : St) (this : Nat) (p0 : Int) (p1 : Int) (p2 : Int) (p3 : Int) : Option (St × Int) :=
 Option.bind (gR shx σ 11 this 10) fun airlines_1 =>
 Option.bind (gI shx σ 0 airlines_1 0) fun count_2 =>
 Option.bind (f_X11_within N σ p0 0 (count_2 - 1)) fun q3 =>
 (if wr q3.2 = 0 then some (σ, (-1)) else Option.bind (f_X11_isMonth N σ p1) fun q4 =>
 (if wr q4.2 = 0 then some (σ, (-1)) else Option.bind (f_X11_isTongue N σ p2) fun q5 =>
 (if wr q5.2 = 0 then some (σ, (-1)) else Option.bind (gR shx σ 11 this 10) fun airlines_6 =>
 Option.bind (gR shx σ 11 this 4) fun treaties_7 =>
 Option.bind (aR shx σ 5 treaties_7 p2) fun r8 =>
 Option.bind (gR shx σ 11 this 7) fun facts_9 =>
 Option.bind (rcv shx σ 1 facts_9 (f_X1_shownBy N σ facts_9 p1 p3)) fun q10 =>
 Option.bind (rcv shx σ 0 airlines_6 (f_X0_settle N σ airlines_6 r8 p1 q10.2)) fun q11 =>
 Option.bind (gR shx q11.1 11 this 10) fun airlines_12 =>
 Option.bind (rcv shx q11.1 0 airlines_12 (f_X0_roundOf N q11.1 airlines_12 p0)) fun q13 =>
 some (q11.1, q13.2))))
set_option maxRecDepth 100000 in
set_option maxHeartbeats 4000000 in
theorem c_X11_lapse (l : Launch) (D : va_G) (ca : Nat → ClassId) (ra : Nat → Nat) (N : Nat) (σ : St) (this : Nat) (p0 : Int) (p1 : Int) (p2 : Int) (p3 : Int) : Ctr l (D, ca, ra, shx) false yX11_lapse cX11_lapse 5 (some .int) rm_X11_lapse σ [ar this, ai p0, ai p1, ai p2, ai p3] (f_X11_lapse N σ this p0 p1 p2 p3) := by
  refine ctr_of (by decide) (Nat.le_of_ble_eq_true rfl) (fun z C => ?_)
  show X z 0 0 σ 0 [(0, ar this), (1, ai p0), (2, ai p1), (3, ai p2), (4, ai p3)] [] _
  unfold f_X11_lapse
  refine x_iload_n C 1 (i := 1) (k0 := 1) rfl rfl (by decide +kernel) ?_
  refine x_iconst C (n := 0) (by decide +kernel) ?_
  refine x_aload_n C 0 (i := 0) (k0 := 0) rfl rfl (by decide +kernel) ?_
  refine x_gR C fl_RX11_75 (fun _ _ _ => rfl) (by decide +kernel) (fun airlines_1 => ?_)
  refine x_gI C fl_RX11_234 (fun _ _ _ => rfl) (by decide +kernel) (fun count_2 => ?_)
  refine x_iconst C (n := 1) (by decide +kernel) ?_
  refine x_isub C (by decide +kernel) ?_
  refine x_callSp C (c_X11_within l D ca ra N σ p0 0 (count_2 - 1)) (p_X11_within N σ p0 0 (count_2 - 1)) mt_X11_within ms_X11_within ml_RX11_105 rfl (fun h => Bool.noConfusion h) ⟨Nat.le_of_ble_eq_true rfl, Nat.le_of_ble_eq_true rfl⟩ (Nat.le_of_ble_eq_true rfl) 0 0 ⟨rfl, rfl⟩ ⟨Nat.zero_le _, Nat.zero_le _⟩ (by decide +kernel) _ rfl (fun q3 => [ai q3.2]) (fun _ => rfl) (fun q3 => ?_)
  show X z 0 0 σ 14 [(0, ar this), (1, ai p0), (2, ai p1), (3, ai p2), (4, ai p3)] [ai q3.2] _
  refine x_if_eq C (tgt := 31) (off := 17) (by decide) (by decide +kernel) (fun h16 => ?_) (fun h16 => ?_)
  · skip
    refine x_iconst C (n := (-1)) (by decide +kernel) ?_
    exact x_iret C ⟨Nat.zero_le _, Nat.zero_le _⟩ (by decide +kernel)
  · skip
    refine x_iload_n C 2 (i := 2) (k0 := 2) rfl rfl (by decide +kernel) ?_
    refine x_callSp C (c_X11_isMonth l D ca ra N σ p1) (p_X11_isMonth N σ p1) mt_X11_isMonth ms_X11_isMonth ml_RX11_165 rfl (fun h => Bool.noConfusion h) ⟨Nat.le_of_ble_eq_true rfl, Nat.le_of_ble_eq_true rfl⟩ (Nat.le_of_ble_eq_true rfl) 0 0 ⟨rfl, rfl⟩ ⟨Nat.zero_le _, Nat.zero_le _⟩ (by decide +kernel) _ rfl (fun q4 => [ai q4.2]) (fun _ => rfl) (fun q4 => ?_)
    refine x_if_eq C (tgt := 31) (off := 10) (by decide) (by decide +kernel) (fun h15 => ?_) (fun h15 => ?_)
    · skip
      refine x_iconst C (n := (-1)) (by decide +kernel) ?_
      exact x_iret C ⟨Nat.zero_le _, Nat.zero_le _⟩ (by decide +kernel)
    · skip
      refine x_iload_n C 3 (i := 3) (k0 := 3) rfl rfl (by decide +kernel) ?_
      refine x_callSp C (c_X11_isTongue l D ca ra N σ p2) (p_X11_isTongue N σ p2) mt_X11_isTongue ms_X11_isTongue ml_RX11_124 rfl (fun h => Bool.noConfusion h) ⟨Nat.le_of_ble_eq_true rfl, Nat.le_of_ble_eq_true rfl⟩ (Nat.le_of_ble_eq_true rfl) 0 0 ⟨rfl, rfl⟩ ⟨Nat.zero_le _, Nat.zero_le _⟩ (by decide +kernel) _ rfl (fun q5 => [ai q5.2]) (fun _ => rfl) (fun q5 => ?_)
      refine x_if_ne C (tgt := 33) (off := 5) (by decide) (by decide +kernel) (fun h14 => ?_) (fun h14 => ?_)
      · skip
        refine x_aload_n C 0 (i := 0) (k0 := 0) rfl rfl (by decide +kernel) ?_
        refine x_gR C fl_RX11_75 (fun _ _ _ => rfl) (by decide +kernel) (fun airlines_6 => ?_)
        refine x_aload_n C 0 (i := 0) (k0 := 0) rfl rfl (by decide +kernel) ?_
        refine x_gR C fl_RX11_35 (fun _ _ _ => rfl) (by decide +kernel) (fun treaties_7 => ?_)
        refine x_iload_n C 3 (i := 3) (k0 := 3) rfl rfl (by decide +kernel) ?_
        refine x_aldR5 C (by decide +kernel) (fun r8 => ?_)
        refine x_iload_n C 2 (i := 2) (k0 := 2) rfl rfl (by decide +kernel) ?_
        refine x_aload_n C 0 (i := 0) (k0 := 0) rfl rfl (by decide +kernel) ?_
        show X z 0 0 σ 45 [(0, ar this), (1, ai p0), (2, ai p1), (3, ai p2), (4, ai p3)] [ar this, ai p1, ar r8, ar airlines_6] _
        refine x_gR C fl_RX11_54 (fun _ _ _ => rfl) (by decide +kernel) (fun facts_9 => ?_)
        refine x_iload_n C 2 (i := 2) (k0 := 2) rfl rfl (by decide +kernel) ?_
        refine x_iload C 4 (i := 4) rfl (by decide +kernel) ?_
        refine x_callVp C (ci := 1) (c_X1_shownBy l D ca ra N σ facts_9 p1 p3) (p_X1_shownBy N σ facts_9 p1 p3) mt_X1_shownBy mv_X1_shownBy rfl ml_RX11_225 rfl (fun h => Bool.noConfusion h) ⟨Nat.le_of_ble_eq_true rfl, Nat.le_of_ble_eq_true rfl⟩ (Nat.le_of_ble_eq_true rfl) 0 0 ⟨rfl, rfl⟩ ⟨Nat.zero_le _, Nat.zero_le _⟩ (by decide +kernel) _ rfl (fun q10 => [ai q10.2, ai p1, ar r8, ar airlines_6]) (fun _ => rfl) (fun q10 => ?_)
        refine x_callV C (ci := 0) (c_X0_settle l D ca ra N σ airlines_6 r8 p1 q10.2) mt_X0_settle mv_X0_settle rfl ml_RX11_228 rfl (fun h => Bool.noConfusion h) ⟨Nat.le_of_ble_eq_true rfl, Nat.le_of_ble_eq_true rfl⟩ (Nat.le_of_ble_eq_true rfl) 0 0 ⟨rfl, rfl⟩ ⟨Nat.zero_le _, Nat.zero_le _⟩ (by decide +kernel) _ rfl (fun q11 => []) (fun _ => rfl) (fun q11 => ?_)
        refine x_aload_n C 0 (i := 0) (k0 := 0) rfl rfl (by decide +kernel) ?_
        refine x_gR C fl_RX11_75 (fun _ _ _ => rfl) (by decide +kernel) (fun airlines_12 => ?_)
        refine x_iload_n C 1 (i := 1) (k0 := 1) rfl rfl (by decide +kernel) ?_
        show X z 0 0 q11.1 62 [(0, ar this), (1, ai p0), (2, ai p1), (3, ai p2), (4, ai p3)] [ai p0, ar airlines_12] _
        refine x_callVp C (ci := 0) (c_X0_roundOf l D ca ra N q11.1 airlines_12 p0) (p_X0_roundOf N q11.1 airlines_12 p0) mt_X0_roundOf mv_X0_roundOf rfl ml_RX11_237 rfl (fun h => Bool.noConfusion h) ⟨Nat.le_of_ble_eq_true rfl, Nat.le_of_ble_eq_true rfl⟩ (Nat.le_of_ble_eq_true rfl) 0 0 ⟨rfl, rfl⟩ ⟨Nat.zero_le _, Nat.zero_le _⟩ (by decide +kernel) _ rfl (fun q13 => [ai q13.2]) (fun _ => rfl) (fun q13 => ?_)
        exact x_iret C ⟨Nat.zero_le _, Nat.zero_le _⟩ (by decide +kernel)
      · skip
        refine x_iconst C (n := (-1)) (by decide +kernel) ?_
        exact x_iret C ⟨Nat.zero_le _, Nat.zero_le _⟩ (by decide +kernel)

def rm_X11_shared : Room := { frames := 5, cells := 0, slots := 0, locals := 126 }
def f_X11_shared (N : Nat) (σ : St) (this : Nat) (p0 : Int) : Option (St × Int) :=
 Option.bind (f_X11_within N σ p0 0 100) fun q1 =>
 (if wr q1.2 = 0 then some (σ, (-1)) else Option.bind (gR shx σ 11 this 11) fun works_2 =>
 Option.bind (gR shx σ 11 this 1) fun machine_3 =>
 Option.bind (rcv shx σ 10 works_2 (f_X10_divide N σ works_2 machine_3 p0)) fun q4 =>
 Option.bind (gR shx q4.1 11 this 11) fun works_5 =>
 Option.bind (gI shx q4.1 10 works_5 0) fun twice_6 =>
 some (q4.1, twice_6))
set_option maxRecDepth 100000 in
set_option maxHeartbeats 4000000 in
theorem c_X11_shared (l : Launch) (D : va_G) (ca : Nat → ClassId) (ra : Nat → Nat) (N : Nat) (σ : St) (this : Nat) (p0 : Int) : Ctr l (D, ca, ra, shx) false yX11_shared cX11_shared 2 (some .int) rm_X11_shared σ [ar this, ai p0] (f_X11_shared N σ this p0) := by
  refine ctr_of (by decide) (Nat.le_of_ble_eq_true rfl) (fun z C => ?_)
  show X z 0 0 σ 0 [(0, ar this), (1, ai p0)] [] _
  unfold f_X11_shared
  refine x_iload_n C 1 (i := 1) (k0 := 1) rfl rfl (by decide +kernel) ?_
  refine x_iconst C (n := 0) (by decide +kernel) ?_
  refine x_bipush C (n := 100) (by decide +kernel) (by decide +kernel) ?_
  refine x_callSp C (c_X11_within l D ca ra N σ p0 0 100) (p_X11_within N σ p0 0 100) mt_X11_within ms_X11_within ml_RX11_105 rfl (fun h => Bool.noConfusion h) ⟨Nat.le_of_ble_eq_true rfl, Nat.le_of_ble_eq_true rfl⟩ (Nat.le_of_ble_eq_true rfl) 0 0 ⟨rfl, rfl⟩ ⟨Nat.zero_le _, Nat.zero_le _⟩ (by decide +kernel) _ rfl (fun q1 => [ai q1.2]) (fun _ => rfl) (fun q1 => ?_)
  refine x_if_ne C (tgt := 12) (off := 5) (by decide) (by decide +kernel) (fun h7 => ?_) (fun h7 => ?_)
  · skip
    refine x_aload_n C 0 (i := 0) (k0 := 0) rfl rfl (by decide +kernel) ?_
    refine x_gR C fl_RX11_82 (fun _ _ _ => rfl) (by decide +kernel) (fun works_2 => ?_)
    refine x_aload_n C 0 (i := 0) (k0 := 0) rfl rfl (by decide +kernel) ?_
    refine x_gR C fl_RX11_19 (fun _ _ _ => rfl) (by decide +kernel) (fun machine_3 => ?_)
    refine x_iload_n C 1 (i := 1) (k0 := 1) rfl rfl (by decide +kernel) ?_
    refine x_callV C (ci := 10) (c_X10_divide l D ca ra N σ works_2 machine_3 p0) mt_X10_divide mv_X10_divide rfl ml_RX11_240 rfl (fun h => Bool.noConfusion h) ⟨Nat.le_of_ble_eq_true rfl, Nat.le_of_ble_eq_true rfl⟩ (Nat.le_of_ble_eq_true rfl) 0 0 ⟨rfl, rfl⟩ ⟨Nat.zero_le _, Nat.zero_le _⟩ (by decide +kernel) _ rfl (fun q4 => []) (fun _ => rfl) (fun q4 => ?_)
    refine x_aload_n C 0 (i := 0) (k0 := 0) rfl rfl (by decide +kernel) ?_
    refine x_gR C fl_RX11_82 (fun _ _ _ => rfl) (by decide +kernel) (fun works_5 => ?_)
    show X z 0 0 q4.1 28 [(0, ar this), (1, ai p0)] [ar works_5] _
    refine x_gI C fl_RX11_243 (fun _ _ _ => rfl) (by decide +kernel) (fun twice_6 => ?_)
    exact x_iret C ⟨Nat.zero_le _, Nat.zero_le _⟩ (by decide +kernel)
  · skip
    refine x_iconst C (n := (-1)) (by decide +kernel) ?_
    exact x_iret C ⟨Nat.zero_le _, Nat.zero_le _⟩ (by decide +kernel)

def rm_X11_maker : Room := { frames := 5, cells := 0, slots := 0, locals := 126 }
def f_X11_maker (N : Nat) (σ : St) (this : Nat) (p0 : Int) (p1 : Int) : Option (St × Int) :=
 Option.bind (rcv shx σ 11 this (f_X11_isPart N σ this p0)) fun q1 =>
 (if wr q1.2 = 0 then some (σ, (-1)) else Option.bind (f_X11_within N σ p1 0 100) fun q2 =>
 (if wr q2.2 = 0 then some (σ, (-1)) else Option.bind (gR shx σ 11 this 11) fun works_3 =>
 Option.bind (gR shx σ 11 this 1) fun machine_4 =>
 Option.bind (rcv shx σ 10 works_3 (f_X10_divide N σ works_3 machine_4 p1)) fun q5 =>
 Option.bind (gR shx q5.1 11 this 11) fun works_6 =>
 Option.bind (rcv shx q5.1 10 works_6 (f_X10_makerOf N q5.1 works_6 p0)) fun q7 =>
 some (q5.1, q7.2)))
set_option maxRecDepth 100000 in
set_option maxHeartbeats 4000000 in
theorem c_X11_maker (l : Launch) (D : va_G) (ca : Nat → ClassId) (ra : Nat → Nat) (N : Nat) (σ : St) (this : Nat) (p0 : Int) (p1 : Int) : Ctr l (D, ca, ra, shx) false yX11_maker cX11_maker 3 (some .int) rm_X11_maker σ [ar this, ai p0, ai p1] (f_X11_maker N σ this p0 p1) := by
  refine ctr_of (by decide) (Nat.le_of_ble_eq_true rfl) (fun z C => ?_)
  show X z 0 0 σ 0 [(0, ar this), (1, ai p0), (2, ai p1)] [] _
  unfold f_X11_maker
  refine x_aload_n C 0 (i := 0) (k0 := 0) rfl rfl (by decide +kernel) ?_
  refine x_iload_n C 1 (i := 1) (k0 := 1) rfl rfl (by decide +kernel) ?_
  refine x_callVp C (ci := 11) (c_X11_isPart l D ca ra N σ this p0) (p_X11_isPart N σ this p0) mt_X11_isPart mv_X11_isPart rfl ml_RX11_136 rfl (fun h => Bool.noConfusion h) ⟨Nat.le_of_ble_eq_true rfl, Nat.le_of_ble_eq_true rfl⟩ (Nat.le_of_ble_eq_true rfl) 0 0 ⟨rfl, rfl⟩ ⟨Nat.zero_le _, Nat.zero_le _⟩ (by decide +kernel) _ rfl (fun q1 => [ai q1.2]) (fun _ => rfl) (fun q1 => ?_)
  refine x_if_eq C (tgt := 18) (off := 13) (by decide) (by decide +kernel) (fun h9 => ?_) (fun h9 => ?_)
  · skip
    refine x_iconst C (n := (-1)) (by decide +kernel) ?_
    exact x_iret C ⟨Nat.zero_le _, Nat.zero_le _⟩ (by decide +kernel)
  · skip
    refine x_iload_n C 2 (i := 2) (k0 := 2) rfl rfl (by decide +kernel) ?_
    refine x_iconst C (n := 0) (by decide +kernel) ?_
    refine x_bipush C (n := 100) (by decide +kernel) (by decide +kernel) ?_
    refine x_callSp C (c_X11_within l D ca ra N σ p1 0 100) (p_X11_within N σ p1 0 100) mt_X11_within ms_X11_within ml_RX11_105 rfl (fun h => Bool.noConfusion h) ⟨Nat.le_of_ble_eq_true rfl, Nat.le_of_ble_eq_true rfl⟩ (Nat.le_of_ble_eq_true rfl) 0 0 ⟨rfl, rfl⟩ ⟨Nat.zero_le _, Nat.zero_le _⟩ (by decide +kernel) _ rfl (fun q2 => [ai q2.2]) (fun _ => rfl) (fun q2 => ?_)
    refine x_if_ne C (tgt := 20) (off := 5) (by decide) (by decide +kernel) (fun h8 => ?_) (fun h8 => ?_)
    · skip
      refine x_aload_n C 0 (i := 0) (k0 := 0) rfl rfl (by decide +kernel) ?_
      refine x_gR C fl_RX11_82 (fun _ _ _ => rfl) (by decide +kernel) (fun works_3 => ?_)
      refine x_aload_n C 0 (i := 0) (k0 := 0) rfl rfl (by decide +kernel) ?_
      refine x_gR C fl_RX11_19 (fun _ _ _ => rfl) (by decide +kernel) (fun machine_4 => ?_)
      refine x_iload_n C 2 (i := 2) (k0 := 2) rfl rfl (by decide +kernel) ?_
      refine x_callV C (ci := 10) (c_X10_divide l D ca ra N σ works_3 machine_4 p1) mt_X10_divide mv_X10_divide rfl ml_RX11_240 rfl (fun h => Bool.noConfusion h) ⟨Nat.le_of_ble_eq_true rfl, Nat.le_of_ble_eq_true rfl⟩ (Nat.le_of_ble_eq_true rfl) 0 0 ⟨rfl, rfl⟩ ⟨Nat.zero_le _, Nat.zero_le _⟩ (by decide +kernel) _ rfl (fun q5 => []) (fun _ => rfl) (fun q5 => ?_)
      refine x_aload_n C 0 (i := 0) (k0 := 0) rfl rfl (by decide +kernel) ?_
      refine x_gR C fl_RX11_82 (fun _ _ _ => rfl) (by decide +kernel) (fun works_6 => ?_)
      show X z 0 0 q5.1 36 [(0, ar this), (1, ai p0), (2, ai p1)] [ar works_6] _
      refine x_iload_n C 1 (i := 1) (k0 := 1) rfl rfl (by decide +kernel) ?_
      refine x_callVp C (ci := 10) (c_X10_makerOf l D ca ra N q5.1 works_6 p0) (p_X10_makerOf N q5.1 works_6 p0) mt_X10_makerOf mv_X10_makerOf rfl ml_RX11_246 rfl (fun h => Bool.noConfusion h) ⟨Nat.le_of_ble_eq_true rfl, Nat.le_of_ble_eq_true rfl⟩ (Nat.le_of_ble_eq_true rfl) 0 0 ⟨rfl, rfl⟩ ⟨Nat.zero_le _, Nat.zero_le _⟩ (by decide +kernel) _ rfl (fun q7 => [ai q7.2]) (fun _ => rfl) (fun q7 => ?_)
      exact x_iret C ⟨Nat.zero_le _, Nat.zero_le _⟩ (by decide +kernel)
    · skip
      refine x_iconst C (n := (-1)) (by decide +kernel) ?_
      exact x_iret C ⟨Nat.zero_le _, Nat.zero_le _⟩ (by decide +kernel)

def rm_X11_stage : Room := { frames := 2, cells := 0, slots := 0, locals := 44 }
def f_X11_stage (N : Nat) (σ : St) (this : Nat) (p0 : Int) (p1 : Int) : Option (St × Int) :=
 Option.bind (gR shx σ 11 this 12) fun stages_1 =>
 Option.bind (rcv shx σ 5 stages_1 (f_X5_add N σ stages_1 p0 p1)) fun q2 =>
 some (q2.1, q2.2)
set_option maxRecDepth 100000 in
set_option maxHeartbeats 4000000 in
theorem c_X11_stage (l : Launch) (D : va_G) (ca : Nat → ClassId) (ra : Nat → Nat) (N : Nat) (σ : St) (this : Nat) (p0 : Int) (p1 : Int) : Ctr l (D, ca, ra, shx) false yX11_stage cX11_stage 3 (some .int) rm_X11_stage σ [ar this, ai p0, ai p1] (f_X11_stage N σ this p0 p1) := by
  refine ctr_of (by decide) (Nat.le_of_ble_eq_true rfl) (fun z C => ?_)
  show X z 0 0 σ 0 [(0, ar this), (1, ai p0), (2, ai p1)] [] _
  unfold f_X11_stage
  refine x_aload_n C 0 (i := 0) (k0 := 0) rfl rfl (by decide +kernel) ?_
  refine x_gR C fl_RX11_89 (fun _ _ _ => rfl) (by decide +kernel) (fun stages_1 => ?_)
  refine x_iload_n C 1 (i := 1) (k0 := 1) rfl rfl (by decide +kernel) ?_
  refine x_iload_n C 2 (i := 2) (k0 := 2) rfl rfl (by decide +kernel) ?_
  refine x_callV C (ci := 5) (c_X5_add l D ca ra N σ stages_1 p0 p1) mt_X5_add mv_X5_add rfl ml_RX11_249 rfl (fun h => Bool.noConfusion h) ⟨Nat.le_of_ble_eq_true rfl, Nat.le_of_ble_eq_true rfl⟩ (Nat.le_of_ble_eq_true rfl) 0 0 ⟨rfl, rfl⟩ ⟨Nat.zero_le _, Nat.zero_le _⟩ (by decide +kernel) _ rfl (fun q2 => [ai q2.2]) (fun _ => rfl) (fun q2 => ?_)
  exact x_iret C ⟨Nat.zero_le _, Nat.zero_le _⟩ (by decide +kernel)

def rm_X11_grant : Room := { frames := 2, cells := 0, slots := 0, locals := 44 }
def f_X11_grant (N : Nat) (σ : St) (this : Nat) (p0 : Int) (p1 : Int) : Option (St × Int) :=
 Option.bind (gR shx σ 11 this 12) fun stages_1 =>
 Option.bind (rcv shx σ 5 stages_1 (f_X5_setGrant N σ stages_1 p0 p1)) fun q2 =>
 rZ q2.1 q2.2
set_option maxRecDepth 100000 in
set_option maxHeartbeats 4000000 in
theorem c_X11_grant (l : Launch) (D : va_G) (ca : Nat → ClassId) (ra : Nat → Nat) (N : Nat) (σ : St) (this : Nat) (p0 : Int) (p1 : Int) : Ctr l (D, ca, ra, shx) false yX11_grant cX11_grant 3 (some .boolean) rm_X11_grant σ [ar this, ai p0, ai p1] (f_X11_grant N σ this p0 p1) := by
  refine ctr_of (by decide) (Nat.le_of_ble_eq_true rfl) (fun z C => ?_)
  show X z 0 0 σ 0 [(0, ar this), (1, ai p0), (2, ai p1)] [] _
  unfold f_X11_grant
  refine x_aload_n C 0 (i := 0) (k0 := 0) rfl rfl (by decide +kernel) ?_
  refine x_gR C fl_RX11_89 (fun _ _ _ => rfl) (by decide +kernel) (fun stages_1 => ?_)
  refine x_iload_n C 1 (i := 1) (k0 := 1) rfl rfl (by decide +kernel) ?_
  refine x_iload_n C 2 (i := 2) (k0 := 2) rfl rfl (by decide +kernel) ?_
  refine x_callV C (ci := 5) (c_X5_setGrant l D ca ra N σ stages_1 p0 p1) mt_X5_setGrant mv_X5_setGrant rfl ml_RX11_250 rfl (fun h => Bool.noConfusion h) ⟨Nat.le_of_ble_eq_true rfl, Nat.le_of_ble_eq_true rfl⟩ (Nat.le_of_ble_eq_true rfl) 0 0 ⟨rfl, rfl⟩ ⟨Nat.zero_le _, Nat.zero_le _⟩ (by decide +kernel) _ rfl (fun q2 => [ai q2.2]) (fun _ => rfl) (fun q2 => ?_)
  exact x_rZ C ⟨Nat.zero_le _, Nat.zero_le _⟩ (by decide +kernel)

def rm_X11_safe : Room := { frames := 6, cells := 0, slots := 0, locals := 146 }
def f_X11_safe (N : Nat) (σ : St) (this : Nat) (p0 : Int) (p1 : Int) (p2 : Int) : Option (St × Int) :=
 Option.bind (f_X11_isMoney N σ p0) fun q1 =>
 (if wr q1.2 = 0 then some (σ, (-1)) else Option.bind (f_X11_isMoney N σ p1) fun q2 =>
 (if wr q2.2 = 0 then some (σ, (-1)) else Option.bind (f_X11_within N σ p2 0 6) fun q3 =>
 (if wr q3.2 = 0 then some (σ, (-1)) else Option.bind (gR shx σ 11 this 12) fun stages_4 =>
 Option.bind (rcv shx σ 5 stages_4 (f_X5_isSafe N σ stages_4 p0 p1 p2)) fun q5 =>
 (if wr q5.2 = 0 then some (q5.1, 0) else some (q5.1, 1)))))
set_option maxRecDepth 100000 in
set_option maxHeartbeats 4000000 in
theorem c_X11_safe (l : Launch) (D : va_G) (ca : Nat → ClassId) (ra : Nat → Nat) (N : Nat) (σ : St) (this : Nat) (p0 : Int) (p1 : Int) (p2 : Int) : Ctr l (D, ca, ra, shx) false yX11_safe cX11_safe 4 (some .int) rm_X11_safe σ [ar this, ai p0, ai p1, ai p2] (f_X11_safe N σ this p0 p1 p2) := by
  refine ctr_of (by decide) (Nat.le_of_ble_eq_true rfl) (fun z C => ?_)
  show X z 0 0 σ 0 [(0, ar this), (1, ai p0), (2, ai p1), (3, ai p2)] [] _
  unfold f_X11_safe
  refine x_iload_n C 1 (i := 1) (k0 := 1) rfl rfl (by decide +kernel) ?_
  refine x_callSp C (c_X11_isMoney l D ca ra N σ p0) (p_X11_isMoney N σ p0) mt_X11_isMoney ms_X11_isMoney ml_RX11_253 rfl (fun h => Bool.noConfusion h) ⟨Nat.le_of_ble_eq_true rfl, Nat.le_of_ble_eq_true rfl⟩ (Nat.le_of_ble_eq_true rfl) 0 0 ⟨rfl, rfl⟩ ⟨Nat.zero_le _, Nat.zero_le _⟩ (by decide +kernel) _ rfl (fun q1 => [ai q1.2]) (fun _ => rfl) (fun q1 => ?_)
  refine x_if_eq C (tgt := 24) (off := 20) (by decide) (by decide +kernel) (fun h9 => ?_) (fun h9 => ?_)
  · skip
    refine x_iconst C (n := (-1)) (by decide +kernel) ?_
    exact x_iret C ⟨Nat.zero_le _, Nat.zero_le _⟩ (by decide +kernel)
  · skip
    refine x_iload_n C 2 (i := 2) (k0 := 2) rfl rfl (by decide +kernel) ?_
    refine x_callSp C (c_X11_isMoney l D ca ra N σ p1) (p_X11_isMoney N σ p1) mt_X11_isMoney ms_X11_isMoney ml_RX11_253 rfl (fun h => Bool.noConfusion h) ⟨Nat.le_of_ble_eq_true rfl, Nat.le_of_ble_eq_true rfl⟩ (Nat.le_of_ble_eq_true rfl) 0 0 ⟨rfl, rfl⟩ ⟨Nat.zero_le _, Nat.zero_le _⟩ (by decide +kernel) _ rfl (fun q2 => [ai q2.2]) (fun _ => rfl) (fun q2 => ?_)
    refine x_if_eq C (tgt := 24) (off := 13) (by decide) (by decide +kernel) (fun h8 => ?_) (fun h8 => ?_)
    · skip
      refine x_iconst C (n := (-1)) (by decide +kernel) ?_
      exact x_iret C ⟨Nat.zero_le _, Nat.zero_le _⟩ (by decide +kernel)
    · skip
      refine x_iload_n C 3 (i := 3) (k0 := 3) rfl rfl (by decide +kernel) ?_
      refine x_iconst C (n := 0) (by decide +kernel) ?_
      refine x_bipush C (n := 6) (by decide +kernel) (by decide +kernel) ?_
      refine x_callSp C (c_X11_within l D ca ra N σ p2 0 6) (p_X11_within N σ p2 0 6) mt_X11_within ms_X11_within ml_RX11_105 rfl (fun h => Bool.noConfusion h) ⟨Nat.le_of_ble_eq_true rfl, Nat.le_of_ble_eq_true rfl⟩ (Nat.le_of_ble_eq_true rfl) 0 0 ⟨rfl, rfl⟩ ⟨Nat.zero_le _, Nat.zero_le _⟩ (by decide +kernel) _ rfl (fun q3 => [ai q3.2]) (fun _ => rfl) (fun q3 => ?_)
      refine x_if_ne C (tgt := 26) (off := 5) (by decide) (by decide +kernel) (fun h7 => ?_) (fun h7 => ?_)
      · skip
        refine x_aload_n C 0 (i := 0) (k0 := 0) rfl rfl (by decide +kernel) ?_
        refine x_gR C fl_RX11_89 (fun _ _ _ => rfl) (by decide +kernel) (fun stages_4 => ?_)
        refine x_iload_n C 1 (i := 1) (k0 := 1) rfl rfl (by decide +kernel) ?_
        refine x_iload_n C 2 (i := 2) (k0 := 2) rfl rfl (by decide +kernel) ?_
        refine x_iload_n C 3 (i := 3) (k0 := 3) rfl rfl (by decide +kernel) ?_
        refine x_callV C (ci := 5) (c_X5_isSafe l D ca ra N σ stages_4 p0 p1 p2) mt_X5_isSafe mv_X5_isSafe rfl ml_RX11_256 rfl (fun h => Bool.noConfusion h) ⟨Nat.le_of_ble_eq_true rfl, Nat.le_of_ble_eq_true rfl⟩ (Nat.le_of_ble_eq_true rfl) 0 0 ⟨rfl, rfl⟩ ⟨Nat.zero_le _, Nat.zero_le _⟩ (by decide +kernel) _ rfl (fun q5 => [ai q5.2]) (fun _ => rfl) (fun q5 => ?_)
        refine x_if_eq C (tgt := 43) (off := 7) (by decide) (by decide +kernel) (fun h6 => ?_) (fun h6 => ?_)
        · skip
          refine x_iconst C (n := 0) (by decide +kernel) ?_
          exact x_iret C ⟨Nat.zero_le _, Nat.zero_le _⟩ (by decide +kernel)
        · skip
          refine x_iconst C (n := 1) (by decide +kernel) ?_
          refine x_goto C (tgt := 44) (off := 4) (by decide) (by decide +kernel) ?_
          exact x_iret C ⟨Nat.zero_le _, Nat.zero_le _⟩ (by decide +kernel)
      · skip
        refine x_iconst C (n := (-1)) (by decide +kernel) ?_
        exact x_iret C ⟨Nat.zero_le _, Nat.zero_le _⟩ (by decide +kernel)

def L_X11_bears_19 (N : Nat) (this : Nat) (p0 : Int) (p1 : Int) : (St × Int) → Option (St × Int) := fixN N fun b19_3 t3 =>
 (if wr t3.2 < 0 then some (t3.1, (-1)) else Option.bind (gR shx t3.1 11 this 12) fun stages_5 =>
 Option.bind (rcv shx t3.1 5 stages_5 (f_X5_isSafe N t3.1 stages_5 p0 p1 t3.2)) fun q6 =>
 (if wr q6.2 = 0 then Lt (t3.2 + (-1)) fun x7 =>
 b19_3 (q6.1, x7) else some (q6.1, t3.2)))
def rm_X11_bears : Room := { frames := 6, cells := 0, slots := 0, locals := 146 }
def f_X11_bears (N : Nat) (σ : St) (this : Nat) (p0 : Int) (p1 : Int) : Option (St × Int) :=
 Option.bind (f_X11_isMoney N σ p0) fun q1 =>
 (if wr q1.2 = 0 then some (σ, (-1)) else Option.bind (f_X11_isMoney N σ p1) fun q2 =>
 (if wr q2.2 = 0 then some (σ, (-1)) else L_X11_bears_19 N this p0 p1 (σ, 6)))
set_option maxRecDepth 100000 in
set_option maxHeartbeats 4000000 in
theorem c_X11_bears (l : Launch) (D : va_G) (ca : Nat → ClassId) (ra : Nat → Nat) (N : Nat) (σ : St) (this : Nat) (p0 : Int) (p1 : Int) : Ctr l (D, ca, ra, shx) false yX11_bears cX11_bears 4 (some .int) rm_X11_bears σ [ar this, ai p0, ai p1] (f_X11_bears N σ this p0 p1) := by
  refine ctr_of (by decide) (Nat.le_of_ble_eq_true rfl) (fun z C => ?_)
  show X z 0 0 σ 0 [(0, ar this), (1, ai p0), (2, ai p1)] [] _
  unfold f_X11_bears
  refine x_iload_n C 1 (i := 1) (k0 := 1) rfl rfl (by decide +kernel) ?_
  refine x_callSp C (c_X11_isMoney l D ca ra N σ p0) (p_X11_isMoney N σ p0) mt_X11_isMoney ms_X11_isMoney ml_RX11_253 rfl (fun h => Bool.noConfusion h) ⟨Nat.le_of_ble_eq_true rfl, Nat.le_of_ble_eq_true rfl⟩ (Nat.le_of_ble_eq_true rfl) 0 0 ⟨rfl, rfl⟩ ⟨Nat.zero_le _, Nat.zero_le _⟩ (by decide +kernel) _ rfl (fun q1 => [ai q1.2]) (fun _ => rfl) (fun q1 => ?_)
  refine x_if_eq C (tgt := 14) (off := 10) (by decide) (by decide +kernel) (fun h11 => ?_) (fun h11 => ?_)
  · skip
    refine x_iconst C (n := (-1)) (by decide +kernel) ?_
    exact x_iret C ⟨Nat.zero_le _, Nat.zero_le _⟩ (by decide +kernel)
  · skip
    refine x_iload_n C 2 (i := 2) (k0 := 2) rfl rfl (by decide +kernel) ?_
    refine x_callSp C (c_X11_isMoney l D ca ra N σ p1) (p_X11_isMoney N σ p1) mt_X11_isMoney ms_X11_isMoney ml_RX11_253 rfl (fun h => Bool.noConfusion h) ⟨Nat.le_of_ble_eq_true rfl, Nat.le_of_ble_eq_true rfl⟩ (Nat.le_of_ble_eq_true rfl) 0 0 ⟨rfl, rfl⟩ ⟨Nat.zero_le _, Nat.zero_le _⟩ (by decide +kernel) _ rfl (fun q2 => [ai q2.2]) (fun _ => rfl) (fun q2 => ?_)
    refine x_if_ne C (tgt := 16) (off := 5) (by decide) (by decide +kernel) (fun h10 => ?_) (fun h10 => ?_)
    · skip
      refine x_bipush C (n := 6) (by decide +kernel) (by decide +kernel) ?_
      refine x_istore_n C (i := 3) (k0 := 3) rfl (Nat.le_of_ble_eq_true rfl) (by decide +kernel) (lv2 := [(3, ai 6), (0, ar this), (1, ai p0), (2, ai p1)]) rfl ?_
      refine x_sub [1, 2, 3, 0] (lv2 := [(0, ar this), (1, ai p0), (2, ai p1), (3, ai 6)]) rfl ?_
      -- LOOP L_X11_bears_19 hb19_3
      refine x_loop (T := St × Int) (fun t => t.1) (fun t => [(0, ar this), (1, ai p0), (2, ai p1), (3, ai t.2)]) (σ, 6) rfl (fun b19_3 hb19_3 t3 => ?_)
      show X z 0 0 t3.1 19 [(0, ar this), (1, ai p0), (2, ai p1), (3, ai t3.2)] [] _
      refine x_iload_n C 3 (i := 3) (k0 := 3) rfl rfl (by decide +kernel) ?_
      refine x_if_lt C (tgt := 44) (off := 24) (by decide) (by decide +kernel) (fun h9 => ?_) (fun h9 => ?_)
      · skip
        refine x_iconst C (n := (-1)) (by decide +kernel) ?_
        exact x_iret C ⟨Nat.zero_le _, Nat.zero_le _⟩ (by decide +kernel)
      · skip
        refine x_aload_n C 0 (i := 0) (k0 := 0) rfl rfl (by decide +kernel) ?_
        refine x_gR C fl_RX11_89 (fun _ _ _ => rfl) (by decide +kernel) (fun stages_5 => ?_)
        refine x_iload_n C 1 (i := 1) (k0 := 1) rfl rfl (by decide +kernel) ?_
        refine x_iload_n C 2 (i := 2) (k0 := 2) rfl rfl (by decide +kernel) ?_
        refine x_iload_n C 3 (i := 3) (k0 := 3) rfl rfl (by decide +kernel) ?_
        refine x_callV C (ci := 5) (c_X5_isSafe l D ca ra N t3.1 stages_5 p0 p1 t3.2) mt_X5_isSafe mv_X5_isSafe rfl ml_RX11_256 rfl (fun h => Bool.noConfusion h) ⟨Nat.le_of_ble_eq_true rfl, Nat.le_of_ble_eq_true rfl⟩ (Nat.le_of_ble_eq_true rfl) 0 0 ⟨rfl, rfl⟩ ⟨Nat.zero_le _, Nat.zero_le _⟩ (by decide +kernel) _ rfl (fun q6 => [ai q6.2]) (fun _ => rfl) (fun q6 => ?_)
        refine x_if_eq C (tgt := 38) (off := 5) (by decide) (by decide +kernel) (fun h8 => ?_) (fun h8 => ?_)
        · skip
          refine x_iinc C 3 (i := 3) (n := (-1)) (Nat.le_of_ble_eq_true rfl) rfl (by decide +kernel) (lv2 := fun x7 => [(3, ai x7), (0, ar this), (1, ai p0), (2, ai p1)]) (fun _ => rfl) (fun x7 => ?_)
          refine x_goto C (tgt := 19) (off := (-22)) (by decide) (by decide +kernel) ?_
          refine x_sub [1, 2, 3, 0] (lv2 := [(0, ar this), (1, ai p0), (2, ai p1), (3, ai x7)]) rfl ?_
          exact hb19_3 (q6.1, x7)
        · skip
          refine x_iload_n C 3 (i := 3) (k0 := 3) rfl rfl (by decide +kernel) ?_
          exact x_iret C ⟨Nat.zero_le _, Nat.zero_le _⟩ (by decide +kernel)
    · skip
      refine x_iconst C (n := (-1)) (by decide +kernel) ?_
      exact x_iret C ⟨Nat.zero_le _, Nat.zero_le _⟩ (by decide +kernel)

def rm_X11_should : Room := { frames := 6, cells := 0, slots := 0, locals := 146 }
def f_X11_should (N : Nat) (σ : St) (this : Nat) (p0 : Int) (p1 : Int) (p2 : Int) : Option (St × Int) :=
 Option.bind (f_X11_isMoney N σ p0) fun q1 =>
 (if wr q1.2 = 0 then some (σ, (-1)) else Option.bind (f_X11_isMoney N σ p1) fun q2 =>
 (if wr q2.2 = 0 then some (σ, (-1)) else Option.bind (f_X11_within N σ p2 0 6) fun q3 =>
 (if wr q3.2 = 0 then some (σ, (-1)) else Option.bind (gR shx σ 11 this 12) fun stages_4 =>
 Option.bind (rcv shx σ 5 stages_4 (f_X5_firstYear N σ stages_4 p0 p1 p2)) fun q5 =>
 some (q5.1, q5.2))))
set_option maxRecDepth 100000 in
set_option maxHeartbeats 4000000 in
theorem c_X11_should (l : Launch) (D : va_G) (ca : Nat → ClassId) (ra : Nat → Nat) (N : Nat) (σ : St) (this : Nat) (p0 : Int) (p1 : Int) (p2 : Int) : Ctr l (D, ca, ra, shx) false yX11_should cX11_should 4 (some .int) rm_X11_should σ [ar this, ai p0, ai p1, ai p2] (f_X11_should N σ this p0 p1 p2) := by
  refine ctr_of (by decide) (Nat.le_of_ble_eq_true rfl) (fun z C => ?_)
  show X z 0 0 σ 0 [(0, ar this), (1, ai p0), (2, ai p1), (3, ai p2)] [] _
  unfold f_X11_should
  refine x_iload_n C 1 (i := 1) (k0 := 1) rfl rfl (by decide +kernel) ?_
  refine x_callSp C (c_X11_isMoney l D ca ra N σ p0) (p_X11_isMoney N σ p0) mt_X11_isMoney ms_X11_isMoney ml_RX11_253 rfl (fun h => Bool.noConfusion h) ⟨Nat.le_of_ble_eq_true rfl, Nat.le_of_ble_eq_true rfl⟩ (Nat.le_of_ble_eq_true rfl) 0 0 ⟨rfl, rfl⟩ ⟨Nat.zero_le _, Nat.zero_le _⟩ (by decide +kernel) _ rfl (fun q1 => [ai q1.2]) (fun _ => rfl) (fun q1 => ?_)
  refine x_if_eq C (tgt := 24) (off := 20) (by decide) (by decide +kernel) (fun h8 => ?_) (fun h8 => ?_)
  · skip
    refine x_iconst C (n := (-1)) (by decide +kernel) ?_
    exact x_iret C ⟨Nat.zero_le _, Nat.zero_le _⟩ (by decide +kernel)
  · skip
    refine x_iload_n C 2 (i := 2) (k0 := 2) rfl rfl (by decide +kernel) ?_
    refine x_callSp C (c_X11_isMoney l D ca ra N σ p1) (p_X11_isMoney N σ p1) mt_X11_isMoney ms_X11_isMoney ml_RX11_253 rfl (fun h => Bool.noConfusion h) ⟨Nat.le_of_ble_eq_true rfl, Nat.le_of_ble_eq_true rfl⟩ (Nat.le_of_ble_eq_true rfl) 0 0 ⟨rfl, rfl⟩ ⟨Nat.zero_le _, Nat.zero_le _⟩ (by decide +kernel) _ rfl (fun q2 => [ai q2.2]) (fun _ => rfl) (fun q2 => ?_)
    refine x_if_eq C (tgt := 24) (off := 13) (by decide) (by decide +kernel) (fun h7 => ?_) (fun h7 => ?_)
    · skip
      refine x_iconst C (n := (-1)) (by decide +kernel) ?_
      exact x_iret C ⟨Nat.zero_le _, Nat.zero_le _⟩ (by decide +kernel)
    · skip
      refine x_iload_n C 3 (i := 3) (k0 := 3) rfl rfl (by decide +kernel) ?_
      refine x_iconst C (n := 0) (by decide +kernel) ?_
      refine x_bipush C (n := 6) (by decide +kernel) (by decide +kernel) ?_
      refine x_callSp C (c_X11_within l D ca ra N σ p2 0 6) (p_X11_within N σ p2 0 6) mt_X11_within ms_X11_within ml_RX11_105 rfl (fun h => Bool.noConfusion h) ⟨Nat.le_of_ble_eq_true rfl, Nat.le_of_ble_eq_true rfl⟩ (Nat.le_of_ble_eq_true rfl) 0 0 ⟨rfl, rfl⟩ ⟨Nat.zero_le _, Nat.zero_le _⟩ (by decide +kernel) _ rfl (fun q3 => [ai q3.2]) (fun _ => rfl) (fun q3 => ?_)
      refine x_if_ne C (tgt := 26) (off := 5) (by decide) (by decide +kernel) (fun h6 => ?_) (fun h6 => ?_)
      · skip
        refine x_aload_n C 0 (i := 0) (k0 := 0) rfl rfl (by decide +kernel) ?_
        refine x_gR C fl_RX11_89 (fun _ _ _ => rfl) (by decide +kernel) (fun stages_4 => ?_)
        refine x_iload_n C 1 (i := 1) (k0 := 1) rfl rfl (by decide +kernel) ?_
        refine x_iload_n C 2 (i := 2) (k0 := 2) rfl rfl (by decide +kernel) ?_
        refine x_iload_n C 3 (i := 3) (k0 := 3) rfl rfl (by decide +kernel) ?_
        refine x_callV C (ci := 5) (c_X5_firstYear l D ca ra N σ stages_4 p0 p1 p2) mt_X5_firstYear mv_X5_firstYear rfl ml_RX11_259 rfl (fun h => Bool.noConfusion h) ⟨Nat.le_of_ble_eq_true rfl, Nat.le_of_ble_eq_true rfl⟩ (Nat.le_of_ble_eq_true rfl) 0 0 ⟨rfl, rfl⟩ ⟨Nat.zero_le _, Nat.zero_le _⟩ (by decide +kernel) _ rfl (fun q5 => [ai q5.2]) (fun _ => rfl) (fun q5 => ?_)
        exact x_iret C ⟨Nat.zero_le _, Nat.zero_le _⟩ (by decide +kernel)
      · skip
        refine x_iconst C (n := (-1)) (by decide +kernel) ?_
        exact x_iret C ⟨Nat.zero_le _, Nat.zero_le _⟩ (by decide +kernel)

def rm_X11_about : Room := { frames := 1, cells := 0, slots := 0, locals := 22 }
def f_X11_about (N : Nat) (σ : St) (this : Nat) (p0 : Int) : Option (St × Int) :=
 (if wr p0 = 0 then Option.bind (gR shx σ 11 this 1) fun machine_6 =>
 Option.bind (gI shx σ 3 machine_6 1) fun parts_7 =>
 some (σ, parts_7) else (if wr p0 = 1 then Option.bind (gR shx σ 11 this 1) fun machine_9 =>
 Option.bind (gI shx σ 3 machine_9 7) fun joins_10 =>
 some (σ, joins_10) else (if wr p0 = 2 then Option.bind (gR shx σ 11 this 1) fun machine_12 =>
 Option.bind (gI shx σ 3 machine_12 11) fun moves_13 =>
 some (σ, moves_13) else (if wr p0 = 3 then Option.bind (gR shx σ 11 this 1) fun machine_15 =>
 Option.bind (gI shx σ 3 machine_15 15) fun tanks_16 =>
 some (σ, tanks_16) else (if wr p0 = 4 then Option.bind (gR shx σ 11 this 7) fun facts_18 =>
 Option.bind (gI shx σ 1 facts_18 0) fun count_19 =>
 some (σ, count_19) else (if wr p0 = 5 then Option.bind (gR shx σ 11 this 8) fun flight_21 =>
 Option.bind (gI shx σ 2 flight_21 0) fun steps_22 =>
 some (σ, steps_22) else (if wr p0 = 6 then Option.bind (gR shx σ 11 this 10) fun airlines_24 =>
 Option.bind (gI shx σ 0 airlines_24 0) fun count_25 =>
 some (σ, count_25) else (if wr p0 = 7 then Option.bind (gR shx σ 11 this 7) fun facts_27 =>
 Option.bind (gI shx σ 1 facts_27 1) fun time_28 =>
 some (σ, time_28) else (if wr p0 = 8 then Option.bind (gR shx σ 11 this 0) fun tape_30 =>
 Option.bind (gI shx σ 6 tape_30 2) fun length_31 =>
 some (σ, length_31) else (if wr p0 = 9 then Option.bind (gR shx σ 11 this 12) fun stages_33 =>
 Option.bind (gI shx σ 5 stages_33 0) fun count_34 =>
 some (σ, count_34) else Option.bind (f_X11_within N σ p0 10 12) fun q1 =>
 (if wr q1.2 = 0 then some (σ, (-1)) else Option.bind (gR shx σ 11 this 4) fun treaties_2 =>
 Option.bind (aR shx σ 5 treaties_2 (p0 - 10)) fun r3 =>
 Option.bind (gI shx σ 7 r3 0) fun lines_4 =>
 some (σ, lines_4))))))))))))
set_option maxRecDepth 100000 in
set_option maxHeartbeats 4000000 in
theorem c_X11_about (l : Launch) (D : va_G) (ca : Nat → ClassId) (ra : Nat → Nat) (N : Nat) (σ : St) (this : Nat) (p0 : Int) : Ctr l (D, ca, ra, shx) false yX11_about cX11_about 2 (some .int) rm_X11_about σ [ar this, ai p0] (f_X11_about N σ this p0) := by
  refine ctr_of (by decide) (Nat.le_of_ble_eq_true rfl) (fun z C => ?_)
  show X z 0 0 σ 0 [(0, ar this), (1, ai p0)] [] _
  unfold f_X11_about
  refine x_iload_n C 1 (i := 1) (k0 := 1) rfl rfl (by decide +kernel) ?_
  refine x_split (fun h8 => ?_) (fun h8 => ?_)
  · refine x_ts C (dflt := 135) (lo := 0) (hi := 9) (offs := #[55, 63, 71, 79, 87, 95, 103, 111, 119, 127]) (len := 55) (v := 0) (off := 55) (tgt := 56) h8 (by decide) (by decide) rfl (by decide) (by decide +kernel) ?_
    refine x_aload_n C 0 (i := 0) (k0 := 0) rfl rfl (by decide +kernel) ?_
    refine x_gR C fl_RX11_19 (fun _ _ _ => rfl) (by decide +kernel) (fun machine_6 => ?_)
    refine x_gI C fl_RX11_262 (fun _ _ _ => rfl) (by decide +kernel) (fun parts_7 => ?_)
    exact x_iret C ⟨Nat.zero_le _, Nat.zero_le _⟩ (by decide +kernel)
  refine x_split (fun h11 => ?_) (fun h11 => ?_)
  · refine x_ts C (dflt := 135) (lo := 0) (hi := 9) (offs := #[55, 63, 71, 79, 87, 95, 103, 111, 119, 127]) (len := 55) (v := 1) (off := 63) (tgt := 64) h11 (by decide) (by decide) rfl (by decide) (by decide +kernel) ?_
    refine x_aload_n C 0 (i := 0) (k0 := 0) rfl rfl (by decide +kernel) ?_
    refine x_gR C fl_RX11_19 (fun _ _ _ => rfl) (by decide +kernel) (fun machine_9 => ?_)
    refine x_gI C fl_RX11_143 (fun _ _ _ => rfl) (by decide +kernel) (fun joins_10 => ?_)
    exact x_iret C ⟨Nat.zero_le _, Nat.zero_le _⟩ (by decide +kernel)
  refine x_split (fun h14 => ?_) (fun h14 => ?_)
  · refine x_ts C (dflt := 135) (lo := 0) (hi := 9) (offs := #[55, 63, 71, 79, 87, 95, 103, 111, 119, 127]) (len := 55) (v := 2) (off := 71) (tgt := 72) h14 (by decide) (by decide) rfl (by decide) (by decide +kernel) ?_
    refine x_aload_n C 0 (i := 0) (k0 := 0) rfl rfl (by decide +kernel) ?_
    refine x_gR C fl_RX11_19 (fun _ _ _ => rfl) (by decide +kernel) (fun machine_12 => ?_)
    refine x_gI C fl_RX11_265 (fun _ _ _ => rfl) (by decide +kernel) (fun moves_13 => ?_)
    exact x_iret C ⟨Nat.zero_le _, Nat.zero_le _⟩ (by decide +kernel)
  refine x_split (fun h17 => ?_) (fun h17 => ?_)
  · refine x_ts C (dflt := 135) (lo := 0) (hi := 9) (offs := #[55, 63, 71, 79, 87, 95, 103, 111, 119, 127]) (len := 55) (v := 3) (off := 79) (tgt := 80) h17 (by decide) (by decide) rfl (by decide) (by decide +kernel) ?_
    refine x_aload_n C 0 (i := 0) (k0 := 0) rfl rfl (by decide +kernel) ?_
    refine x_gR C fl_RX11_19 (fun _ _ _ => rfl) (by decide +kernel) (fun machine_15 => ?_)
    refine x_gI C fl_RX11_268 (fun _ _ _ => rfl) (by decide +kernel) (fun tanks_16 => ?_)
    exact x_iret C ⟨Nat.zero_le _, Nat.zero_le _⟩ (by decide +kernel)
  refine x_split (fun h20 => ?_) (fun h20 => ?_)
  · refine x_ts C (dflt := 135) (lo := 0) (hi := 9) (offs := #[55, 63, 71, 79, 87, 95, 103, 111, 119, 127]) (len := 55) (v := 4) (off := 87) (tgt := 88) h20 (by decide) (by decide) rfl (by decide) (by decide +kernel) ?_
    refine x_aload_n C 0 (i := 0) (k0 := 0) rfl rfl (by decide +kernel) ?_
    refine x_gR C fl_RX11_54 (fun _ _ _ => rfl) (by decide +kernel) (fun facts_18 => ?_)
    refine x_gI C fl_RX11_271 (fun _ _ _ => rfl) (by decide +kernel) (fun count_19 => ?_)
    exact x_iret C ⟨Nat.zero_le _, Nat.zero_le _⟩ (by decide +kernel)
  refine x_split (fun h23 => ?_) (fun h23 => ?_)
  · refine x_ts C (dflt := 135) (lo := 0) (hi := 9) (offs := #[55, 63, 71, 79, 87, 95, 103, 111, 119, 127]) (len := 55) (v := 5) (off := 95) (tgt := 96) h23 (by decide) (by decide) rfl (by decide) (by decide +kernel) ?_
    refine x_aload_n C 0 (i := 0) (k0 := 0) rfl rfl (by decide +kernel) ?_
    refine x_gR C fl_RX11_61 (fun _ _ _ => rfl) (by decide +kernel) (fun flight_21 => ?_)
    refine x_gI C fl_RX11_272 (fun _ _ _ => rfl) (by decide +kernel) (fun steps_22 => ?_)
    exact x_iret C ⟨Nat.zero_le _, Nat.zero_le _⟩ (by decide +kernel)
  refine x_split (fun h26 => ?_) (fun h26 => ?_)
  · refine x_ts C (dflt := 135) (lo := 0) (hi := 9) (offs := #[55, 63, 71, 79, 87, 95, 103, 111, 119, 127]) (len := 55) (v := 6) (off := 103) (tgt := 104) h26 (by decide) (by decide) rfl (by decide) (by decide +kernel) ?_
    refine x_aload_n C 0 (i := 0) (k0 := 0) rfl rfl (by decide +kernel) ?_
    refine x_gR C fl_RX11_75 (fun _ _ _ => rfl) (by decide +kernel) (fun airlines_24 => ?_)
    refine x_gI C fl_RX11_234 (fun _ _ _ => rfl) (by decide +kernel) (fun count_25 => ?_)
    exact x_iret C ⟨Nat.zero_le _, Nat.zero_le _⟩ (by decide +kernel)
  refine x_split (fun h29 => ?_) (fun h29 => ?_)
  · refine x_ts C (dflt := 135) (lo := 0) (hi := 9) (offs := #[55, 63, 71, 79, 87, 95, 103, 111, 119, 127]) (len := 55) (v := 7) (off := 111) (tgt := 112) h29 (by decide) (by decide) rfl (by decide) (by decide +kernel) ?_
    refine x_aload_n C 0 (i := 0) (k0 := 0) rfl rfl (by decide +kernel) ?_
    refine x_gR C fl_RX11_54 (fun _ _ _ => rfl) (by decide +kernel) (fun facts_27 => ?_)
    refine x_gI C fl_RX11_275 (fun _ _ _ => rfl) (by decide +kernel) (fun time_28 => ?_)
    exact x_iret C ⟨Nat.zero_le _, Nat.zero_le _⟩ (by decide +kernel)
  refine x_split (fun h32 => ?_) (fun h32 => ?_)
  · refine x_ts C (dflt := 135) (lo := 0) (hi := 9) (offs := #[55, 63, 71, 79, 87, 95, 103, 111, 119, 127]) (len := 55) (v := 8) (off := 119) (tgt := 120) h32 (by decide) (by decide) rfl (by decide) (by decide +kernel) ?_
    refine x_aload_n C 0 (i := 0) (k0 := 0) rfl rfl (by decide +kernel) ?_
    refine x_gR C fl_RX11_10 (fun _ _ _ => rfl) (by decide +kernel) (fun tape_30 => ?_)
    refine x_gI C fl_RX11_101 (fun _ _ _ => rfl) (by decide +kernel) (fun length_31 => ?_)
    exact x_iret C ⟨Nat.zero_le _, Nat.zero_le _⟩ (by decide +kernel)
  refine x_split (fun h35 => ?_) (fun h35 => ?_)
  · refine x_ts C (dflt := 135) (lo := 0) (hi := 9) (offs := #[55, 63, 71, 79, 87, 95, 103, 111, 119, 127]) (len := 55) (v := 9) (off := 127) (tgt := 128) h35 (by decide) (by decide) rfl (by decide) (by decide +kernel) ?_
    refine x_aload_n C 0 (i := 0) (k0 := 0) rfl rfl (by decide +kernel) ?_
    refine x_gR C fl_RX11_89 (fun _ _ _ => rfl) (by decide +kernel) (fun stages_33 => ?_)
    refine x_gI C fl_RX11_278 (fun _ _ _ => rfl) (by decide +kernel) (fun count_34 => ?_)
    exact x_iret C ⟨Nat.zero_le _, Nat.zero_le _⟩ (by decide +kernel)
  refine x_tsD C (dflt := 135) (lo := 0) (hi := 9) (offs := #[55, 63, 71, 79, 87, 95, 103, 111, 119, 127]) (len := 55) (tgt := 136) [0, 1, 2, 3, 4, 5, 6, 7, 8, 9] (List.forall_mem_cons.mpr ⟨h8, (List.forall_mem_cons.mpr ⟨h11, (List.forall_mem_cons.mpr ⟨h14, (List.forall_mem_cons.mpr ⟨h17, (List.forall_mem_cons.mpr ⟨h20, (List.forall_mem_cons.mpr ⟨h23, (List.forall_mem_cons.mpr ⟨h26, (List.forall_mem_cons.mpr ⟨h29, (List.forall_mem_cons.mpr ⟨h32, (List.forall_mem_cons.mpr ⟨h35, (List.forall_mem_nil _)⟩)⟩)⟩)⟩)⟩)⟩)⟩)⟩)⟩)⟩) rfl (by decide +kernel) (by decide) (by decide +kernel) ?_
  refine x_iload_n C 1 (i := 1) (k0 := 1) rfl rfl (by decide +kernel) ?_
  refine x_bipush C (n := 10) (by decide +kernel) (by decide +kernel) ?_
  refine x_bipush C (n := 12) (by decide +kernel) (by decide +kernel) ?_
  refine x_callSp C (c_X11_within l D ca ra N σ p0 10 12) (p_X11_within N σ p0 10 12) mt_X11_within ms_X11_within ml_RX11_105 rfl (fun h => Bool.noConfusion h) ⟨Nat.le_of_ble_eq_true rfl, Nat.le_of_ble_eq_true rfl⟩ (Nat.le_of_ble_eq_true rfl) 0 0 ⟨rfl, rfl⟩ ⟨Nat.zero_le _, Nat.zero_le _⟩ (by decide +kernel) _ rfl (fun q1 => [ai q1.2]) (fun _ => rfl) (fun q1 => ?_)
  refine x_if_eq C (tgt := 162) (off := 18) (by decide) (by decide +kernel) (fun h5 => ?_) (fun h5 => ?_)
  · skip
    refine x_iconst C (n := (-1)) (by decide +kernel) ?_
    exact x_iret C ⟨Nat.zero_le _, Nat.zero_le _⟩ (by decide +kernel)
  · skip
    refine x_aload_n C 0 (i := 0) (k0 := 0) rfl rfl (by decide +kernel) ?_
    refine x_gR C fl_RX11_35 (fun _ _ _ => rfl) (by decide +kernel) (fun treaties_2 => ?_)
    refine x_iload_n C 1 (i := 1) (k0 := 1) rfl rfl (by decide +kernel) ?_
    refine x_bipush C (n := 10) (by decide +kernel) (by decide +kernel) ?_
    refine x_isub C (by decide +kernel) ?_
    refine x_aldR5 C (by decide +kernel) (fun r3 => ?_)
    refine x_gI C fl_RX11_129 (fun _ _ _ => rfl) (by decide +kernel) (fun lines_4 => ?_)
    refine x_goto C (tgt := 163) (off := 4) (by decide) (by decide +kernel) ?_
    exact x_iret C ⟨Nat.zero_le _, Nat.zero_le _⟩ (by decide +kernel)
theorem p_X11_about (N : Nat) (σ : St) (this : Nat) (p0 : Int) : Pu σ (f_X11_about N σ this p0) := by
  unfold f_X11_about
  refine pu_if ?_ ?_
  · skip
    refine pu_bind (fun _ => ?_)
    refine pu_bind (fun _ => ?_)
    exact pu_some
  refine pu_if ?_ ?_
  · skip
    refine pu_bind (fun _ => ?_)
    refine pu_bind (fun _ => ?_)
    exact pu_some
  refine pu_if ?_ ?_
  · skip
    refine pu_bind (fun _ => ?_)
    refine pu_bind (fun _ => ?_)
    exact pu_some
  refine pu_if ?_ ?_
  · skip
    refine pu_bind (fun _ => ?_)
    refine pu_bind (fun _ => ?_)
    exact pu_some
  refine pu_if ?_ ?_
  · skip
    refine pu_bind (fun _ => ?_)
    refine pu_bind (fun _ => ?_)
    exact pu_some
  refine pu_if ?_ ?_
  · skip
    refine pu_bind (fun _ => ?_)
    refine pu_bind (fun _ => ?_)
    exact pu_some
  refine pu_if ?_ ?_
  · skip
    refine pu_bind (fun _ => ?_)
    refine pu_bind (fun _ => ?_)
    exact pu_some
  refine pu_if ?_ ?_
  · skip
    refine pu_bind (fun _ => ?_)
    refine pu_bind (fun _ => ?_)
    exact pu_some
  refine pu_if ?_ ?_
  · skip
    refine pu_bind (fun _ => ?_)
    refine pu_bind (fun _ => ?_)
    exact pu_some
  refine pu_if ?_ ?_
  · skip
    refine pu_bind (fun _ => ?_)
    refine pu_bind (fun _ => ?_)
    exact pu_some
  refine pu_bind (fun _ => ?_)
  refine pu_if ?_ ?_
  · skip
    exact pu_some
  · skip
    refine pu_bind (fun _ => ?_)
    refine pu_bind (fun _ => ?_)
    refine pu_bind (fun _ => ?_)
    exact pu_some
