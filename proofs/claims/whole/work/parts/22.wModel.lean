def rm_X12_isMonth : Room := { frames := 1, cells := 0, slots := 0, locals := 22 }
def f_X12_isMonth (N : Nat) (σ : St) (p0 : Int) : Option (St × Int) :=
 Option.bind (f_X12_isIn N σ p0 0 199) fun q1 =>
 rZ σ q1.2
set_option maxRecDepth 100000 in
set_option maxHeartbeats 4000000 in
theorem c_X12_isMonth (l : Launch) (D : va_G) (ca : Nat → ClassId) (ra : Nat → Nat) (N : Nat) (σ : St) (p0 : Int) : Ctr l (D, ca, ra, shm) false yX12_isMonth cX12_isMonth 1 (some .boolean) rm_X12_isMonth σ [ai p0] (f_X12_isMonth N σ p0) := by
  refine ctr_of (by decide) (Nat.le_of_ble_eq_true rfl) (fun z C => ?_)
  show X z 0 0 σ 0 [(0, ai p0)] [] _
  unfold f_X12_isMonth
  refine x_iload_n C 0 (i := 0) (k0 := 0) rfl rfl (by decide +kernel) ?_
  refine x_iconst C (n := 0) (by decide +kernel) ?_
  refine x_sipush C (n := 199) (by decide +kernel) (by decide +kernel) ?_
  refine x_callSp C (c_X12_isIn l D ca ra N σ p0 0 199) (p_X12_isIn N σ p0 0 199) mt_X12_isIn ms_X12_isIn ml_RX12_354 rfl (fun h => Bool.noConfusion h) ⟨Nat.le_of_ble_eq_true rfl, Nat.le_of_ble_eq_true rfl⟩ (Nat.le_of_ble_eq_true rfl) 0 0 ⟨rfl, rfl⟩ ⟨Nat.zero_le _, Nat.zero_le _⟩ (by decide +kernel) _ rfl (fun q1 => [ai q1.2]) (fun _ => rfl) (fun q1 => ?_)
  exact x_rZ C ⟨Nat.zero_le _, Nat.zero_le _⟩ (by decide +kernel)
theorem p_X12_isMonth (N : Nat) (σ : St) (p0 : Int) : Pu σ (f_X12_isMonth N σ p0) := by
  unfold f_X12_isMonth
  refine pu_bind (fun _ => ?_)
  exact pu_rZ

def rm_X12_tell : Room := { frames := 0, cells := 0, slots := 0, locals := 0 }
def f_X12_tell (N : Nat) (σ : St) (this : Nat) (p0 : Int) (p1 : Int) (p2 : Int) : Option (St × Int) :=
 Option.bind (gI shm σ 12 this 67) fun facts_1 =>
 (if wr facts_1 = wr 200 then some (σ, (-1)) else Option.bind (gR shm σ 12 this 61) fun fKind_2 =>
 Option.bind (gI shm σ 12 this 67) fun facts_3 =>
 Option.bind (sI shm σ 1 fKind_2 facts_3 p0) fun σ4 =>
 Option.bind (gR shm σ4 12 this 62) fun fOne_5 =>
 Option.bind (gI shm σ4 12 this 67) fun facts_6 =>
 Option.bind (sI shm σ4 1 fOne_5 facts_6 p1) fun σ7 =>
 Option.bind (gR shm σ7 12 this 63) fun fTwo_8 =>
 Option.bind (gI shm σ7 12 this 67) fun facts_9 =>
 Option.bind (sI shm σ7 1 fTwo_8 facts_9 p2) fun σ10 =>
 Option.bind (gR shm σ10 12 this 64) fun fTold_11 =>
 Option.bind (gI shm σ10 12 this 67) fun facts_12 =>
 Option.bind (gI shm σ10 12 this 68) fun time_13 =>
 Option.bind (sI shm σ10 1 fTold_11 facts_12 time_13) fun σ14 =>
 Option.bind (gR shm σ14 12 this 65) fun fUntold_15 =>
 Option.bind (gI shm σ14 12 this 67) fun facts_16 =>
 Option.bind (sI shm σ14 1 fUntold_15 facts_16 (-1)) fun σ17 =>
 Option.bind (gI shm σ17 12 this 67) fun facts_18 =>
 Option.bind (pI shm σ17 12 this 67 (facts_18 + 1)) fun σ19 =>
 Option.bind (gI shm σ19 12 this 67) fun facts_20 =>
 some (σ19, (facts_20 - 1)))
set_option maxRecDepth 100000 in
set_option maxHeartbeats 4000000 in
theorem c_X12_tell (l : Launch) (D : va_G) (ca : Nat → ClassId) (ra : Nat → Nat) (N : Nat) (σ : St) (this : Nat) (p0 : Int) (p1 : Int) (p2 : Int) : Ctr l (D, ca, ra, shm) false yX12_tell cX12_tell 4 (some .int) rm_X12_tell σ [ar this, ai p0, ai p1, ai p2] (f_X12_tell N σ this p0 p1 p2) := by
  refine ctr_of (by decide) (Nat.le_of_ble_eq_true rfl) (fun z C => ?_)
  show X z 0 0 σ 0 [(0, ar this), (1, ai p0), (2, ai p1), (3, ai p2)] [] _
  unfold f_X12_tell
  refine x_aload_n C 0 (i := 0) (k0 := 0) rfl rfl (by decide +kernel) ?_
  refine x_gI C fl_RX12_309 (fun _ _ _ => rfl) (by decide +kernel) (fun facts_1 => ?_)
  refine x_sipush C (n := 200) (by decide +kernel) (by decide +kernel) ?_
  refine x_ic_ne C (tgt := 12) (off := 5) (by decide) (by decide +kernel) (fun h21 => ?_) (fun h21 => ?_)
  · skip
    refine x_aload_n C 0 (i := 0) (k0 := 0) rfl rfl (by decide +kernel) ?_
    refine x_gR C fl_RX12_110 (fun _ _ _ => rfl) (by decide +kernel) (fun fKind_2 => ?_)
    refine x_aload_n C 0 (i := 0) (k0 := 0) rfl rfl (by decide +kernel) ?_
    refine x_gI C fl_RX12_309 (fun _ _ _ => rfl) (by decide +kernel) (fun facts_3 => ?_)
    refine x_iload_n C 1 (i := 1) (k0 := 1) rfl rfl (by decide +kernel) ?_
    refine x_astI C (by decide +kernel) (fun σ4 => ?_)
    refine x_aload_n C 0 (i := 0) (k0 := 0) rfl rfl (by decide +kernel) ?_
    refine x_gR C fl_RX12_113 (fun _ _ _ => rfl) (by decide +kernel) (fun fOne_5 => ?_)
    show X z 0 0 σ4 26 [(0, ar this), (1, ai p0), (2, ai p1), (3, ai p2)] [ar fOne_5] _
    refine x_aload_n C 0 (i := 0) (k0 := 0) rfl rfl (by decide +kernel) ?_
    refine x_gI C fl_RX12_309 (fun _ _ _ => rfl) (by decide +kernel) (fun facts_6 => ?_)
    refine x_iload_n C 2 (i := 2) (k0 := 2) rfl rfl (by decide +kernel) ?_
    refine x_astI C (by decide +kernel) (fun σ7 => ?_)
    refine x_aload_n C 0 (i := 0) (k0 := 0) rfl rfl (by decide +kernel) ?_
    refine x_gR C fl_RX12_116 (fun _ _ _ => rfl) (by decide +kernel) (fun fTwo_8 => ?_)
    refine x_aload_n C 0 (i := 0) (k0 := 0) rfl rfl (by decide +kernel) ?_
    refine x_gI C fl_RX12_309 (fun _ _ _ => rfl) (by decide +kernel) (fun facts_9 => ?_)
    show X z 0 0 σ7 40 [(0, ar this), (1, ai p0), (2, ai p1), (3, ai p2)] [ai facts_9, ar fTwo_8] _
    refine x_iload_n C 3 (i := 3) (k0 := 3) rfl rfl (by decide +kernel) ?_
    refine x_astI C (by decide +kernel) (fun σ10 => ?_)
    refine x_aload_n C 0 (i := 0) (k0 := 0) rfl rfl (by decide +kernel) ?_
    refine x_gR C fl_RX12_119 (fun _ _ _ => rfl) (by decide +kernel) (fun fTold_11 => ?_)
    refine x_aload_n C 0 (i := 0) (k0 := 0) rfl rfl (by decide +kernel) ?_
    refine x_gI C fl_RX12_309 (fun _ _ _ => rfl) (by decide +kernel) (fun facts_12 => ?_)
    refine x_aload_n C 0 (i := 0) (k0 := 0) rfl rfl (by decide +kernel) ?_
    refine x_gI C fl_RX12_492 (fun _ _ _ => rfl) (by decide +kernel) (fun time_13 => ?_)
    show X z 0 0 σ10 54 [(0, ar this), (1, ai p0), (2, ai p1), (3, ai p2)] [ai time_13, ai facts_12, ar fTold_11] _
    refine x_astI C (by decide +kernel) (fun σ14 => ?_)
    refine x_aload_n C 0 (i := 0) (k0 := 0) rfl rfl (by decide +kernel) ?_
    refine x_gR C fl_RX12_122 (fun _ _ _ => rfl) (by decide +kernel) (fun fUntold_15 => ?_)
    refine x_aload_n C 0 (i := 0) (k0 := 0) rfl rfl (by decide +kernel) ?_
    refine x_gI C fl_RX12_309 (fun _ _ _ => rfl) (by decide +kernel) (fun facts_16 => ?_)
    refine x_iconst C (n := (-1)) (by decide +kernel) ?_
    refine x_astI C (by decide +kernel) (fun σ17 => ?_)
    refine x_aload_n C 0 (i := 0) (k0 := 0) rfl rfl (by decide +kernel) ?_
    show X z 0 0 σ17 66 [(0, ar this), (1, ai p0), (2, ai p1), (3, ai p2)] [ar this] _
    refine x_dup C rfl (by decide +kernel) ?_
    refine x_gI C fl_RX12_309 (fun _ _ _ => rfl) (by decide +kernel) (fun facts_18 => ?_)
    refine x_iconst C (n := 1) (by decide +kernel) ?_
    refine x_iadd C (by decide +kernel) ?_
    refine x_pI C fl_RX12_309 rfl (fun q h => by cases h; rfl) (by decide +kernel) (fun σ19 => ?_)
    refine x_aload_n C 0 (i := 0) (k0 := 0) rfl rfl (by decide +kernel) ?_
    refine x_gI C fl_RX12_309 (fun _ _ _ => rfl) (by decide +kernel) (fun facts_20 => ?_)
    refine x_iconst C (n := 1) (by decide +kernel) ?_
    show X z 0 0 σ19 80 [(0, ar this), (1, ai p0), (2, ai p1), (3, ai p2)] [ai 1, ai facts_20] _
    refine x_isub C (by decide +kernel) ?_
    exact x_iret C ⟨Nat.zero_le _, Nat.zero_le _⟩ (by decide +kernel)
  · skip
    refine x_iconst C (n := (-1)) (by decide +kernel) ?_
    exact x_iret C ⟨Nat.zero_le _, Nat.zero_le _⟩ (by decide +kernel)

def rm_X12_change : Room := { frames := 2, cells := 0, slots := 0, locals := 43 }
def f_X12_change (N : Nat) (σ : St) (this : Nat) (p0 : Int) (p1 : Int) : Option (St × Int) :=
 Option.bind (rcv shm σ 12 this (f_X12_isPart N σ this p0)) fun q1 =>
 (if wr q1.2 = 0 then some (σ, (-1)) else Option.bind (f_X12_isMonth N σ p1) fun q2 =>
 (if wr q2.2 = 0 then some (σ, (-1)) else Option.bind (rcv shm σ 12 this (f_X12_tell N σ this 0 p0 p1)) fun q3 =>
 some (q3.1, q3.2)))
set_option maxRecDepth 100000 in
set_option maxHeartbeats 4000000 in
theorem c_X12_change (l : Launch) (D : va_G) (ca : Nat → ClassId) (ra : Nat → Nat) (N : Nat) (σ : St) (this : Nat) (p0 : Int) (p1 : Int) : Ctr l (D, ca, ra, shm) false yX12_change cX12_change 3 (some .int) rm_X12_change σ [ar this, ai p0, ai p1] (f_X12_change N σ this p0 p1) := by
  refine ctr_of (by decide) (Nat.le_of_ble_eq_true rfl) (fun z C => ?_)
  show X z 0 0 σ 0 [(0, ar this), (1, ai p0), (2, ai p1)] [] _
  unfold f_X12_change
  refine x_aload_n C 0 (i := 0) (k0 := 0) rfl rfl (by decide +kernel) ?_
  refine x_iload_n C 1 (i := 1) (k0 := 1) rfl rfl (by decide +kernel) ?_
  refine x_callVp C (ci := 12) (c_X12_isPart l D ca ra N σ this p0) (p_X12_isPart N σ this p0) mt_X12_isPart mv_X12_isPart rfl ml_RX12_360 rfl (fun h => Bool.noConfusion h) ⟨Nat.le_of_ble_eq_true rfl, Nat.le_of_ble_eq_true rfl⟩ (Nat.le_of_ble_eq_true rfl) 0 0 ⟨rfl, rfl⟩ ⟨Nat.zero_le _, Nat.zero_le _⟩ (by decide +kernel) _ rfl (fun q1 => [ai q1.2]) (fun _ => rfl) (fun q1 => ?_)
  refine x_if_eq C (tgt := 25) (off := 20) (by decide) (by decide +kernel) (fun h5 => ?_) (fun h5 => ?_)
  · skip
    refine x_iconst C (n := (-1)) (by decide +kernel) ?_
    exact x_iret C ⟨Nat.zero_le _, Nat.zero_le _⟩ (by decide +kernel)
  · skip
    refine x_iload_n C 2 (i := 2) (k0 := 2) rfl rfl (by decide +kernel) ?_
    refine x_callSp C (c_X12_isMonth l D ca ra N σ p1) (p_X12_isMonth N σ p1) mt_X12_isMonth ms_X12_isMonth ml_RX12_495 rfl (fun h => Bool.noConfusion h) ⟨Nat.le_of_ble_eq_true rfl, Nat.le_of_ble_eq_true rfl⟩ (Nat.le_of_ble_eq_true rfl) 0 0 ⟨rfl, rfl⟩ ⟨Nat.zero_le _, Nat.zero_le _⟩ (by decide +kernel) _ rfl (fun q2 => [ai q2.2]) (fun _ => rfl) (fun q2 => ?_)
    refine x_if_eq C (tgt := 25) (off := 13) (by decide) (by decide +kernel) (fun h4 => ?_) (fun h4 => ?_)
    · skip
      refine x_iconst C (n := (-1)) (by decide +kernel) ?_
      exact x_iret C ⟨Nat.zero_le _, Nat.zero_le _⟩ (by decide +kernel)
    · skip
      refine x_aload_n C 0 (i := 0) (k0 := 0) rfl rfl (by decide +kernel) ?_
      refine x_iconst C (n := 0) (by decide +kernel) ?_
      refine x_iload_n C 1 (i := 1) (k0 := 1) rfl rfl (by decide +kernel) ?_
      refine x_iload_n C 2 (i := 2) (k0 := 2) rfl rfl (by decide +kernel) ?_
      refine x_callV C (ci := 12) (c_X12_tell l D ca ra N σ this 0 p0 p1) mt_X12_tell mv_X12_tell rfl ml_RX12_498 rfl (fun h => Bool.noConfusion h) ⟨Nat.le_of_ble_eq_true rfl, Nat.le_of_ble_eq_true rfl⟩ (Nat.le_of_ble_eq_true rfl) 0 0 ⟨rfl, rfl⟩ ⟨Nat.zero_le _, Nat.zero_le _⟩ (by decide +kernel) _ rfl (fun q3 => [ai q3.2]) (fun _ => rfl) (fun q3 => ?_)
      refine x_goto C (tgt := 26) (off := 4) (by decide) (by decide +kernel) ?_
      exact x_iret C ⟨Nat.zero_le _, Nat.zero_le _⟩ (by decide +kernel)

def rm_X12_estimate : Room := { frames := 2, cells := 0, slots := 0, locals := 42 }
def f_X12_estimate (N : Nat) (σ : St) (this : Nat) (p0 : Int) (p1 : Int) : Option (St × Int) :=
 Option.bind (f_X12_isMonth N σ p0) fun q1 =>
 (if wr q1.2 = 0 then some (σ, (-1)) else Option.bind (f_X12_isIn N σ p1 0 99999) fun q2 =>
 (if wr q2.2 = 0 then some (σ, (-1)) else Option.bind (rcv shm σ 12 this (f_X12_tell N σ this 1 p0 p1)) fun q3 =>
 some (q3.1, q3.2)))
set_option maxRecDepth 100000 in
set_option maxHeartbeats 4000000 in
theorem c_X12_estimate (l : Launch) (D : va_G) (ca : Nat → ClassId) (ra : Nat → Nat) (N : Nat) (σ : St) (this : Nat) (p0 : Int) (p1 : Int) : Ctr l (D, ca, ra, shm) false yX12_estimate cX12_estimate 3 (some .int) rm_X12_estimate σ [ar this, ai p0, ai p1] (f_X12_estimate N σ this p0 p1) := by
  refine ctr_of (by decide) (Nat.le_of_ble_eq_true rfl) (fun z C => ?_)
  show X z 0 0 σ 0 [(0, ar this), (1, ai p0), (2, ai p1)] [] _
  unfold f_X12_estimate
  refine x_iload_n C 1 (i := 1) (k0 := 1) rfl rfl (by decide +kernel) ?_
  refine x_callSp C (c_X12_isMonth l D ca ra N σ p0) (p_X12_isMonth N σ p0) mt_X12_isMonth ms_X12_isMonth ml_RX12_495 rfl (fun h => Bool.noConfusion h) ⟨Nat.le_of_ble_eq_true rfl, Nat.le_of_ble_eq_true rfl⟩ (Nat.le_of_ble_eq_true rfl) 0 0 ⟨rfl, rfl⟩ ⟨Nat.zero_le _, Nat.zero_le _⟩ (by decide +kernel) _ rfl (fun q1 => [ai q1.2]) (fun _ => rfl) (fun q1 => ?_)
  refine x_if_eq C (tgt := 28) (off := 24) (by decide) (by decide +kernel) (fun h5 => ?_) (fun h5 => ?_)
  · skip
    refine x_iconst C (n := (-1)) (by decide +kernel) ?_
    exact x_iret C ⟨Nat.zero_le _, Nat.zero_le _⟩ (by decide +kernel)
  · skip
    refine x_iload_n C 2 (i := 2) (k0 := 2) rfl rfl (by decide +kernel) ?_
    refine x_iconst C (n := 0) (by decide +kernel) ?_
    refine x_ldcw C (n := 99999) (v := 99999) kc_RX12_501 (by decide +kernel) (by decide +kernel) ?_
    refine x_callSp C (c_X12_isIn l D ca ra N σ p1 0 99999) (p_X12_isIn N σ p1 0 99999) mt_X12_isIn ms_X12_isIn ml_RX12_354 rfl (fun h => Bool.noConfusion h) ⟨Nat.le_of_ble_eq_true rfl, Nat.le_of_ble_eq_true rfl⟩ (Nat.le_of_ble_eq_true rfl) 0 0 ⟨rfl, rfl⟩ ⟨Nat.zero_le _, Nat.zero_le _⟩ (by decide +kernel) _ rfl (fun q2 => [ai q2.2]) (fun _ => rfl) (fun q2 => ?_)
    refine x_if_eq C (tgt := 28) (off := 13) (by decide) (by decide +kernel) (fun h4 => ?_) (fun h4 => ?_)
    · skip
      refine x_iconst C (n := (-1)) (by decide +kernel) ?_
      exact x_iret C ⟨Nat.zero_le _, Nat.zero_le _⟩ (by decide +kernel)
    · skip
      refine x_aload_n C 0 (i := 0) (k0 := 0) rfl rfl (by decide +kernel) ?_
      refine x_iconst C (n := 1) (by decide +kernel) ?_
      refine x_iload_n C 1 (i := 1) (k0 := 1) rfl rfl (by decide +kernel) ?_
      refine x_iload_n C 2 (i := 2) (k0 := 2) rfl rfl (by decide +kernel) ?_
      refine x_callV C (ci := 12) (c_X12_tell l D ca ra N σ this 1 p0 p1) mt_X12_tell mv_X12_tell rfl ml_RX12_498 rfl (fun h => Bool.noConfusion h) ⟨Nat.le_of_ble_eq_true rfl, Nat.le_of_ble_eq_true rfl⟩ (Nat.le_of_ble_eq_true rfl) 0 0 ⟨rfl, rfl⟩ ⟨Nat.zero_le _, Nat.zero_le _⟩ (by decide +kernel) _ rfl (fun q3 => [ai q3.2]) (fun _ => rfl) (fun q3 => ?_)
      refine x_goto C (tgt := 29) (off := 4) (by decide) (by decide +kernel) ?_
      exact x_iret C ⟨Nat.zero_le _, Nat.zero_le _⟩ (by decide +kernel)

def rm_X12_show : Room := { frames := 2, cells := 0, slots := 0, locals := 42 }
def f_X12_show (N : Nat) (σ : St) (this : Nat) (p0 : Int) (p1 : Int) : Option (St × Int) :=
 Option.bind (f_X12_isMonth N σ p0) fun q1 =>
 (if wr q1.2 = 0 then some (σ, (-1)) else Option.bind (f_X12_isIn N σ p1 1 255) fun q2 =>
 (if wr q2.2 = 0 then some (σ, (-1)) else Option.bind (rcv shm σ 12 this (f_X12_tell N σ this 2 p0 p1)) fun q3 =>
 some (q3.1, q3.2)))
set_option maxRecDepth 100000 in
set_option maxHeartbeats 4000000 in
theorem c_X12_show (l : Launch) (D : va_G) (ca : Nat → ClassId) (ra : Nat → Nat) (N : Nat) (σ : St) (this : Nat) (p0 : Int) (p1 : Int) : Ctr l (D, ca, ra, shm) false yX12_show cX12_show 3 (some .int) rm_X12_show σ [ar this, ai p0, ai p1] (f_X12_show N σ this p0 p1) := by
  refine ctr_of (by decide) (Nat.le_of_ble_eq_true rfl) (fun z C => ?_)
  show X z 0 0 σ 0 [(0, ar this), (1, ai p0), (2, ai p1)] [] _
  unfold f_X12_show
  refine x_iload_n C 1 (i := 1) (k0 := 1) rfl rfl (by decide +kernel) ?_
  refine x_callSp C (c_X12_isMonth l D ca ra N σ p0) (p_X12_isMonth N σ p0) mt_X12_isMonth ms_X12_isMonth ml_RX12_495 rfl (fun h => Bool.noConfusion h) ⟨Nat.le_of_ble_eq_true rfl, Nat.le_of_ble_eq_true rfl⟩ (Nat.le_of_ble_eq_true rfl) 0 0 ⟨rfl, rfl⟩ ⟨Nat.zero_le _, Nat.zero_le _⟩ (by decide +kernel) _ rfl (fun q1 => [ai q1.2]) (fun _ => rfl) (fun q1 => ?_)
  refine x_if_eq C (tgt := 28) (off := 24) (by decide) (by decide +kernel) (fun h5 => ?_) (fun h5 => ?_)
  · skip
    refine x_iconst C (n := (-1)) (by decide +kernel) ?_
    exact x_iret C ⟨Nat.zero_le _, Nat.zero_le _⟩ (by decide +kernel)
  · skip
    refine x_iload_n C 2 (i := 2) (k0 := 2) rfl rfl (by decide +kernel) ?_
    refine x_iconst C (n := 1) (by decide +kernel) ?_
    refine x_sipush C (n := 255) (by decide +kernel) (by decide +kernel) ?_
    refine x_callSp C (c_X12_isIn l D ca ra N σ p1 1 255) (p_X12_isIn N σ p1 1 255) mt_X12_isIn ms_X12_isIn ml_RX12_354 rfl (fun h => Bool.noConfusion h) ⟨Nat.le_of_ble_eq_true rfl, Nat.le_of_ble_eq_true rfl⟩ (Nat.le_of_ble_eq_true rfl) 0 0 ⟨rfl, rfl⟩ ⟨Nat.zero_le _, Nat.zero_le _⟩ (by decide +kernel) _ rfl (fun q2 => [ai q2.2]) (fun _ => rfl) (fun q2 => ?_)
    refine x_if_eq C (tgt := 28) (off := 13) (by decide) (by decide +kernel) (fun h4 => ?_) (fun h4 => ?_)
    · skip
      refine x_iconst C (n := (-1)) (by decide +kernel) ?_
      exact x_iret C ⟨Nat.zero_le _, Nat.zero_le _⟩ (by decide +kernel)
    · skip
      refine x_aload_n C 0 (i := 0) (k0 := 0) rfl rfl (by decide +kernel) ?_
      refine x_iconst C (n := 2) (by decide +kernel) ?_
      refine x_iload_n C 1 (i := 1) (k0 := 1) rfl rfl (by decide +kernel) ?_
      refine x_iload_n C 2 (i := 2) (k0 := 2) rfl rfl (by decide +kernel) ?_
      refine x_callV C (ci := 12) (c_X12_tell l D ca ra N σ this 2 p0 p1) mt_X12_tell mv_X12_tell rfl ml_RX12_498 rfl (fun h => Bool.noConfusion h) ⟨Nat.le_of_ble_eq_true rfl, Nat.le_of_ble_eq_true rfl⟩ (Nat.le_of_ble_eq_true rfl) 0 0 ⟨rfl, rfl⟩ ⟨Nat.zero_le _, Nat.zero_le _⟩ (by decide +kernel) _ rfl (fun q3 => [ai q3.2]) (fun _ => rfl) (fun q3 => ?_)
      refine x_goto C (tgt := 29) (off := 4) (by decide) (by decide +kernel) ?_
      exact x_iret C ⟨Nat.zero_le _, Nat.zero_le _⟩ (by decide +kernel)

def rm_X12_untell : Room := { frames := 0, cells := 0, slots := 0, locals := 0 }
def f_X12_untell (N : Nat) (σ : St) (this : Nat) (p0 : Int) : Option (St × Int) :=
 (if wr p0 < 0 then some (σ, 0) else Option.bind (gI shm σ 12 this 67) fun facts_1 =>
 (if wr p0 < wr facts_1 then Option.bind (gR shm σ 12 this 65) fun fUntold_2 =>
 Option.bind (aI shm σ 1 fUntold_2 p0) fun a3 =>
 (if wr a3 < 0 then Option.bind (gR shm σ 12 this 65) fun fUntold_4 =>
 Option.bind (gI shm σ 12 this 68) fun time_5 =>
 Option.bind (sI shm σ 1 fUntold_4 p0 time_5) fun σ6 =>
 some (σ6, 1) else some (σ, 0)) else some (σ, 0)))
set_option maxRecDepth 100000 in
set_option maxHeartbeats 4000000 in
theorem c_X12_untell (l : Launch) (D : va_G) (ca : Nat → ClassId) (ra : Nat → Nat) (N : Nat) (σ : St) (this : Nat) (p0 : Int) : Ctr l (D, ca, ra, shm) false yX12_untell cX12_untell 2 (some .boolean) rm_X12_untell σ [ar this, ai p0] (f_X12_untell N σ this p0) := by
  refine ctr_of (by decide) (Nat.le_of_ble_eq_true rfl) (fun z C => ?_)
  show X z 0 0 σ 0 [(0, ar this), (1, ai p0)] [] _
  unfold f_X12_untell
  refine x_iload_n C 1 (i := 1) (k0 := 1) rfl rfl (by decide +kernel) ?_
  refine x_if_lt C (tgt := 21) (off := 20) (by decide) (by decide +kernel) (fun h9 => ?_) (fun h9 => ?_)
  · skip
    refine x_iconst C (n := 0) (by decide +kernel) ?_
    exact x_zret C (Or.inl rfl) ⟨Nat.zero_le _, Nat.zero_le _⟩ (by decide +kernel)
  · skip
    refine x_iload_n C 1 (i := 1) (k0 := 1) rfl rfl (by decide +kernel) ?_
    refine x_aload_n C 0 (i := 0) (k0 := 0) rfl rfl (by decide +kernel) ?_
    refine x_gI C fl_RX12_309 (fun _ _ _ => rfl) (by decide +kernel) (fun facts_1 => ?_)
    refine x_ic_ge C (tgt := 21) (off := 12) (by decide) (by decide +kernel) (fun h8 => ?_) (fun h8 => ?_)
    · skip
      refine x_iconst C (n := 0) (by decide +kernel) ?_
      exact x_zret C (Or.inl rfl) ⟨Nat.zero_le _, Nat.zero_le _⟩ (by decide +kernel)
    · skip
      refine x_aload_n C 0 (i := 0) (k0 := 0) rfl rfl (by decide +kernel) ?_
      refine x_gR C fl_RX12_122 (fun _ _ _ => rfl) (by decide +kernel) (fun fUntold_2 => ?_)
      refine x_iload_n C 1 (i := 1) (k0 := 1) rfl rfl (by decide +kernel) ?_
      refine x_aldI C (by decide +kernel) (fun a3 => ?_)
      refine x_if_lt C (tgt := 23) (off := 5) (by decide) (by decide +kernel) (fun h7 => ?_) (fun h7 => ?_)
      · skip
        refine x_aload_n C 0 (i := 0) (k0 := 0) rfl rfl (by decide +kernel) ?_
        refine x_gR C fl_RX12_122 (fun _ _ _ => rfl) (by decide +kernel) (fun fUntold_4 => ?_)
        refine x_iload_n C 1 (i := 1) (k0 := 1) rfl rfl (by decide +kernel) ?_
        refine x_aload_n C 0 (i := 0) (k0 := 0) rfl rfl (by decide +kernel) ?_
        refine x_gI C fl_RX12_492 (fun _ _ _ => rfl) (by decide +kernel) (fun time_5 => ?_)
        refine x_astI C (by decide +kernel) (fun σ6 => ?_)
        refine x_iconst C (n := 1) (by decide +kernel) ?_
        exact x_zret C (Or.inr rfl) ⟨Nat.zero_le _, Nat.zero_le _⟩ (by decide +kernel)
      · skip
        refine x_iconst C (n := 0) (by decide +kernel) ?_
        exact x_zret C (Or.inl rfl) ⟨Nat.zero_le _, Nat.zero_le _⟩ (by decide +kernel)

def rm_X12_later : Room := { frames := 0, cells := 0, slots := 0, locals := 0 }
def f_X12_later (N : Nat) (σ : St) (this : Nat) (p0 : Int) : Option (St × Int) :=
 (if wr p0 < 0 then some (σ, (-1)) else (if wr 1000 < wr p0 then some (σ, (-1)) else Option.bind (gI shm σ 12 this 68) fun time_1 =>
 (if wr 100000 < wr (time_1 + p0) then some (σ, (-1)) else Option.bind (gI shm σ 12 this 68) fun time_2 =>
 Option.bind (pI shm σ 12 this 68 (time_2 + p0)) fun σ3 =>
 Option.bind (gI shm σ3 12 this 68) fun time_4 =>
 some (σ3, time_4))))
set_option maxRecDepth 100000 in
set_option maxHeartbeats 4000000 in
theorem c_X12_later (l : Launch) (D : va_G) (ca : Nat → ClassId) (ra : Nat → Nat) (N : Nat) (σ : St) (this : Nat) (p0 : Int) : Ctr l (D, ca, ra, shm) false yX12_later cX12_later 2 (some .int) rm_X12_later σ [ar this, ai p0] (f_X12_later N σ this p0) := by
  refine ctr_of (by decide) (Nat.le_of_ble_eq_true rfl) (fun z C => ?_)
  show X z 0 0 σ 0 [(0, ar this), (1, ai p0)] [] _
  unfold f_X12_later
  refine x_iload_n C 1 (i := 1) (k0 := 1) rfl rfl (by decide +kernel) ?_
  refine x_if_lt C (tgt := 23) (off := 22) (by decide) (by decide +kernel) (fun h7 => ?_) (fun h7 => ?_)
  · skip
    refine x_iconst C (n := (-1)) (by decide +kernel) ?_
    exact x_iret C ⟨Nat.zero_le _, Nat.zero_le _⟩ (by decide +kernel)
  · skip
    refine x_iload_n C 1 (i := 1) (k0 := 1) rfl rfl (by decide +kernel) ?_
    refine x_sipush C (n := 1000) (by decide +kernel) (by decide +kernel) ?_
    refine x_ic_gt C (tgt := 23) (off := 15) (by decide) (by decide +kernel) (fun h6 => ?_) (fun h6 => ?_)
    · skip
      refine x_iconst C (n := (-1)) (by decide +kernel) ?_
      exact x_iret C ⟨Nat.zero_le _, Nat.zero_le _⟩ (by decide +kernel)
    · skip
      refine x_aload_n C 0 (i := 0) (k0 := 0) rfl rfl (by decide +kernel) ?_
      refine x_gI C fl_RX12_492 (fun _ _ _ => rfl) (by decide +kernel) (fun time_1 => ?_)
      refine x_iload_n C 1 (i := 1) (k0 := 1) rfl rfl (by decide +kernel) ?_
      refine x_iadd C (by decide +kernel) ?_
      refine x_ldcw C (n := 100000) (v := 100000) kc_RX12_502 (by decide +kernel) (by decide +kernel) ?_
      refine x_ic_le C (tgt := 25) (off := 5) (by decide) (by decide +kernel) (fun h5 => ?_) (fun h5 => ?_)
      · skip
        refine x_aload_n C 0 (i := 0) (k0 := 0) rfl rfl (by decide +kernel) ?_
        refine x_dup C rfl (by decide +kernel) ?_
        refine x_gI C fl_RX12_492 (fun _ _ _ => rfl) (by decide +kernel) (fun time_2 => ?_)
        refine x_iload_n C 1 (i := 1) (k0 := 1) rfl rfl (by decide +kernel) ?_
        refine x_iadd C (by decide +kernel) ?_
        refine x_pI C fl_RX12_492 rfl (fun q h => by cases h; rfl) (by decide +kernel) (fun σ3 => ?_)
        refine x_aload_n C 0 (i := 0) (k0 := 0) rfl rfl (by decide +kernel) ?_
        refine x_gI C fl_RX12_492 (fun _ _ _ => rfl) (by decide +kernel) (fun time_4 => ?_)
        show X z 0 0 σ3 39 [(0, ar this), (1, ai p0)] [ai time_4] _
        exact x_iret C ⟨Nat.zero_le _, Nat.zero_le _⟩ (by decide +kernel)
      · skip
        refine x_iconst C (n := (-1)) (by decide +kernel) ?_
        exact x_iret C ⟨Nat.zero_le _, Nat.zero_le _⟩ (by decide +kernel)

def rm_X12_counts : Room := { frames := 0, cells := 0, slots := 0, locals := 0 }
def f_X12_counts (N : Nat) (σ : St) (this : Nat) (p0 : Int) (p1 : Int) (p2 : Int) : Option (St × Int) :=
 Option.bind (gR shm σ 12 this 61) fun fKind_1 =>
 Option.bind (aI shm σ 1 fKind_1 p0) fun a2 =>
 (if wr a2 = wr p1 then Option.bind (gR shm σ 12 this 64) fun fTold_3 =>
 Option.bind (aI shm σ 1 fTold_3 p0) fun a4 =>
 (if wr p2 < wr a4 then some (σ, 0) else Option.bind (gR shm σ 12 this 65) fun fUntold_5 =>
 Option.bind (aI shm σ 1 fUntold_5 p0) fun a6 =>
 (if wr a6 < 0 then some (σ, 1) else Option.bind (gR shm σ 12 this 65) fun fUntold_7 =>
 Option.bind (aI shm σ 1 fUntold_7 p0) fun a8 =>
 (if wr p2 < wr a8 then some (σ, 1) else some (σ, 0)))) else some (σ, 0))
set_option maxRecDepth 100000 in
set_option maxHeartbeats 4000000 in
theorem c_X12_counts (l : Launch) (D : va_G) (ca : Nat → ClassId) (ra : Nat → Nat) (N : Nat) (σ : St) (this : Nat) (p0 : Int) (p1 : Int) (p2 : Int) : Ctr l (D, ca, ra, shm) false yX12_counts cX12_counts 4 (some .boolean) rm_X12_counts σ [ar this, ai p0, ai p1, ai p2] (f_X12_counts N σ this p0 p1 p2) := by
  refine ctr_of (by decide) (Nat.le_of_ble_eq_true rfl) (fun z C => ?_)
  show X z 0 0 σ 0 [(0, ar this), (1, ai p0), (2, ai p1), (3, ai p2)] [] _
  unfold f_X12_counts
  refine x_aload_n C 0 (i := 0) (k0 := 0) rfl rfl (by decide +kernel) ?_
  refine x_gR C fl_RX12_110 (fun _ _ _ => rfl) (by decide +kernel) (fun fKind_1 => ?_)
  refine x_iload_n C 1 (i := 1) (k0 := 1) rfl rfl (by decide +kernel) ?_
  refine x_aldI C (by decide +kernel) (fun a2 => ?_)
  refine x_iload_n C 2 (i := 2) (k0 := 2) rfl rfl (by decide +kernel) ?_
  refine x_ic_ne C (tgt := 43) (off := 36) (by decide) (by decide +kernel) (fun h12 => ?_) (fun h12 => ?_)
  · skip
    refine x_iconst C (n := 0) (by decide +kernel) ?_
    exact x_zret C (Or.inl rfl) ⟨Nat.zero_le _, Nat.zero_le _⟩ (by decide +kernel)
  · skip
    refine x_aload_n C 0 (i := 0) (k0 := 0) rfl rfl (by decide +kernel) ?_
    refine x_gR C fl_RX12_119 (fun _ _ _ => rfl) (by decide +kernel) (fun fTold_3 => ?_)
    refine x_iload_n C 1 (i := 1) (k0 := 1) rfl rfl (by decide +kernel) ?_
    refine x_aldI C (by decide +kernel) (fun a4 => ?_)
    refine x_iload_n C 3 (i := 3) (k0 := 3) rfl rfl (by decide +kernel) ?_
    refine x_ic_gt C (tgt := 43) (off := 26) (by decide) (by decide +kernel) (fun h11 => ?_) (fun h11 => ?_)
    · skip
      refine x_iconst C (n := 0) (by decide +kernel) ?_
      exact x_zret C (Or.inl rfl) ⟨Nat.zero_le _, Nat.zero_le _⟩ (by decide +kernel)
    · skip
      refine x_aload_n C 0 (i := 0) (k0 := 0) rfl rfl (by decide +kernel) ?_
      refine x_gR C fl_RX12_122 (fun _ _ _ => rfl) (by decide +kernel) (fun fUntold_5 => ?_)
      refine x_iload_n C 1 (i := 1) (k0 := 1) rfl rfl (by decide +kernel) ?_
      refine x_aldI C (by decide +kernel) (fun a6 => ?_)
      refine x_if_lt C (tgt := 39) (off := 13) (by decide) (by decide +kernel) (fun h10 => ?_) (fun h10 => ?_)
      · skip
        refine x_iconst C (n := 1) (by decide +kernel) ?_
        refine x_goto C (tgt := 44) (off := 4) (by decide) (by decide +kernel) ?_
        exact x_zret C (Or.inr rfl) ⟨Nat.zero_le _, Nat.zero_le _⟩ (by decide +kernel)
      · skip
        refine x_aload_n C 0 (i := 0) (k0 := 0) rfl rfl (by decide +kernel) ?_
        refine x_gR C fl_RX12_122 (fun _ _ _ => rfl) (by decide +kernel) (fun fUntold_7 => ?_)
        refine x_iload_n C 1 (i := 1) (k0 := 1) rfl rfl (by decide +kernel) ?_
        refine x_aldI C (by decide +kernel) (fun a8 => ?_)
        refine x_iload_n C 3 (i := 3) (k0 := 3) rfl rfl (by decide +kernel) ?_
        refine x_ic_le C (tgt := 43) (off := 7) (by decide) (by decide +kernel) (fun h9 => ?_) (fun h9 => ?_)
        · skip
          refine x_iconst C (n := 0) (by decide +kernel) ?_
          exact x_zret C (Or.inl rfl) ⟨Nat.zero_le _, Nat.zero_le _⟩ (by decide +kernel)
        · skip
          refine x_iconst C (n := 1) (by decide +kernel) ?_
          refine x_goto C (tgt := 44) (off := 4) (by decide) (by decide +kernel) ?_
          exact x_zret C (Or.inr rfl) ⟨Nat.zero_le _, Nat.zero_le _⟩ (by decide +kernel)
theorem p_X12_counts (N : Nat) (σ : St) (this : Nat) (p0 : Int) (p1 : Int) (p2 : Int) : Pu σ (f_X12_counts N σ this p0 p1 p2) := by
  unfold f_X12_counts
  refine pu_bind (fun _ => ?_)
  refine pu_bind (fun _ => ?_)
  refine pu_ifs ?_ ?_
  · skip
    exact pu_some
  · skip
    refine pu_bind (fun _ => ?_)
    refine pu_bind (fun _ => ?_)
    refine pu_if ?_ ?_
    · skip
      exact pu_some
    · skip
      refine pu_bind (fun _ => ?_)
      refine pu_bind (fun _ => ?_)
      refine pu_if ?_ ?_
      · skip
        exact pu_some
      · skip
        refine pu_bind (fun _ => ?_)
        refine pu_bind (fun _ => ?_)
        refine pu_ifs ?_ ?_
        · skip
          exact pu_some
        · skip
          exact pu_some

def L_X12_findMoves_102 (N : Nat) (this : Nat) (J212_8 : (St → Option (St × Int))) : (St × Int) → Option (St × Int) := fixN N fun b102_10 t10 =>
 Option.bind (gI shm t10.1 12 this 31) fun bank_12 =>
 Option.bind (gR shm t10.1 12 this 14) fun moveMany_13 =>
 Option.bind (gI shm t10.1 12 this 31) fun bank_14 =>
 Option.bind (aI shm t10.1 1 moveMany_13 bank_14) fun a15 =>
 (if wr t10.2 < wr ((16 * bank_12) + a15) then Option.bind (gR shm t10.1 12 this 66) fun movesAt_16 =>
 Option.bind (gR shm t10.1 12 this 23) fun mA_17 =>
 Option.bind (aI shm t10.1 1 mA_17 t10.2) fun a18 =>
 Option.bind (aI shm t10.1 1 movesAt_16 a18) fun a19 =>
 Jn (fun t20 : St => Lt (t10.2 + 1) fun x21 =>
 b102_10 (t20, x21)) fun J206_21 =>
 (if wr a19 < wr 1000000 then Option.bind (gR shm t10.1 12 this 66) fun movesAt_23 =>
 Option.bind (gR shm t10.1 12 this 23) fun mA_24 =>
 Option.bind (aI shm t10.1 1 mA_24 t10.2) fun a25 =>
 Option.bind (aI shm t10.1 1 movesAt_23 a25) fun a26 =>
 Option.bind (gR shm t10.1 12 this 25) fun mAfter_27 =>
 Option.bind (aI shm t10.1 1 mAfter_27 t10.2) fun a28 =>
 Lt (a26 + a28) fun x29 =>
 Option.bind (gR shm t10.1 12 this 66) fun movesAt_30 =>
 Option.bind (gR shm t10.1 12 this 24) fun mB_31 =>
 Option.bind (aI shm t10.1 1 mB_31 t10.2) fun a32 =>
 Option.bind (gR shm t10.1 12 this 66) fun movesAt_33 =>
 Option.bind (gR shm t10.1 12 this 24) fun mB_34 =>
 Option.bind (aI shm t10.1 1 mB_34 t10.2) fun a35 =>
 Option.bind (aI shm t10.1 1 movesAt_33 a35) fun a36 =>
 Jn (fun t37 : Int => Option.bind (sI shm t10.1 1 movesAt_30 a32 t37) fun σ38 =>
 J206_21 σ38) fun J205_38 =>
 (if wr x29 < wr a36 then J205_38 x29 else Option.bind (gR shm t10.1 12 this 66) fun movesAt_40 =>
 Option.bind (gR shm t10.1 12 this 24) fun mB_41 =>
 Option.bind (aI shm t10.1 1 mB_41 t10.2) fun a42 =>
 Option.bind (aI shm t10.1 1 movesAt_40 a42) fun a43 =>
 J205_38 a43) else J206_21 t10.1) else J212_8 t10.1)
def L_X12_findMoves_88 (N : Nat) (this : Nat) : (St × Int) → Option (St × Int) := fixN N fun b88_3 t3 =>
 (if wr t3.2 < wr 12 then Option.bind (gI shm t3.1 12 this 31) fun bank_5 =>
 Lt (16 * bank_5) fun x6 =>
 Jn (fun t7 : St => Lt (t3.2 + 1) fun x8 =>
 b88_3 (t7, x8)) fun J212_8 =>
 L_X12_findMoves_102 N this J212_8 (t3.1, x6) else some (t3.1, 0))
def L_X12_findMoves_25 (N : Nat) (this : Nat) (p0 : Int) (J86_47 : (St → Option (St × Int))) : (St × Int) → Option (St × Int) := fixN N fun b25_49 t49 =>
 Option.bind (gI shm t49.1 12 this 67) fun facts_51 =>
 (if wr t49.2 < wr facts_51 then Option.bind (rcv shm t49.1 12 this (f_X12_counts N t49.1 this t49.2 0 p0)) fun q52 =>
 Jn (fun t53 : St => Lt (t49.2 + 1) fun x54 =>
 b25_49 (t53, x54)) fun J80_54 =>
 (if wr q52.2 = 0 then J80_54 t49.1 else Option.bind (gR shm t49.1 12 this 63) fun fTwo_56 =>
 Option.bind (aI shm t49.1 1 fTwo_56 t49.2) fun a57 =>
 Option.bind (gR shm t49.1 12 this 66) fun movesAt_58 =>
 Option.bind (gR shm t49.1 12 this 62) fun fOne_59 =>
 Option.bind (aI shm t49.1 1 fOne_59 t49.2) fun a60 =>
 Option.bind (aI shm t49.1 1 movesAt_58 a60) fun a61 =>
 (if wr a57 < wr a61 then Option.bind (gR shm t49.1 12 this 66) fun movesAt_62 =>
 Option.bind (gR shm t49.1 12 this 62) fun fOne_63 =>
 Option.bind (aI shm t49.1 1 fOne_63 t49.2) fun a64 =>
 Option.bind (gR shm t49.1 12 this 63) fun fTwo_65 =>
 Option.bind (aI shm t49.1 1 fTwo_65 t49.2) fun a66 =>
 Option.bind (sI shm t49.1 1 movesAt_62 a64 a66) fun σ67 =>
 J80_54 σ67 else J80_54 t49.1)) else J86_47 t49.1)
def L_X12_findMoves_2 (N : Nat) (this : Nat) (J23_70 : (St → Option (St × Int))) : (St × Int) → Option (St × Int) := fixN N fun b2_72 t72 =>
 (if wr t72.2 < wr 12 then Option.bind (gR shm t72.1 12 this 66) fun movesAt_74 =>
 Option.bind (sI shm t72.1 1 movesAt_74 t72.2 1000000) fun σ75 =>
 Lt (t72.2 + 1) fun x76 =>
 b2_72 (σ75, x76) else J23_70 t72.1)
def rm_X12_findMoves : Room := { frames := 1, cells := 0, slots := 0, locals := 23 }
def f_X12_findMoves (N : Nat) (σ : St) (this : Nat) (p0 : Int) : Option (St × Int) :=
 Jn (fun t1 : St => Jn (fun t2 : St => L_X12_findMoves_88 N this (t2, 0)) fun J86_47 =>
 L_X12_findMoves_25 N this p0 J86_47 (t1, 0)) fun J23_70 =>
 L_X12_findMoves_2 N this J23_70 (σ, 0)
set_option maxRecDepth 100000 in
set_option maxHeartbeats 4000000 in
theorem c_X12_findMoves (l : Launch) (D : va_G) (ca : Nat → ClassId) (ra : Nat → Nat) (N : Nat) (σ : St) (this : Nat) (p0 : Int) : Ctr l (D, ca, ra, shm) false yX12_findMoves cX12_findMoves 5 none rm_X12_findMoves σ [ar this, ai p0] (f_X12_findMoves N σ this p0) := by
  refine ctr_of (by decide) (Nat.le_of_ble_eq_true rfl) (fun z C => ?_)
  show X z 0 0 σ 0 [(0, ar this), (1, ai p0)] [] _
  unfold f_X12_findMoves
  refine x_iconst C (n := 0) (by decide +kernel) ?_
  refine x_istore_n C (i := 2) (k0 := 2) rfl (Nat.le_of_ble_eq_true rfl) (by decide +kernel) (lv2 := [(2, ai 0), (0, ar this), (1, ai p0)]) rfl ?_
  refine x_join (T := St) (fun t => t) 23 (fun t => [(0, ar this), (1, ai p0)]) (fun t => []) (fun t1 => ?_) (fun J23_70 hJ23_70 => ?_)
  · show X z 0 0 t1 23 [(0, ar this), (1, ai p0)] [] _
    refine x_iconst C (n := 0) (by decide +kernel) ?_
    refine x_istore_n C (i := 2) (k0 := 2) rfl (Nat.le_of_ble_eq_true rfl) (by decide +kernel) (lv2 := [(2, ai 0), (0, ar this), (1, ai p0)]) rfl ?_
    refine x_join (T := St) (fun t => t) 86 (fun t => [(0, ar this)]) (fun t => []) (fun t2 => ?_) (fun J86_47 hJ86_47 => ?_)
    · show X z 0 0 t2 86 [(0, ar this)] [] _
      refine x_iconst C (n := 0) (by decide +kernel) ?_
      refine x_istore_n C (i := 2) (k0 := 2) rfl (Nat.le_of_ble_eq_true rfl) (by decide +kernel) (lv2 := [(2, ai 0), (0, ar this)]) rfl ?_
      refine x_sub [1, 0] (lv2 := [(0, ar this), (2, ai 0)]) rfl ?_
      -- LOOP L_X12_findMoves_88 hb88_3
      refine x_loop (T := St × Int) (fun t => t.1) (fun t => [(0, ar this), (2, ai t.2)]) (t2, 0) rfl (fun b88_3 hb88_3 t3 => ?_)
      show X z 0 0 t3.1 88 [(0, ar this), (2, ai t3.2)] [] _
      refine x_iload_n C 1 (i := 2) (k0 := 2) rfl rfl (by decide +kernel) ?_
      refine x_bipush C (n := 12) (by decide +kernel) (by decide +kernel) ?_
      refine x_ic_ge C (tgt := 218) (off := 127) (by decide) (by decide +kernel) (fun h47 => ?_) (fun h47 => ?_)
      · skip
        exact x_vret C ⟨Nat.zero_le _, Nat.zero_le _⟩ (by decide +kernel)
      · skip
        refine x_bipush C (n := 16) (by decide +kernel) (by decide +kernel) ?_
        refine x_aload_n C 0 (i := 0) (k0 := 0) rfl rfl (by decide +kernel) ?_
        refine x_gI C fl_RX12_300 (fun _ _ _ => rfl) (by decide +kernel) (fun bank_5 => ?_)
        refine x_imul C (by decide +kernel) ?_
        refine x_istore_nL C (i := 3) (k0 := 3) rfl (Nat.le_of_ble_eq_true rfl) (by decide +kernel) (lv2 := fun x6 => [(3, ai x6), (0, ar this), (2, ai t3.2)]) (fun _ => rfl) (fun x6 => ?_)
        refine x_join (T := St) (fun t => t) 212 (fun t => [(0, ar this), (2, ai t3.2)]) (fun t => []) (fun t7 => ?_) (fun J212_8 hJ212_8 => ?_)
        · show X z 0 0 t7 212 [(0, ar this), (2, ai t3.2)] [] _
          refine x_iinc C 1 (i := 2) (n := 1) (Nat.le_of_ble_eq_true rfl) rfl (by decide +kernel) (lv2 := fun x8 => [(2, ai x8), (0, ar this)]) (fun _ => rfl) (fun x8 => ?_)
          refine x_goto C (tgt := 88) (off := (-127)) (by decide) (by decide +kernel) ?_
          refine x_sub [1, 0] (lv2 := [(0, ar this), (2, ai x8)]) rfl ?_
          exact hb88_3 (t7, x8)
        · skip
          refine x_sub [1, 2, 0] (lv2 := [(0, ar this), (2, ai t3.2), (3, ai x6)]) rfl ?_
          -- LOOP L_X12_findMoves_102 hb102_10
          refine x_loop (T := St × Int) (fun t => t.1) (fun t => [(0, ar this), (2, ai t3.2), (3, ai t.2)]) (t3.1, x6) rfl (fun b102_10 hb102_10 t10 => ?_)
          show X z 0 0 t10.1 102 [(0, ar this), (2, ai t3.2), (3, ai t10.2)] [] _
          refine x_iload_n C 2 (i := 3) (k0 := 3) rfl rfl (by decide +kernel) ?_
          refine x_bipush C (n := 16) (by decide +kernel) (by decide +kernel) ?_
          refine x_aload_n C 0 (i := 0) (k0 := 0) rfl rfl (by decide +kernel) ?_
          refine x_gI C fl_RX12_300 (fun _ _ _ => rfl) (by decide +kernel) (fun bank_12 => ?_)
          refine x_imul C (by decide +kernel) ?_
          refine x_aload_n C 0 (i := 0) (k0 := 0) rfl rfl (by decide +kernel) ?_
          refine x_gR C fl_RX12_30 (fun _ _ _ => rfl) (by decide +kernel) (fun moveMany_13 => ?_)
          refine x_aload_n C 0 (i := 0) (k0 := 0) rfl rfl (by decide +kernel) ?_
          show X z 0 0 t10.1 115 [(0, ar this), (2, ai t3.2), (3, ai t10.2)] [ar this, ar moveMany_13, ai (16 * bank_12), ai t10.2] _
          refine x_gI C fl_RX12_300 (fun _ _ _ => rfl) (by decide +kernel) (fun bank_14 => ?_)
          refine x_aldI C (by decide +kernel) (fun a15 => ?_)
          refine x_iadd C (by decide +kernel) ?_
          refine x_ic_ge C (tgt := 212) (off := 92) (by decide) (by decide +kernel) (fun h46 => ?_) (fun h46 => ?_)
          · skip
            refine x_sub [0, 1] (lv2 := [(0, ar this), (2, ai t3.2)]) rfl ?_
            exact hJ212_8 t10.1
          · skip
            refine x_aload_n C 0 (i := 0) (k0 := 0) rfl rfl (by decide +kernel) ?_
            refine x_gR C fl_RX12_125 (fun _ _ _ => rfl) (by decide +kernel) (fun movesAt_16 => ?_)
            refine x_aload_n C 0 (i := 0) (k0 := 0) rfl rfl (by decide +kernel) ?_
            refine x_gR C fl_RX12_57 (fun _ _ _ => rfl) (by decide +kernel) (fun mA_17 => ?_)
            refine x_iload_n C 2 (i := 3) (k0 := 3) rfl rfl (by decide +kernel) ?_
            refine x_aldI C (by decide +kernel) (fun a18 => ?_)
            refine x_aldI C (by decide +kernel) (fun a19 => ?_)
            refine x_ldcw C (n := 1000000) (v := 1000000) kc_RX12_503 (by decide +kernel) (by decide +kernel) ?_
            show X z 0 0 t10.1 137 [(0, ar this), (2, ai t3.2), (3, ai t10.2)] [ai 1000000, ai a19] _
            refine x_join (T := St) (fun t => t) 206 (fun t => [(0, ar this), (2, ai t3.2), (3, ai t10.2)]) (fun t => []) (fun t20 => ?_) (fun J206_21 hJ206_21 => ?_)
            · show X z 0 0 t20 206 [(0, ar this), (2, ai t3.2), (3, ai t10.2)] [] _
              refine x_iinc C 2 (i := 3) (n := 1) (Nat.le_of_ble_eq_true rfl) rfl (by decide +kernel) (lv2 := fun x21 => [(3, ai x21), (0, ar this), (2, ai t3.2)]) (fun _ => rfl) (fun x21 => ?_)
              refine x_goto C (tgt := 102) (off := (-107)) (by decide) (by decide +kernel) ?_
              refine x_sub [1, 2, 0] (lv2 := [(0, ar this), (2, ai t3.2), (3, ai x21)]) rfl ?_
              exact hb102_10 (t20, x21)
            · skip
              refine x_ic_lt C (tgt := 143) (off := 6) (by decide) (by decide +kernel) (fun h45 => ?_) (fun h45 => ?_)
              · skip
                refine x_aload_n C 0 (i := 0) (k0 := 0) rfl rfl (by decide +kernel) ?_
                refine x_gR C fl_RX12_125 (fun _ _ _ => rfl) (by decide +kernel) (fun movesAt_23 => ?_)
                refine x_aload_n C 0 (i := 0) (k0 := 0) rfl rfl (by decide +kernel) ?_
                refine x_gR C fl_RX12_57 (fun _ _ _ => rfl) (by decide +kernel) (fun mA_24 => ?_)
                refine x_iload_n C 2 (i := 3) (k0 := 3) rfl rfl (by decide +kernel) ?_
                refine x_aldI C (by decide +kernel) (fun a25 => ?_)
                refine x_aldI C (by decide +kernel) (fun a26 => ?_)
                refine x_aload_n C 0 (i := 0) (k0 := 0) rfl rfl (by decide +kernel) ?_
                show X z 0 0 t10.1 155 [(0, ar this), (2, ai t3.2), (3, ai t10.2)] [ar this, ai a26] _
                refine x_gR C fl_RX12_63 (fun _ _ _ => rfl) (by decide +kernel) (fun mAfter_27 => ?_)
                refine x_iload_n C 2 (i := 3) (k0 := 3) rfl rfl (by decide +kernel) ?_
                refine x_aldI C (by decide +kernel) (fun a28 => ?_)
                refine x_iadd C (by decide +kernel) ?_
                refine x_istoreL C (i := 4) (Nat.le_of_ble_eq_true rfl) (by decide +kernel) (lv2 := fun x29 => [(4, ai x29), (0, ar this), (2, ai t3.2), (3, ai t10.2)]) (fun _ => rfl) (fun x29 => ?_)
                refine x_aload_n C 1 (i := 0) (k0 := 0) rfl rfl (by decide +kernel) ?_
                refine x_gR C fl_RX12_125 (fun _ _ _ => rfl) (by decide +kernel) (fun movesAt_30 => ?_)
                refine x_aload_n C 1 (i := 0) (k0 := 0) rfl rfl (by decide +kernel) ?_
                show X z 0 0 t10.1 168 [(4, ai x29), (0, ar this), (2, ai t3.2), (3, ai t10.2)] [ar this, ar movesAt_30] _
                refine x_gR C fl_RX12_60 (fun _ _ _ => rfl) (by decide +kernel) (fun mB_31 => ?_)
                refine x_iload_n C 3 (i := 3) (k0 := 3) rfl rfl (by decide +kernel) ?_
                refine x_aldI C (by decide +kernel) (fun a32 => ?_)
                refine x_iload C 0 (i := 4) rfl (by decide +kernel) ?_
                refine x_aload_n C 1 (i := 0) (k0 := 0) rfl rfl (by decide +kernel) ?_
                refine x_gR C fl_RX12_125 (fun _ _ _ => rfl) (by decide +kernel) (fun movesAt_33 => ?_)
                refine x_aload_n C 1 (i := 0) (k0 := 0) rfl rfl (by decide +kernel) ?_
                refine x_gR C fl_RX12_60 (fun _ _ _ => rfl) (by decide +kernel) (fun mB_34 => ?_)
                show X z 0 0 t10.1 183 [(4, ai x29), (0, ar this), (2, ai t3.2), (3, ai t10.2)] [ar mB_34, ar movesAt_33, ai x29, ai a32, ar movesAt_30] _
                refine x_iload_n C 3 (i := 3) (k0 := 3) rfl rfl (by decide +kernel) ?_
                refine x_aldI C (by decide +kernel) (fun a35 => ?_)
                refine x_aldI C (by decide +kernel) (fun a36 => ?_)
                refine x_join (T := Int) (fun t => t10.1) 205 (fun t => [(0, ar this), (2, ai t3.2), (3, ai t10.2)]) (fun t => [ai t, ai a32, ar movesAt_30]) (fun t37 => ?_) (fun J205_38 hJ205_38 => ?_)
                · show X z 0 0 t10.1 205 [(0, ar this), (2, ai t3.2), (3, ai t10.2)] [ai t37, ai a32, ar movesAt_30] _
                  refine x_astI C (by decide +kernel) (fun σ38 => ?_)
                  exact hJ206_21 σ38
                · skip
                  refine x_ic_ge C (tgt := 194) (off := 8) (by decide) (by decide +kernel) (fun h44 => ?_) (fun h44 => ?_)
                  · skip
                    refine x_aload_n C 1 (i := 0) (k0 := 0) rfl rfl (by decide +kernel) ?_
                    refine x_gR C fl_RX12_125 (fun _ _ _ => rfl) (by decide +kernel) (fun movesAt_40 => ?_)
                    refine x_aload_n C 1 (i := 0) (k0 := 0) rfl rfl (by decide +kernel) ?_
                    refine x_gR C fl_RX12_60 (fun _ _ _ => rfl) (by decide +kernel) (fun mB_41 => ?_)
                    refine x_iload_n C 3 (i := 3) (k0 := 3) rfl rfl (by decide +kernel) ?_
                    refine x_aldI C (by decide +kernel) (fun a42 => ?_)
                    refine x_aldI C (by decide +kernel) (fun a43 => ?_)
                    refine x_sub [1, 2, 3] (lv2 := [(0, ar this), (2, ai t3.2), (3, ai t10.2)]) rfl ?_
                    exact hJ205_38 a43
                  · skip
                    refine x_iload C 0 (i := 4) rfl (by decide +kernel) ?_
                    refine x_goto C (tgt := 205) (off := 14) (by decide) (by decide +kernel) ?_
                    refine x_sub [1, 2, 3] (lv2 := [(0, ar this), (2, ai t3.2), (3, ai t10.2)]) rfl ?_
                    exact hJ205_38 x29
              · skip
                refine x_goto C (tgt := 206) (off := 66) (by decide) (by decide +kernel) ?_
                exact hJ206_21 t10.1
    · skip
      refine x_sub [1, 2, 0] (lv2 := [(0, ar this), (1, ai p0), (2, ai 0)]) rfl ?_
      -- LOOP L_X12_findMoves_25 hb25_49
      refine x_loop (T := St × Int) (fun t => t.1) (fun t => [(0, ar this), (1, ai p0), (2, ai t.2)]) (t1, 0) rfl (fun b25_49 hb25_49 t49 => ?_)
      show X z 0 0 t49.1 25 [(0, ar this), (1, ai p0), (2, ai t49.2)] [] _
      refine x_iload_n C 2 (i := 2) (k0 := 2) rfl rfl (by decide +kernel) ?_
      refine x_aload_n C 0 (i := 0) (k0 := 0) rfl rfl (by decide +kernel) ?_
      refine x_gI C fl_RX12_309 (fun _ _ _ => rfl) (by decide +kernel) (fun facts_51 => ?_)
      refine x_ic_ge C (tgt := 86) (off := 56) (by decide) (by decide +kernel) (fun h70 => ?_) (fun h70 => ?_)
      · skip
        refine x_sub [0] (lv2 := [(0, ar this)]) rfl ?_
        exact hJ86_47 t49.1
      · skip
        refine x_aload_n C 0 (i := 0) (k0 := 0) rfl rfl (by decide +kernel) ?_
        refine x_iload_n C 2 (i := 2) (k0 := 2) rfl rfl (by decide +kernel) ?_
        refine x_iconst C (n := 0) (by decide +kernel) ?_
        refine x_iload_n C 1 (i := 1) (k0 := 1) rfl rfl (by decide +kernel) ?_
        refine x_callVp C (ci := 12) (c_X12_counts l D ca ra N t49.1 this t49.2 0 p0) (p_X12_counts N t49.1 this t49.2 0 p0) mt_X12_counts mv_X12_counts rfl ml_RX12_504 rfl (fun h => Bool.noConfusion h) ⟨Nat.le_of_ble_eq_true rfl, Nat.le_of_ble_eq_true rfl⟩ (Nat.le_of_ble_eq_true rfl) 0 0 ⟨rfl, rfl⟩ ⟨Nat.zero_le _, Nat.zero_le _⟩ (by decide +kernel) _ rfl (fun q52 => [ai q52.2]) (fun _ => rfl) (fun q52 => ?_)
        refine x_join (T := St) (fun t => t) 80 (fun t => [(0, ar this), (1, ai p0), (2, ai t49.2)]) (fun t => []) (fun t53 => ?_) (fun J80_54 hJ80_54 => ?_)
        · show X z 0 0 t53 80 [(0, ar this), (1, ai p0), (2, ai t49.2)] [] _
          refine x_iinc C 2 (i := 2) (n := 1) (Nat.le_of_ble_eq_true rfl) rfl (by decide +kernel) (lv2 := fun x54 => [(2, ai x54), (0, ar this), (1, ai p0)]) (fun _ => rfl) (fun x54 => ?_)
          refine x_goto C (tgt := 25) (off := (-58)) (by decide) (by decide +kernel) ?_
          refine x_sub [1, 2, 0] (lv2 := [(0, ar this), (1, ai p0), (2, ai x54)]) rfl ?_
          exact hb25_49 (t53, x54)
        · skip
          refine x_if_eq C (tgt := 80) (off := 40) (by decide) (by decide +kernel) (fun h69 => ?_) (fun h69 => ?_)
          · skip
            exact hJ80_54 t49.1
          · skip
            refine x_aload_n C 0 (i := 0) (k0 := 0) rfl rfl (by decide +kernel) ?_
            refine x_gR C fl_RX12_116 (fun _ _ _ => rfl) (by decide +kernel) (fun fTwo_56 => ?_)
            refine x_iload_n C 2 (i := 2) (k0 := 2) rfl rfl (by decide +kernel) ?_
            refine x_aldI C (by decide +kernel) (fun a57 => ?_)
            refine x_aload_n C 0 (i := 0) (k0 := 0) rfl rfl (by decide +kernel) ?_
            refine x_gR C fl_RX12_125 (fun _ _ _ => rfl) (by decide +kernel) (fun movesAt_58 => ?_)
            refine x_aload_n C 0 (i := 0) (k0 := 0) rfl rfl (by decide +kernel) ?_
            refine x_gR C fl_RX12_113 (fun _ _ _ => rfl) (by decide +kernel) (fun fOne_59 => ?_)
            show X z 0 0 t49.1 57 [(0, ar this), (1, ai p0), (2, ai t49.2)] [ar fOne_59, ar movesAt_58, ai a57] _
            refine x_iload_n C 2 (i := 2) (k0 := 2) rfl rfl (by decide +kernel) ?_
            refine x_aldI C (by decide +kernel) (fun a60 => ?_)
            refine x_aldI C (by decide +kernel) (fun a61 => ?_)
            refine x_ic_ge C (tgt := 80) (off := 20) (by decide) (by decide +kernel) (fun h68 => ?_) (fun h68 => ?_)
            · skip
              exact hJ80_54 t49.1
            · skip
              refine x_aload_n C 0 (i := 0) (k0 := 0) rfl rfl (by decide +kernel) ?_
              refine x_gR C fl_RX12_125 (fun _ _ _ => rfl) (by decide +kernel) (fun movesAt_62 => ?_)
              refine x_aload_n C 0 (i := 0) (k0 := 0) rfl rfl (by decide +kernel) ?_
              refine x_gR C fl_RX12_113 (fun _ _ _ => rfl) (by decide +kernel) (fun fOne_63 => ?_)
              refine x_iload_n C 2 (i := 2) (k0 := 2) rfl rfl (by decide +kernel) ?_
              refine x_aldI C (by decide +kernel) (fun a64 => ?_)
              refine x_aload_n C 0 (i := 0) (k0 := 0) rfl rfl (by decide +kernel) ?_
              refine x_gR C fl_RX12_116 (fun _ _ _ => rfl) (by decide +kernel) (fun fTwo_65 => ?_)
              show X z 0 0 t49.1 77 [(0, ar this), (1, ai p0), (2, ai t49.2)] [ar fTwo_65, ai a64, ar movesAt_62] _
              refine x_iload_n C 2 (i := 2) (k0 := 2) rfl rfl (by decide +kernel) ?_
              refine x_aldI C (by decide +kernel) (fun a66 => ?_)
              refine x_astI C (by decide +kernel) (fun σ67 => ?_)
              exact hJ80_54 σ67
  · skip
    refine x_sub [1, 2, 0] (lv2 := [(0, ar this), (1, ai p0), (2, ai 0)]) rfl ?_
    -- LOOP L_X12_findMoves_2 hb2_72
    refine x_loop (T := St × Int) (fun t => t.1) (fun t => [(0, ar this), (1, ai p0), (2, ai t.2)]) (σ, 0) rfl (fun b2_72 hb2_72 t72 => ?_)
    show X z 0 0 t72.1 2 [(0, ar this), (1, ai p0), (2, ai t72.2)] [] _
    refine x_iload_n C 2 (i := 2) (k0 := 2) rfl rfl (by decide +kernel) ?_
    refine x_bipush C (n := 12) (by decide +kernel) (by decide +kernel) ?_
    refine x_ic_ge C (tgt := 23) (off := 18) (by decide) (by decide +kernel) (fun h77 => ?_) (fun h77 => ?_)
    · skip
      refine x_sub [0, 1] (lv2 := [(0, ar this), (1, ai p0)]) rfl ?_
      exact hJ23_70 t72.1
    · skip
      refine x_aload_n C 0 (i := 0) (k0 := 0) rfl rfl (by decide +kernel) ?_
      refine x_gR C fl_RX12_125 (fun _ _ _ => rfl) (by decide +kernel) (fun movesAt_74 => ?_)
      refine x_iload_n C 2 (i := 2) (k0 := 2) rfl rfl (by decide +kernel) ?_
      refine x_ldcw C (n := 1000000) (v := 1000000) kc_RX12_503 (by decide +kernel) (by decide +kernel) ?_
      refine x_astI C (by decide +kernel) (fun σ75 => ?_)
      refine x_iinc C 2 (i := 2) (n := 1) (Nat.le_of_ble_eq_true rfl) rfl (by decide +kernel) (lv2 := fun x76 => [(2, ai x76), (0, ar this), (1, ai p0)]) (fun _ => rfl) (fun x76 => ?_)
      refine x_goto C (tgt := 2) (off := (-18)) (by decide) (by decide +kernel) ?_
      refine x_sub [1, 2, 0] (lv2 := [(0, ar this), (1, ai p0), (2, ai x76)]) rfl ?_
      exact hb2_72 (σ75, x76)

def rm_X12_moves : Room := { frames := 2, cells := 0, slots := 0, locals := 47 }
def f_X12_moves (N : Nat) (σ : St) (this : Nat) (p0 : Int) (p1 : Int) : Option (St × Int) :=
 Option.bind (rcv shm σ 12 this (f_X12_isPart N σ this p0)) fun q1 =>
 (if wr q1.2 = 0 then some (σ, (-1)) else Option.bind (rcv shm σ 12 this (f_X12_findMoves N σ this p1)) fun q2 =>
 Option.bind (gR shm q2.1 12 this 66) fun movesAt_3 =>
 Option.bind (aI shm q2.1 1 movesAt_3 p0) fun a4 =>
 (if wr a4 < wr 1000000 then Option.bind (gR shm q2.1 12 this 66) fun movesAt_5 =>
 Option.bind (aI shm q2.1 1 movesAt_5 p0) fun a6 =>
 some (q2.1, a6) else some (q2.1, (-1))))
set_option maxRecDepth 100000 in
set_option maxHeartbeats 4000000 in
theorem c_X12_moves (l : Launch) (D : va_G) (ca : Nat → ClassId) (ra : Nat → Nat) (N : Nat) (σ : St) (this : Nat) (p0 : Int) (p1 : Int) : Ctr l (D, ca, ra, shm) false yX12_moves cX12_moves 3 (some .int) rm_X12_moves σ [ar this, ai p0, ai p1] (f_X12_moves N σ this p0 p1) := by
  refine ctr_of (by decide) (Nat.le_of_ble_eq_true rfl) (fun z C => ?_)
  show X z 0 0 σ 0 [(0, ar this), (1, ai p0), (2, ai p1)] [] _
  unfold f_X12_moves
  refine x_aload_n C 0 (i := 0) (k0 := 0) rfl rfl (by decide +kernel) ?_
  refine x_iload_n C 1 (i := 1) (k0 := 1) rfl rfl (by decide +kernel) ?_
  refine x_callVp C (ci := 12) (c_X12_isPart l D ca ra N σ this p0) (p_X12_isPart N σ this p0) mt_X12_isPart mv_X12_isPart rfl ml_RX12_360 rfl (fun h => Bool.noConfusion h) ⟨Nat.le_of_ble_eq_true rfl, Nat.le_of_ble_eq_true rfl⟩ (Nat.le_of_ble_eq_true rfl) 0 0 ⟨rfl, rfl⟩ ⟨Nat.zero_le _, Nat.zero_le _⟩ (by decide +kernel) _ rfl (fun q1 => [ai q1.2]) (fun _ => rfl) (fun q1 => ?_)
  refine x_if_ne C (tgt := 10) (off := 5) (by decide) (by decide +kernel) (fun h8 => ?_) (fun h8 => ?_)
  · skip
    refine x_aload_n C 0 (i := 0) (k0 := 0) rfl rfl (by decide +kernel) ?_
    refine x_iload_n C 2 (i := 2) (k0 := 2) rfl rfl (by decide +kernel) ?_
    refine x_callV C (ci := 12) (c_X12_findMoves l D ca ra N σ this p1) mt_X12_findMoves mv_X12_findMoves rfl ml_RX12_507 rfl (fun h => Bool.noConfusion h) ⟨Nat.le_of_ble_eq_true rfl, Nat.le_of_ble_eq_true rfl⟩ (Nat.le_of_ble_eq_true rfl) 0 0 ⟨rfl, rfl⟩ ⟨Nat.zero_le _, Nat.zero_le _⟩ (by decide +kernel) _ rfl (fun q2 => []) (fun _ => rfl) (fun q2 => ?_)
    refine x_aload_n C 0 (i := 0) (k0 := 0) rfl rfl (by decide +kernel) ?_
    refine x_gR C fl_RX12_125 (fun _ _ _ => rfl) (by decide +kernel) (fun movesAt_3 => ?_)
    refine x_iload_n C 1 (i := 1) (k0 := 1) rfl rfl (by decide +kernel) ?_
    refine x_aldI C (by decide +kernel) (fun a4 => ?_)
    refine x_ldcw C (n := 1000000) (v := 1000000) kc_RX12_503 (by decide +kernel) (by decide +kernel) ?_
    show X z 0 0 q2.1 24 [(0, ar this), (1, ai p0), (2, ai p1)] [ai 1000000, ai a4] _
    refine x_ic_lt C (tgt := 31) (off := 7) (by decide) (by decide +kernel) (fun h7 => ?_) (fun h7 => ?_)
    · skip
      refine x_aload_n C 0 (i := 0) (k0 := 0) rfl rfl (by decide +kernel) ?_
      refine x_gR C fl_RX12_125 (fun _ _ _ => rfl) (by decide +kernel) (fun movesAt_5 => ?_)
      refine x_iload_n C 1 (i := 1) (k0 := 1) rfl rfl (by decide +kernel) ?_
      refine x_aldI C (by decide +kernel) (fun a6 => ?_)
      exact x_iret C ⟨Nat.zero_le _, Nat.zero_le _⟩ (by decide +kernel)
    · skip
      refine x_iconst C (n := (-1)) (by decide +kernel) ?_
      refine x_goto C (tgt := 37) (off := 9) (by decide) (by decide +kernel) ?_
      exact x_iret C ⟨Nat.zero_le _, Nat.zero_le _⟩ (by decide +kernel)
  · skip
    refine x_iconst C (n := (-1)) (by decide +kernel) ?_
    exact x_iret C ⟨Nat.zero_le _, Nat.zero_le _⟩ (by decide +kernel)

def L_X12_costsOf_5 (N : Nat) (σ : St) (this : Nat) (p0 : Int) (p1 : Int) : (Int × Int) → Option (St × Int) := fixN N fun b5_1 t1 =>
 Option.bind (rcv shm σ 12 this (f_X12_parts N σ this)) fun q3 =>
 (if wr t1.2 < wr q3.2 then Option.bind (gR shm σ 12 this 66) fun movesAt_4 =>
 Option.bind (aI shm σ 1 movesAt_4 t1.2) fun a5 =>
 Option.bind (f_X12_isIn N σ a5 p0 p1) fun q6 =>
 Jn (fun t7 : Int => Lt (t1.1 + t7) fun x8 =>
 Lt (t1.2 + 1) fun x9 =>
 b5_1 (x8, x9)) fun J49_9 =>
 (if wr q6.2 = 0 then J49_9 0 else Option.bind (gR shm σ 12 this 19) fun pCosts_11 =>
 Option.bind (gI shm σ 12 this 31) fun bank_12 =>
 Option.bind (aI shm σ 1 pCosts_11 ((12 * bank_12) + t1.2)) fun a13 =>
 J49_9 a13) else some (σ, t1.1))
def rm_X12_costsOf : Room := { frames := 1, cells := 0, slots := 0, locals := 22 }
def f_X12_costsOf (N : Nat) (σ : St) (this : Nat) (p0 : Int) (p1 : Int) : Option (St × Int) :=
 L_X12_costsOf_5 N σ this p0 p1 (0, 0)
set_option maxRecDepth 100000 in
set_option maxHeartbeats 4000000 in
theorem c_X12_costsOf (l : Launch) (D : va_G) (ca : Nat → ClassId) (ra : Nat → Nat) (N : Nat) (σ : St) (this : Nat) (p0 : Int) (p1 : Int) : Ctr l (D, ca, ra, shm) false yX12_costsOf cX12_costsOf 5 (some .int) rm_X12_costsOf σ [ar this, ai p0, ai p1] (f_X12_costsOf N σ this p0 p1) := by
  refine ctr_of (by decide) (Nat.le_of_ble_eq_true rfl) (fun z C => ?_)
  show X z 0 0 σ 0 [(0, ar this), (1, ai p0), (2, ai p1)] [] _
  unfold f_X12_costsOf
  refine x_iconst C (n := 0) (by decide +kernel) ?_
  refine x_istore_n C (i := 3) (k0 := 3) rfl (Nat.le_of_ble_eq_true rfl) (by decide +kernel) (lv2 := [(3, ai 0), (0, ar this), (1, ai p0), (2, ai p1)]) rfl ?_
  refine x_iconst C (n := 0) (by decide +kernel) ?_
  refine x_istore C (i := 4) (Nat.le_of_ble_eq_true rfl) (by decide +kernel) (lv2 := [(4, ai 0), (3, ai 0), (0, ar this), (1, ai p0), (2, ai p1)]) rfl ?_
  refine x_sub [2, 3, 4, 1, 0] (lv2 := [(0, ar this), (1, ai p0), (2, ai p1), (3, ai 0), (4, ai 0)]) rfl ?_
  -- LOOP L_X12_costsOf_5 hb5_1
  refine x_loop (T := Int × Int) (fun t => σ) (fun t => [(0, ar this), (1, ai p0), (2, ai p1), (3, ai t.1), (4, ai t.2)]) (0, 0) rfl (fun b5_1 hb5_1 t1 => ?_)
  show X z 0 0 σ 5 [(0, ar this), (1, ai p0), (2, ai p1), (3, ai t1.1), (4, ai t1.2)] [] _
  refine x_iload C 4 (i := 4) rfl (by decide +kernel) ?_
  refine x_aload_n C 0 (i := 0) (k0 := 0) rfl rfl (by decide +kernel) ?_
  refine x_callVp C (ci := 12) (c_X12_parts l D ca ra N σ this) (p_X12_parts N σ this) mt_X12_parts mv_X12_parts rfl ml_RX12_350 rfl (fun h => Bool.noConfusion h) ⟨Nat.le_of_ble_eq_true rfl, Nat.le_of_ble_eq_true rfl⟩ (Nat.le_of_ble_eq_true rfl) 0 0 ⟨rfl, rfl⟩ ⟨Nat.zero_le _, Nat.zero_le _⟩ (by decide +kernel) _ rfl (fun q3 => [ai q3.2, ai t1.2]) (fun _ => rfl) (fun q3 => ?_)
  refine x_ic_ge C (tgt := 57) (off := 46) (by decide) (by decide +kernel) (fun h15 => ?_) (fun h15 => ?_)
  · skip
    refine x_iload_n C 3 (i := 3) (k0 := 3) rfl rfl (by decide +kernel) ?_
    exact x_iret C ⟨Nat.zero_le _, Nat.zero_le _⟩ (by decide +kernel)
  · skip
    refine x_iload_n C 3 (i := 3) (k0 := 3) rfl rfl (by decide +kernel) ?_
    refine x_aload_n C 0 (i := 0) (k0 := 0) rfl rfl (by decide +kernel) ?_
    refine x_gR C fl_RX12_125 (fun _ _ _ => rfl) (by decide +kernel) (fun movesAt_4 => ?_)
    refine x_iload C 4 (i := 4) rfl (by decide +kernel) ?_
    refine x_aldI C (by decide +kernel) (fun a5 => ?_)
    refine x_iload_n C 1 (i := 1) (k0 := 1) rfl rfl (by decide +kernel) ?_
    refine x_iload_n C 2 (i := 2) (k0 := 2) rfl rfl (by decide +kernel) ?_
    refine x_callSp C (c_X12_isIn l D ca ra N σ a5 p0 p1) (p_X12_isIn N σ a5 p0 p1) mt_X12_isIn ms_X12_isIn ml_RX12_354 rfl (fun h => Bool.noConfusion h) ⟨Nat.le_of_ble_eq_true rfl, Nat.le_of_ble_eq_true rfl⟩ (Nat.le_of_ble_eq_true rfl) 0 0 ⟨rfl, rfl⟩ ⟨Nat.zero_le _, Nat.zero_le _⟩ (by decide +kernel) _ rfl (fun q6 => [ai q6.2, ai t1.1]) (fun _ => rfl) (fun q6 => ?_)
    show X z 0 0 σ 27 [(0, ar this), (1, ai p0), (2, ai p1), (3, ai t1.1), (4, ai t1.2)] [ai q6.2, ai t1.1] _
    refine x_join (T := Int) (fun t => σ) 49 (fun t => [(0, ar this), (1, ai p0), (2, ai p1), (4, ai t1.2)]) (fun t => [ai t, ai t1.1]) (fun t7 => ?_) (fun J49_9 hJ49_9 => ?_)
    · show X z 0 0 σ 49 [(0, ar this), (1, ai p0), (2, ai p1), (4, ai t1.2)] [ai t7, ai t1.1] _
      refine x_iadd C (by decide +kernel) ?_
      refine x_istore_nL C (i := 3) (k0 := 3) rfl (Nat.le_of_ble_eq_true rfl) (by decide +kernel) (lv2 := fun x8 => [(3, ai x8), (0, ar this), (1, ai p0), (2, ai p1), (4, ai t1.2)]) (fun _ => rfl) (fun x8 => ?_)
      refine x_iinc C 4 (i := 4) (n := 1) (Nat.le_of_ble_eq_true rfl) rfl (by decide +kernel) (lv2 := fun x9 => [(4, ai x9), (3, ai x8), (0, ar this), (1, ai p0), (2, ai p1)]) (fun _ => rfl) (fun x9 => ?_)
      refine x_goto C (tgt := 5) (off := (-49)) (by decide) (by decide +kernel) ?_
      refine x_sub [2, 3, 4, 1, 0] (lv2 := [(0, ar this), (1, ai p0), (2, ai p1), (3, ai x8), (4, ai x9)]) rfl ?_
      exact hb5_1 (x8, x9)
    · skip
      refine x_if_eq C (tgt := 48) (off := 21) (by decide) (by decide +kernel) (fun h14 => ?_) (fun h14 => ?_)
      · skip
        refine x_iconst C (n := 0) (by decide +kernel) ?_
        refine x_sub [0, 1, 2, 4] (lv2 := [(0, ar this), (1, ai p0), (2, ai p1), (4, ai t1.2)]) rfl ?_
        exact hJ49_9 0
      · skip
        refine x_aload_n C 0 (i := 0) (k0 := 0) rfl rfl (by decide +kernel) ?_
        refine x_gR C fl_RX12_45 (fun _ _ _ => rfl) (by decide +kernel) (fun pCosts_11 => ?_)
        refine x_bipush C (n := 12) (by decide +kernel) (by decide +kernel) ?_
        refine x_aload_n C 0 (i := 0) (k0 := 0) rfl rfl (by decide +kernel) ?_
        refine x_gI C fl_RX12_300 (fun _ _ _ => rfl) (by decide +kernel) (fun bank_12 => ?_)
        refine x_imul C (by decide +kernel) ?_
        refine x_iload C 4 (i := 4) rfl (by decide +kernel) ?_
        refine x_iadd C (by decide +kernel) ?_
        show X z 0 0 σ 44 [(0, ar this), (1, ai p0), (2, ai p1), (3, ai t1.1), (4, ai t1.2)] [ai ((12 * bank_12) + t1.2), ar pCosts_11, ai t1.1] _
        refine x_aldI C (by decide +kernel) (fun a13 => ?_)
        refine x_goto C (tgt := 49) (off := 4) (by decide) (by decide +kernel) ?_
        refine x_sub [0, 1, 2, 4] (lv2 := [(0, ar this), (1, ai p0), (2, ai p1), (4, ai t1.2)]) rfl ?_
        exact hJ49_9 a13
theorem p_X12_costsOf (N : Nat) (σ : St) (this : Nat) (p0 : Int) (p1 : Int) : Pu σ (f_X12_costsOf N σ this p0 p1) := by
  unfold f_X12_costsOf
  unfold L_X12_costsOf_5
  refine pu_fix (fun _ hb5_1 _ => ?_) _
  refine pu_bind (fun _ => ?_)
  refine pu_ifs ?_ ?_
  · skip
    exact pu_some
  · skip
    refine pu_bind (fun _ => ?_)
    refine pu_bind (fun _ => ?_)
    refine pu_bind (fun _ => ?_)
    refine pu_Jn (fun _ => ?_) (fun _ hJ49_9 => ?_)
    · skip
      refine pu_Lt (fun _ => ?_)
      refine pu_Lt (fun _ => ?_)
      exact hb5_1 _
    · skip
      refine pu_if ?_ ?_
      · skip
        exact hJ49_9 _
      · skip
        refine pu_bind (fun _ => ?_)
        refine pu_bind (fun _ => ?_)
        refine pu_bind (fun _ => ?_)
        exact hJ49_9 _

def rm_X12_cost : Room := { frames := 2, cells := 0, slots := 0, locals := 47 }
def f_X12_cost (N : Nat) (σ : St) (this : Nat) (p0 : Int) (p1 : Int) : Option (St × Int) :=
 Option.bind (f_X12_isIn N σ p0 0 999) fun q1 =>
 (if wr q1.2 = 0 then some (σ, (-1)) else Option.bind (rcv shm σ 12 this (f_X12_findMoves N σ this p1)) fun q2 =>
 Option.bind (rcv shm q2.1 12 this (f_X12_costsOf N q2.1 this p0 p0)) fun q3 =>
 some (q2.1, q3.2))
set_option maxRecDepth 100000 in
set_option maxHeartbeats 4000000 in
theorem c_X12_cost (l : Launch) (D : va_G) (ca : Nat → ClassId) (ra : Nat → Nat) (N : Nat) (σ : St) (this : Nat) (p0 : Int) (p1 : Int) : Ctr l (D, ca, ra, shm) false yX12_cost cX12_cost 3 (some .int) rm_X12_cost σ [ar this, ai p0, ai p1] (f_X12_cost N σ this p0 p1) := by
  refine ctr_of (by decide) (Nat.le_of_ble_eq_true rfl) (fun z C => ?_)
  show X z 0 0 σ 0 [(0, ar this), (1, ai p0), (2, ai p1)] [] _
  unfold f_X12_cost
  refine x_iload_n C 1 (i := 1) (k0 := 1) rfl rfl (by decide +kernel) ?_
  refine x_iconst C (n := 0) (by decide +kernel) ?_
  refine x_sipush C (n := 999) (by decide +kernel) (by decide +kernel) ?_
  refine x_callSp C (c_X12_isIn l D ca ra N σ p0 0 999) (p_X12_isIn N σ p0 0 999) mt_X12_isIn ms_X12_isIn ml_RX12_354 rfl (fun h => Bool.noConfusion h) ⟨Nat.le_of_ble_eq_true rfl, Nat.le_of_ble_eq_true rfl⟩ (Nat.le_of_ble_eq_true rfl) 0 0 ⟨rfl, rfl⟩ ⟨Nat.zero_le _, Nat.zero_le _⟩ (by decide +kernel) _ rfl (fun q1 => [ai q1.2]) (fun _ => rfl) (fun q1 => ?_)
  refine x_if_ne C (tgt := 13) (off := 5) (by decide) (by decide +kernel) (fun h4 => ?_) (fun h4 => ?_)
  · skip
    refine x_aload_n C 0 (i := 0) (k0 := 0) rfl rfl (by decide +kernel) ?_
    refine x_iload_n C 2 (i := 2) (k0 := 2) rfl rfl (by decide +kernel) ?_
    refine x_callV C (ci := 12) (c_X12_findMoves l D ca ra N σ this p1) mt_X12_findMoves mv_X12_findMoves rfl ml_RX12_507 rfl (fun h => Bool.noConfusion h) ⟨Nat.le_of_ble_eq_true rfl, Nat.le_of_ble_eq_true rfl⟩ (Nat.le_of_ble_eq_true rfl) 0 0 ⟨rfl, rfl⟩ ⟨Nat.zero_le _, Nat.zero_le _⟩ (by decide +kernel) _ rfl (fun q2 => []) (fun _ => rfl) (fun q2 => ?_)
    refine x_aload_n C 0 (i := 0) (k0 := 0) rfl rfl (by decide +kernel) ?_
    refine x_iload_n C 1 (i := 1) (k0 := 1) rfl rfl (by decide +kernel) ?_
    refine x_iload_n C 1 (i := 1) (k0 := 1) rfl rfl (by decide +kernel) ?_
    refine x_callVp C (ci := 12) (c_X12_costsOf l D ca ra N q2.1 this p0 p0) (p_X12_costsOf N q2.1 this p0 p0) mt_X12_costsOf mv_X12_costsOf rfl ml_RX12_511 rfl (fun h => Bool.noConfusion h) ⟨Nat.le_of_ble_eq_true rfl, Nat.le_of_ble_eq_true rfl⟩ (Nat.le_of_ble_eq_true rfl) 0 0 ⟨rfl, rfl⟩ ⟨Nat.zero_le _, Nat.zero_le _⟩ (by decide +kernel) _ rfl (fun q3 => [ai q3.2]) (fun _ => rfl) (fun q3 => ?_)
    exact x_iret C ⟨Nat.zero_le _, Nat.zero_le _⟩ (by decide +kernel)
  · skip
    refine x_iconst C (n := (-1)) (by decide +kernel) ?_
    exact x_iret C ⟨Nat.zero_le _, Nat.zero_le _⟩ (by decide +kernel)

def L_X12_pays_29 (N : Nat) (this : Nat) (p0 : Int) (p1 : Int) : (St × Int × Int) → Option (St × Int) := fixN N fun b29_4 t4 =>
 Option.bind (rcv shm t4.1 12 this (f_X12_parts N t4.1 this)) fun q6 =>
 (if wr t4.2.2 < wr q6.2 then Option.bind (gR shm t4.1 12 this 66) fun movesAt_7 =>
 Option.bind (aI shm t4.1 1 movesAt_7 t4.2.2) fun a8 =>
 Jn (fun t9 : St × Int => Lt (t4.2.2 + 1) fun x10 =>
 b29_4 (t9.1, t9.2, x10)) fun J171_10 =>
 (if wr a8 < wr 1000000 then Option.bind (gR shm t4.1 12 this 16) fun pBy_12 =>
 Option.bind (gI shm t4.1 12 this 31) fun bank_13 =>
 Option.bind (aI shm t4.1 1 pBy_12 ((12 * bank_13) + t4.2.2)) fun a14 =>
 Option.bind (pI shm t4.1 12 this 50 a14) fun σ15 =>
 Option.bind (gR shm σ15 12 this 19) fun pCosts_16 =>
 Option.bind (gI shm σ15 12 this 31) fun bank_17 =>
 Option.bind (aI shm σ15 1 pCosts_16 ((12 * bank_17) + t4.2.2)) fun a18 =>
 Option.bind (pI shm σ15 12 this 51 a18) fun σ19 =>
 Option.bind (gR shm σ19 12 this 66) fun movesAt_20 =>
 Option.bind (aI shm σ19 1 movesAt_20 t4.2.2) fun a21 =>
 Option.bind (pI shm σ19 12 this 52 a21) fun σ22 =>
 Option.bind (rcv shm σ22 12 this (f_X12_work N σ22 this p1 0 50)) fun q23 =>
 Jn (fun t24 : Int => Option.bind (gI shm q23.1 12 this 51) fun qCost_25 =>
 Lt (Int.tdiv (wr (qCost_25 * t24)) 100) fun x26 =>
 Jn (fun t27 : Int => Lt (t4.2.1 + t27) fun x28 =>
 J171_10 (q23.1, x28)) fun J168_28 =>
 (if wr p0 = 0 then J168_28 x26 else Option.bind (gI shm q23.1 12 this 51) fun qCost_30 =>
 J168_28 (qCost_30 - x26))) fun J136_31 =>
 (if wr q23.2 < 0 then J136_31 0 else (if wr 100 < wr q23.2 then J136_31 100 else J136_31 q23.2)) else J171_10 (t4.1, t4.2.1)) else some (t4.1, t4.2.1))
def rm_X12_pays : Room := { frames := 2, cells := 0, slots := 0, locals := 48 }
def f_X12_pays (N : Nat) (σ : St) (this : Nat) (p0 : Int) (p1 : Int) (p2 : Int) : Option (St × Int) :=
 Option.bind (f_X12_isIn N σ p0 0 1) fun q1 =>
 (if wr q1.2 = 0 then some (σ, (-1)) else Option.bind (f_X12_isTongue N σ p1) fun q2 =>
 (if wr q2.2 = 0 then some (σ, (-1)) else Option.bind (rcv shm σ 12 this (f_X12_findMoves N σ this p2)) fun q3 =>
 L_X12_pays_29 N this p0 p1 (q3.1, 0, 0)))
set_option maxRecDepth 100000 in
set_option maxHeartbeats 4000000 in
theorem c_X12_pays (l : Launch) (D : va_G) (ca : Nat → ClassId) (ra : Nat → Nat) (N : Nat) (σ : St) (this : Nat) (p0 : Int) (p1 : Int) (p2 : Int) : Ctr l (D, ca, ra, shm) false yX12_pays cX12_pays 8 (some .int) rm_X12_pays σ [ar this, ai p0, ai p1, ai p2] (f_X12_pays N σ this p0 p1 p2) := by
  refine ctr_of (by decide) (Nat.le_of_ble_eq_true rfl) (fun z C => ?_)
  show X z 0 0 σ 0 [(0, ar this), (1, ai p0), (2, ai p1), (3, ai p2)] [] _
  unfold f_X12_pays
  refine x_iload_n C 1 (i := 1) (k0 := 1) rfl rfl (by decide +kernel) ?_
  refine x_iconst C (n := 0) (by decide +kernel) ?_
  refine x_iconst C (n := 1) (by decide +kernel) ?_
  refine x_callSp C (c_X12_isIn l D ca ra N σ p0 0 1) (p_X12_isIn N σ p0 0 1) mt_X12_isIn ms_X12_isIn ml_RX12_354 rfl (fun h => Bool.noConfusion h) ⟨Nat.le_of_ble_eq_true rfl, Nat.le_of_ble_eq_true rfl⟩ (Nat.le_of_ble_eq_true rfl) 0 0 ⟨rfl, rfl⟩ ⟨Nat.zero_le _, Nat.zero_le _⟩ (by decide +kernel) _ rfl (fun q1 => [ai q1.2]) (fun _ => rfl) (fun q1 => ?_)
  refine x_if_eq C (tgt := 16) (off := 10) (by decide) (by decide +kernel) (fun h38 => ?_) (fun h38 => ?_)
  · skip
    refine x_iconst C (n := (-1)) (by decide +kernel) ?_
    exact x_iret C ⟨Nat.zero_le _, Nat.zero_le _⟩ (by decide +kernel)
  · skip
    refine x_iload_n C 2 (i := 2) (k0 := 2) rfl rfl (by decide +kernel) ?_
    refine x_callSp C (c_X12_isTongue l D ca ra N σ p1) (p_X12_isTongue N σ p1) mt_X12_isTongue ms_X12_isTongue ml_RX12_391 rfl (fun h => Bool.noConfusion h) ⟨Nat.le_of_ble_eq_true rfl, Nat.le_of_ble_eq_true rfl⟩ (Nat.le_of_ble_eq_true rfl) 0 0 ⟨rfl, rfl⟩ ⟨Nat.zero_le _, Nat.zero_le _⟩ (by decide +kernel) _ rfl (fun q2 => [ai q2.2]) (fun _ => rfl) (fun q2 => ?_)
    refine x_if_ne C (tgt := 18) (off := 5) (by decide) (by decide +kernel) (fun h37 => ?_) (fun h37 => ?_)
    · skip
      refine x_aload_n C 0 (i := 0) (k0 := 0) rfl rfl (by decide +kernel) ?_
      refine x_iload_n C 3 (i := 3) (k0 := 3) rfl rfl (by decide +kernel) ?_
      refine x_callV C (ci := 12) (c_X12_findMoves l D ca ra N σ this p2) mt_X12_findMoves mv_X12_findMoves rfl ml_RX12_507 rfl (fun h => Bool.noConfusion h) ⟨Nat.le_of_ble_eq_true rfl, Nat.le_of_ble_eq_true rfl⟩ (Nat.le_of_ble_eq_true rfl) 0 0 ⟨rfl, rfl⟩ ⟨Nat.zero_le _, Nat.zero_le _⟩ (by decide +kernel) _ rfl (fun q3 => []) (fun _ => rfl) (fun q3 => ?_)
      refine x_iconst C (n := 0) (by decide +kernel) ?_
      refine x_istore C (i := 4) (Nat.le_of_ble_eq_true rfl) (by decide +kernel) (lv2 := [(4, ai 0), (0, ar this), (1, ai p0), (2, ai p1), (3, ai p2)]) rfl ?_
      refine x_iconst C (n := 0) (by decide +kernel) ?_
      refine x_istore C (i := 5) (Nat.le_of_ble_eq_true rfl) (by decide +kernel) (lv2 := [(5, ai 0), (4, ai 0), (0, ar this), (1, ai p0), (2, ai p1), (3, ai p2)]) rfl ?_
      refine x_sub [2, 3, 4, 1, 0] (lv2 := [(0, ar this), (1, ai p0), (2, ai p1), (4, ai 0), (5, ai 0)]) rfl ?_
      -- LOOP L_X12_pays_29 hb29_4
      refine x_loop (T := St × Int × Int) (fun t => t.1) (fun t => [(0, ar this), (1, ai p0), (2, ai p1), (4, ai t.2.1), (5, ai t.2.2)]) (q3.1, 0, 0) rfl (fun b29_4 hb29_4 t4 => ?_)
      show X z 0 0 t4.1 29 [(0, ar this), (1, ai p0), (2, ai p1), (4, ai t4.2.1), (5, ai t4.2.2)] [] _
      refine x_iload C 4 (i := 5) rfl (by decide +kernel) ?_
      refine x_aload_n C 0 (i := 0) (k0 := 0) rfl rfl (by decide +kernel) ?_
      refine x_callVp C (ci := 12) (c_X12_parts l D ca ra N t4.1 this) (p_X12_parts N t4.1 this) mt_X12_parts mv_X12_parts rfl ml_RX12_350 rfl (fun h => Bool.noConfusion h) ⟨Nat.le_of_ble_eq_true rfl, Nat.le_of_ble_eq_true rfl⟩ (Nat.le_of_ble_eq_true rfl) 0 0 ⟨rfl, rfl⟩ ⟨Nat.zero_le _, Nat.zero_le _⟩ (by decide +kernel) _ rfl (fun q6 => [ai q6.2, ai t4.2.2]) (fun _ => rfl) (fun q6 => ?_)
      refine x_ic_ge C (tgt := 177) (off := 142) (by decide) (by decide +kernel) (fun h36 => ?_) (fun h36 => ?_)
      · skip
        refine x_iload C 3 (i := 4) rfl (by decide +kernel) ?_
        exact x_iret C ⟨Nat.zero_le _, Nat.zero_le _⟩ (by decide +kernel)
      · skip
        refine x_aload_n C 0 (i := 0) (k0 := 0) rfl rfl (by decide +kernel) ?_
        refine x_gR C fl_RX12_125 (fun _ _ _ => rfl) (by decide +kernel) (fun movesAt_7 => ?_)
        refine x_iload C 4 (i := 5) rfl (by decide +kernel) ?_
        refine x_aldI C (by decide +kernel) (fun a8 => ?_)
        refine x_ldcw C (n := 1000000) (v := 1000000) kc_RX12_503 (by decide +kernel) (by decide +kernel) ?_
        refine x_join (T := St × Int) (fun t => t.1) 171 (fun t => [(0, ar this), (1, ai p0), (2, ai p1), (4, ai t.2), (5, ai t4.2.2)]) (fun t => []) (fun t9 => ?_) (fun J171_10 hJ171_10 => ?_)
        · show X z 0 0 t9.1 171 [(0, ar this), (1, ai p0), (2, ai p1), (4, ai t9.2), (5, ai t4.2.2)] [] _
          refine x_iinc C 4 (i := 5) (n := 1) (Nat.le_of_ble_eq_true rfl) rfl (by decide +kernel) (lv2 := fun x10 => [(5, ai x10), (0, ar this), (1, ai p0), (2, ai p1), (4, ai t9.2)]) (fun _ => rfl) (fun x10 => ?_)
          refine x_goto C (tgt := 29) (off := (-145)) (by decide) (by decide +kernel) ?_
          refine x_sub [1, 2, 3, 4, 0] (lv2 := [(0, ar this), (1, ai p0), (2, ai p1), (4, ai t9.2), (5, ai x10)]) rfl ?_
          exact hb29_4 (t9.1, t9.2, x10)
        · skip
          refine x_ic_lt C (tgt := 54) (off := 6) (by decide) (by decide +kernel) (fun h35 => ?_) (fun h35 => ?_)
          · skip
            refine x_aload_n C 0 (i := 0) (k0 := 0) rfl rfl (by decide +kernel) ?_
            refine x_aload_n C 0 (i := 0) (k0 := 0) rfl rfl (by decide +kernel) ?_
            refine x_gR C fl_RX12_36 (fun _ _ _ => rfl) (by decide +kernel) (fun pBy_12 => ?_)
            refine x_bipush C (n := 12) (by decide +kernel) (by decide +kernel) ?_
            refine x_aload_n C 0 (i := 0) (k0 := 0) rfl rfl (by decide +kernel) ?_
            refine x_gI C fl_RX12_300 (fun _ _ _ => rfl) (by decide +kernel) (fun bank_13 => ?_)
            refine x_imul C (by decide +kernel) ?_
            refine x_iload C 4 (i := 5) rfl (by decide +kernel) ?_
            show X z 0 0 t4.1 68 [(0, ar this), (1, ai p0), (2, ai p1), (4, ai t4.2.1), (5, ai t4.2.2)] [ai t4.2.2, ai (12 * bank_13), ar pBy_12, ar this] _
            refine x_iadd C (by decide +kernel) ?_
            refine x_aldI C (by decide +kernel) (fun a14 => ?_)
            refine x_pI C fl_RX12_439 rfl (fun q h => by cases h; rfl) (by decide +kernel) (fun σ15 => ?_)
            refine x_aload_n C 0 (i := 0) (k0 := 0) rfl rfl (by decide +kernel) ?_
            refine x_aload_n C 0 (i := 0) (k0 := 0) rfl rfl (by decide +kernel) ?_
            refine x_gR C fl_RX12_45 (fun _ _ _ => rfl) (by decide +kernel) (fun pCosts_16 => ?_)
            refine x_bipush C (n := 12) (by decide +kernel) (by decide +kernel) ?_
            refine x_aload_n C 0 (i := 0) (k0 := 0) rfl rfl (by decide +kernel) ?_
            show X z 0 0 σ15 81 [(0, ar this), (1, ai p0), (2, ai p1), (4, ai t4.2.1), (5, ai t4.2.2)] [ar this, ai 12, ar pCosts_16, ar this] _
            refine x_gI C fl_RX12_300 (fun _ _ _ => rfl) (by decide +kernel) (fun bank_17 => ?_)
            refine x_imul C (by decide +kernel) ?_
            refine x_iload C 4 (i := 5) rfl (by decide +kernel) ?_
            refine x_iadd C (by decide +kernel) ?_
            refine x_aldI C (by decide +kernel) (fun a18 => ?_)
            refine x_pI C fl_RX12_442 rfl (fun q h => by cases h; rfl) (by decide +kernel) (fun σ19 => ?_)
            refine x_aload_n C 0 (i := 0) (k0 := 0) rfl rfl (by decide +kernel) ?_
            refine x_aload_n C 0 (i := 0) (k0 := 0) rfl rfl (by decide +kernel) ?_
            show X z 0 0 σ19 94 [(0, ar this), (1, ai p0), (2, ai p1), (4, ai t4.2.1), (5, ai t4.2.2)] [ar this, ar this] _
            refine x_gR C fl_RX12_125 (fun _ _ _ => rfl) (by decide +kernel) (fun movesAt_20 => ?_)
            refine x_iload C 4 (i := 5) rfl (by decide +kernel) ?_
            refine x_aldI C (by decide +kernel) (fun a21 => ?_)
            refine x_pI C fl_RX12_445 rfl (fun q h => by cases h; rfl) (by decide +kernel) (fun σ22 => ?_)
            refine x_aload_n C 0 (i := 0) (k0 := 0) rfl rfl (by decide +kernel) ?_
            refine x_iload_n C 2 (i := 2) (k0 := 2) rfl rfl (by decide +kernel) ?_
            refine x_iconst C (n := 0) (by decide +kernel) ?_
            refine x_bipush C (n := 50) (by decide +kernel) (by decide +kernel) ?_
            show X z 0 0 σ22 108 [(0, ar this), (1, ai p0), (2, ai p1), (4, ai t4.2.1), (5, ai t4.2.2)] [ai 50, ai 0, ai p1, ar this] _
            refine x_callV C (ci := 12) (c_X12_work l D ca ra N σ22 this p1 0 50) mt_X12_work mv_X12_work rfl ml_RX12_479 rfl (fun h => Bool.noConfusion h) ⟨Nat.le_of_ble_eq_true rfl, Nat.le_of_ble_eq_true rfl⟩ (Nat.le_of_ble_eq_true rfl) 0 0 ⟨rfl, rfl⟩ ⟨Nat.zero_le _, Nat.zero_le _⟩ (by decide +kernel) _ rfl (fun q23 => [ai q23.2]) (fun _ => rfl) (fun q23 => ?_)
            refine x_istore C (i := 6) (Nat.le_of_ble_eq_true rfl) (by decide +kernel) (lv2 := [(6, ai q23.2), (0, ar this), (1, ai p0), (2, ai p1), (4, ai t4.2.1), (5, ai t4.2.2)]) rfl ?_
            refine x_iload C 0 (i := 6) rfl (by decide +kernel) ?_
            refine x_join (T := Int) (fun t => q23.1) 136 (fun t => [(0, ar this), (1, ai p0), (2, ai p1), (4, ai t4.2.1), (5, ai t4.2.2)]) (fun t => [ai t]) (fun t24 => ?_) (fun J136_31 hJ136_31 => ?_)
            · show X z 0 0 q23.1 136 [(0, ar this), (1, ai p0), (2, ai p1), (4, ai t4.2.1), (5, ai t4.2.2)] [ai t24] _
              refine x_istore C (i := 6) (Nat.le_of_ble_eq_true rfl) (by decide +kernel) (lv2 := [(6, ai t24), (0, ar this), (1, ai p0), (2, ai p1), (4, ai t4.2.1), (5, ai t4.2.2)]) rfl ?_
              refine x_aload_n C 1 (i := 0) (k0 := 0) rfl rfl (by decide +kernel) ?_
              refine x_gI C fl_RX12_442 (fun _ _ _ => rfl) (by decide +kernel) (fun qCost_25 => ?_)
              refine x_iload C 0 (i := 6) rfl (by decide +kernel) ?_
              refine x_imul C (by decide +kernel) ?_
              refine x_bipush C (n := 100) (by decide +kernel) (by decide +kernel) ?_
              refine x_idivC C (by decide) (by decide) (by decide +kernel) ?_
              refine x_istoreL C (i := 7) (Nat.le_of_ble_eq_true rfl) (by decide +kernel) (lv2 := fun x26 => [(7, ai x26), (6, ai t24), (0, ar this), (1, ai p0), (2, ai p1), (4, ai t4.2.1), (5, ai t4.2.2)]) (fun _ => rfl) (fun x26 => ?_)
              show X z 0 0 q23.1 150 [(7, ai x26), (6, ai t24), (0, ar this), (1, ai p0), (2, ai p1), (4, ai t4.2.1), (5, ai t4.2.2)] [] _
              refine x_iload C 5 (i := 4) rfl (by decide +kernel) ?_
              refine x_iload_n C 3 (i := 1) (k0 := 1) rfl rfl (by decide +kernel) ?_
              refine x_join (T := Int) (fun t => q23.1) 168 (fun t => [(0, ar this), (1, ai p0), (2, ai p1), (5, ai t4.2.2)]) (fun t => [ai t, ai t4.2.1]) (fun t27 => ?_) (fun J168_28 hJ168_28 => ?_)
              · show X z 0 0 q23.1 168 [(0, ar this), (1, ai p0), (2, ai p1), (5, ai t4.2.2)] [ai t27, ai t4.2.1] _
                refine x_iadd C (by decide +kernel) ?_
                refine x_istoreL C (i := 4) (Nat.le_of_ble_eq_true rfl) (by decide +kernel) (lv2 := fun x28 => [(4, ai x28), (0, ar this), (1, ai p0), (2, ai p1), (5, ai t4.2.2)]) (fun _ => rfl) (fun x28 => ?_)
                refine x_sub [1, 2, 3, 0, 4] (lv2 := [(0, ar this), (1, ai p0), (2, ai p1), (4, ai x28), (5, ai t4.2.2)]) rfl ?_
                exact hJ171_10 (q23.1, x28)
              · skip
                refine x_if_ne C (tgt := 161) (off := 8) (by decide) (by decide +kernel) (fun h31 => ?_) (fun h31 => ?_)
                · skip
                  refine x_aload_n C 2 (i := 0) (k0 := 0) rfl rfl (by decide +kernel) ?_
                  refine x_gI C fl_RX12_442 (fun _ _ _ => rfl) (by decide +kernel) (fun qCost_30 => ?_)
                  refine x_iload C 0 (i := 7) rfl (by decide +kernel) ?_
                  refine x_isub C (by decide +kernel) ?_
                  refine x_sub [2, 3, 4, 6] (lv2 := [(0, ar this), (1, ai p0), (2, ai p1), (5, ai t4.2.2)]) rfl ?_
                  exact hJ168_28 (qCost_30 - x26)
                · skip
                  refine x_iload C 0 (i := 7) rfl (by decide +kernel) ?_
                  refine x_goto C (tgt := 168) (off := 10) (by decide) (by decide +kernel) ?_
                  refine x_sub [2, 3, 4, 6] (lv2 := [(0, ar this), (1, ai p0), (2, ai p1), (5, ai t4.2.2)]) rfl ?_
                  exact hJ168_28 x26
            · skip
              refine x_if_ge C (tgt := 122) (off := 7) (by decide) (by decide +kernel) (fun h34 => ?_) (fun h34 => ?_)
              · skip
                refine x_iload C 0 (i := 6) rfl (by decide +kernel) ?_
                refine x_bipush C (n := 100) (by decide +kernel) (by decide +kernel) ?_
                refine x_ic_le C (tgt := 134) (off := 8) (by decide) (by decide +kernel) (fun h33 => ?_) (fun h33 => ?_)
                · skip
                  refine x_iload C 0 (i := 6) rfl (by decide +kernel) ?_
                  refine x_sub [1, 2, 3, 4, 5] (lv2 := [(0, ar this), (1, ai p0), (2, ai p1), (4, ai t4.2.1), (5, ai t4.2.2)]) rfl ?_
                  exact hJ136_31 q23.2
                · skip
                  refine x_bipush C (n := 100) (by decide +kernel) (by decide +kernel) ?_
                  refine x_goto C (tgt := 136) (off := 5) (by decide) (by decide +kernel) ?_
                  refine x_sub [1, 2, 3, 4, 5] (lv2 := [(0, ar this), (1, ai p0), (2, ai p1), (4, ai t4.2.1), (5, ai t4.2.2)]) rfl ?_
                  exact hJ136_31 100
              · skip
                refine x_iconst C (n := 0) (by decide +kernel) ?_
                refine x_goto C (tgt := 136) (off := 17) (by decide) (by decide +kernel) ?_
                refine x_sub [1, 2, 3, 4, 5] (lv2 := [(0, ar this), (1, ai p0), (2, ai p1), (4, ai t4.2.1), (5, ai t4.2.2)]) rfl ?_
                exact hJ136_31 0
          · skip
            refine x_goto C (tgt := 171) (off := 120) (by decide) (by decide +kernel) ?_
            exact hJ171_10 (t4.1, t4.2.1)
    · skip
      refine x_iconst C (n := (-1)) (by decide +kernel) ?_
      exact x_iret C ⟨Nat.zero_le _, Nat.zero_le _⟩ (by decide +kernel)

def L_X12_overOf_5 (N : Nat) (σ : St) (this : Nat) (p0 : Int) (p1 : Int) (J65_11 : (Int → Option (St × Int))) : (Int × Int) → Option (St × Int) := fixN N fun b5_13 t13 =>
 Option.bind (gI shm σ 12 this 67) fun facts_15 =>
 (if wr t13.2 < wr facts_15 then Option.bind (rcv shm σ 12 this (f_X12_counts N σ this t13.2 1 p1)) fun q16 =>
 Jn (fun t17 : Int => Lt (t13.2 + 1) fun x18 =>
 b5_13 (t17, x18)) fun J59_18 =>
 (if wr q16.2 = 0 then J59_18 t13.1 else Option.bind (gR shm σ 12 this 62) fun fOne_20 =>
 Option.bind (aI shm σ 1 fOne_20 t13.2) fun a21 =>
 (if wr p0 < wr a21 then J59_18 t13.1 else Jn (fun t22 : Unit => J59_18 t13.2) fun J56_22 =>
 (if wr t13.1 < 0 then J56_22 () else Option.bind (gR shm σ 12 this 62) fun fOne_24 =>
 Option.bind (aI shm σ 1 fOne_24 t13.2) fun a25 =>
 Option.bind (gR shm σ 12 this 62) fun fOne_26 =>
 Option.bind (aI shm σ 1 fOne_26 t13.1) fun a27 =>
 (if wr a25 < wr a27 then J59_18 t13.1 else J56_22 ())))) else J65_11 t13.1)
def rm_X12_overOf : Room := { frames := 2, cells := 0, slots := 0, locals := 47 }
def f_X12_overOf (N : Nat) (σ : St) (this : Nat) (p0 : Int) (p1 : Int) : Option (St × Int) :=
 Jn (fun t1 : Int => (if wr t1 < 0 then some (σ, 99) else Option.bind (gR shm σ 12 this 63) fun fTwo_2 =>
 Option.bind (aI shm σ 1 fTwo_2 t1) fun a3 =>
 (if wr a3 = 0 then some (σ, 99) else Option.bind (rcv shm σ 12 this (f_X12_findMoves N σ this p1)) fun q4 =>
 Option.bind (rcv shm q4.1 12 this (f_X12_costsOf N q4.1 this 0 p0)) fun q5 =>
 Option.bind (gR shm q4.1 12 this 63) fun fTwo_6 =>
 Option.bind (aI shm q4.1 1 fTwo_6 t1) fun a7 =>
 Option.bind (dvO (q5.2 * 10) a7) fun d8 =>
 (if wr 99 < wr d8 then some (q4.1, 99) else some (q4.1, d8))))) fun J65_11 =>
 L_X12_overOf_5 N σ this p0 p1 J65_11 ((-1), 0)
set_option maxRecDepth 100000 in
set_option maxHeartbeats 4000000 in
theorem c_X12_overOf (l : Launch) (D : va_G) (ca : Nat → ClassId) (ra : Nat → Nat) (N : Nat) (σ : St) (this : Nat) (p0 : Int) (p1 : Int) : Ctr l (D, ca, ra, shm) false yX12_overOf cX12_overOf 5 (some .int) rm_X12_overOf σ [ar this, ai p0, ai p1] (f_X12_overOf N σ this p0 p1) := by
  refine ctr_of (by decide) (Nat.le_of_ble_eq_true rfl) (fun z C => ?_)
  show X z 0 0 σ 0 [(0, ar this), (1, ai p0), (2, ai p1)] [] _
  unfold f_X12_overOf
  refine x_iconst C (n := (-1)) (by decide +kernel) ?_
  refine x_istore_n C (i := 3) (k0 := 3) rfl (Nat.le_of_ble_eq_true rfl) (by decide +kernel) (lv2 := [(3, ai (-1)), (0, ar this), (1, ai p0), (2, ai p1)]) rfl ?_
  refine x_iconst C (n := 0) (by decide +kernel) ?_
  refine x_istore C (i := 4) (Nat.le_of_ble_eq_true rfl) (by decide +kernel) (lv2 := [(4, ai 0), (3, ai (-1)), (0, ar this), (1, ai p0), (2, ai p1)]) rfl ?_
  refine x_join (T := Int) (fun t => σ) 65 (fun t => [(0, ar this), (1, ai p0), (2, ai p1), (3, ai t)]) (fun t => []) (fun t1 => ?_) (fun J65_11 hJ65_11 => ?_)
  · show X z 0 0 σ 65 [(0, ar this), (1, ai p0), (2, ai p1), (3, ai t1)] [] _
    refine x_iload_n C 3 (i := 3) (k0 := 3) rfl rfl (by decide +kernel) ?_
    refine x_if_lt C (tgt := 78) (off := 12) (by decide) (by decide +kernel) (fun h11 => ?_) (fun h11 => ?_)
    · skip
      refine x_bipush C (n := 99) (by decide +kernel) (by decide +kernel) ?_
      exact x_iret C ⟨Nat.zero_le _, Nat.zero_le _⟩ (by decide +kernel)
    · skip
      refine x_aload_n C 0 (i := 0) (k0 := 0) rfl rfl (by decide +kernel) ?_
      refine x_gR C fl_RX12_116 (fun _ _ _ => rfl) (by decide +kernel) (fun fTwo_2 => ?_)
      refine x_iload_n C 3 (i := 3) (k0 := 3) rfl rfl (by decide +kernel) ?_
      refine x_aldI C (by decide +kernel) (fun a3 => ?_)
      refine x_if_ne C (tgt := 81) (off := 6) (by decide) (by decide +kernel) (fun h10 => ?_) (fun h10 => ?_)
      · skip
        refine x_aload_n C 0 (i := 0) (k0 := 0) rfl rfl (by decide +kernel) ?_
        refine x_iload_n C 2 (i := 2) (k0 := 2) rfl rfl (by decide +kernel) ?_
        refine x_callV C (ci := 12) (c_X12_findMoves l D ca ra N σ this p1) mt_X12_findMoves mv_X12_findMoves rfl ml_RX12_507 rfl (fun h => Bool.noConfusion h) ⟨Nat.le_of_ble_eq_true rfl, Nat.le_of_ble_eq_true rfl⟩ (Nat.le_of_ble_eq_true rfl) 0 0 ⟨rfl, rfl⟩ ⟨Nat.zero_le _, Nat.zero_le _⟩ (by decide +kernel) _ rfl (fun q4 => []) (fun _ => rfl) (fun q4 => ?_)
        refine x_aload_n C 0 (i := 0) (k0 := 0) rfl rfl (by decide +kernel) ?_
        refine x_iconst C (n := 0) (by decide +kernel) ?_
        refine x_iload_n C 1 (i := 1) (k0 := 1) rfl rfl (by decide +kernel) ?_
        refine x_callVp C (ci := 12) (c_X12_costsOf l D ca ra N q4.1 this 0 p0) (p_X12_costsOf N q4.1 this 0 p0) mt_X12_costsOf mv_X12_costsOf rfl ml_RX12_511 rfl (fun h => Bool.noConfusion h) ⟨Nat.le_of_ble_eq_true rfl, Nat.le_of_ble_eq_true rfl⟩ (Nat.le_of_ble_eq_true rfl) 0 0 ⟨rfl, rfl⟩ ⟨Nat.zero_le _, Nat.zero_le _⟩ (by decide +kernel) _ rfl (fun q5 => [ai q5.2]) (fun _ => rfl) (fun q5 => ?_)
        refine x_bipush C (n := 10) (by decide +kernel) (by decide +kernel) ?_
        show X z 0 0 q4.1 94 [(0, ar this), (1, ai p0), (2, ai p1), (3, ai t1)] [ai 10, ai q5.2] _
        refine x_imul C (by decide +kernel) ?_
        refine x_aload_n C 0 (i := 0) (k0 := 0) rfl rfl (by decide +kernel) ?_
        refine x_gR C fl_RX12_116 (fun _ _ _ => rfl) (by decide +kernel) (fun fTwo_6 => ?_)
        refine x_iload_n C 3 (i := 3) (k0 := 3) rfl rfl (by decide +kernel) ?_
        refine x_aldI C (by decide +kernel) (fun a7 => ?_)
        refine x_idiv C (by decide +kernel) (fun d8 => ?_)
        refine x_istore C (i := 4) (Nat.le_of_ble_eq_true rfl) (by decide +kernel) (lv2 := [(4, ai d8), (0, ar this), (1, ai p0), (2, ai p1), (3, ai t1)]) rfl ?_
        refine x_iload C 0 (i := 4) rfl (by decide +kernel) ?_
        show X z 0 0 q4.1 106 [(4, ai d8), (0, ar this), (1, ai p0), (2, ai p1), (3, ai t1)] [ai d8] _
        refine x_bipush C (n := 99) (by decide +kernel) (by decide +kernel) ?_
        refine x_ic_le C (tgt := 116) (off := 8) (by decide) (by decide +kernel) (fun h9 => ?_) (fun h9 => ?_)
        · skip
          refine x_iload C 0 (i := 4) rfl (by decide +kernel) ?_
          exact x_iret C ⟨Nat.zero_le _, Nat.zero_le _⟩ (by decide +kernel)
        · skip
          refine x_bipush C (n := 99) (by decide +kernel) (by decide +kernel) ?_
          refine x_goto C (tgt := 118) (off := 5) (by decide) (by decide +kernel) ?_
          exact x_iret C ⟨Nat.zero_le _, Nat.zero_le _⟩ (by decide +kernel)
      · skip
        refine x_bipush C (n := 99) (by decide +kernel) (by decide +kernel) ?_
        exact x_iret C ⟨Nat.zero_le _, Nat.zero_le _⟩ (by decide +kernel)
  · skip
    refine x_sub [2, 3, 4, 1, 0] (lv2 := [(0, ar this), (1, ai p0), (2, ai p1), (3, ai (-1)), (4, ai 0)]) rfl ?_
    -- LOOP L_X12_overOf_5 hb5_13
    refine x_loop (T := Int × Int) (fun t => σ) (fun t => [(0, ar this), (1, ai p0), (2, ai p1), (3, ai t.1), (4, ai t.2)]) ((-1), 0) rfl (fun b5_13 hb5_13 t13 => ?_)
    show X z 0 0 σ 5 [(0, ar this), (1, ai p0), (2, ai p1), (3, ai t13.1), (4, ai t13.2)] [] _
    refine x_iload C 4 (i := 4) rfl (by decide +kernel) ?_
    refine x_aload_n C 0 (i := 0) (k0 := 0) rfl rfl (by decide +kernel) ?_
    refine x_gI C fl_RX12_309 (fun _ _ _ => rfl) (by decide +kernel) (fun facts_15 => ?_)
    refine x_ic_ge C (tgt := 65) (off := 54) (by decide) (by decide +kernel) (fun h32 => ?_) (fun h32 => ?_)
    · skip
      refine x_sub [0, 1, 2, 3] (lv2 := [(0, ar this), (1, ai p0), (2, ai p1), (3, ai t13.1)]) rfl ?_
      exact hJ65_11 t13.1
    · skip
      refine x_aload_n C 0 (i := 0) (k0 := 0) rfl rfl (by decide +kernel) ?_
      refine x_iload C 4 (i := 4) rfl (by decide +kernel) ?_
      refine x_iconst C (n := 1) (by decide +kernel) ?_
      refine x_iload_n C 2 (i := 2) (k0 := 2) rfl rfl (by decide +kernel) ?_
      refine x_callVp C (ci := 12) (c_X12_counts l D ca ra N σ this t13.2 1 p1) (p_X12_counts N σ this t13.2 1 p1) mt_X12_counts mv_X12_counts rfl ml_RX12_504 rfl (fun h => Bool.noConfusion h) ⟨Nat.le_of_ble_eq_true rfl, Nat.le_of_ble_eq_true rfl⟩ (Nat.le_of_ble_eq_true rfl) 0 0 ⟨rfl, rfl⟩ ⟨Nat.zero_le _, Nat.zero_le _⟩ (by decide +kernel) _ rfl (fun q16 => [ai q16.2]) (fun _ => rfl) (fun q16 => ?_)
      refine x_join (T := Int) (fun t => σ) 59 (fun t => [(0, ar this), (1, ai p0), (2, ai p1), (3, ai t), (4, ai t13.2)]) (fun t => []) (fun t17 => ?_) (fun J59_18 hJ59_18 => ?_)
      · show X z 0 0 σ 59 [(0, ar this), (1, ai p0), (2, ai p1), (3, ai t17), (4, ai t13.2)] [] _
        refine x_iinc C 4 (i := 4) (n := 1) (Nat.le_of_ble_eq_true rfl) rfl (by decide +kernel) (lv2 := fun x18 => [(4, ai x18), (0, ar this), (1, ai p0), (2, ai p1), (3, ai t17)]) (fun _ => rfl) (fun x18 => ?_)
        refine x_goto C (tgt := 5) (off := (-57)) (by decide) (by decide +kernel) ?_
        refine x_sub [1, 2, 3, 4, 0] (lv2 := [(0, ar this), (1, ai p0), (2, ai p1), (3, ai t17), (4, ai x18)]) rfl ?_
        exact hb5_13 (t17, x18)
      · skip
        refine x_if_eq C (tgt := 59) (off := 37) (by decide) (by decide +kernel) (fun h31 => ?_) (fun h31 => ?_)
        · skip
          exact hJ59_18 t13.1
        · skip
          refine x_aload_n C 0 (i := 0) (k0 := 0) rfl rfl (by decide +kernel) ?_
          refine x_gR C fl_RX12_113 (fun _ _ _ => rfl) (by decide +kernel) (fun fOne_20 => ?_)
          refine x_iload C 4 (i := 4) rfl (by decide +kernel) ?_
          refine x_aldI C (by decide +kernel) (fun a21 => ?_)
          refine x_iload_n C 1 (i := 1) (k0 := 1) rfl rfl (by decide +kernel) ?_
          refine x_ic_gt C (tgt := 59) (off := 26) (by decide) (by decide +kernel) (fun h30 => ?_) (fun h30 => ?_)
          · skip
            exact hJ59_18 t13.1
          · skip
            refine x_iload_n C 3 (i := 3) (k0 := 3) rfl rfl (by decide +kernel) ?_
            refine x_join (T := Unit) (fun t => σ) 56 (fun t => [(0, ar this), (1, ai p0), (2, ai p1), (4, ai t13.2)]) (fun t => []) (fun t22 => ?_) (fun J56_22 hJ56_22 => ?_)
            · show X z 0 0 σ 56 [(0, ar this), (1, ai p0), (2, ai p1), (4, ai t13.2)] [] _
              refine x_iload C 3 (i := 4) rfl (by decide +kernel) ?_
              refine x_istore_n C (i := 3) (k0 := 3) rfl (Nat.le_of_ble_eq_true rfl) (by decide +kernel) (lv2 := [(3, ai t13.2), (0, ar this), (1, ai p0), (2, ai p1), (4, ai t13.2)]) rfl ?_
              refine x_sub [1, 2, 3, 0, 4] (lv2 := [(0, ar this), (1, ai p0), (2, ai p1), (3, ai t13.2), (4, ai t13.2)]) rfl ?_
              exact hJ59_18 t13.2
            · skip
              refine x_if_lt C (tgt := 56) (off := 19) (by decide) (by decide +kernel) (fun h29 => ?_) (fun h29 => ?_)
              · skip
                refine x_sub [0, 1, 2, 4] (lv2 := [(0, ar this), (1, ai p0), (2, ai p1), (4, ai t13.2)]) rfl ?_
                exact hJ56_22 ()
              · skip
                refine x_aload_n C 0 (i := 0) (k0 := 0) rfl rfl (by decide +kernel) ?_
                refine x_gR C fl_RX12_113 (fun _ _ _ => rfl) (by decide +kernel) (fun fOne_24 => ?_)
                refine x_iload C 4 (i := 4) rfl (by decide +kernel) ?_
                refine x_aldI C (by decide +kernel) (fun a25 => ?_)
                refine x_aload_n C 0 (i := 0) (k0 := 0) rfl rfl (by decide +kernel) ?_
                refine x_gR C fl_RX12_113 (fun _ _ _ => rfl) (by decide +kernel) (fun fOne_26 => ?_)
                refine x_iload_n C 3 (i := 3) (k0 := 3) rfl rfl (by decide +kernel) ?_
                refine x_aldI C (by decide +kernel) (fun a27 => ?_)
                show X z 0 0 σ 53 [(0, ar this), (1, ai p0), (2, ai p1), (3, ai t13.1), (4, ai t13.2)] [ai a27, ai a25] _
                refine x_ic_lt C (tgt := 59) (off := 6) (by decide) (by decide +kernel) (fun h28 => ?_) (fun h28 => ?_)
                · skip
                  exact hJ59_18 t13.1
                · skip
                  refine x_sub [0, 1, 2, 4] (lv2 := [(0, ar this), (1, ai p0), (2, ai p1), (4, ai t13.2)]) rfl ?_
                  exact hJ56_22 ()

def rm_X12_over : Room := { frames := 3, cells := 0, slots := 0, locals := 71 }
def f_X12_over (N : Nat) (σ : St) (this : Nat) (p0 : Int) (p1 : Int) : Option (St × Int) :=
 Option.bind (f_X12_isMonth N σ p0) fun q1 =>
 (if wr q1.2 = 0 then some (σ, (-1)) else Option.bind (rcv shm σ 12 this (f_X12_overOf N σ this p0 p1)) fun q2 =>
 some (q2.1, q2.2))
set_option maxRecDepth 100000 in
set_option maxHeartbeats 4000000 in
theorem c_X12_over (l : Launch) (D : va_G) (ca : Nat → ClassId) (ra : Nat → Nat) (N : Nat) (σ : St) (this : Nat) (p0 : Int) (p1 : Int) : Ctr l (D, ca, ra, shm) false yX12_over cX12_over 3 (some .int) rm_X12_over σ [ar this, ai p0, ai p1] (f_X12_over N σ this p0 p1) := by
  refine ctr_of (by decide) (Nat.le_of_ble_eq_true rfl) (fun z C => ?_)
  show X z 0 0 σ 0 [(0, ar this), (1, ai p0), (2, ai p1)] [] _
  unfold f_X12_over
  refine x_iload_n C 1 (i := 1) (k0 := 1) rfl rfl (by decide +kernel) ?_
  refine x_callSp C (c_X12_isMonth l D ca ra N σ p0) (p_X12_isMonth N σ p0) mt_X12_isMonth ms_X12_isMonth ml_RX12_495 rfl (fun h => Bool.noConfusion h) ⟨Nat.le_of_ble_eq_true rfl, Nat.le_of_ble_eq_true rfl⟩ (Nat.le_of_ble_eq_true rfl) 0 0 ⟨rfl, rfl⟩ ⟨Nat.zero_le _, Nat.zero_le _⟩ (by decide +kernel) _ rfl (fun q1 => [ai q1.2]) (fun _ => rfl) (fun q1 => ?_)
  refine x_if_eq C (tgt := 16) (off := 12) (by decide) (by decide +kernel) (fun h3 => ?_) (fun h3 => ?_)
  · skip
    refine x_iconst C (n := (-1)) (by decide +kernel) ?_
    exact x_iret C ⟨Nat.zero_le _, Nat.zero_le _⟩ (by decide +kernel)
  · skip
    refine x_aload_n C 0 (i := 0) (k0 := 0) rfl rfl (by decide +kernel) ?_
    refine x_iload_n C 1 (i := 1) (k0 := 1) rfl rfl (by decide +kernel) ?_
    refine x_iload_n C 2 (i := 2) (k0 := 2) rfl rfl (by decide +kernel) ?_
    refine x_callV C (ci := 12) (c_X12_overOf l D ca ra N σ this p0 p1) mt_X12_overOf mv_X12_overOf rfl ml_RX12_514 rfl (fun h => Bool.noConfusion h) ⟨Nat.le_of_ble_eq_true rfl, Nat.le_of_ble_eq_true rfl⟩ (Nat.le_of_ble_eq_true rfl) 0 0 ⟨rfl, rfl⟩ ⟨Nat.zero_le _, Nat.zero_le _⟩ (by decide +kernel) _ rfl (fun q2 => [ai q2.2]) (fun _ => rfl) (fun q2 => ?_)
    refine x_goto C (tgt := 17) (off := 4) (by decide) (by decide +kernel) ?_
    exact x_iret C ⟨Nat.zero_le _, Nat.zero_le _⟩ (by decide +kernel)

def rm_X12_leave : Room := { frames := 3, cells := 0, slots := 0, locals := 71 }
def f_X12_leave (N : Nat) (σ : St) (this : Nat) (p0 : Int) (p1 : Int) (p2 : Int) : Option (St × Int) :=
 Option.bind (f_X12_isMonth N σ p0) fun q1 =>
 (if wr q1.2 = 0 then some (σ, (-1)) else Option.bind (f_X12_isTongue N σ p1) fun q2 =>
 (if wr q2.2 = 0 then some (σ, (-1)) else Option.bind (rcv shm σ 12 this (f_X12_overOf N σ this p0 p2)) fun q3 =>
 Option.bind (rcv shm q3.1 12 this (f_X12_leavesBy N q3.1 this p1 p0 q3.2)) fun q4 =>
 (if wr q4.2 = 0 then some (q4.1, 0) else some (q4.1, 1))))
set_option maxRecDepth 100000 in
set_option maxHeartbeats 4000000 in
theorem c_X12_leave (l : Launch) (D : va_G) (ca : Nat → ClassId) (ra : Nat → Nat) (N : Nat) (σ : St) (this : Nat) (p0 : Int) (p1 : Int) (p2 : Int) : Ctr l (D, ca, ra, shm) false yX12_leave cX12_leave 4 (some .int) rm_X12_leave σ [ar this, ai p0, ai p1, ai p2] (f_X12_leave N σ this p0 p1 p2) := by
  refine ctr_of (by decide) (Nat.le_of_ble_eq_true rfl) (fun z C => ?_)
  show X z 0 0 σ 0 [(0, ar this), (1, ai p0), (2, ai p1), (3, ai p2)] [] _
  unfold f_X12_leave
  refine x_iload_n C 1 (i := 1) (k0 := 1) rfl rfl (by decide +kernel) ?_
  refine x_callSp C (c_X12_isMonth l D ca ra N σ p0) (p_X12_isMonth N σ p0) mt_X12_isMonth ms_X12_isMonth ml_RX12_495 rfl (fun h => Bool.noConfusion h) ⟨Nat.le_of_ble_eq_true rfl, Nat.le_of_ble_eq_true rfl⟩ (Nat.le_of_ble_eq_true rfl) 0 0 ⟨rfl, rfl⟩ ⟨Nat.zero_le _, Nat.zero_le _⟩ (by decide +kernel) _ rfl (fun q1 => [ai q1.2]) (fun _ => rfl) (fun q1 => ?_)
  refine x_if_eq C (tgt := 37) (off := 33) (by decide) (by decide +kernel) (fun h7 => ?_) (fun h7 => ?_)
  · skip
    refine x_iconst C (n := (-1)) (by decide +kernel) ?_
    exact x_iret C ⟨Nat.zero_le _, Nat.zero_le _⟩ (by decide +kernel)
  · skip
    refine x_iload_n C 2 (i := 2) (k0 := 2) rfl rfl (by decide +kernel) ?_
    refine x_callSp C (c_X12_isTongue l D ca ra N σ p1) (p_X12_isTongue N σ p1) mt_X12_isTongue ms_X12_isTongue ml_RX12_391 rfl (fun h => Bool.noConfusion h) ⟨Nat.le_of_ble_eq_true rfl, Nat.le_of_ble_eq_true rfl⟩ (Nat.le_of_ble_eq_true rfl) 0 0 ⟨rfl, rfl⟩ ⟨Nat.zero_le _, Nat.zero_le _⟩ (by decide +kernel) _ rfl (fun q2 => [ai q2.2]) (fun _ => rfl) (fun q2 => ?_)
    refine x_if_eq C (tgt := 37) (off := 26) (by decide) (by decide +kernel) (fun h6 => ?_) (fun h6 => ?_)
    · skip
      refine x_iconst C (n := (-1)) (by decide +kernel) ?_
      exact x_iret C ⟨Nat.zero_le _, Nat.zero_le _⟩ (by decide +kernel)
    · skip
      refine x_aload_n C 0 (i := 0) (k0 := 0) rfl rfl (by decide +kernel) ?_
      refine x_iload_n C 2 (i := 2) (k0 := 2) rfl rfl (by decide +kernel) ?_
      refine x_iload_n C 1 (i := 1) (k0 := 1) rfl rfl (by decide +kernel) ?_
      refine x_aload_n C 0 (i := 0) (k0 := 0) rfl rfl (by decide +kernel) ?_
      refine x_iload_n C 1 (i := 1) (k0 := 1) rfl rfl (by decide +kernel) ?_
      refine x_iload_n C 3 (i := 3) (k0 := 3) rfl rfl (by decide +kernel) ?_
      refine x_callV C (ci := 12) (c_X12_overOf l D ca ra N σ this p0 p2) mt_X12_overOf mv_X12_overOf rfl ml_RX12_514 rfl (fun h => Bool.noConfusion h) ⟨Nat.le_of_ble_eq_true rfl, Nat.le_of_ble_eq_true rfl⟩ (Nat.le_of_ble_eq_true rfl) 0 0 ⟨rfl, rfl⟩ ⟨Nat.zero_le _, Nat.zero_le _⟩ (by decide +kernel) _ rfl (fun q3 => [ai q3.2, ai p0, ai p1, ar this]) (fun _ => rfl) (fun q3 => ?_)
      refine x_callV C (ci := 12) (c_X12_leavesBy l D ca ra N q3.1 this p1 p0 q3.2) mt_X12_leavesBy mv_X12_leavesBy rfl ml_RX12_489 rfl (fun h => Bool.noConfusion h) ⟨Nat.le_of_ble_eq_true rfl, Nat.le_of_ble_eq_true rfl⟩ (Nat.le_of_ble_eq_true rfl) 0 0 ⟨rfl, rfl⟩ ⟨Nat.zero_le _, Nat.zero_le _⟩ (by decide +kernel) _ rfl (fun q4 => [ai q4.2]) (fun _ => rfl) (fun q4 => ?_)
      show X z 0 0 q4.1 26 [(0, ar this), (1, ai p0), (2, ai p1), (3, ai p2)] [ai q4.2] _
      refine x_if_eq C (tgt := 33) (off := 7) (by decide) (by decide +kernel) (fun h5 => ?_) (fun h5 => ?_)
      · skip
        refine x_iconst C (n := 0) (by decide +kernel) ?_
        refine x_goto C (tgt := 38) (off := 4) (by decide) (by decide +kernel) ?_
        exact x_iret C ⟨Nat.zero_le _, Nat.zero_le _⟩ (by decide +kernel)
      · skip
        refine x_iconst C (n := 1) (by decide +kernel) ?_
        refine x_goto C (tgt := 38) (off := 8) (by decide) (by decide +kernel) ?_
        exact x_iret C ⟨Nat.zero_le _, Nat.zero_le _⟩ (by decide +kernel)

def rm_X12_bounds : Room := { frames := 1, cells := 0, slots := 0, locals := 22 }
def f_X12_bounds (N : Nat) (σ : St) (this : Nat) (p0 : Int) (p1 : Int) : Option (St × Int) :=
 Option.bind (f_X12_isIn N σ p0 0 99) fun q1 =>
 (if wr q1.2 = 0 then some (σ, (-1)) else Option.bind (f_X12_isIn N σ p1 p0 99) fun q2 =>
 (if wr q2.2 = 0 then some (σ, (-1)) else Option.bind (gI shm σ 12 this 73) fun steps_3 =>
 (if wr steps_3 = wr 12 then some (σ, (-1)) else Option.bind (gR shm σ 12 this 69) fun from_4 =>
 Option.bind (gI shm σ 12 this 73) fun steps_5 =>
 Option.bind (sI shm σ 1 from_4 steps_5 p0) fun σ6 =>
 Option.bind (gR shm σ6 12 this 70) fun to_7 =>
 Option.bind (gI shm σ6 12 this 73) fun steps_8 =>
 Option.bind (sI shm σ6 1 to_7 steps_8 p1) fun σ9 =>
 Option.bind (gI shm σ9 12 this 73) fun steps_10 =>
 Option.bind (pI shm σ9 12 this 73 (steps_10 + 1)) fun σ11 =>
 Option.bind (gI shm σ11 12 this 73) fun steps_12 =>
 some (σ11, steps_12))))
set_option maxRecDepth 100000 in
set_option maxHeartbeats 4000000 in
theorem c_X12_bounds (l : Launch) (D : va_G) (ca : Nat → ClassId) (ra : Nat → Nat) (N : Nat) (σ : St) (this : Nat) (p0 : Int) (p1 : Int) : Ctr l (D, ca, ra, shm) false yX12_bounds cX12_bounds 3 (some .int) rm_X12_bounds σ [ar this, ai p0, ai p1] (f_X12_bounds N σ this p0 p1) := by
  refine ctr_of (by decide) (Nat.le_of_ble_eq_true rfl) (fun z C => ?_)
  show X z 0 0 σ 0 [(0, ar this), (1, ai p0), (2, ai p1)] [] _
  unfold f_X12_bounds
  refine x_iload_n C 1 (i := 1) (k0 := 1) rfl rfl (by decide +kernel) ?_
  refine x_iconst C (n := 0) (by decide +kernel) ?_
  refine x_bipush C (n := 99) (by decide +kernel) (by decide +kernel) ?_
  refine x_callSp C (c_X12_isIn l D ca ra N σ p0 0 99) (p_X12_isIn N σ p0 0 99) mt_X12_isIn ms_X12_isIn ml_RX12_354 rfl (fun h => Bool.noConfusion h) ⟨Nat.le_of_ble_eq_true rfl, Nat.le_of_ble_eq_true rfl⟩ (Nat.le_of_ble_eq_true rfl) 0 0 ⟨rfl, rfl⟩ ⟨Nat.zero_le _, Nat.zero_le _⟩ (by decide +kernel) _ rfl (fun q1 => [ai q1.2]) (fun _ => rfl) (fun q1 => ?_)
  refine x_if_eq C (tgt := 29) (off := 22) (by decide) (by decide +kernel) (fun h15 => ?_) (fun h15 => ?_)
  · skip
    refine x_iconst C (n := (-1)) (by decide +kernel) ?_
    exact x_iret C ⟨Nat.zero_le _, Nat.zero_le _⟩ (by decide +kernel)
  · skip
    refine x_iload_n C 2 (i := 2) (k0 := 2) rfl rfl (by decide +kernel) ?_
    refine x_iload_n C 1 (i := 1) (k0 := 1) rfl rfl (by decide +kernel) ?_
    refine x_bipush C (n := 99) (by decide +kernel) (by decide +kernel) ?_
    refine x_callSp C (c_X12_isIn l D ca ra N σ p1 p0 99) (p_X12_isIn N σ p1 p0 99) mt_X12_isIn ms_X12_isIn ml_RX12_354 rfl (fun h => Bool.noConfusion h) ⟨Nat.le_of_ble_eq_true rfl, Nat.le_of_ble_eq_true rfl⟩ (Nat.le_of_ble_eq_true rfl) 0 0 ⟨rfl, rfl⟩ ⟨Nat.zero_le _, Nat.zero_le _⟩ (by decide +kernel) _ rfl (fun q2 => [ai q2.2]) (fun _ => rfl) (fun q2 => ?_)
    refine x_if_eq C (tgt := 29) (off := 12) (by decide) (by decide +kernel) (fun h14 => ?_) (fun h14 => ?_)
    · skip
      refine x_iconst C (n := (-1)) (by decide +kernel) ?_
      exact x_iret C ⟨Nat.zero_le _, Nat.zero_le _⟩ (by decide +kernel)
    · skip
      refine x_aload_n C 0 (i := 0) (k0 := 0) rfl rfl (by decide +kernel) ?_
      refine x_gI C fl_RX12_312 (fun _ _ _ => rfl) (by decide +kernel) (fun steps_3 => ?_)
      refine x_bipush C (n := 12) (by decide +kernel) (by decide +kernel) ?_
      refine x_ic_ne C (tgt := 31) (off := 5) (by decide) (by decide +kernel) (fun h13 => ?_) (fun h13 => ?_)
      · skip
        refine x_aload_n C 0 (i := 0) (k0 := 0) rfl rfl (by decide +kernel) ?_
        refine x_gR C fl_RX12_128 (fun _ _ _ => rfl) (by decide +kernel) (fun from_4 => ?_)
        refine x_aload_n C 0 (i := 0) (k0 := 0) rfl rfl (by decide +kernel) ?_
        refine x_gI C fl_RX12_312 (fun _ _ _ => rfl) (by decide +kernel) (fun steps_5 => ?_)
        refine x_iload_n C 1 (i := 1) (k0 := 1) rfl rfl (by decide +kernel) ?_
        refine x_astI C (by decide +kernel) (fun σ6 => ?_)
        refine x_aload_n C 0 (i := 0) (k0 := 0) rfl rfl (by decide +kernel) ?_
        refine x_gR C fl_RX12_131 (fun _ _ _ => rfl) (by decide +kernel) (fun to_7 => ?_)
        show X z 0 0 σ6 45 [(0, ar this), (1, ai p0), (2, ai p1)] [ar to_7] _
        refine x_aload_n C 0 (i := 0) (k0 := 0) rfl rfl (by decide +kernel) ?_
        refine x_gI C fl_RX12_312 (fun _ _ _ => rfl) (by decide +kernel) (fun steps_8 => ?_)
        refine x_iload_n C 2 (i := 2) (k0 := 2) rfl rfl (by decide +kernel) ?_
        refine x_astI C (by decide +kernel) (fun σ9 => ?_)
        refine x_aload_n C 0 (i := 0) (k0 := 0) rfl rfl (by decide +kernel) ?_
        refine x_dup C rfl (by decide +kernel) ?_
        refine x_gI C fl_RX12_312 (fun _ _ _ => rfl) (by decide +kernel) (fun steps_10 => ?_)
        refine x_iconst C (n := 1) (by decide +kernel) ?_
        show X z 0 0 σ9 57 [(0, ar this), (1, ai p0), (2, ai p1)] [ai 1, ai steps_10, ar this] _
        refine x_iadd C (by decide +kernel) ?_
        refine x_pI C fl_RX12_312 rfl (fun q h => by cases h; rfl) (by decide +kernel) (fun σ11 => ?_)
        refine x_aload_n C 0 (i := 0) (k0 := 0) rfl rfl (by decide +kernel) ?_
        refine x_gI C fl_RX12_312 (fun _ _ _ => rfl) (by decide +kernel) (fun steps_12 => ?_)
        exact x_iret C ⟨Nat.zero_le _, Nat.zero_le _⟩ (by decide +kernel)
      · skip
        refine x_iconst C (n := (-1)) (by decide +kernel) ?_
        exact x_iret C ⟨Nat.zero_le _, Nat.zero_le _⟩ (by decide +kernel)

def rm_X12_land : Room := { frames := 0, cells := 0, slots := 0, locals := 0 }
def f_X12_land (N : Nat) (σ : St) (this : Nat) : Option (St × Int) :=
 Option.bind (gI shm σ 12 this 73) fun steps_1 =>
 Option.bind (pI shm σ 12 this 73 0) fun σ2 =>
 some (σ2, steps_1)
set_option maxRecDepth 100000 in
set_option maxHeartbeats 4000000 in
theorem c_X12_land (l : Launch) (D : va_G) (ca : Nat → ClassId) (ra : Nat → Nat) (N : Nat) (σ : St) (this : Nat) : Ctr l (D, ca, ra, shm) false yX12_land cX12_land 2 (some .int) rm_X12_land σ [ar this] (f_X12_land N σ this) := by
  refine ctr_of (by decide) (Nat.le_of_ble_eq_true rfl) (fun z C => ?_)
  show X z 0 0 σ 0 [(0, ar this)] [] _
  unfold f_X12_land
  refine x_aload_n C 0 (i := 0) (k0 := 0) rfl rfl (by decide +kernel) ?_
  refine x_gI C fl_RX12_312 (fun _ _ _ => rfl) (by decide +kernel) (fun steps_1 => ?_)
  refine x_istore_n C (i := 1) (k0 := 1) rfl (Nat.le_of_ble_eq_true rfl) (by decide +kernel) (lv2 := [(1, ai steps_1), (0, ar this)]) rfl ?_
  refine x_aload_n C 1 (i := 0) (k0 := 0) rfl rfl (by decide +kernel) ?_
  refine x_iconst C (n := 0) (by decide +kernel) ?_
  refine x_pI C fl_RX12_312 rfl (fun q h => by cases h; rfl) (by decide +kernel) (fun σ2 => ?_)
  refine x_iload_n C 0 (i := 1) (k0 := 1) rfl rfl (by decide +kernel) ?_
  exact x_iret C ⟨Nat.zero_le _, Nat.zero_le _⟩ (by decide +kernel)

def rm_X12_pump : Room := { frames := 1, cells := 0, slots := 0, locals := 22 }
def f_X12_pump (N : Nat) (σ : St) (this : Nat) (p0 : Int) : Option (St × Int) :=
 Option.bind (f_X12_isIn N σ p0 0 3) fun q1 =>
 (if wr q1.2 = 0 then some (σ, 0) else Option.bind (pI shm σ 12 this 74 p0) fun σ2 =>
 some (σ2, 1))
set_option maxRecDepth 100000 in
set_option maxHeartbeats 4000000 in
theorem c_X12_pump (l : Launch) (D : va_G) (ca : Nat → ClassId) (ra : Nat → Nat) (N : Nat) (σ : St) (this : Nat) (p0 : Int) : Ctr l (D, ca, ra, shm) false yX12_pump cX12_pump 2 (some .boolean) rm_X12_pump σ [ar this, ai p0] (f_X12_pump N σ this p0) := by
  refine ctr_of (by decide) (Nat.le_of_ble_eq_true rfl) (fun z C => ?_)
  show X z 0 0 σ 0 [(0, ar this), (1, ai p0)] [] _
  unfold f_X12_pump
  refine x_iload_n C 1 (i := 1) (k0 := 1) rfl rfl (by decide +kernel) ?_
  refine x_iconst C (n := 0) (by decide +kernel) ?_
  refine x_iconst C (n := 3) (by decide +kernel) ?_
  refine x_callSp C (c_X12_isIn l D ca ra N σ p0 0 3) (p_X12_isIn N σ p0 0 3) mt_X12_isIn ms_X12_isIn ml_RX12_354 rfl (fun h => Bool.noConfusion h) ⟨Nat.le_of_ble_eq_true rfl, Nat.le_of_ble_eq_true rfl⟩ (Nat.le_of_ble_eq_true rfl) 0 0 ⟨rfl, rfl⟩ ⟨Nat.zero_le _, Nat.zero_le _⟩ (by decide +kernel) _ rfl (fun q1 => [ai q1.2]) (fun _ => rfl) (fun q1 => ?_)
  refine x_if_ne C (tgt := 11) (off := 5) (by decide) (by decide +kernel) (fun h3 => ?_) (fun h3 => ?_)
  · skip
    refine x_aload_n C 0 (i := 0) (k0 := 0) rfl rfl (by decide +kernel) ?_
    refine x_iload_n C 1 (i := 1) (k0 := 1) rfl rfl (by decide +kernel) ?_
    refine x_pI C fl_RX12_141 rfl (fun q h => by cases h; rfl) (by decide +kernel) (fun σ2 => ?_)
    refine x_iconst C (n := 1) (by decide +kernel) ?_
    exact x_zret C (Or.inr rfl) ⟨Nat.zero_le _, Nat.zero_le _⟩ (by decide +kernel)
  · skip
    refine x_iconst C (n := 0) (by decide +kernel) ?_
    exact x_zret C (Or.inl rfl) ⟨Nat.zero_le _, Nat.zero_le _⟩ (by decide +kernel)

def rm_X12_tanks : Room := { frames := 0, cells := 0, slots := 0, locals := 0 }
def f_X12_tanks (N : Nat) (σ : St) (this : Nat) : Option (St × Int) :=
 Option.bind (gR shm σ 12 this 15) fun tankMany_1 =>
 Option.bind (gI shm σ 12 this 31) fun bank_2 =>
 Option.bind (aI shm σ 1 tankMany_1 bank_2) fun a3 =>
 some (σ, a3)
set_option maxRecDepth 100000 in
set_option maxHeartbeats 4000000 in
theorem c_X12_tanks (l : Launch) (D : va_G) (ca : Nat → ClassId) (ra : Nat → Nat) (N : Nat) (σ : St) (this : Nat) : Ctr l (D, ca, ra, shm) false yX12_tanks cX12_tanks 1 (some .int) rm_X12_tanks σ [ar this] (f_X12_tanks N σ this) := by
  refine ctr_of (by decide) (Nat.le_of_ble_eq_true rfl) (fun z C => ?_)
  show X z 0 0 σ 0 [(0, ar this)] [] _
  unfold f_X12_tanks
  refine x_aload_n C 0 (i := 0) (k0 := 0) rfl rfl (by decide +kernel) ?_
  refine x_gR C fl_RX12_33 (fun _ _ _ => rfl) (by decide +kernel) (fun tankMany_1 => ?_)
  refine x_aload_n C 0 (i := 0) (k0 := 0) rfl rfl (by decide +kernel) ?_
  refine x_gI C fl_RX12_300 (fun _ _ _ => rfl) (by decide +kernel) (fun bank_2 => ?_)
  refine x_aldI C (by decide +kernel) (fun a3 => ?_)
  exact x_iret C ⟨Nat.zero_le _, Nat.zero_le _⟩ (by decide +kernel)
theorem p_X12_tanks (N : Nat) (σ : St) (this : Nat) : Pu σ (f_X12_tanks N σ this) := by
  unfold f_X12_tanks
  refine pu_bind (fun _ => ?_)
  refine pu_bind (fun _ => ?_)
  refine pu_bind (fun _ => ?_)
  exact pu_some

def rm_X12_fillUp : Room := { frames := 0, cells := 0, slots := 0, locals := 0 }
def f_X12_fillUp (N : Nat) (σ : St) (this : Nat) (p0 : Int) : Option (St × Int) :=
 Option.bind (gR shm σ 12 this 72) fun fuel_1 =>
 Option.bind (sI shm σ 1 fuel_1 0 (andZ p0 15)) fun σ2 =>
 Option.bind (gR shm σ2 12 this 72) fun fuel_3 =>
 Option.bind (sI shm σ2 1 fuel_3 1 (andZ (shrZ p0 4) 15)) fun σ4 =>
 Option.bind (gR shm σ4 12 this 72) fun fuel_5 =>
 Option.bind (sI shm σ4 1 fuel_5 2 (andZ (shrZ p0 8) 15)) fun σ6 =>
 some (σ6, 0)
set_option maxRecDepth 100000 in
set_option maxHeartbeats 4000000 in
theorem c_X12_fillUp (l : Launch) (D : va_G) (ca : Nat → ClassId) (ra : Nat → Nat) (N : Nat) (σ : St) (this : Nat) (p0 : Int) : Ctr l (D, ca, ra, shm) false yX12_fillUp cX12_fillUp 2 none rm_X12_fillUp σ [ar this, ai p0] (f_X12_fillUp N σ this p0) := by
  refine ctr_of (by decide) (Nat.le_of_ble_eq_true rfl) (fun z C => ?_)
  show X z 0 0 σ 0 [(0, ar this), (1, ai p0)] [] _
  unfold f_X12_fillUp
  refine x_aload_n C 0 (i := 0) (k0 := 0) rfl rfl (by decide +kernel) ?_
  refine x_gR C fl_RX12_138 (fun _ _ _ => rfl) (by decide +kernel) (fun fuel_1 => ?_)
  refine x_iconst C (n := 0) (by decide +kernel) ?_
  refine x_iload_n C 1 (i := 1) (k0 := 1) rfl rfl (by decide +kernel) ?_
  refine x_bipush C (n := 15) (by decide +kernel) (by decide +kernel) ?_
  refine x_iand C (by decide +kernel) ?_
  refine x_astI C (by decide +kernel) (fun σ2 => ?_)
  refine x_aload_n C 0 (i := 0) (k0 := 0) rfl rfl (by decide +kernel) ?_
  show X z 0 0 σ2 11 [(0, ar this), (1, ai p0)] [ar this] _
  refine x_gR C fl_RX12_138 (fun _ _ _ => rfl) (by decide +kernel) (fun fuel_3 => ?_)
  refine x_iconst C (n := 1) (by decide +kernel) ?_
  refine x_iload_n C 1 (i := 1) (k0 := 1) rfl rfl (by decide +kernel) ?_
  refine x_iconst C (n := 4) (by decide +kernel) ?_
  refine x_ishr C (by decide +kernel) ?_
  refine x_bipush C (n := 15) (by decide +kernel) (by decide +kernel) ?_
  refine x_iand C (by decide +kernel) ?_
  refine x_astI C (by decide +kernel) (fun σ4 => ?_)
  show X z 0 0 σ4 22 [(0, ar this), (1, ai p0)] [] _
  refine x_aload_n C 0 (i := 0) (k0 := 0) rfl rfl (by decide +kernel) ?_
  refine x_gR C fl_RX12_138 (fun _ _ _ => rfl) (by decide +kernel) (fun fuel_5 => ?_)
  refine x_iconst C (n := 2) (by decide +kernel) ?_
  refine x_iload_n C 1 (i := 1) (k0 := 1) rfl rfl (by decide +kernel) ?_
  refine x_bipush C (n := 8) (by decide +kernel) (by decide +kernel) ?_
  refine x_ishr C (by decide +kernel) ?_
  refine x_bipush C (n := 15) (by decide +kernel) (by decide +kernel) ?_
  refine x_iand C (by decide +kernel) ?_
  show X z 0 0 σ4 34 [(0, ar this), (1, ai p0)] [ai (andZ (shrZ p0 8) 15), ai 2, ar fuel_5] _
  refine x_astI C (by decide +kernel) (fun σ6 => ?_)
  exact x_vret C ⟨Nat.zero_le _, Nat.zero_le _⟩ (by decide +kernel)

def rm_X12_stateNow : Room := { frames := 0, cells := 0, slots := 0, locals := 0 }
def f_X12_stateNow (N : Nat) (σ : St) (this : Nat) : Option (St × Int) :=
 Option.bind (gR shm σ 12 this 72) fun fuel_1 =>
 Option.bind (aI shm σ 1 fuel_1 0) fun a2 =>
 Option.bind (gR shm σ 12 this 72) fun fuel_3 =>
 Option.bind (aI shm σ 1 fuel_3 1) fun a4 =>
 Option.bind (gR shm σ 12 this 72) fun fuel_5 =>
 Option.bind (aI shm σ 1 fuel_5 2) fun a6 =>
 some (σ, (orZ (orZ a2 (shlZ a4 4)) (shlZ a6 8)))
set_option maxRecDepth 100000 in
set_option maxHeartbeats 4000000 in
theorem c_X12_stateNow (l : Launch) (D : va_G) (ca : Nat → ClassId) (ra : Nat → Nat) (N : Nat) (σ : St) (this : Nat) : Ctr l (D, ca, ra, shm) false yX12_stateNow cX12_stateNow 1 (some .int) rm_X12_stateNow σ [ar this] (f_X12_stateNow N σ this) := by
  refine ctr_of (by decide) (Nat.le_of_ble_eq_true rfl) (fun z C => ?_)
  show X z 0 0 σ 0 [(0, ar this)] [] _
  unfold f_X12_stateNow
  refine x_aload_n C 0 (i := 0) (k0 := 0) rfl rfl (by decide +kernel) ?_
  refine x_gR C fl_RX12_138 (fun _ _ _ => rfl) (by decide +kernel) (fun fuel_1 => ?_)
  refine x_iconst C (n := 0) (by decide +kernel) ?_
  refine x_aldI C (by decide +kernel) (fun a2 => ?_)
  refine x_aload_n C 0 (i := 0) (k0 := 0) rfl rfl (by decide +kernel) ?_
  refine x_gR C fl_RX12_138 (fun _ _ _ => rfl) (by decide +kernel) (fun fuel_3 => ?_)
  refine x_iconst C (n := 1) (by decide +kernel) ?_
  refine x_aldI C (by decide +kernel) (fun a4 => ?_)
  show X z 0 0 σ 12 [(0, ar this)] [ai a4, ai a2] _
  refine x_iconst C (n := 4) (by decide +kernel) ?_
  refine x_ishl C (by decide +kernel) ?_
  refine x_ior C (by decide +kernel) ?_
  refine x_aload_n C 0 (i := 0) (k0 := 0) rfl rfl (by decide +kernel) ?_
  refine x_gR C fl_RX12_138 (fun _ _ _ => rfl) (by decide +kernel) (fun fuel_5 => ?_)
  refine x_iconst C (n := 2) (by decide +kernel) ?_
  refine x_aldI C (by decide +kernel) (fun a6 => ?_)
  refine x_bipush C (n := 8) (by decide +kernel) (by decide +kernel) ?_
  show X z 0 0 σ 23 [(0, ar this)] [ai 8, ai a6, ai (orZ a2 (shlZ a4 4))] _
  refine x_ishl C (by decide +kernel) ?_
  refine x_ior C (by decide +kernel) ?_
  exact x_iret C ⟨Nat.zero_le _, Nat.zero_le _⟩ (by decide +kernel)
theorem p_X12_stateNow (N : Nat) (σ : St) (this : Nat) : Pu σ (f_X12_stateNow N σ this) := by
  unfold f_X12_stateNow
  refine pu_bind (fun _ => ?_)
  refine pu_bind (fun _ => ?_)
  refine pu_bind (fun _ => ?_)
  refine pu_bind (fun _ => ?_)
  refine pu_bind (fun _ => ?_)
  refine pu_bind (fun _ => ?_)
  exact pu_some

def L_X12_tryMove_117 (N : Nat) (this : Nat) (σ8 : St) (J171_19 : (Int × Int → Option (St × Int))) : (Int × Int × Int) → Option (St × Int) := fixN N fun b117_21 t21 =>
 Option.bind (rcv shm σ8 12 this (f_X12_tanks N σ8 this)) fun q23 =>
 (if wr t21.2.2 < wr q23.2 then Option.bind (gR shm σ8 12 this 72) fun fuel_24 =>
 Option.bind (aI shm σ8 1 fuel_24 t21.2.2) fun a25 =>
 Lt (t21.1 + a25) fun x26 =>
 Option.bind (gR shm σ8 12 this 72) fun fuel_27 =>
 Option.bind (aI shm σ8 1 fuel_27 t21.2.2) fun a28 =>
 Option.bind (gR shm σ8 12 this 26) fun tAt_29 =>
 Option.bind (gI shm σ8 12 this 31) fun bank_30 =>
 Option.bind (aI shm σ8 1 tAt_29 ((3 * bank_30) + t21.2.2)) fun a31 =>
 Lt (t21.2.1 + (a28 * a31)) fun x32 =>
 Lt (t21.2.2 + 1) fun x33 =>
 b117_21 (x26, x32, x33) else J171_19 (t21.1, t21.2.1))
def rm_X12_tryMove : Room := { frames := 1, cells := 0, slots := 0, locals := 21 }
def f_X12_tryMove (N : Nat) (σ : St) (this : Nat) (p0 : Int) (p1 : Int) (p2 : Int) (p3 : Int) (p4 : Int) (p5 : Int) : Option (St × Int) :=
 Option.bind (rcv shm σ 12 this (f_X12_fillUp N σ this p1)) fun q1 =>
 Jn (fun t2 : Unit => Jn (fun t3 : St => Option.bind (gR shm t3 12 this 72) fun fuel_4 =>
 Option.bind (aI shm t3 1 fuel_4 p5) fun a5 =>
 (if wr a5 = 0 then some (t3, 1000000) else Option.bind (gR shm t3 12 this 72) fun fuel_6 =>
 Option.bind (aI shm t3 1 fuel_6 p5) fun a7 =>
 Option.bind (sI shm t3 1 fuel_6 p5 (a7 - 1)) fun σ8 =>
 Jn (fun t9 : Int × Int => Option.bind (gR shm σ8 12 this 69) fun from_10 =>
 Option.bind (aI shm σ8 1 from_10 p0) fun a11 =>
 (if wr t9.2 < wr (a11 * t9.1) then some (σ8, 1000000) else Option.bind (gR shm σ8 12 this 70) fun to_12 =>
 Option.bind (aI shm σ8 1 to_12 p0) fun a13 =>
 (if wr (a13 * t9.1) < wr t9.2 then some (σ8, 1000000) else Option.bind (gR shm σ8 12 this 71) fun least_14 =>
 Option.bind (rcv shm σ8 12 this (f_X12_stateNow N σ8 this)) fun q15 =>
 Option.bind (aI shm σ8 1 least_14 ((4096 * (p0 + 1)) + q15.2)) fun a16 =>
 (if wr a16 < wr 1000000 then some (σ8, (a16 + p2)) else some (σ8, 1000000))))) fun J171_19 =>
 L_X12_tryMove_117 N this σ8 J171_19 (0, 0, 0))) fun J83_35 =>
 (if 0 < wr p2 then Option.bind (gR shm q1.1 12 this 72) fun fuel_37 =>
 Option.bind (aI shm q1.1 1 fuel_37 p3) fun a38 =>
 Option.bind (sI shm q1.1 1 fuel_37 p3 (a38 - p2)) fun σ39 =>
 Option.bind (gR shm σ39 12 this 72) fun fuel_40 =>
 Option.bind (aI shm σ39 1 fuel_40 p4) fun a41 =>
 Option.bind (sI shm σ39 1 fuel_40 p4 (a41 + p2)) fun σ42 =>
 J83_35 σ42 else J83_35 q1.1)) fun J57_43 =>
 (if 0 < wr p2 then (if wr p3 = wr p4 then some (q1.1, 1000000) else Option.bind (gR shm q1.1 12 this 72) fun fuel_45 =>
 Option.bind (aI shm q1.1 1 fuel_45 p3) fun a46 =>
 (if wr a46 < wr p2 then some (q1.1, 1000000) else Option.bind (gR shm q1.1 12 this 72) fun fuel_47 =>
 Option.bind (aI shm q1.1 1 fuel_47 p4) fun a48 =>
 Option.bind (gR shm q1.1 12 this 27) fun tHolds_49 =>
 Option.bind (gI shm q1.1 12 this 31) fun bank_50 =>
 Option.bind (aI shm q1.1 1 tHolds_49 ((3 * bank_50) + p4)) fun a51 =>
 (if wr a51 < wr (a48 + p2) then some (q1.1, 1000000) else J57_43 ()))) else J57_43 ())
set_option maxRecDepth 100000 in
set_option maxHeartbeats 4000000 in
theorem c_X12_tryMove (l : Launch) (D : va_G) (ca : Nat → ClassId) (ra : Nat → Nat) (N : Nat) (σ : St) (this : Nat) (p0 : Int) (p1 : Int) (p2 : Int) (p3 : Int) (p4 : Int) (p5 : Int) : Ctr l (D, ca, ra, shm) false yX12_tryMove cX12_tryMove 10 (some .int) rm_X12_tryMove σ [ar this, ai p0, ai p1, ai p2, ai p3, ai p4, ai p5] (f_X12_tryMove N σ this p0 p1 p2 p3 p4 p5) := by
  refine ctr_of (by decide) (Nat.le_of_ble_eq_true rfl) (fun z C => ?_)
  show X z 0 0 σ 0 [(0, ar this), (1, ai p0), (2, ai p1), (3, ai p2), (4, ai p3), (5, ai p4), (6, ai p5)] [] _
  unfold f_X12_tryMove
  refine x_aload_n C 0 (i := 0) (k0 := 0) rfl rfl (by decide +kernel) ?_
  refine x_iload_n C 2 (i := 2) (k0 := 2) rfl rfl (by decide +kernel) ?_
  refine x_callV C (ci := 12) (c_X12_fillUp l D ca ra N σ this p1) mt_X12_fillUp mv_X12_fillUp rfl ml_RX12_517 rfl (fun h => Bool.noConfusion h) ⟨Nat.le_of_ble_eq_true rfl, Nat.le_of_ble_eq_true rfl⟩ (Nat.le_of_ble_eq_true rfl) 0 0 ⟨rfl, rfl⟩ ⟨Nat.zero_le _, Nat.zero_le _⟩ (by decide +kernel) _ rfl (fun q1 => []) (fun _ => rfl) (fun q1 => ?_)
  refine x_iload_n C 3 (i := 3) (k0 := 3) rfl rfl (by decide +kernel) ?_
  refine x_join (T := Unit) (fun t => q1.1) 57 (fun t => [(0, ar this), (1, ai p0), (3, ai p2), (4, ai p3), (5, ai p4), (6, ai p5)]) (fun t => []) (fun t2 => ?_) (fun J57_43 hJ57_43 => ?_)
  · show X z 0 0 q1.1 57 [(0, ar this), (1, ai p0), (3, ai p2), (4, ai p3), (5, ai p4), (6, ai p5)] [] _
    refine x_iload_n C 2 (i := 3) (k0 := 3) rfl rfl (by decide +kernel) ?_
    refine x_join (T := St) (fun t => t) 83 (fun t => [(0, ar this), (1, ai p0), (3, ai p2), (6, ai p5)]) (fun t => []) (fun t3 => ?_) (fun J83_35 hJ83_35 => ?_)
    · show X z 0 0 t3 83 [(0, ar this), (1, ai p0), (3, ai p2), (6, ai p5)] [] _
      refine x_aload_n C 0 (i := 0) (k0 := 0) rfl rfl (by decide +kernel) ?_
      refine x_gR C fl_RX12_138 (fun _ _ _ => rfl) (by decide +kernel) (fun fuel_4 => ?_)
      refine x_iload C 3 (i := 6) rfl (by decide +kernel) ?_
      refine x_aldI C (by decide +kernel) (fun a5 => ?_)
      refine x_if_ne C (tgt := 97) (off := 7) (by decide) (by decide +kernel) (fun h35 => ?_) (fun h35 => ?_)
      · skip
        refine x_aload_n C 0 (i := 0) (k0 := 0) rfl rfl (by decide +kernel) ?_
        refine x_gR C fl_RX12_138 (fun _ _ _ => rfl) (by decide +kernel) (fun fuel_6 => ?_)
        refine x_iload C 3 (i := 6) rfl (by decide +kernel) ?_
        refine x_dup2 C rfl rfl (by decide +kernel) ?_
        refine x_aldI C (by decide +kernel) (fun a7 => ?_)
        refine x_iconst C (n := 1) (by decide +kernel) ?_
        refine x_isub C (by decide +kernel) ?_
        refine x_astI C (by decide +kernel) (fun σ8 => ?_)
        show X z 0 0 σ8 108 [(0, ar this), (1, ai p0), (3, ai p2), (6, ai p5)] [] _
        refine x_iconst C (n := 0) (by decide +kernel) ?_
        refine x_istore C (i := 7) (Nat.le_of_ble_eq_true rfl) (by decide +kernel) (lv2 := [(7, ai 0), (0, ar this), (1, ai p0), (3, ai p2), (6, ai p5)]) rfl ?_
        refine x_iconst C (n := 0) (by decide +kernel) ?_
        refine x_istore C (i := 8) (Nat.le_of_ble_eq_true rfl) (by decide +kernel) (lv2 := [(8, ai 0), (7, ai 0), (0, ar this), (1, ai p0), (3, ai p2), (6, ai p5)]) rfl ?_
        refine x_iconst C (n := 0) (by decide +kernel) ?_
        refine x_istore C (i := 9) (Nat.le_of_ble_eq_true rfl) (by decide +kernel) (lv2 := [(9, ai 0), (8, ai 0), (7, ai 0), (0, ar this), (1, ai p0), (3, ai p2), (6, ai p5)]) rfl ?_
        refine x_join (T := Int × Int) (fun t => σ8) 171 (fun t => [(0, ar this), (1, ai p0), (3, ai p2), (7, ai t.1), (8, ai t.2)]) (fun t => []) (fun t9 => ?_) (fun J171_19 hJ171_19 => ?_)
        · show X z 0 0 σ8 171 [(0, ar this), (1, ai p0), (3, ai p2), (7, ai t9.1), (8, ai t9.2)] [] _
          refine x_iload C 4 (i := 8) rfl (by decide +kernel) ?_
          refine x_aload_n C 0 (i := 0) (k0 := 0) rfl rfl (by decide +kernel) ?_
          refine x_gR C fl_RX12_128 (fun _ _ _ => rfl) (by decide +kernel) (fun from_10 => ?_)
          refine x_iload_n C 1 (i := 1) (k0 := 1) rfl rfl (by decide +kernel) ?_
          refine x_aldI C (by decide +kernel) (fun a11 => ?_)
          refine x_iload C 3 (i := 7) rfl (by decide +kernel) ?_
          refine x_imul C (by decide +kernel) ?_
          refine x_ic_lt C (tgt := 199) (off := 17) (by decide) (by decide +kernel) (fun h19 => ?_) (fun h19 => ?_)
          · skip
            refine x_ldcw C (n := 1000000) (v := 1000000) kc_RX12_503 (by decide +kernel) (by decide +kernel) ?_
            exact x_iret C ⟨Nat.zero_le _, Nat.zero_le _⟩ (by decide +kernel)
          · skip
            refine x_iload C 4 (i := 8) rfl (by decide +kernel) ?_
            refine x_aload_n C 0 (i := 0) (k0 := 0) rfl rfl (by decide +kernel) ?_
            refine x_gR C fl_RX12_131 (fun _ _ _ => rfl) (by decide +kernel) (fun to_12 => ?_)
            refine x_iload_n C 1 (i := 1) (k0 := 1) rfl rfl (by decide +kernel) ?_
            refine x_aldI C (by decide +kernel) (fun a13 => ?_)
            refine x_iload C 3 (i := 7) rfl (by decide +kernel) ?_
            refine x_imul C (by decide +kernel) ?_
            refine x_ic_le C (tgt := 203) (off := 7) (by decide) (by decide +kernel) (fun h18 => ?_) (fun h18 => ?_)
            · skip
              refine x_aload_n C 0 (i := 0) (k0 := 0) rfl rfl (by decide +kernel) ?_
              refine x_gR C fl_RX12_135 (fun _ _ _ => rfl) (by decide +kernel) (fun least_14 => ?_)
              refine x_sipush C (n := 4096) (by decide +kernel) (by decide +kernel) ?_
              refine x_iload_n C 1 (i := 1) (k0 := 1) rfl rfl (by decide +kernel) ?_
              refine x_iconst C (n := 1) (by decide +kernel) ?_
              refine x_iadd C (by decide +kernel) ?_
              refine x_imul C (by decide +kernel) ?_
              refine x_aload_n C 0 (i := 0) (k0 := 0) rfl rfl (by decide +kernel) ?_
              show X z 0 0 σ8 215 [(0, ar this), (1, ai p0), (3, ai p2), (7, ai t9.1), (8, ai t9.2)] [ar this, ai (4096 * (p0 + 1)), ar least_14] _
              refine x_callVp C (ci := 12) (c_X12_stateNow l D ca ra N σ8 this) (p_X12_stateNow N σ8 this) mt_X12_stateNow mv_X12_stateNow rfl ml_RX12_523 rfl (fun h => Bool.noConfusion h) ⟨Nat.le_of_ble_eq_true rfl, Nat.le_of_ble_eq_true rfl⟩ (Nat.le_of_ble_eq_true rfl) 0 0 ⟨rfl, rfl⟩ ⟨Nat.zero_le _, Nat.zero_le _⟩ (by decide +kernel) _ rfl (fun q15 => [ai q15.2, ai (4096 * (p0 + 1)), ar least_14]) (fun _ => rfl) (fun q15 => ?_)
              refine x_iadd C (by decide +kernel) ?_
              refine x_aldI C (by decide +kernel) (fun a16 => ?_)
              refine x_istore C (i := 9) (Nat.le_of_ble_eq_true rfl) (by decide +kernel) (lv2 := [(9, ai a16), (0, ar this), (1, ai p0), (3, ai p2), (7, ai t9.1), (8, ai t9.2)]) rfl ?_
              refine x_iload C 0 (i := 9) rfl (by decide +kernel) ?_
              refine x_ldcw C (n := 1000000) (v := 1000000) kc_RX12_503 (by decide +kernel) (by decide +kernel) ?_
              refine x_ic_lt C (tgt := 236) (off := 9) (by decide) (by decide +kernel) (fun h17 => ?_) (fun h17 => ?_)
              · skip
                refine x_iload C 0 (i := 9) rfl (by decide +kernel) ?_
                refine x_iload_n C 3 (i := 3) (k0 := 3) rfl rfl (by decide +kernel) ?_
                refine x_iadd C (by decide +kernel) ?_
                exact x_iret C ⟨Nat.zero_le _, Nat.zero_le _⟩ (by decide +kernel)
              · skip
                refine x_ldcw C (n := 1000000) (v := 1000000) kc_RX12_503 (by decide +kernel) (by decide +kernel) ?_
                refine x_goto C (tgt := 240) (off := 7) (by decide) (by decide +kernel) ?_
                exact x_iret C ⟨Nat.zero_le _, Nat.zero_le _⟩ (by decide +kernel)
            · skip
              refine x_ldcw C (n := 1000000) (v := 1000000) kc_RX12_503 (by decide +kernel) (by decide +kernel) ?_
              exact x_iret C ⟨Nat.zero_le _, Nat.zero_le _⟩ (by decide +kernel)
        · skip
          refine x_sub [3, 4, 5, 2, 1, 0] (lv2 := [(0, ar this), (1, ai p0), (3, ai p2), (7, ai 0), (8, ai 0), (9, ai 0)]) rfl ?_
          -- LOOP L_X12_tryMove_117 hb117_21
          refine x_loop (T := Int × Int × Int) (fun t => σ8) (fun t => [(0, ar this), (1, ai p0), (3, ai p2), (7, ai t.1), (8, ai t.2.1), (9, ai t.2.2)]) (0, 0, 0) rfl (fun b117_21 hb117_21 t21 => ?_)
          show X z 0 0 σ8 117 [(0, ar this), (1, ai p0), (3, ai p2), (7, ai t21.1), (8, ai t21.2.1), (9, ai t21.2.2)] [] _
          refine x_iload C 5 (i := 9) rfl (by decide +kernel) ?_
          refine x_aload_n C 0 (i := 0) (k0 := 0) rfl rfl (by decide +kernel) ?_
          refine x_callVp C (ci := 12) (c_X12_tanks l D ca ra N σ8 this) (p_X12_tanks N σ8 this) mt_X12_tanks mv_X12_tanks rfl ml_RX12_520 rfl (fun h => Bool.noConfusion h) ⟨Nat.le_of_ble_eq_true rfl, Nat.le_of_ble_eq_true rfl⟩ (Nat.le_of_ble_eq_true rfl) 0 0 ⟨rfl, rfl⟩ ⟨Nat.zero_le _, Nat.zero_le _⟩ (by decide +kernel) _ rfl (fun q23 => [ai q23.2, ai t21.2.2]) (fun _ => rfl) (fun q23 => ?_)
          refine x_ic_ge C (tgt := 171) (off := 48) (by decide) (by decide +kernel) (fun h34 => ?_) (fun h34 => ?_)
          · skip
            refine x_sub [0, 1, 2, 3, 4] (lv2 := [(0, ar this), (1, ai p0), (3, ai p2), (7, ai t21.1), (8, ai t21.2.1)]) rfl ?_
            exact hJ171_19 (t21.1, t21.2.1)
          · skip
            refine x_iload C 3 (i := 7) rfl (by decide +kernel) ?_
            refine x_aload_n C 0 (i := 0) (k0 := 0) rfl rfl (by decide +kernel) ?_
            refine x_gR C fl_RX12_138 (fun _ _ _ => rfl) (by decide +kernel) (fun fuel_24 => ?_)
            refine x_iload C 5 (i := 9) rfl (by decide +kernel) ?_
            refine x_aldI C (by decide +kernel) (fun a25 => ?_)
            refine x_iadd C (by decide +kernel) ?_
            refine x_istoreL C (i := 7) (Nat.le_of_ble_eq_true rfl) (by decide +kernel) (lv2 := fun x26 => [(7, ai x26), (0, ar this), (1, ai p0), (3, ai p2), (8, ai t21.2.1), (9, ai t21.2.2)]) (fun _ => rfl) (fun x26 => ?_)
            refine x_iload C 4 (i := 8) rfl (by decide +kernel) ?_
            show X z 0 0 σ8 140 [(7, ai x26), (0, ar this), (1, ai p0), (3, ai p2), (8, ai t21.2.1), (9, ai t21.2.2)] [ai t21.2.1] _
            refine x_aload_n C 1 (i := 0) (k0 := 0) rfl rfl (by decide +kernel) ?_
            refine x_gR C fl_RX12_138 (fun _ _ _ => rfl) (by decide +kernel) (fun fuel_27 => ?_)
            refine x_iload C 5 (i := 9) rfl (by decide +kernel) ?_
            refine x_aldI C (by decide +kernel) (fun a28 => ?_)
            refine x_aload_n C 1 (i := 0) (k0 := 0) rfl rfl (by decide +kernel) ?_
            refine x_gR C fl_RX12_66 (fun _ _ _ => rfl) (by decide +kernel) (fun tAt_29 => ?_)
            refine x_iconst C (n := 3) (by decide +kernel) ?_
            refine x_aload_n C 1 (i := 0) (k0 := 0) rfl rfl (by decide +kernel) ?_
            show X z 0 0 σ8 153 [(7, ai x26), (0, ar this), (1, ai p0), (3, ai p2), (8, ai t21.2.1), (9, ai t21.2.2)] [ar this, ai 3, ar tAt_29, ai a28, ai t21.2.1] _
            refine x_gI C fl_RX12_300 (fun _ _ _ => rfl) (by decide +kernel) (fun bank_30 => ?_)
            refine x_imul C (by decide +kernel) ?_
            refine x_iload C 5 (i := 9) rfl (by decide +kernel) ?_
            refine x_iadd C (by decide +kernel) ?_
            refine x_aldI C (by decide +kernel) (fun a31 => ?_)
            refine x_imul C (by decide +kernel) ?_
            refine x_iadd C (by decide +kernel) ?_
            refine x_istoreL C (i := 8) (Nat.le_of_ble_eq_true rfl) (by decide +kernel) (lv2 := fun x32 => [(8, ai x32), (7, ai x26), (0, ar this), (1, ai p0), (3, ai p2), (9, ai t21.2.2)]) (fun _ => rfl) (fun x32 => ?_)
            show X z 0 0 σ8 165 [(8, ai x32), (7, ai x26), (0, ar this), (1, ai p0), (3, ai p2), (9, ai t21.2.2)] [] _
            refine x_iinc C 5 (i := 9) (n := 1) (Nat.le_of_ble_eq_true rfl) rfl (by decide +kernel) (lv2 := fun x33 => [(9, ai x33), (8, ai x32), (7, ai x26), (0, ar this), (1, ai p0), (3, ai p2)]) (fun _ => rfl) (fun x33 => ?_)
            refine x_goto C (tgt := 117) (off := (-51)) (by decide) (by decide +kernel) ?_
            refine x_sub [3, 4, 5, 2, 1, 0] (lv2 := [(0, ar this), (1, ai p0), (3, ai p2), (7, ai x26), (8, ai x32), (9, ai x33)]) rfl ?_
            exact hb117_21 (x26, x32, x33)
      · skip
        refine x_ldcw C (n := 1000000) (v := 1000000) kc_RX12_503 (by decide +kernel) (by decide +kernel) ?_
        exact x_iret C ⟨Nat.zero_le _, Nat.zero_le _⟩ (by decide +kernel)
    · skip
      refine x_if_le C (tgt := 83) (off := 25) (by decide) (by decide +kernel) (fun h43 => ?_) (fun h43 => ?_)
      · skip
        refine x_sub [0, 1, 2, 5] (lv2 := [(0, ar this), (1, ai p0), (3, ai p2), (6, ai p5)]) rfl ?_
        exact hJ83_35 q1.1
      · skip
        refine x_aload_n C 0 (i := 0) (k0 := 0) rfl rfl (by decide +kernel) ?_
        refine x_gR C fl_RX12_138 (fun _ _ _ => rfl) (by decide +kernel) (fun fuel_37 => ?_)
        refine x_iload C 3 (i := 4) rfl (by decide +kernel) ?_
        refine x_dup2 C rfl rfl (by decide +kernel) ?_
        refine x_aldI C (by decide +kernel) (fun a38 => ?_)
        refine x_iload_n C 2 (i := 3) (k0 := 3) rfl rfl (by decide +kernel) ?_
        refine x_isub C (by decide +kernel) ?_
        refine x_astI C (by decide +kernel) (fun σ39 => ?_)
        show X z 0 0 σ39 72 [(0, ar this), (1, ai p0), (3, ai p2), (4, ai p3), (5, ai p4), (6, ai p5)] [] _
        refine x_aload_n C 0 (i := 0) (k0 := 0) rfl rfl (by decide +kernel) ?_
        refine x_gR C fl_RX12_138 (fun _ _ _ => rfl) (by decide +kernel) (fun fuel_40 => ?_)
        refine x_iload C 4 (i := 5) rfl (by decide +kernel) ?_
        refine x_dup2 C rfl rfl (by decide +kernel) ?_
        refine x_aldI C (by decide +kernel) (fun a41 => ?_)
        refine x_iload_n C 2 (i := 3) (k0 := 3) rfl rfl (by decide +kernel) ?_
        refine x_iadd C (by decide +kernel) ?_
        refine x_astI C (by decide +kernel) (fun σ42 => ?_)
        show X z 0 0 σ42 83 [(0, ar this), (1, ai p0), (3, ai p2), (4, ai p3), (5, ai p4), (6, ai p5)] [] _
        refine x_sub [0, 1, 2, 5] (lv2 := [(0, ar this), (1, ai p0), (3, ai p2), (6, ai p5)]) rfl ?_
        exact hJ83_35 σ42
  · skip
    refine x_if_le C (tgt := 57) (off := 51) (by decide) (by decide +kernel) (fun h55 => ?_) (fun h55 => ?_)
    · skip
      refine x_sub [0, 1, 3, 4, 5, 6] (lv2 := [(0, ar this), (1, ai p0), (3, ai p2), (4, ai p3), (5, ai p4), (6, ai p5)]) rfl ?_
      exact hJ57_43 ()
    · skip
      refine x_iload C 4 (i := 4) rfl (by decide +kernel) ?_
      refine x_iload C 5 (i := 5) rfl (by decide +kernel) ?_
      refine x_ic_eq C (tgt := 53) (off := 40) (by decide) (by decide +kernel) (fun h54 => ?_) (fun h54 => ?_)
      · skip
        refine x_ldcw C (n := 1000000) (v := 1000000) kc_RX12_503 (by decide +kernel) (by decide +kernel) ?_
        exact x_iret C ⟨Nat.zero_le _, Nat.zero_le _⟩ (by decide +kernel)
      · skip
        refine x_aload_n C 0 (i := 0) (k0 := 0) rfl rfl (by decide +kernel) ?_
        refine x_gR C fl_RX12_138 (fun _ _ _ => rfl) (by decide +kernel) (fun fuel_45 => ?_)
        refine x_iload C 4 (i := 4) rfl (by decide +kernel) ?_
        refine x_aldI C (by decide +kernel) (fun a46 => ?_)
        refine x_iload_n C 3 (i := 3) (k0 := 3) rfl rfl (by decide +kernel) ?_
        refine x_ic_lt C (tgt := 53) (off := 29) (by decide) (by decide +kernel) (fun h53 => ?_) (fun h53 => ?_)
        · skip
          refine x_ldcw C (n := 1000000) (v := 1000000) kc_RX12_503 (by decide +kernel) (by decide +kernel) ?_
          exact x_iret C ⟨Nat.zero_le _, Nat.zero_le _⟩ (by decide +kernel)
        · skip
          refine x_aload_n C 0 (i := 0) (k0 := 0) rfl rfl (by decide +kernel) ?_
          refine x_gR C fl_RX12_138 (fun _ _ _ => rfl) (by decide +kernel) (fun fuel_47 => ?_)
          refine x_iload C 5 (i := 5) rfl (by decide +kernel) ?_
          refine x_aldI C (by decide +kernel) (fun a48 => ?_)
          refine x_iload_n C 3 (i := 3) (k0 := 3) rfl rfl (by decide +kernel) ?_
          refine x_iadd C (by decide +kernel) ?_
          refine x_aload_n C 0 (i := 0) (k0 := 0) rfl rfl (by decide +kernel) ?_
          refine x_gR C fl_RX12_69 (fun _ _ _ => rfl) (by decide +kernel) (fun tHolds_49 => ?_)
          show X z 0 0 q1.1 40 [(0, ar this), (1, ai p0), (2, ai p1), (3, ai p2), (4, ai p3), (5, ai p4), (6, ai p5)] [ar tHolds_49, ai (a48 + p2)] _
          refine x_iconst C (n := 3) (by decide +kernel) ?_
          refine x_aload_n C 0 (i := 0) (k0 := 0) rfl rfl (by decide +kernel) ?_
          refine x_gI C fl_RX12_300 (fun _ _ _ => rfl) (by decide +kernel) (fun bank_50 => ?_)
          refine x_imul C (by decide +kernel) ?_
          refine x_iload C 5 (i := 5) rfl (by decide +kernel) ?_
          refine x_iadd C (by decide +kernel) ?_
          refine x_aldI C (by decide +kernel) (fun a51 => ?_)
          refine x_ic_le C (tgt := 57) (off := 7) (by decide) (by decide +kernel) (fun h52 => ?_) (fun h52 => ?_)
          · skip
            refine x_sub [0, 1, 3, 4, 5, 6] (lv2 := [(0, ar this), (1, ai p0), (3, ai p2), (4, ai p3), (5, ai p4), (6, ai p5)]) rfl ?_
            exact hJ57_43 ()
          · skip
            refine x_ldcw C (n := 1000000) (v := 1000000) kc_RX12_503 (by decide +kernel) (by decide +kernel) ?_
            exact x_iret C ⟨Nat.zero_le _, Nat.zero_le _⟩ (by decide +kernel)

def L_X12_bestMove_58 (N : Nat) (this : Nat) (p0 : Int) (p1 : Int) (t2 : St × Int × Int) (t8 : St × Int × Int) (t14 : St × Int × Int) (J151_19 : (St × Int → Option (St × Int))) : (St × Int × Int) → Option (St × Int) := fixN N fun b58_21 t21 =>
 Option.bind (rcv shm t21.1 12 this (f_X12_tanks N t21.1 this)) fun q23 =>
 (if wr t21.2.2 < wr q23.2 then Jn (fun t24 : Unit => Option.bind (rcv shm t21.1 12 this (f_X12_tryMove N t21.1 this p0 p1 t8.2.2 t14.2.2 t21.2.2 t2.2.2)) fun q25 =>
 Jn (fun t26 : St × Int => Lt (t21.2.2 + 1) fun x27 =>
 b58_21 (t26.1, t26.2, x27)) fun J145_27 =>
 (if wr q25.2 < wr t21.2.1 then Jn (fun t29 : Int => Option.bind (pI shm q25.1 12 this 75 ((100 * t2.2.2) + t29)) fun σ30 =>
 Option.bind (rcv shm σ30 12 this (f_X12_stateNow N σ30 this)) fun q31 =>
 Option.bind (pI shm σ30 12 this 76 q31.2) fun σ32 =>
 J145_27 (σ32, q25.2)) fun J133_32 =>
 (if wr t8.2.2 = 0 then J133_32 0 else J133_32 (((9 * t8.2.2) + (3 * t14.2.2)) + t21.2.2)) else J145_27 (q25.1, t21.2.1))) fun J77_35 =>
 (if wr t21.2.2 = 0 then J77_35 () else (if 0 < wr t8.2.2 then J77_35 () else J151_19 (t21.1, t21.2.1))) else J151_19 (t21.1, t21.2.1))
def L_X12_bestMove_36 (N : Nat) (this : Nat) (p0 : Int) (p1 : Int) (t2 : St × Int × Int) (t8 : St × Int × Int) (J157_12 : (St × Int → Option (St × Int))) : (St × Int × Int) → Option (St × Int) := fixN N fun b36_14 t14 =>
 Option.bind (rcv shm t14.1 12 this (f_X12_tanks N t14.1 this)) fun q16 =>
 (if wr t14.2.2 < wr q16.2 then Jn (fun t17 : Unit => Jn (fun t18 : St × Int => Lt (t14.2.2 + 1) fun x19 =>
 b36_14 (t18.1, t18.2, x19)) fun J151_19 =>
 L_X12_bestMove_58 N this p0 p1 t2 t8 t14 J151_19 (t14.1, t14.2.1, 0)) fun J55_39 =>
 (if wr t14.2.2 = 0 then J55_39 () else (if 0 < wr t8.2.2 then J55_39 () else J157_12 (t14.1, t14.2.1))) else J157_12 (t14.1, t14.2.1))
def L_X12_bestMove_24 (N : Nat) (this : Nat) (p0 : Int) (p1 : Int) (t2 : St × Int × Int) (J163_6 : (St × Int → Option (St × Int))) : (St × Int × Int) → Option (St × Int) := fixN N fun b24_8 t8 =>
 Option.bind (gI shm t8.1 12 this 74) fun pump_10 =>
 (if wr pump_10 < wr t8.2.2 then J163_6 (t8.1, t8.2.1) else Jn (fun t11 : St × Int => Lt (t8.2.2 + 1) fun x12 =>
 b24_8 (t11.1, t11.2, x12)) fun J157_12 =>
 L_X12_bestMove_36 N this p0 p1 t2 t8 J157_12 (t8.1, t8.2.1, 0))
def L_X12_bestMove_12 (N : Nat) (this : Nat) (p0 : Int) (p1 : Int) : (St × Int × Int) → Option (St × Int) := fixN N fun b12_2 t2 =>
 Option.bind (rcv shm t2.1 12 this (f_X12_tanks N t2.1 this)) fun q4 =>
 (if wr t2.2.2 < wr q4.2 then Jn (fun t5 : St × Int => Lt (t2.2.2 + 1) fun x6 =>
 b12_2 (t5.1, t5.2, x6)) fun J163_6 =>
 L_X12_bestMove_24 N this p0 p1 t2 J163_6 (t2.1, t2.2.1, 0) else some (t2.1, t2.2.1))
def rm_X12_bestMove : Room := { frames := 2, cells := 0, slots := 0, locals := 50 }
def f_X12_bestMove (N : Nat) (σ : St) (this : Nat) (p0 : Int) (p1 : Int) : Option (St × Int) :=
 Option.bind (pI shm σ 12 this 75 (-1)) fun σ1 =>
 L_X12_bestMove_12 N this p0 p1 (σ1, 1000000, 0)
set_option maxRecDepth 100000 in
set_option maxHeartbeats 4000000 in
theorem c_X12_bestMove (l : Launch) (D : va_G) (ca : Nat → ClassId) (ra : Nat → Nat) (N : Nat) (σ : St) (this : Nat) (p0 : Int) (p1 : Int) : Ctr l (D, ca, ra, shm) false yX12_bestMove cX12_bestMove 9 (some .int) rm_X12_bestMove σ [ar this, ai p0, ai p1] (f_X12_bestMove N σ this p0 p1) := by
  refine ctr_of (by decide) (Nat.le_of_ble_eq_true rfl) (fun z C => ?_)
  show X z 0 0 σ 0 [(0, ar this), (1, ai p0), (2, ai p1)] [] _
  unfold f_X12_bestMove
  refine x_ldcw C (n := 1000000) (v := 1000000) kc_RX12_503 (by decide +kernel) (by decide +kernel) ?_
  refine x_istore_n C (i := 3) (k0 := 3) rfl (Nat.le_of_ble_eq_true rfl) (by decide +kernel) (lv2 := [(3, ai 1000000), (0, ar this), (1, ai p0), (2, ai p1)]) rfl ?_
  refine x_aload_n C 1 (i := 0) (k0 := 0) rfl rfl (by decide +kernel) ?_
  refine x_iconst C (n := (-1)) (by decide +kernel) ?_
  refine x_pI C fl_RX12_526 rfl (fun q h => by cases h; rfl) (by decide +kernel) (fun σ1 => ?_)
  refine x_iconst C (n := 0) (by decide +kernel) ?_
  refine x_istore C (i := 4) (Nat.le_of_ble_eq_true rfl) (by decide +kernel) (lv2 := [(4, ai 0), (3, ai 1000000), (0, ar this), (1, ai p0), (2, ai p1)]) rfl ?_
  refine x_sub [2, 3, 4, 1, 0] (lv2 := [(0, ar this), (1, ai p0), (2, ai p1), (3, ai 1000000), (4, ai 0)]) rfl ?_
  -- LOOP L_X12_bestMove_12 hb12_2
  refine x_loop (T := St × Int × Int) (fun t => t.1) (fun t => [(0, ar this), (1, ai p0), (2, ai p1), (3, ai t.2.1), (4, ai t.2.2)]) (σ1, 1000000, 0) rfl (fun b12_2 hb12_2 t2 => ?_)
  show X z 0 0 t2.1 12 [(0, ar this), (1, ai p0), (2, ai p1), (3, ai t2.2.1), (4, ai t2.2.2)] [] _
  refine x_iload C 4 (i := 4) rfl (by decide +kernel) ?_
  refine x_aload_n C 0 (i := 0) (k0 := 0) rfl rfl (by decide +kernel) ?_
  refine x_callVp C (ci := 12) (c_X12_tanks l D ca ra N t2.1 this) (p_X12_tanks N t2.1 this) mt_X12_tanks mv_X12_tanks rfl ml_RX12_520 rfl (fun h => Bool.noConfusion h) ⟨Nat.le_of_ble_eq_true rfl, Nat.le_of_ble_eq_true rfl⟩ (Nat.le_of_ble_eq_true rfl) 0 0 ⟨rfl, rfl⟩ ⟨Nat.zero_le _, Nat.zero_le _⟩ (by decide +kernel) _ rfl (fun q4 => [ai q4.2, ai t2.2.2]) (fun _ => rfl) (fun q4 => ?_)
  refine x_ic_ge C (tgt := 169) (off := 151) (by decide) (by decide +kernel) (fun h45 => ?_) (fun h45 => ?_)
  · skip
    refine x_iload_n C 3 (i := 3) (k0 := 3) rfl rfl (by decide +kernel) ?_
    exact x_iret C ⟨Nat.zero_le _, Nat.zero_le _⟩ (by decide +kernel)
  · skip
    refine x_iconst C (n := 0) (by decide +kernel) ?_
    refine x_istore C (i := 5) (Nat.le_of_ble_eq_true rfl) (by decide +kernel) (lv2 := [(5, ai 0), (0, ar this), (1, ai p0), (2, ai p1), (3, ai t2.2.1), (4, ai t2.2.2)]) rfl ?_
    refine x_join (T := St × Int) (fun t => t.1) 163 (fun t => [(0, ar this), (1, ai p0), (2, ai p1), (3, ai t.2), (4, ai t2.2.2)]) (fun t => []) (fun t5 => ?_) (fun J163_6 hJ163_6 => ?_)
    · show X z 0 0 t5.1 163 [(0, ar this), (1, ai p0), (2, ai p1), (3, ai t5.2), (4, ai t2.2.2)] [] _
      refine x_iinc C 4 (i := 4) (n := 1) (Nat.le_of_ble_eq_true rfl) rfl (by decide +kernel) (lv2 := fun x6 => [(4, ai x6), (0, ar this), (1, ai p0), (2, ai p1), (3, ai t5.2)]) (fun _ => rfl) (fun x6 => ?_)
      refine x_goto C (tgt := 12) (off := (-154)) (by decide) (by decide +kernel) ?_
      refine x_sub [1, 2, 3, 4, 0] (lv2 := [(0, ar this), (1, ai p0), (2, ai p1), (3, ai t5.2), (4, ai x6)]) rfl ?_
      exact hb12_2 (t5.1, t5.2, x6)
    · skip
      refine x_sub [1, 2, 3, 4, 5, 0] (lv2 := [(0, ar this), (1, ai p0), (2, ai p1), (3, ai t2.2.1), (4, ai t2.2.2), (5, ai 0)]) rfl ?_
      -- LOOP L_X12_bestMove_24 hb24_8
      refine x_loop (T := St × Int × Int) (fun t => t.1) (fun t => [(0, ar this), (1, ai p0), (2, ai p1), (3, ai t.2.1), (4, ai t2.2.2), (5, ai t.2.2)]) (t2.1, t2.2.1, 0) rfl (fun b24_8 hb24_8 t8 => ?_)
      show X z 0 0 t8.1 24 [(0, ar this), (1, ai p0), (2, ai p1), (3, ai t8.2.1), (4, ai t2.2.2), (5, ai t8.2.2)] [] _
      refine x_iload C 5 (i := 5) rfl (by decide +kernel) ?_
      refine x_aload_n C 0 (i := 0) (k0 := 0) rfl rfl (by decide +kernel) ?_
      refine x_gI C fl_RX12_141 (fun _ _ _ => rfl) (by decide +kernel) (fun pump_10 => ?_)
      refine x_ic_gt C (tgt := 163) (off := 133) (by decide) (by decide +kernel) (fun h44 => ?_) (fun h44 => ?_)
      · skip
        refine x_sub [0, 1, 2, 3, 4] (lv2 := [(0, ar this), (1, ai p0), (2, ai p1), (3, ai t8.2.1), (4, ai t2.2.2)]) rfl ?_
        exact hJ163_6 (t8.1, t8.2.1)
      · skip
        refine x_iconst C (n := 0) (by decide +kernel) ?_
        refine x_istore C (i := 6) (Nat.le_of_ble_eq_true rfl) (by decide +kernel) (lv2 := [(6, ai 0), (0, ar this), (1, ai p0), (2, ai p1), (3, ai t8.2.1), (4, ai t2.2.2), (5, ai t8.2.2)]) rfl ?_
        refine x_join (T := St × Int) (fun t => t.1) 157 (fun t => [(0, ar this), (1, ai p0), (2, ai p1), (3, ai t.2), (4, ai t2.2.2), (5, ai t8.2.2)]) (fun t => []) (fun t11 => ?_) (fun J157_12 hJ157_12 => ?_)
        · show X z 0 0 t11.1 157 [(0, ar this), (1, ai p0), (2, ai p1), (3, ai t11.2), (4, ai t2.2.2), (5, ai t8.2.2)] [] _
          refine x_iinc C 5 (i := 5) (n := 1) (Nat.le_of_ble_eq_true rfl) rfl (by decide +kernel) (lv2 := fun x12 => [(5, ai x12), (0, ar this), (1, ai p0), (2, ai p1), (3, ai t11.2), (4, ai t2.2.2)]) (fun _ => rfl) (fun x12 => ?_)
          refine x_goto C (tgt := 24) (off := (-136)) (by decide) (by decide +kernel) ?_
          refine x_sub [1, 2, 3, 4, 5, 0] (lv2 := [(0, ar this), (1, ai p0), (2, ai p1), (3, ai t11.2), (4, ai t2.2.2), (5, ai x12)]) rfl ?_
          exact hb24_8 (t11.1, t11.2, x12)
        · skip
          refine x_sub [1, 2, 3, 4, 5, 6, 0] (lv2 := [(0, ar this), (1, ai p0), (2, ai p1), (3, ai t8.2.1), (4, ai t2.2.2), (5, ai t8.2.2), (6, ai 0)]) rfl ?_
          -- LOOP L_X12_bestMove_36 hb36_14
          refine x_loop (T := St × Int × Int) (fun t => t.1) (fun t => [(0, ar this), (1, ai p0), (2, ai p1), (3, ai t.2.1), (4, ai t2.2.2), (5, ai t8.2.2), (6, ai t.2.2)]) (t8.1, t8.2.1, 0) rfl (fun b36_14 hb36_14 t14 => ?_)
          show X z 0 0 t14.1 36 [(0, ar this), (1, ai p0), (2, ai p1), (3, ai t14.2.1), (4, ai t2.2.2), (5, ai t8.2.2), (6, ai t14.2.2)] [] _
          refine x_iload C 6 (i := 6) rfl (by decide +kernel) ?_
          refine x_aload_n C 0 (i := 0) (k0 := 0) rfl rfl (by decide +kernel) ?_
          refine x_callVp C (ci := 12) (c_X12_tanks l D ca ra N t14.1 this) (p_X12_tanks N t14.1 this) mt_X12_tanks mv_X12_tanks rfl ml_RX12_520 rfl (fun h => Bool.noConfusion h) ⟨Nat.le_of_ble_eq_true rfl, Nat.le_of_ble_eq_true rfl⟩ (Nat.le_of_ble_eq_true rfl) 0 0 ⟨rfl, rfl⟩ ⟨Nat.zero_le _, Nat.zero_le _⟩ (by decide +kernel) _ rfl (fun q16 => [ai q16.2, ai t14.2.2]) (fun _ => rfl) (fun q16 => ?_)
          refine x_ic_ge C (tgt := 157) (off := 115) (by decide) (by decide +kernel) (fun h43 => ?_) (fun h43 => ?_)
          · skip
            refine x_sub [0, 1, 2, 3, 4, 5] (lv2 := [(0, ar this), (1, ai p0), (2, ai p1), (3, ai t14.2.1), (4, ai t2.2.2), (5, ai t8.2.2)]) rfl ?_
            exact hJ157_12 (t14.1, t14.2.1)
          · skip
            refine x_iload C 6 (i := 6) rfl (by decide +kernel) ?_
            refine x_join (T := Unit) (fun t => t14.1) 55 (fun t => [(0, ar this), (1, ai p0), (2, ai p1), (3, ai t14.2.1), (4, ai t2.2.2), (5, ai t8.2.2), (6, ai t14.2.2)]) (fun t => []) (fun t17 => ?_) (fun J55_39 hJ55_39 => ?_)
            · show X z 0 0 t14.1 55 [(0, ar this), (1, ai p0), (2, ai p1), (3, ai t14.2.1), (4, ai t2.2.2), (5, ai t8.2.2), (6, ai t14.2.2)] [] _
              refine x_iconst C (n := 0) (by decide +kernel) ?_
              refine x_istore C (i := 7) (Nat.le_of_ble_eq_true rfl) (by decide +kernel) (lv2 := [(7, ai 0), (0, ar this), (1, ai p0), (2, ai p1), (3, ai t14.2.1), (4, ai t2.2.2), (5, ai t8.2.2), (6, ai t14.2.2)]) rfl ?_
              refine x_join (T := St × Int) (fun t => t.1) 151 (fun t => [(0, ar this), (1, ai p0), (2, ai p1), (3, ai t.2), (4, ai t2.2.2), (5, ai t8.2.2), (6, ai t14.2.2)]) (fun t => []) (fun t18 => ?_) (fun J151_19 hJ151_19 => ?_)
              · show X z 0 0 t18.1 151 [(0, ar this), (1, ai p0), (2, ai p1), (3, ai t18.2), (4, ai t2.2.2), (5, ai t8.2.2), (6, ai t14.2.2)] [] _
                refine x_iinc C 6 (i := 6) (n := 1) (Nat.le_of_ble_eq_true rfl) rfl (by decide +kernel) (lv2 := fun x19 => [(6, ai x19), (0, ar this), (1, ai p0), (2, ai p1), (3, ai t18.2), (4, ai t2.2.2), (5, ai t8.2.2)]) (fun _ => rfl) (fun x19 => ?_)
                refine x_goto C (tgt := 36) (off := (-118)) (by decide) (by decide +kernel) ?_
                refine x_sub [1, 2, 3, 4, 5, 6, 0] (lv2 := [(0, ar this), (1, ai p0), (2, ai p1), (3, ai t18.2), (4, ai t2.2.2), (5, ai t8.2.2), (6, ai x19)]) rfl ?_
                exact hb36_14 (t18.1, t18.2, x19)
              · skip
                refine x_sub [1, 2, 3, 4, 5, 6, 7, 0] (lv2 := [(0, ar this), (1, ai p0), (2, ai p1), (3, ai t14.2.1), (4, ai t2.2.2), (5, ai t8.2.2), (6, ai t14.2.2), (7, ai 0)]) rfl ?_
                -- LOOP L_X12_bestMove_58 hb58_21
                refine x_loop (T := St × Int × Int) (fun t => t.1) (fun t => [(0, ar this), (1, ai p0), (2, ai p1), (3, ai t.2.1), (4, ai t2.2.2), (5, ai t8.2.2), (6, ai t14.2.2), (7, ai t.2.2)]) (t14.1, t14.2.1, 0) rfl (fun b58_21 hb58_21 t21 => ?_)
                show X z 0 0 t21.1 58 [(0, ar this), (1, ai p0), (2, ai p1), (3, ai t21.2.1), (4, ai t2.2.2), (5, ai t8.2.2), (6, ai t14.2.2), (7, ai t21.2.2)] [] _
                refine x_iload C 7 (i := 7) rfl (by decide +kernel) ?_
                refine x_aload_n C 0 (i := 0) (k0 := 0) rfl rfl (by decide +kernel) ?_
                refine x_callVp C (ci := 12) (c_X12_tanks l D ca ra N t21.1 this) (p_X12_tanks N t21.1 this) mt_X12_tanks mv_X12_tanks rfl ml_RX12_520 rfl (fun h => Bool.noConfusion h) ⟨Nat.le_of_ble_eq_true rfl, Nat.le_of_ble_eq_true rfl⟩ (Nat.le_of_ble_eq_true rfl) 0 0 ⟨rfl, rfl⟩ ⟨Nat.zero_le _, Nat.zero_le _⟩ (by decide +kernel) _ rfl (fun q23 => [ai q23.2, ai t21.2.2]) (fun _ => rfl) (fun q23 => ?_)
                refine x_ic_ge C (tgt := 151) (off := 87) (by decide) (by decide +kernel) (fun h39 => ?_) (fun h39 => ?_)
                · skip
                  refine x_sub [0, 1, 2, 3, 4, 5, 6] (lv2 := [(0, ar this), (1, ai p0), (2, ai p1), (3, ai t21.2.1), (4, ai t2.2.2), (5, ai t8.2.2), (6, ai t14.2.2)]) rfl ?_
                  exact hJ151_19 (t21.1, t21.2.1)
                · skip
                  refine x_iload C 7 (i := 7) rfl (by decide +kernel) ?_
                  refine x_join (T := Unit) (fun t => t21.1) 77 (fun t => [(0, ar this), (1, ai p0), (2, ai p1), (3, ai t21.2.1), (4, ai t2.2.2), (5, ai t8.2.2), (6, ai t14.2.2), (7, ai t21.2.2)]) (fun t => []) (fun t24 => ?_) (fun J77_35 hJ77_35 => ?_)
                  · show X z 0 0 t21.1 77 [(0, ar this), (1, ai p0), (2, ai p1), (3, ai t21.2.1), (4, ai t2.2.2), (5, ai t8.2.2), (6, ai t14.2.2), (7, ai t21.2.2)] [] _
                    refine x_aload_n C 0 (i := 0) (k0 := 0) rfl rfl (by decide +kernel) ?_
                    refine x_iload_n C 1 (i := 1) (k0 := 1) rfl rfl (by decide +kernel) ?_
                    refine x_iload_n C 2 (i := 2) (k0 := 2) rfl rfl (by decide +kernel) ?_
                    refine x_iload C 5 (i := 5) rfl (by decide +kernel) ?_
                    refine x_iload C 6 (i := 6) rfl (by decide +kernel) ?_
                    refine x_iload C 7 (i := 7) rfl (by decide +kernel) ?_
                    refine x_iload C 4 (i := 4) rfl (by decide +kernel) ?_
                    refine x_callV C (ci := 12) (c_X12_tryMove l D ca ra N t21.1 this p0 p1 t8.2.2 t14.2.2 t21.2.2 t2.2.2) mt_X12_tryMove mv_X12_tryMove rfl ml_RX12_529 rfl (fun h => Bool.noConfusion h) ⟨Nat.le_of_ble_eq_true rfl, Nat.le_of_ble_eq_true rfl⟩ (Nat.le_of_ble_eq_true rfl) 0 0 ⟨rfl, rfl⟩ ⟨Nat.zero_le _, Nat.zero_le _⟩ (by decide +kernel) _ rfl (fun q25 => [ai q25.2]) (fun _ => rfl) (fun q25 => ?_)
                    show X z 0 0 q25.1 91 [(0, ar this), (1, ai p0), (2, ai p1), (3, ai t21.2.1), (4, ai t2.2.2), (5, ai t8.2.2), (6, ai t14.2.2), (7, ai t21.2.2)] [ai q25.2] _
                    refine x_istore C (i := 8) (Nat.le_of_ble_eq_true rfl) (by decide +kernel) (lv2 := [(8, ai q25.2), (0, ar this), (1, ai p0), (2, ai p1), (3, ai t21.2.1), (4, ai t2.2.2), (5, ai t8.2.2), (6, ai t14.2.2), (7, ai t21.2.2)]) rfl ?_
                    refine x_iload C 0 (i := 8) rfl (by decide +kernel) ?_
                    refine x_iload_n C 4 (i := 3) (k0 := 3) rfl rfl (by decide +kernel) ?_
                    refine x_join (T := St × Int) (fun t => t.1) 145 (fun t => [(0, ar this), (1, ai p0), (2, ai p1), (3, ai t.2), (4, ai t2.2.2), (5, ai t8.2.2), (6, ai t14.2.2), (7, ai t21.2.2)]) (fun t => []) (fun t26 => ?_) (fun J145_27 hJ145_27 => ?_)
                    · show X z 0 0 t26.1 145 [(0, ar this), (1, ai p0), (2, ai p1), (3, ai t26.2), (4, ai t2.2.2), (5, ai t8.2.2), (6, ai t14.2.2), (7, ai t21.2.2)] [] _
                      refine x_iinc C 7 (i := 7) (n := 1) (Nat.le_of_ble_eq_true rfl) rfl (by decide +kernel) (lv2 := fun x27 => [(7, ai x27), (0, ar this), (1, ai p0), (2, ai p1), (3, ai t26.2), (4, ai t2.2.2), (5, ai t8.2.2), (6, ai t14.2.2)]) (fun _ => rfl) (fun x27 => ?_)
                      refine x_goto C (tgt := 58) (off := (-90)) (by decide) (by decide +kernel) ?_
                      refine x_sub [1, 2, 3, 4, 5, 6, 7, 0] (lv2 := [(0, ar this), (1, ai p0), (2, ai p1), (3, ai t26.2), (4, ai t2.2.2), (5, ai t8.2.2), (6, ai t14.2.2), (7, ai x27)]) rfl ?_
                      exact hb58_21 (t26.1, t26.2, x27)
                    · skip
                      refine x_ic_lt C (tgt := 102) (off := 6) (by decide) (by decide +kernel) (fun h35 => ?_) (fun h35 => ?_)
                      · skip
                        refine x_iload C 0 (i := 8) rfl (by decide +kernel) ?_
                        refine x_istore_n C (i := 3) (k0 := 3) rfl (Nat.le_of_ble_eq_true rfl) (by decide +kernel) (lv2 := [(3, ai q25.2), (8, ai q25.2), (0, ar this), (1, ai p0), (2, ai p1), (4, ai t2.2.2), (5, ai t8.2.2), (6, ai t14.2.2), (7, ai t21.2.2)]) rfl ?_
                        refine x_aload_n C 2 (i := 0) (k0 := 0) rfl rfl (by decide +kernel) ?_
                        refine x_bipush C (n := 100) (by decide +kernel) (by decide +kernel) ?_
                        refine x_iload C 5 (i := 4) rfl (by decide +kernel) ?_
                        refine x_imul C (by decide +kernel) ?_
                        refine x_iload C 6 (i := 5) rfl (by decide +kernel) ?_
                        refine x_join (T := Int) (fun t => q25.1) 133 (fun t => [(0, ar this), (1, ai p0), (2, ai p1), (3, ai q25.2), (4, ai t2.2.2), (5, ai t8.2.2), (6, ai t14.2.2), (7, ai t21.2.2)]) (fun t => [ai t, ai (100 * t2.2.2), ar this]) (fun t29 => ?_) (fun J133_32 hJ133_32 => ?_)
                        · show X z 0 0 q25.1 133 [(0, ar this), (1, ai p0), (2, ai p1), (3, ai q25.2), (4, ai t2.2.2), (5, ai t8.2.2), (6, ai t14.2.2), (7, ai t21.2.2)] [ai t29, ai (100 * t2.2.2), ar this] _
                          refine x_iadd C (by decide +kernel) ?_
                          refine x_pI C fl_RX12_526 rfl (fun q h => by cases h; rfl) (by decide +kernel) (fun σ30 => ?_)
                          refine x_aload_n C 0 (i := 0) (k0 := 0) rfl rfl (by decide +kernel) ?_
                          refine x_aload_n C 0 (i := 0) (k0 := 0) rfl rfl (by decide +kernel) ?_
                          refine x_callVp C (ci := 12) (c_X12_stateNow l D ca ra N σ30 this) (p_X12_stateNow N σ30 this) mt_X12_stateNow mv_X12_stateNow rfl ml_RX12_523 rfl (fun h => Bool.noConfusion h) ⟨Nat.le_of_ble_eq_true rfl, Nat.le_of_ble_eq_true rfl⟩ (Nat.le_of_ble_eq_true rfl) 0 0 ⟨rfl, rfl⟩ ⟨Nat.zero_le _, Nat.zero_le _⟩ (by decide +kernel) _ rfl (fun q31 => [ai q31.2, ar this]) (fun _ => rfl) (fun q31 => ?_)
                          refine x_pI C fl_RX12_533 rfl (fun q h => by cases h; rfl) (by decide +kernel) (fun σ32 => ?_)
                          exact hJ145_27 (σ32, q25.2)
                        · skip
                          refine x_if_ne C (tgt := 120) (off := 7) (by decide) (by decide +kernel) (fun h34 => ?_) (fun h34 => ?_)
                          · skip
                            refine x_bipush C (n := 9) (by decide +kernel) (by decide +kernel) ?_
                            refine x_iload C 6 (i := 5) rfl (by decide +kernel) ?_
                            refine x_imul C (by decide +kernel) ?_
                            refine x_iconst C (n := 3) (by decide +kernel) ?_
                            refine x_iload C 7 (i := 6) rfl (by decide +kernel) ?_
                            refine x_imul C (by decide +kernel) ?_
                            refine x_iadd C (by decide +kernel) ?_
                            refine x_iload C 8 (i := 7) rfl (by decide +kernel) ?_
                            show X z 0 0 q25.1 132 [(3, ai q25.2), (8, ai q25.2), (0, ar this), (1, ai p0), (2, ai p1), (4, ai t2.2.2), (5, ai t8.2.2), (6, ai t14.2.2), (7, ai t21.2.2)] [ai t21.2.2, ai ((9 * t8.2.2) + (3 * t14.2.2)), ai (100 * t2.2.2), ar this] _
                            refine x_iadd C (by decide +kernel) ?_
                            refine x_sub [2, 3, 4, 0, 5, 6, 7, 8] (lv2 := [(0, ar this), (1, ai p0), (2, ai p1), (3, ai q25.2), (4, ai t2.2.2), (5, ai t8.2.2), (6, ai t14.2.2), (7, ai t21.2.2)]) rfl ?_
                            exact hJ133_32 (((9 * t8.2.2) + (3 * t14.2.2)) + t21.2.2)
                          · skip
                            refine x_iconst C (n := 0) (by decide +kernel) ?_
                            refine x_goto C (tgt := 133) (off := 16) (by decide) (by decide +kernel) ?_
                            refine x_sub [2, 3, 4, 0, 5, 6, 7, 8] (lv2 := [(0, ar this), (1, ai p0), (2, ai p1), (3, ai q25.2), (4, ai t2.2.2), (5, ai t8.2.2), (6, ai t14.2.2), (7, ai t21.2.2)]) rfl ?_
                            exact hJ133_32 0
                      · skip
                        refine x_goto C (tgt := 145) (off := 46) (by decide) (by decide +kernel) ?_
                        refine x_sub [1, 2, 3, 4, 5, 6, 7, 8] (lv2 := [(0, ar this), (1, ai p0), (2, ai p1), (3, ai t21.2.1), (4, ai t2.2.2), (5, ai t8.2.2), (6, ai t14.2.2), (7, ai t21.2.2)]) rfl ?_
                        exact hJ145_27 (q25.1, t21.2.1)
                  · skip
                    refine x_if_eq C (tgt := 77) (off := 8) (by decide) (by decide +kernel) (fun h38 => ?_) (fun h38 => ?_)
                    · skip
                      exact hJ77_35 ()
                    · skip
                      refine x_iload C 5 (i := 5) rfl (by decide +kernel) ?_
                      refine x_if_le C (tgt := 151) (off := 77) (by decide) (by decide +kernel) (fun h37 => ?_) (fun h37 => ?_)
                      · skip
                        refine x_sub [0, 1, 2, 3, 4, 5, 6] (lv2 := [(0, ar this), (1, ai p0), (2, ai p1), (3, ai t21.2.1), (4, ai t2.2.2), (5, ai t8.2.2), (6, ai t14.2.2)]) rfl ?_
                        exact hJ151_19 (t21.1, t21.2.1)
                      · skip
                        exact hJ77_35 ()
            · skip
              refine x_if_eq C (tgt := 55) (off := 8) (by decide) (by decide +kernel) (fun h42 => ?_) (fun h42 => ?_)
              · skip
                exact hJ55_39 ()
              · skip
                refine x_iload C 5 (i := 5) rfl (by decide +kernel) ?_
                refine x_if_le C (tgt := 157) (off := 105) (by decide) (by decide +kernel) (fun h41 => ?_) (fun h41 => ?_)
                · skip
                  refine x_sub [0, 1, 2, 3, 4, 5] (lv2 := [(0, ar this), (1, ai p0), (2, ai p1), (3, ai t14.2.1), (4, ai t2.2.2), (5, ai t8.2.2)]) rfl ?_
                  exact hJ157_12 (t14.1, t14.2.1)
                · skip
                  exact hJ55_39 ()

def L_X12_fillPlan_61 (N : Nat) (this : Nat) (q11 : (St × Int)) (J129_19 : (Int → Option (St × Int))) : (Int × Int) → Option (St × Int) := fixN N fun b61_21 t21 =>
 (if wr t21.2 < wr 3 then Jn (fun t23 : Int => Lt (t21.2 + 1) fun x24 =>
 b61_21 (t23, x24)) fun J122_24 =>
 Jn (fun t26 : Unit => J122_24 0) fun J121_26 =>
 (if wr t21.1 = 0 then J121_26 () else Option.bind (rcv shm q11.1 12 this (f_X12_tanks N q11.1 this)) fun q28 =>
 Jn (fun t29 : Unit => J122_24 1) fun J117_29 =>
 (if wr t21.2 < wr q28.2 then Option.bind (gR shm q11.1 12 this 72) fun fuel_34 =>
 Option.bind (aI shm q11.1 1 fuel_34 t21.2) fun a35 =>
 Option.bind (gR shm q11.1 12 this 27) fun tHolds_36 =>
 Option.bind (gI shm q11.1 12 this 31) fun bank_37 =>
 Option.bind (aI shm q11.1 1 tHolds_36 ((3 * bank_37) + t21.2)) fun a38 =>
 (if wr a38 < wr a35 then J121_26 () else J117_29 ()) else Option.bind (gR shm q11.1 12 this 72) fun fuel_31 =>
 Option.bind (aI shm q11.1 1 fuel_31 t21.2) fun a32 =>
 (if wr a32 = 0 then J117_29 () else J121_26 ()))) else J129_19 t21.1)
def L_X12_fillPlan_44 (N : Nat) (this : Nat) (t4 : St × Int) (J163_7 : (St → Option (St × Int))) : (St × Int) → Option (St × Int) := fixN N fun b44_9 t9 =>
 (if wr t9.2 < wr 4096 then Option.bind (rcv shm t9.1 12 this (f_X12_fillUp N t9.1 this t9.2)) fun q11 =>
 Jn (fun t12 : Int => Option.bind (gR shm q11.1 12 this 71) fun least_13 =>
 Jn (fun t14 : St × Int => Option.bind (sI shm t14.1 1 least_13 ((4096 * t4.2) + t9.2) t14.2) fun σ15 =>
 Lt (t9.2 + 1) fun x16 =>
 b44_9 (σ15, x16)) fun J156_16 =>
 (if wr t12 = 0 then J156_16 (q11.1, 1000000) else Option.bind (rcv shm q11.1 12 this (f_X12_bestMove N q11.1 this t4.2 t9.2)) fun q18 =>
 J156_16 (q18.1, q18.2))) fun J129_19 =>
 L_X12_fillPlan_61 N this q11 J129_19 (1, 0) else J163_7 t9.1)
def L_X12_fillPlan_38 (N : Nat) (this : Nat) : (St × Int) → Option (St × Int) := fixN N fun b38_4 t4 =>
 (if wr t4.2 < 0 then some (t4.1, 0) else Jn (fun t6 : St => Lt (t4.2 + (-1)) fun x7 =>
 b38_4 (t6, x7)) fun J163_7 =>
 L_X12_fillPlan_44 N this t4 J163_7 (t4.1, 0))
def L_X12_fillPlan_2 (N : Nat) (this : Nat) (J31_44 : (St → Option (St × Int))) : (St × Int) → Option (St × Int) := fixN N fun b2_46 t46 =>
 (if wr t46.2 < wr 4096 then Option.bind (gR shm t46.1 12 this 71) fun least_48 =>
 Option.bind (gI shm t46.1 12 this 73) fun steps_49 =>
 Option.bind (sI shm t46.1 1 least_48 ((4096 * steps_49) + t46.2) 0) fun σ50 =>
 Lt (t46.2 + 1) fun x51 =>
 b2_46 (σ50, x51) else J31_44 t46.1)
def rm_X12_fillPlan : Room := { frames := 3, cells := 0, slots := 0, locals := 78 }
def f_X12_fillPlan (N : Nat) (σ : St) (this : Nat) : Option (St × Int) :=
 Jn (fun t1 : St => Option.bind (gI shm t1 12 this 73) fun steps_2 =>
 Lt (steps_2 - 1) fun x3 =>
 L_X12_fillPlan_38 N this (t1, x3)) fun J31_44 =>
 L_X12_fillPlan_2 N this J31_44 (σ, 0)
set_option maxRecDepth 100000 in
set_option maxHeartbeats 4000000 in
theorem c_X12_fillPlan (l : Launch) (D : va_G) (ca : Nat → ClassId) (ra : Nat → Nat) (N : Nat) (σ : St) (this : Nat) : Ctr l (D, ca, ra, shm) false yX12_fillPlan cX12_fillPlan 5 none rm_X12_fillPlan σ [ar this] (f_X12_fillPlan N σ this) := by
  refine ctr_of (by decide) (Nat.le_of_ble_eq_true rfl) (fun z C => ?_)
  show X z 0 0 σ 0 [(0, ar this)] [] _
  unfold f_X12_fillPlan
  refine x_iconst C (n := 0) (by decide +kernel) ?_
  refine x_istore_n C (i := 1) (k0 := 1) rfl (Nat.le_of_ble_eq_true rfl) (by decide +kernel) (lv2 := [(1, ai 0), (0, ar this)]) rfl ?_
  refine x_join (T := St) (fun t => t) 31 (fun t => [(0, ar this)]) (fun t => []) (fun t1 => ?_) (fun J31_44 hJ31_44 => ?_)
  · show X z 0 0 t1 31 [(0, ar this)] [] _
    refine x_aload_n C 0 (i := 0) (k0 := 0) rfl rfl (by decide +kernel) ?_
    refine x_gI C fl_RX12_312 (fun _ _ _ => rfl) (by decide +kernel) (fun steps_2 => ?_)
    refine x_iconst C (n := 1) (by decide +kernel) ?_
    refine x_isub C (by decide +kernel) ?_
    refine x_istore_nL C (i := 1) (k0 := 1) rfl (Nat.le_of_ble_eq_true rfl) (by decide +kernel) (lv2 := fun x3 => [(1, ai x3), (0, ar this)]) (fun _ => rfl) (fun x3 => ?_)
    refine x_sub [1, 0] (lv2 := [(0, ar this), (1, ai x3)]) rfl ?_
    -- LOOP L_X12_fillPlan_38 hb38_4
    refine x_loop (T := St × Int) (fun t => t.1) (fun t => [(0, ar this), (1, ai t.2)]) (t1, x3) rfl (fun b38_4 hb38_4 t4 => ?_)
    show X z 0 0 t4.1 38 [(0, ar this), (1, ai t4.2)] [] _
    refine x_iload_n C 1 (i := 1) (k0 := 1) rfl rfl (by decide +kernel) ?_
    refine x_if_lt C (tgt := 169) (off := 130) (by decide) (by decide +kernel) (fun h44 => ?_) (fun h44 => ?_)
    · skip
      exact x_vret C ⟨Nat.zero_le _, Nat.zero_le _⟩ (by decide +kernel)
    · skip
      refine x_iconst C (n := 0) (by decide +kernel) ?_
      refine x_istore_n C (i := 2) (k0 := 2) rfl (Nat.le_of_ble_eq_true rfl) (by decide +kernel) (lv2 := [(2, ai 0), (0, ar this), (1, ai t4.2)]) rfl ?_
      refine x_join (T := St) (fun t => t) 163 (fun t => [(0, ar this), (1, ai t4.2)]) (fun t => []) (fun t6 => ?_) (fun J163_7 hJ163_7 => ?_)
      · show X z 0 0 t6 163 [(0, ar this), (1, ai t4.2)] [] _
        refine x_iinc C 1 (i := 1) (n := (-1)) (Nat.le_of_ble_eq_true rfl) rfl (by decide +kernel) (lv2 := fun x7 => [(1, ai x7), (0, ar this)]) (fun _ => rfl) (fun x7 => ?_)
        refine x_goto C (tgt := 38) (off := (-128)) (by decide) (by decide +kernel) ?_
        refine x_sub [1, 0] (lv2 := [(0, ar this), (1, ai x7)]) rfl ?_
        exact hb38_4 (t6, x7)
      · skip
        refine x_sub [1, 2, 0] (lv2 := [(0, ar this), (1, ai t4.2), (2, ai 0)]) rfl ?_
        -- LOOP L_X12_fillPlan_44 hb44_9
        refine x_loop (T := St × Int) (fun t => t.1) (fun t => [(0, ar this), (1, ai t4.2), (2, ai t.2)]) (t4.1, 0) rfl (fun b44_9 hb44_9 t9 => ?_)
        show X z 0 0 t9.1 44 [(0, ar this), (1, ai t4.2), (2, ai t9.2)] [] _
        refine x_iload_n C 2 (i := 2) (k0 := 2) rfl rfl (by decide +kernel) ?_
        refine x_sipush C (n := 4096) (by decide +kernel) (by decide +kernel) ?_
        refine x_ic_ge C (tgt := 163) (off := 115) (by decide) (by decide +kernel) (fun h43 => ?_) (fun h43 => ?_)
        · skip
          refine x_sub [0, 1] (lv2 := [(0, ar this), (1, ai t4.2)]) rfl ?_
          exact hJ163_7 t9.1
        · skip
          refine x_aload_n C 0 (i := 0) (k0 := 0) rfl rfl (by decide +kernel) ?_
          refine x_iload_n C 2 (i := 2) (k0 := 2) rfl rfl (by decide +kernel) ?_
          refine x_callV C (ci := 12) (c_X12_fillUp l D ca ra N t9.1 this t9.2) mt_X12_fillUp mv_X12_fillUp rfl ml_RX12_517 rfl (fun h => Bool.noConfusion h) ⟨Nat.le_of_ble_eq_true rfl, Nat.le_of_ble_eq_true rfl⟩ (Nat.le_of_ble_eq_true rfl) 0 0 ⟨rfl, rfl⟩ ⟨Nat.zero_le _, Nat.zero_le _⟩ (by decide +kernel) _ rfl (fun q11 => []) (fun _ => rfl) (fun q11 => ?_)
          refine x_iconst C (n := 1) (by decide +kernel) ?_
          refine x_istore_n C (i := 3) (k0 := 3) rfl (Nat.le_of_ble_eq_true rfl) (by decide +kernel) (lv2 := [(3, ai 1), (0, ar this), (1, ai t4.2), (2, ai t9.2)]) rfl ?_
          refine x_iconst C (n := 0) (by decide +kernel) ?_
          refine x_istore C (i := 4) (Nat.le_of_ble_eq_true rfl) (by decide +kernel) (lv2 := [(4, ai 0), (3, ai 1), (0, ar this), (1, ai t4.2), (2, ai t9.2)]) rfl ?_
          refine x_join (T := Int) (fun t => q11.1) 129 (fun t => [(0, ar this), (1, ai t4.2), (2, ai t9.2), (3, ai t)]) (fun t => []) (fun t12 => ?_) (fun J129_19 hJ129_19 => ?_)
          · show X z 0 0 q11.1 129 [(0, ar this), (1, ai t4.2), (2, ai t9.2), (3, ai t12)] [] _
            refine x_aload_n C 0 (i := 0) (k0 := 0) rfl rfl (by decide +kernel) ?_
            refine x_gR C fl_RX12_135 (fun _ _ _ => rfl) (by decide +kernel) (fun least_13 => ?_)
            refine x_sipush C (n := 4096) (by decide +kernel) (by decide +kernel) ?_
            refine x_iload_n C 1 (i := 1) (k0 := 1) rfl rfl (by decide +kernel) ?_
            refine x_imul C (by decide +kernel) ?_
            refine x_iload_n C 2 (i := 2) (k0 := 2) rfl rfl (by decide +kernel) ?_
            refine x_iadd C (by decide +kernel) ?_
            refine x_iload_n C 3 (i := 3) (k0 := 3) rfl rfl (by decide +kernel) ?_
            show X z 0 0 q11.1 141 [(0, ar this), (1, ai t4.2), (2, ai t9.2), (3, ai t12)] [ai t12, ai ((4096 * t4.2) + t9.2), ar least_13] _
            refine x_join (T := St × Int) (fun t => t.1) 156 (fun t => [(0, ar this), (1, ai t4.2), (2, ai t9.2)]) (fun t => [ai t.2, ai ((4096 * t4.2) + t9.2), ar least_13]) (fun t14 => ?_) (fun J156_16 hJ156_16 => ?_)
            · show X z 0 0 t14.1 156 [(0, ar this), (1, ai t4.2), (2, ai t9.2)] [ai t14.2, ai ((4096 * t4.2) + t9.2), ar least_13] _
              refine x_astI C (by decide +kernel) (fun σ15 => ?_)
              refine x_iinc C 2 (i := 2) (n := 1) (Nat.le_of_ble_eq_true rfl) rfl (by decide +kernel) (lv2 := fun x16 => [(2, ai x16), (0, ar this), (1, ai t4.2)]) (fun _ => rfl) (fun x16 => ?_)
              refine x_goto C (tgt := 44) (off := (-116)) (by decide) (by decide +kernel) ?_
              refine x_sub [1, 2, 0] (lv2 := [(0, ar this), (1, ai t4.2), (2, ai x16)]) rfl ?_
              exact hb44_9 (σ15, x16)
            · skip
              refine x_if_eq C (tgt := 153) (off := 12) (by decide) (by decide +kernel) (fun h19 => ?_) (fun h19 => ?_)
              · skip
                refine x_ldcw C (n := 1000000) (v := 1000000) kc_RX12_503 (by decide +kernel) (by decide +kernel) ?_
                refine x_sub [0, 1, 2] (lv2 := [(0, ar this), (1, ai t4.2), (2, ai t9.2)]) rfl ?_
                exact hJ156_16 (q11.1, 1000000)
              · skip
                refine x_aload_n C 0 (i := 0) (k0 := 0) rfl rfl (by decide +kernel) ?_
                refine x_iload_n C 1 (i := 1) (k0 := 1) rfl rfl (by decide +kernel) ?_
                refine x_iload_n C 2 (i := 2) (k0 := 2) rfl rfl (by decide +kernel) ?_
                refine x_callV C (ci := 12) (c_X12_bestMove l D ca ra N q11.1 this t4.2 t9.2) mt_X12_bestMove mv_X12_bestMove rfl ml_RX12_536 rfl (fun h => Bool.noConfusion h) ⟨Nat.le_of_ble_eq_true rfl, Nat.le_of_ble_eq_true rfl⟩ (Nat.le_of_ble_eq_true rfl) 0 0 ⟨rfl, rfl⟩ ⟨Nat.zero_le _, Nat.zero_le _⟩ (by decide +kernel) _ rfl (fun q18 => [ai q18.2, ai ((4096 * t4.2) + t9.2), ar least_13]) (fun _ => rfl) (fun q18 => ?_)
                refine x_goto C (tgt := 156) (off := 6) (by decide) (by decide +kernel) ?_
                refine x_sub [0, 1, 2] (lv2 := [(0, ar this), (1, ai t4.2), (2, ai t9.2)]) rfl ?_
                exact hJ156_16 (q18.1, q18.2)
          · skip
            refine x_sub [2, 3, 4, 1, 0] (lv2 := [(0, ar this), (1, ai t4.2), (2, ai t9.2), (3, ai 1), (4, ai 0)]) rfl ?_
            -- LOOP L_X12_fillPlan_61 hb61_21
            refine x_loop (T := Int × Int) (fun t => q11.1) (fun t => [(0, ar this), (1, ai t4.2), (2, ai t9.2), (3, ai t.1), (4, ai t.2)]) (1, 0) rfl (fun b61_21 hb61_21 t21 => ?_)
            show X z 0 0 q11.1 61 [(0, ar this), (1, ai t4.2), (2, ai t9.2), (3, ai t21.1), (4, ai t21.2)] [] _
            refine x_iload C 4 (i := 4) rfl (by decide +kernel) ?_
            refine x_iconst C (n := 3) (by decide +kernel) ?_
            refine x_ic_ge C (tgt := 129) (off := 65) (by decide) (by decide +kernel) (fun h42 => ?_) (fun h42 => ?_)
            · skip
              refine x_sub [0, 1, 2, 3] (lv2 := [(0, ar this), (1, ai t4.2), (2, ai t9.2), (3, ai t21.1)]) rfl ?_
              exact hJ129_19 t21.1
            · skip
              refine x_iload_n C 3 (i := 3) (k0 := 3) rfl rfl (by decide +kernel) ?_
              refine x_join (T := Int) (fun t => q11.1) 122 (fun t => [(0, ar this), (1, ai t4.2), (2, ai t9.2), (4, ai t21.2)]) (fun t => [ai t]) (fun t23 => ?_) (fun J122_24 hJ122_24 => ?_)
              · show X z 0 0 q11.1 122 [(0, ar this), (1, ai t4.2), (2, ai t9.2), (4, ai t21.2)] [ai t23] _
                refine x_istore_n C (i := 3) (k0 := 3) rfl (Nat.le_of_ble_eq_true rfl) (by decide +kernel) (lv2 := [(3, ai t23), (0, ar this), (1, ai t4.2), (2, ai t9.2), (4, ai t21.2)]) rfl ?_
                refine x_iinc C 4 (i := 4) (n := 1) (Nat.le_of_ble_eq_true rfl) rfl (by decide +kernel) (lv2 := fun x24 => [(4, ai x24), (3, ai t23), (0, ar this), (1, ai t4.2), (2, ai t9.2)]) (fun _ => rfl) (fun x24 => ?_)
                refine x_goto C (tgt := 61) (off := (-65)) (by decide) (by decide +kernel) ?_
                refine x_sub [2, 3, 4, 1, 0] (lv2 := [(0, ar this), (1, ai t4.2), (2, ai t9.2), (3, ai t23), (4, ai x24)]) rfl ?_
                exact hb61_21 (t23, x24)
              · skip
                refine x_join (T := Unit) (fun t => q11.1) 121 (fun t => [(0, ar this), (1, ai t4.2), (2, ai t9.2), (4, ai t21.2)]) (fun t => []) (fun t26 => ?_) (fun J121_26 hJ121_26 => ?_)
                · show X z 0 0 q11.1 121 [(0, ar this), (1, ai t4.2), (2, ai t9.2), (4, ai t21.2)] [] _
                  refine x_iconst C (n := 0) (by decide +kernel) ?_
                  exact hJ122_24 0
                · skip
                  refine x_if_eq C (tgt := 121) (off := 53) (by decide) (by decide +kernel) (fun h41 => ?_) (fun h41 => ?_)
                  · skip
                    refine x_sub [0, 1, 2, 4] (lv2 := [(0, ar this), (1, ai t4.2), (2, ai t9.2), (4, ai t21.2)]) rfl ?_
                    exact hJ121_26 ()
                  · skip
                    refine x_iload C 4 (i := 4) rfl (by decide +kernel) ?_
                    refine x_aload_n C 0 (i := 0) (k0 := 0) rfl rfl (by decide +kernel) ?_
                    refine x_callVp C (ci := 12) (c_X12_tanks l D ca ra N q11.1 this) (p_X12_tanks N q11.1 this) mt_X12_tanks mv_X12_tanks rfl ml_RX12_520 rfl (fun h => Bool.noConfusion h) ⟨Nat.le_of_ble_eq_true rfl, Nat.le_of_ble_eq_true rfl⟩ (Nat.le_of_ble_eq_true rfl) 0 0 ⟨rfl, rfl⟩ ⟨Nat.zero_le _, Nat.zero_le _⟩ (by decide +kernel) _ rfl (fun q28 => [ai q28.2, ai t21.2]) (fun _ => rfl) (fun q28 => ?_)
                    refine x_join (T := Unit) (fun t => q11.1) 117 (fun t => [(0, ar this), (1, ai t4.2), (2, ai t9.2), (4, ai t21.2)]) (fun t => []) (fun t29 => ?_) (fun J117_29 hJ117_29 => ?_)
                    · show X z 0 0 q11.1 117 [(0, ar this), (1, ai t4.2), (2, ai t9.2), (4, ai t21.2)] [] _
                      refine x_iconst C (n := 1) (by decide +kernel) ?_
                      refine x_goto C (tgt := 122) (off := 4) (by decide) (by decide +kernel) ?_
                      exact hJ122_24 1
                    · skip
                      refine x_ic_ge C (tgt := 107) (off := 30) (by decide) (by decide +kernel) (fun h40 => ?_) (fun h40 => ?_)
                      · skip
                        refine x_aload_n C 0 (i := 0) (k0 := 0) rfl rfl (by decide +kernel) ?_
                        refine x_gR C fl_RX12_138 (fun _ _ _ => rfl) (by decide +kernel) (fun fuel_31 => ?_)
                        refine x_iload C 4 (i := 4) rfl (by decide +kernel) ?_
                        refine x_aldI C (by decide +kernel) (fun a32 => ?_)
                        refine x_if_ne C (tgt := 121) (off := 7) (by decide) (by decide +kernel) (fun h33 => ?_) (fun h33 => ?_)
                        · skip
                          refine x_sub [0, 1, 2, 4] (lv2 := [(0, ar this), (1, ai t4.2), (2, ai t9.2), (4, ai t21.2)]) rfl ?_
                          exact hJ121_26 ()
                        · skip
                          refine x_sub [0, 1, 2, 4] (lv2 := [(0, ar this), (1, ai t4.2), (2, ai t9.2), (4, ai t21.2)]) rfl ?_
                          exact hJ117_29 ()
                      · skip
                        refine x_aload_n C 0 (i := 0) (k0 := 0) rfl rfl (by decide +kernel) ?_
                        refine x_gR C fl_RX12_138 (fun _ _ _ => rfl) (by decide +kernel) (fun fuel_34 => ?_)
                        refine x_iload C 4 (i := 4) rfl (by decide +kernel) ?_
                        refine x_aldI C (by decide +kernel) (fun a35 => ?_)
                        refine x_aload_n C 0 (i := 0) (k0 := 0) rfl rfl (by decide +kernel) ?_
                        refine x_gR C fl_RX12_69 (fun _ _ _ => rfl) (by decide +kernel) (fun tHolds_36 => ?_)
                        refine x_iconst C (n := 3) (by decide +kernel) ?_
                        refine x_aload_n C 0 (i := 0) (k0 := 0) rfl rfl (by decide +kernel) ?_
                        show X z 0 0 q11.1 93 [(0, ar this), (1, ai t4.2), (2, ai t9.2), (3, ai t21.1), (4, ai t21.2)] [ar this, ai 3, ar tHolds_36, ai a35] _
                        refine x_gI C fl_RX12_300 (fun _ _ _ => rfl) (by decide +kernel) (fun bank_37 => ?_)
                        refine x_imul C (by decide +kernel) ?_
                        refine x_iload C 4 (i := 4) rfl (by decide +kernel) ?_
                        refine x_iadd C (by decide +kernel) ?_
                        refine x_aldI C (by decide +kernel) (fun a38 => ?_)
                        refine x_ic_gt C (tgt := 121) (off := 20) (by decide) (by decide +kernel) (fun h39 => ?_) (fun h39 => ?_)
                        · skip
                          refine x_sub [0, 1, 2, 4] (lv2 := [(0, ar this), (1, ai t4.2), (2, ai t9.2), (4, ai t21.2)]) rfl ?_
                          exact hJ121_26 ()
                        · skip
                          refine x_goto C (tgt := 117) (off := 13) (by decide) (by decide +kernel) ?_
                          refine x_sub [0, 1, 2, 4] (lv2 := [(0, ar this), (1, ai t4.2), (2, ai t9.2), (4, ai t21.2)]) rfl ?_
                          exact hJ117_29 ()
  · skip
    refine x_sub [1, 0] (lv2 := [(0, ar this), (1, ai 0)]) rfl ?_
    -- LOOP L_X12_fillPlan_2 hb2_46
    refine x_loop (T := St × Int) (fun t => t.1) (fun t => [(0, ar this), (1, ai t.2)]) (σ, 0) rfl (fun b2_46 hb2_46 t46 => ?_)
    show X z 0 0 t46.1 2 [(0, ar this), (1, ai t46.2)] [] _
    refine x_iload_n C 1 (i := 1) (k0 := 1) rfl rfl (by decide +kernel) ?_
    refine x_sipush C (n := 4096) (by decide +kernel) (by decide +kernel) ?_
    refine x_ic_ge C (tgt := 31) (off := 25) (by decide) (by decide +kernel) (fun h52 => ?_) (fun h52 => ?_)
    · skip
      refine x_sub [0] (lv2 := [(0, ar this)]) rfl ?_
      exact hJ31_44 t46.1
    · skip
      refine x_aload_n C 0 (i := 0) (k0 := 0) rfl rfl (by decide +kernel) ?_
      refine x_gR C fl_RX12_135 (fun _ _ _ => rfl) (by decide +kernel) (fun least_48 => ?_)
      refine x_sipush C (n := 4096) (by decide +kernel) (by decide +kernel) ?_
      refine x_aload_n C 0 (i := 0) (k0 := 0) rfl rfl (by decide +kernel) ?_
      refine x_gI C fl_RX12_312 (fun _ _ _ => rfl) (by decide +kernel) (fun steps_49 => ?_)
      refine x_imul C (by decide +kernel) ?_
      refine x_iload_n C 1 (i := 1) (k0 := 1) rfl rfl (by decide +kernel) ?_
      refine x_iadd C (by decide +kernel) ?_
      show X z 0 0 t46.1 23 [(0, ar this), (1, ai t46.2)] [ai ((4096 * steps_49) + t46.2), ar least_48] _
      refine x_iconst C (n := 0) (by decide +kernel) ?_
      refine x_astI C (by decide +kernel) (fun σ50 => ?_)
      refine x_iinc C 1 (i := 1) (n := 1) (Nat.le_of_ble_eq_true rfl) rfl (by decide +kernel) (lv2 := fun x51 => [(1, ai x51), (0, ar this)]) (fun _ => rfl) (fun x51 => ?_)
      refine x_goto C (tgt := 2) (off := (-26)) (by decide) (by decide +kernel) ?_
      refine x_sub [1, 0] (lv2 := [(0, ar this), (1, ai x51)]) rfl ?_
      exact hb2_46 (σ50, x51)

def rm_X12_isFuel : Room := { frames := 1, cells := 0, slots := 0, locals := 22 }
def f_X12_isFuel (N : Nat) (σ : St) (this : Nat) (p0 : Int) (p1 : Int) : Option (St × Int) :=
 Option.bind (rcv shm σ 12 this (f_X12_tanks N σ this)) fun q1 =>
 (if wr p0 < wr q1.2 then Option.bind (gR shm σ 12 this 27) fun tHolds_3 =>
 Option.bind (gI shm σ 12 this 31) fun bank_4 =>
 Option.bind (aI shm σ 1 tHolds_3 ((3 * bank_4) + p0)) fun a5 =>
 Option.bind (f_X12_isIn N σ p1 0 a5) fun q6 =>
 rZ σ q6.2 else (if wr p1 = 0 then some (σ, 1) else some (σ, 0)))
set_option maxRecDepth 100000 in
set_option maxHeartbeats 4000000 in
theorem c_X12_isFuel (l : Launch) (D : va_G) (ca : Nat → ClassId) (ra : Nat → Nat) (N : Nat) (σ : St) (this : Nat) (p0 : Int) (p1 : Int) : Ctr l (D, ca, ra, shm) false yX12_isFuel cX12_isFuel 3 (some .boolean) rm_X12_isFuel σ [ar this, ai p0, ai p1] (f_X12_isFuel N σ this p0 p1) := by
  refine ctr_of (by decide) (Nat.le_of_ble_eq_true rfl) (fun z C => ?_)
  show X z 0 0 σ 0 [(0, ar this), (1, ai p0), (2, ai p1)] [] _
  unfold f_X12_isFuel
  refine x_iload_n C 1 (i := 1) (k0 := 1) rfl rfl (by decide +kernel) ?_
  refine x_aload_n C 0 (i := 0) (k0 := 0) rfl rfl (by decide +kernel) ?_
  refine x_callVp C (ci := 12) (c_X12_tanks l D ca ra N σ this) (p_X12_tanks N σ this) mt_X12_tanks mv_X12_tanks rfl ml_RX12_520 rfl (fun h => Bool.noConfusion h) ⟨Nat.le_of_ble_eq_true rfl, Nat.le_of_ble_eq_true rfl⟩ (Nat.le_of_ble_eq_true rfl) 0 0 ⟨rfl, rfl⟩ ⟨Nat.zero_le _, Nat.zero_le _⟩ (by decide +kernel) _ rfl (fun q1 => [ai q1.2, ai p0]) (fun _ => rfl) (fun q1 => ?_)
  refine x_ic_ge C (tgt := 29) (off := 24) (by decide) (by decide +kernel) (fun h7 => ?_) (fun h7 => ?_)
  · skip
    refine x_iload_n C 2 (i := 2) (k0 := 2) rfl rfl (by decide +kernel) ?_
    refine x_if_ne C (tgt := 37) (off := 7) (by decide) (by decide +kernel) (fun h2 => ?_) (fun h2 => ?_)
    · skip
      refine x_iconst C (n := 0) (by decide +kernel) ?_
      exact x_zret C (Or.inl rfl) ⟨Nat.zero_le _, Nat.zero_le _⟩ (by decide +kernel)
    · skip
      refine x_iconst C (n := 1) (by decide +kernel) ?_
      refine x_goto C (tgt := 38) (off := 4) (by decide) (by decide +kernel) ?_
      exact x_zret C (Or.inr rfl) ⟨Nat.zero_le _, Nat.zero_le _⟩ (by decide +kernel)
  · skip
    refine x_iload_n C 2 (i := 2) (k0 := 2) rfl rfl (by decide +kernel) ?_
    refine x_iconst C (n := 0) (by decide +kernel) ?_
    refine x_aload_n C 0 (i := 0) (k0 := 0) rfl rfl (by decide +kernel) ?_
    refine x_gR C fl_RX12_69 (fun _ _ _ => rfl) (by decide +kernel) (fun tHolds_3 => ?_)
    refine x_iconst C (n := 3) (by decide +kernel) ?_
    refine x_aload_n C 0 (i := 0) (k0 := 0) rfl rfl (by decide +kernel) ?_
    refine x_gI C fl_RX12_300 (fun _ _ _ => rfl) (by decide +kernel) (fun bank_4 => ?_)
    refine x_imul C (by decide +kernel) ?_
    show X z 0 0 σ 20 [(0, ar this), (1, ai p0), (2, ai p1)] [ai (3 * bank_4), ar tHolds_3, ai 0, ai p1] _
    refine x_iload_n C 1 (i := 1) (k0 := 1) rfl rfl (by decide +kernel) ?_
    refine x_iadd C (by decide +kernel) ?_
    refine x_aldI C (by decide +kernel) (fun a5 => ?_)
    refine x_callSp C (c_X12_isIn l D ca ra N σ p1 0 a5) (p_X12_isIn N σ p1 0 a5) mt_X12_isIn ms_X12_isIn ml_RX12_354 rfl (fun h => Bool.noConfusion h) ⟨Nat.le_of_ble_eq_true rfl, Nat.le_of_ble_eq_true rfl⟩ (Nat.le_of_ble_eq_true rfl) 0 0 ⟨rfl, rfl⟩ ⟨Nat.zero_le _, Nat.zero_le _⟩ (by decide +kernel) _ rfl (fun q6 => [ai q6.2]) (fun _ => rfl) (fun q6 => ?_)
    refine x_goto C (tgt := 38) (off := 12) (by decide) (by decide +kernel) ?_
    exact x_rZ C ⟨Nat.zero_le _, Nat.zero_le _⟩ (by decide +kernel)
theorem p_X12_isFuel (N : Nat) (σ : St) (this : Nat) (p0 : Int) (p1 : Int) : Pu σ (f_X12_isFuel N σ this p0 p1) := by
  unfold f_X12_isFuel
  refine pu_bind (fun _ => ?_)
  refine pu_ifs ?_ ?_
  · skip
    refine pu_ifs ?_ ?_
    · skip
      exact pu_some
    · skip
      exact pu_some
  · skip
    refine pu_bind (fun _ => ?_)
    refine pu_bind (fun _ => ?_)
    refine pu_bind (fun _ => ?_)
    refine pu_bind (fun _ => ?_)
    exact pu_rZ

def rm_X12_planOf : Room := { frames := 4, cells := 0, slots := 0, locals := 102 }
def f_X12_planOf (N : Nat) (σ : St) (this : Nat) (p0 : Int) (p1 : Int) (p2 : Int) : Option (St × Int) :=
 Option.bind (rcv shm σ 12 this (f_X12_isFuel N σ this 0 p0)) fun q1 =>
 (if wr q1.2 = 0 then some (σ, (-1)) else Option.bind (rcv shm σ 12 this (f_X12_isFuel N σ this 1 p1)) fun q2 =>
 (if wr q2.2 = 0 then some (σ, (-1)) else Option.bind (rcv shm σ 12 this (f_X12_isFuel N σ this 2 p2)) fun q3 =>
 (if wr q3.2 = 0 then some (σ, (-1)) else Option.bind (gI shm σ 12 this 73) fun steps_4 =>
 (if wr steps_4 = 0 then some (σ, (-1)) else Option.bind (rcv shm σ 12 this (f_X12_fillPlan N σ this)) fun q5 =>
 Option.bind (gR shm q5.1 12 this 71) fun least_6 =>
 Option.bind (aI shm q5.1 1 least_6 (orZ (orZ p0 (shlZ p1 4)) (shlZ p2 8))) fun a7 =>
 (if wr a7 < wr 1000000 then some (q5.1, a7) else some (q5.1, (-1)))))))
set_option maxRecDepth 100000 in
set_option maxHeartbeats 4000000 in
theorem c_X12_planOf (l : Launch) (D : va_G) (ca : Nat → ClassId) (ra : Nat → Nat) (N : Nat) (σ : St) (this : Nat) (p0 : Int) (p1 : Int) (p2 : Int) : Ctr l (D, ca, ra, shm) false yX12_planOf cX12_planOf 5 (some .int) rm_X12_planOf σ [ar this, ai p0, ai p1, ai p2] (f_X12_planOf N σ this p0 p1 p2) := by
  refine ctr_of (by decide) (Nat.le_of_ble_eq_true rfl) (fun z C => ?_)
  show X z 0 0 σ 0 [(0, ar this), (1, ai p0), (2, ai p1), (3, ai p2)] [] _
  unfold f_X12_planOf
  refine x_aload_n C 0 (i := 0) (k0 := 0) rfl rfl (by decide +kernel) ?_
  refine x_iconst C (n := 0) (by decide +kernel) ?_
  refine x_iload_n C 1 (i := 1) (k0 := 1) rfl rfl (by decide +kernel) ?_
  refine x_callVp C (ci := 12) (c_X12_isFuel l D ca ra N σ this 0 p0) (p_X12_isFuel N σ this 0 p0) mt_X12_isFuel mv_X12_isFuel rfl ml_RX12_539 rfl (fun h => Bool.noConfusion h) ⟨Nat.le_of_ble_eq_true rfl, Nat.le_of_ble_eq_true rfl⟩ (Nat.le_of_ble_eq_true rfl) 0 0 ⟨rfl, rfl⟩ ⟨Nat.zero_le _, Nat.zero_le _⟩ (by decide +kernel) _ rfl (fun q1 => [ai q1.2]) (fun _ => rfl) (fun q1 => ?_)
  refine x_if_eq C (tgt := 34) (off := 28) (by decide) (by decide +kernel) (fun h12 => ?_) (fun h12 => ?_)
  · skip
    refine x_iconst C (n := (-1)) (by decide +kernel) ?_
    exact x_iret C ⟨Nat.zero_le _, Nat.zero_le _⟩ (by decide +kernel)
  · skip
    refine x_aload_n C 0 (i := 0) (k0 := 0) rfl rfl (by decide +kernel) ?_
    refine x_iconst C (n := 1) (by decide +kernel) ?_
    refine x_iload_n C 2 (i := 2) (k0 := 2) rfl rfl (by decide +kernel) ?_
    refine x_callVp C (ci := 12) (c_X12_isFuel l D ca ra N σ this 1 p1) (p_X12_isFuel N σ this 1 p1) mt_X12_isFuel mv_X12_isFuel rfl ml_RX12_539 rfl (fun h => Bool.noConfusion h) ⟨Nat.le_of_ble_eq_true rfl, Nat.le_of_ble_eq_true rfl⟩ (Nat.le_of_ble_eq_true rfl) 0 0 ⟨rfl, rfl⟩ ⟨Nat.zero_le _, Nat.zero_le _⟩ (by decide +kernel) _ rfl (fun q2 => [ai q2.2]) (fun _ => rfl) (fun q2 => ?_)
    refine x_if_eq C (tgt := 34) (off := 19) (by decide) (by decide +kernel) (fun h11 => ?_) (fun h11 => ?_)
    · skip
      refine x_iconst C (n := (-1)) (by decide +kernel) ?_
      exact x_iret C ⟨Nat.zero_le _, Nat.zero_le _⟩ (by decide +kernel)
    · skip
      refine x_aload_n C 0 (i := 0) (k0 := 0) rfl rfl (by decide +kernel) ?_
      refine x_iconst C (n := 2) (by decide +kernel) ?_
      refine x_iload_n C 3 (i := 3) (k0 := 3) rfl rfl (by decide +kernel) ?_
      refine x_callVp C (ci := 12) (c_X12_isFuel l D ca ra N σ this 2 p2) (p_X12_isFuel N σ this 2 p2) mt_X12_isFuel mv_X12_isFuel rfl ml_RX12_539 rfl (fun h => Bool.noConfusion h) ⟨Nat.le_of_ble_eq_true rfl, Nat.le_of_ble_eq_true rfl⟩ (Nat.le_of_ble_eq_true rfl) 0 0 ⟨rfl, rfl⟩ ⟨Nat.zero_le _, Nat.zero_le _⟩ (by decide +kernel) _ rfl (fun q3 => [ai q3.2]) (fun _ => rfl) (fun q3 => ?_)
      refine x_if_eq C (tgt := 34) (off := 10) (by decide) (by decide +kernel) (fun h10 => ?_) (fun h10 => ?_)
      · skip
        refine x_iconst C (n := (-1)) (by decide +kernel) ?_
        exact x_iret C ⟨Nat.zero_le _, Nat.zero_le _⟩ (by decide +kernel)
      · skip
        refine x_aload_n C 0 (i := 0) (k0 := 0) rfl rfl (by decide +kernel) ?_
        refine x_gI C fl_RX12_312 (fun _ _ _ => rfl) (by decide +kernel) (fun steps_4 => ?_)
        refine x_if_ne C (tgt := 36) (off := 5) (by decide) (by decide +kernel) (fun h9 => ?_) (fun h9 => ?_)
        · skip
          refine x_aload_n C 0 (i := 0) (k0 := 0) rfl rfl (by decide +kernel) ?_
          refine x_callV C (ci := 12) (c_X12_fillPlan l D ca ra N σ this) mt_X12_fillPlan mv_X12_fillPlan rfl ml_RX12_542 rfl (fun h => Bool.noConfusion h) ⟨Nat.le_of_ble_eq_true rfl, Nat.le_of_ble_eq_true rfl⟩ (Nat.le_of_ble_eq_true rfl) 0 0 ⟨rfl, rfl⟩ ⟨Nat.zero_le _, Nat.zero_le _⟩ (by decide +kernel) _ rfl (fun q5 => []) (fun _ => rfl) (fun q5 => ?_)
          refine x_aload_n C 0 (i := 0) (k0 := 0) rfl rfl (by decide +kernel) ?_
          refine x_gR C fl_RX12_135 (fun _ _ _ => rfl) (by decide +kernel) (fun least_6 => ?_)
          refine x_iload_n C 1 (i := 1) (k0 := 1) rfl rfl (by decide +kernel) ?_
          refine x_iload_n C 2 (i := 2) (k0 := 2) rfl rfl (by decide +kernel) ?_
          refine x_iconst C (n := 4) (by decide +kernel) ?_
          refine x_ishl C (by decide +kernel) ?_
          show X z 0 0 q5.1 48 [(0, ar this), (1, ai p0), (2, ai p1), (3, ai p2)] [ai (shlZ p1 4), ai p0, ar least_6] _
          refine x_ior C (by decide +kernel) ?_
          refine x_iload_n C 3 (i := 3) (k0 := 3) rfl rfl (by decide +kernel) ?_
          refine x_bipush C (n := 8) (by decide +kernel) (by decide +kernel) ?_
          refine x_ishl C (by decide +kernel) ?_
          refine x_ior C (by decide +kernel) ?_
          refine x_aldI C (by decide +kernel) (fun a7 => ?_)
          refine x_istore C (i := 4) (Nat.le_of_ble_eq_true rfl) (by decide +kernel) (lv2 := [(4, ai a7), (0, ar this), (1, ai p0), (2, ai p1), (3, ai p2)]) rfl ?_
          refine x_iload C 0 (i := 4) rfl (by decide +kernel) ?_
          show X z 0 0 q5.1 59 [(4, ai a7), (0, ar this), (1, ai p0), (2, ai p1), (3, ai p2)] [ai a7] _
          refine x_ldcw C (n := 1000000) (v := 1000000) kc_RX12_503 (by decide +kernel) (by decide +kernel) ?_
          refine x_ic_lt C (tgt := 69) (off := 7) (by decide) (by decide +kernel) (fun h8 => ?_) (fun h8 => ?_)
          · skip
            refine x_iload C 0 (i := 4) rfl (by decide +kernel) ?_
            exact x_iret C ⟨Nat.zero_le _, Nat.zero_le _⟩ (by decide +kernel)
          · skip
            refine x_iconst C (n := (-1)) (by decide +kernel) ?_
            refine x_goto C (tgt := 71) (off := 5) (by decide) (by decide +kernel) ?_
            exact x_iret C ⟨Nat.zero_le _, Nat.zero_le _⟩ (by decide +kernel)
        · skip
          refine x_iconst C (n := (-1)) (by decide +kernel) ?_
          exact x_iret C ⟨Nat.zero_le _, Nat.zero_le _⟩ (by decide +kernel)

def rm_X12_plan : Room := { frames := 5, cells := 0, slots := 0, locals := 126 }
def f_X12_plan (N : Nat) (σ : St) (this : Nat) (p0 : Int) (p1 : Int) (p2 : Int) : Option (St × Int) :=
 Option.bind (rcv shm σ 12 this (f_X12_planOf N σ this p0 p1 p2)) fun q1 =>
 some (q1.1, q1.2)
set_option maxRecDepth 100000 in
set_option maxHeartbeats 4000000 in
theorem c_X12_plan (l : Launch) (D : va_G) (ca : Nat → ClassId) (ra : Nat → Nat) (N : Nat) (σ : St) (this : Nat) (p0 : Int) (p1 : Int) (p2 : Int) : Ctr l (D, ca, ra, shm) false yX12_plan cX12_plan 4 (some .int) rm_X12_plan σ [ar this, ai p0, ai p1, ai p2] (f_X12_plan N σ this p0 p1 p2) := by
  refine ctr_of (by decide) (Nat.le_of_ble_eq_true rfl) (fun z C => ?_)
  show X z 0 0 σ 0 [(0, ar this), (1, ai p0), (2, ai p1), (3, ai p2)] [] _
  unfold f_X12_plan
  refine x_aload_n C 0 (i := 0) (k0 := 0) rfl rfl (by decide +kernel) ?_
  refine x_iload_n C 1 (i := 1) (k0 := 1) rfl rfl (by decide +kernel) ?_
  refine x_iload_n C 2 (i := 2) (k0 := 2) rfl rfl (by decide +kernel) ?_
  refine x_iload_n C 3 (i := 3) (k0 := 3) rfl rfl (by decide +kernel) ?_
  refine x_callV C (ci := 12) (c_X12_planOf l D ca ra N σ this p0 p1 p2) mt_X12_planOf mv_X12_planOf rfl ml_RX12_545 rfl (fun h => Bool.noConfusion h) ⟨Nat.le_of_ble_eq_true rfl, Nat.le_of_ble_eq_true rfl⟩ (Nat.le_of_ble_eq_true rfl) 0 0 ⟨rfl, rfl⟩ ⟨Nat.zero_le _, Nat.zero_le _⟩ (by decide +kernel) _ rfl (fun q1 => [ai q1.2]) (fun _ => rfl) (fun q1 => ?_)
  exact x_iret C ⟨Nat.zero_le _, Nat.zero_le _⟩ (by decide +kernel)
