def rm_X12_mmOf : Room := { frames := 0, cells := 0, slots := 0, locals := 0 }
def f_X12_mmOf (N : Nat) (σ : St) (this : Nat) (p0 : Int) (p1 : Int) : Option (St × Int) :=
 Option.bind (gR shm σ 12 this 17) fun pBase_1 =>
 Option.bind (gI shm σ 12 this 31) fun bank_2 =>
 Option.bind (aI shm σ 1 pBase_1 ((12 * bank_2) + p0)) fun a3 =>
 Lt (wr a3) fun x4 =>
 Option.bind (gR shm σ 12 this 18) fun pGrows_5 =>
 Option.bind (gI shm σ 12 this 31) fun bank_6 =>
 Option.bind (aI shm σ 1 pGrows_5 ((12 * bank_6) + p0)) fun a7 =>
 some (σ, (x4 + (Int.tdiv (wl (((x4 * (wr a7)) * (wr p1)) * (wr p1))) 100000)))
set_option maxRecDepth 100000 in
set_option maxHeartbeats 4000000 in
theorem c_X12_mmOf (l : Launch) (D : va_G) (ca : Nat → ClassId) (ra : Nat → Nat) (N : Nat) (σ : St) (this : Nat) (p0 : Int) (p1 : Int) : Ctr l (D, ca, ra, shm) false yX12_mmOf cX12_mmOf 5 (some .int) rm_X12_mmOf σ [ar this, ai p0, ai p1] (f_X12_mmOf N σ this p0 p1) := by
  refine ctr_of (by decide) (Nat.le_of_ble_eq_true rfl) (fun z C => ?_)
  show X z 0 0 σ 0 [(0, ar this), (1, ai p0), (2, ai p1)] [] _
  unfold f_X12_mmOf
  refine x_aload_n C 0 (i := 0) (k0 := 0) rfl rfl (by decide +kernel) ?_
  refine x_gR C fl_RX12_39 (fun _ _ _ => rfl) (by decide +kernel) (fun pBase_1 => ?_)
  refine x_bipush C (n := 12) (by decide +kernel) (by decide +kernel) ?_
  refine x_aload_n C 0 (i := 0) (k0 := 0) rfl rfl (by decide +kernel) ?_
  refine x_gI C fl_RX12_300 (fun _ _ _ => rfl) (by decide +kernel) (fun bank_2 => ?_)
  refine x_imul C (by decide +kernel) ?_
  refine x_iload_n C 1 (i := 1) (k0 := 1) rfl rfl (by decide +kernel) ?_
  refine x_iadd C (by decide +kernel) ?_
  show X z 0 0 σ 13 [(0, ar this), (1, ai p0), (2, ai p1)] [ai ((12 * bank_2) + p0), ar pBase_1] _
  refine x_aldI C (by decide +kernel) (fun a3 => ?_)
  refine x_i2l C (by decide +kernel) ?_
  refine x_lstore_nL C (i := 3) (k0 := 3) rfl (Nat.le_of_ble_eq_true rfl) (by decide +kernel) (lv2 := fun x4 => [(3, al x4), (0, ar this), (1, ai p0), (2, ai p1)]) (fun _ => rfl) (fun x4 => ?_)
  refine x_lload_n C 0 (i := 3) (k0 := 3) rfl rfl (by decide +kernel) ?_
  refine x_lload_n C 0 (i := 3) (k0 := 3) rfl rfl (by decide +kernel) ?_
  refine x_aload_n C 1 (i := 0) (k0 := 0) rfl rfl (by decide +kernel) ?_
  refine x_gR C fl_RX12_42 (fun _ _ _ => rfl) (by decide +kernel) (fun pGrows_5 => ?_)
  refine x_bipush C (n := 12) (by decide +kernel) (by decide +kernel) ?_
  show X z 0 0 σ 24 [(3, al x4), (0, ar this), (1, ai p0), (2, ai p1)] [ai 12, ar pGrows_5, al x4, al x4] _
  refine x_aload_n C 1 (i := 0) (k0 := 0) rfl rfl (by decide +kernel) ?_
  refine x_gI C fl_RX12_300 (fun _ _ _ => rfl) (by decide +kernel) (fun bank_6 => ?_)
  refine x_imul C (by decide +kernel) ?_
  refine x_iload_n C 2 (i := 1) (k0 := 1) rfl rfl (by decide +kernel) ?_
  refine x_iadd C (by decide +kernel) ?_
  refine x_aldI C (by decide +kernel) (fun a7 => ?_)
  refine x_i2l C (by decide +kernel) ?_
  refine x_lmul C (by decide +kernel) ?_
  show X z 0 0 σ 34 [(3, al x4), (0, ar this), (1, ai p0), (2, ai p1)] [al (x4 * (wr a7)), al x4] _
  refine x_iload_n C 3 (i := 2) (k0 := 2) rfl rfl (by decide +kernel) ?_
  refine x_i2l C (by decide +kernel) ?_
  refine x_lmul C (by decide +kernel) ?_
  refine x_iload_n C 3 (i := 2) (k0 := 2) rfl rfl (by decide +kernel) ?_
  refine x_i2l C (by decide +kernel) ?_
  refine x_lmul C (by decide +kernel) ?_
  refine x_ldc2 C (n := 100000) (v := 100000) kl_RX12_358 (by decide +kernel) (by decide +kernel) ?_
  refine x_ldivC C (by decide) (by decide) (by decide +kernel) ?_
  show X z 0 0 σ 44 [(3, al x4), (0, ar this), (1, ai p0), (2, ai p1)] [al (Int.tdiv (wl (((x4 * (wr a7)) * (wr p1)) * (wr p1))) 100000), al x4] _
  refine x_ladd C (by decide +kernel) ?_
  refine x_l2i C (by decide +kernel) ?_
  exact x_iret C ⟨Nat.zero_le _, Nat.zero_le _⟩ (by decide +kernel)
theorem p_X12_mmOf (N : Nat) (σ : St) (this : Nat) (p0 : Int) (p1 : Int) : Pu σ (f_X12_mmOf N σ this p0 p1) := by
  unfold f_X12_mmOf
  refine pu_bind (fun _ => ?_)
  refine pu_bind (fun _ => ?_)
  refine pu_bind (fun _ => ?_)
  refine pu_Lt (fun _ => ?_)
  refine pu_bind (fun _ => ?_)
  refine pu_bind (fun _ => ?_)
  refine pu_bind (fun _ => ?_)
  exact pu_some

def rm_X12_mm : Room := { frames := 2, cells := 0, slots := 0, locals := 43 }
def f_X12_mm (N : Nat) (σ : St) (this : Nat) (p0 : Int) (p1 : Int) : Option (St × Int) :=
 Option.bind (rcv shm σ 12 this (f_X12_isPart N σ this p0)) fun q1 =>
 (if wr q1.2 = 0 then some (σ, (-1)) else Option.bind (f_X12_isIn N σ p1 0 30) fun q2 =>
 (if wr q2.2 = 0 then some (σ, (-1)) else Option.bind (rcv shm σ 12 this (f_X12_mmOf N σ this p0 p1)) fun q3 =>
 some (σ, q3.2)))
set_option maxRecDepth 100000 in
set_option maxHeartbeats 4000000 in
theorem c_X12_mm (l : Launch) (D : va_G) (ca : Nat → ClassId) (ra : Nat → Nat) (N : Nat) (σ : St) (this : Nat) (p0 : Int) (p1 : Int) : Ctr l (D, ca, ra, shm) false yX12_mm cX12_mm 3 (some .int) rm_X12_mm σ [ar this, ai p0, ai p1] (f_X12_mm N σ this p0 p1) := by
  refine ctr_of (by decide) (Nat.le_of_ble_eq_true rfl) (fun z C => ?_)
  show X z 0 0 σ 0 [(0, ar this), (1, ai p0), (2, ai p1)] [] _
  unfold f_X12_mm
  refine x_aload_n C 0 (i := 0) (k0 := 0) rfl rfl (by decide +kernel) ?_
  refine x_iload_n C 1 (i := 1) (k0 := 1) rfl rfl (by decide +kernel) ?_
  refine x_callVp C (ci := 12) (c_X12_isPart l D ca ra N σ this p0) (p_X12_isPart N σ this p0) mt_X12_isPart mv_X12_isPart rfl ml_RX12_360 rfl (fun h => Bool.noConfusion h) ⟨Nat.le_of_ble_eq_true rfl, Nat.le_of_ble_eq_true rfl⟩ (Nat.le_of_ble_eq_true rfl) 0 0 ⟨rfl, rfl⟩ ⟨Nat.zero_le _, Nat.zero_le _⟩ (by decide +kernel) _ rfl (fun q1 => [ai q1.2]) (fun _ => rfl) (fun q1 => ?_)
  refine x_if_eq C (tgt := 27) (off := 22) (by decide) (by decide +kernel) (fun h5 => ?_) (fun h5 => ?_)
  · skip
    refine x_iconst C (n := (-1)) (by decide +kernel) ?_
    exact x_iret C ⟨Nat.zero_le _, Nat.zero_le _⟩ (by decide +kernel)
  · skip
    refine x_iload_n C 2 (i := 2) (k0 := 2) rfl rfl (by decide +kernel) ?_
    refine x_iconst C (n := 0) (by decide +kernel) ?_
    refine x_bipush C (n := 30) (by decide +kernel) (by decide +kernel) ?_
    refine x_callSp C (c_X12_isIn l D ca ra N σ p1 0 30) (p_X12_isIn N σ p1 0 30) mt_X12_isIn ms_X12_isIn ml_RX12_354 rfl (fun h => Bool.noConfusion h) ⟨Nat.le_of_ble_eq_true rfl, Nat.le_of_ble_eq_true rfl⟩ (Nat.le_of_ble_eq_true rfl) 0 0 ⟨rfl, rfl⟩ ⟨Nat.zero_le _, Nat.zero_le _⟩ (by decide +kernel) _ rfl (fun q2 => [ai q2.2]) (fun _ => rfl) (fun q2 => ?_)
    refine x_if_eq C (tgt := 27) (off := 12) (by decide) (by decide +kernel) (fun h4 => ?_) (fun h4 => ?_)
    · skip
      refine x_iconst C (n := (-1)) (by decide +kernel) ?_
      exact x_iret C ⟨Nat.zero_le _, Nat.zero_le _⟩ (by decide +kernel)
    · skip
      refine x_aload_n C 0 (i := 0) (k0 := 0) rfl rfl (by decide +kernel) ?_
      refine x_iload_n C 1 (i := 1) (k0 := 1) rfl rfl (by decide +kernel) ?_
      refine x_iload_n C 2 (i := 2) (k0 := 2) rfl rfl (by decide +kernel) ?_
      refine x_callVp C (ci := 12) (c_X12_mmOf l D ca ra N σ this p0 p1) (p_X12_mmOf N σ this p0 p1) mt_X12_mmOf mv_X12_mmOf rfl ml_RX12_363 rfl (fun h => Bool.noConfusion h) ⟨Nat.le_of_ble_eq_true rfl, Nat.le_of_ble_eq_true rfl⟩ (Nat.le_of_ble_eq_true rfl) 0 0 ⟨rfl, rfl⟩ ⟨Nat.zero_le _, Nat.zero_le _⟩ (by decide +kernel) _ rfl (fun q3 => [ai q3.2]) (fun _ => rfl) (fun q3 => ?_)
      refine x_goto C (tgt := 28) (off := 4) (by decide) (by decide +kernel) ?_
      exact x_iret C ⟨Nat.zero_le _, Nat.zero_le _⟩ (by decide +kernel)
theorem p_X12_mm (N : Nat) (σ : St) (this : Nat) (p0 : Int) (p1 : Int) : Pu σ (f_X12_mm N σ this p0 p1) := by
  unfold f_X12_mm
  refine pu_bind (fun _ => ?_)
  refine pu_if ?_ ?_
  · skip
    exact pu_some
  · skip
    refine pu_bind (fun _ => ?_)
    refine pu_if ?_ ?_
    · skip
      exact pu_some
    · skip
      refine pu_bind (fun _ => ?_)
      exact pu_some

def rm_X12_fitsBy : Room := { frames := 0, cells := 0, slots := 0, locals := 0 }
def f_X12_fitsBy (N : Nat) (σ : St) (this : Nat) (p0 : Int) (p1 : Int) (p2 : Int) : Option (St × Int) :=
 Option.bind (gR shm σ 12 this 22) fun jGap_1 =>
 Option.bind (gI shm σ 12 this 31) fun bank_2 =>
 Option.bind (aI shm σ 1 jGap_1 ((16 * bank_2) + p0)) fun a3 =>
 (if wr a3 < wr (p1 - p2) then some (σ, 0) else Option.bind (gR shm σ 12 this 22) fun jGap_4 =>
 Option.bind (gI shm σ 12 this 31) fun bank_5 =>
 Option.bind (aI shm σ 1 jGap_4 ((16 * bank_5) + p0)) fun a6 =>
 (if wr a6 < wr (p2 - p1) then some (σ, 0) else some (σ, 1)))
set_option maxRecDepth 100000 in
set_option maxHeartbeats 4000000 in
theorem c_X12_fitsBy (l : Launch) (D : va_G) (ca : Nat → ClassId) (ra : Nat → Nat) (N : Nat) (σ : St) (this : Nat) (p0 : Int) (p1 : Int) (p2 : Int) : Ctr l (D, ca, ra, shm) false yX12_fitsBy cX12_fitsBy 4 (some .boolean) rm_X12_fitsBy σ [ar this, ai p0, ai p1, ai p2] (f_X12_fitsBy N σ this p0 p1 p2) := by
  refine ctr_of (by decide) (Nat.le_of_ble_eq_true rfl) (fun z C => ?_)
  show X z 0 0 σ 0 [(0, ar this), (1, ai p0), (2, ai p1), (3, ai p2)] [] _
  unfold f_X12_fitsBy
  refine x_iload_n C 2 (i := 2) (k0 := 2) rfl rfl (by decide +kernel) ?_
  refine x_iload_n C 3 (i := 3) (k0 := 3) rfl rfl (by decide +kernel) ?_
  refine x_isub C (by decide +kernel) ?_
  refine x_aload_n C 0 (i := 0) (k0 := 0) rfl rfl (by decide +kernel) ?_
  refine x_gR C fl_RX12_54 (fun _ _ _ => rfl) (by decide +kernel) (fun jGap_1 => ?_)
  refine x_bipush C (n := 16) (by decide +kernel) (by decide +kernel) ?_
  refine x_aload_n C 0 (i := 0) (k0 := 0) rfl rfl (by decide +kernel) ?_
  refine x_gI C fl_RX12_300 (fun _ _ _ => rfl) (by decide +kernel) (fun bank_2 => ?_)
  show X z 0 0 σ 13 [(0, ar this), (1, ai p0), (2, ai p1), (3, ai p2)] [ai bank_2, ai 16, ar jGap_1, ai (p1 - p2)] _
  refine x_imul C (by decide +kernel) ?_
  refine x_iload_n C 1 (i := 1) (k0 := 1) rfl rfl (by decide +kernel) ?_
  refine x_iadd C (by decide +kernel) ?_
  refine x_aldI C (by decide +kernel) (fun a3 => ?_)
  refine x_ic_gt C (tgt := 44) (off := 27) (by decide) (by decide +kernel) (fun h8 => ?_) (fun h8 => ?_)
  · skip
    refine x_iconst C (n := 0) (by decide +kernel) ?_
    exact x_zret C (Or.inl rfl) ⟨Nat.zero_le _, Nat.zero_le _⟩ (by decide +kernel)
  · skip
    refine x_iload_n C 3 (i := 3) (k0 := 3) rfl rfl (by decide +kernel) ?_
    refine x_iload_n C 2 (i := 2) (k0 := 2) rfl rfl (by decide +kernel) ?_
    refine x_isub C (by decide +kernel) ?_
    refine x_aload_n C 0 (i := 0) (k0 := 0) rfl rfl (by decide +kernel) ?_
    refine x_gR C fl_RX12_54 (fun _ _ _ => rfl) (by decide +kernel) (fun jGap_4 => ?_)
    refine x_bipush C (n := 16) (by decide +kernel) (by decide +kernel) ?_
    refine x_aload_n C 0 (i := 0) (k0 := 0) rfl rfl (by decide +kernel) ?_
    refine x_gI C fl_RX12_300 (fun _ _ _ => rfl) (by decide +kernel) (fun bank_5 => ?_)
    show X z 0 0 σ 33 [(0, ar this), (1, ai p0), (2, ai p1), (3, ai p2)] [ai bank_5, ai 16, ar jGap_4, ai (p2 - p1)] _
    refine x_imul C (by decide +kernel) ?_
    refine x_iload_n C 1 (i := 1) (k0 := 1) rfl rfl (by decide +kernel) ?_
    refine x_iadd C (by decide +kernel) ?_
    refine x_aldI C (by decide +kernel) (fun a6 => ?_)
    refine x_ic_gt C (tgt := 44) (off := 7) (by decide) (by decide +kernel) (fun h7 => ?_) (fun h7 => ?_)
    · skip
      refine x_iconst C (n := 0) (by decide +kernel) ?_
      exact x_zret C (Or.inl rfl) ⟨Nat.zero_le _, Nat.zero_le _⟩ (by decide +kernel)
    · skip
      refine x_iconst C (n := 1) (by decide +kernel) ?_
      refine x_goto C (tgt := 45) (off := 4) (by decide) (by decide +kernel) ?_
      exact x_zret C (Or.inr rfl) ⟨Nat.zero_le _, Nat.zero_le _⟩ (by decide +kernel)
theorem p_X12_fitsBy (N : Nat) (σ : St) (this : Nat) (p0 : Int) (p1 : Int) (p2 : Int) : Pu σ (f_X12_fitsBy N σ this p0 p1 p2) := by
  unfold f_X12_fitsBy
  refine pu_bind (fun _ => ?_)
  refine pu_bind (fun _ => ?_)
  refine pu_bind (fun _ => ?_)
  refine pu_if ?_ ?_
  · skip
    exact pu_some
  · skip
    refine pu_bind (fun _ => ?_)
    refine pu_bind (fun _ => ?_)
    refine pu_bind (fun _ => ?_)
    refine pu_if ?_ ?_
    · skip
      exact pu_some
    · skip
      exact pu_some

def rm_X12_fits : Room := { frames := 1, cells := 0, slots := 0, locals := 24 }
def f_X12_fits (N : Nat) (σ : St) (this : Nat) (p0 : Int) (p1 : Int) : Option (St × Int) :=
 Option.bind (gR shm σ 12 this 20) fun jA_1 =>
 Option.bind (gI shm σ 12 this 31) fun bank_2 =>
 Option.bind (aI shm σ 1 jA_1 ((16 * bank_2) + p0)) fun a3 =>
 Option.bind (rcv shm σ 12 this (f_X12_mmOf N σ this a3 p1)) fun q4 =>
 Option.bind (gR shm σ 12 this 21) fun jB_5 =>
 Option.bind (gI shm σ 12 this 31) fun bank_6 =>
 Option.bind (aI shm σ 1 jB_5 ((16 * bank_6) + p0)) fun a7 =>
 Option.bind (rcv shm σ 12 this (f_X12_mmOf N σ this a7 p1)) fun q8 =>
 Option.bind (rcv shm σ 12 this (f_X12_fitsBy N σ this p0 q4.2 q8.2)) fun q9 =>
 rZ σ q9.2
set_option maxRecDepth 100000 in
set_option maxHeartbeats 4000000 in
theorem c_X12_fits (l : Launch) (D : va_G) (ca : Nat → ClassId) (ra : Nat → Nat) (N : Nat) (σ : St) (this : Nat) (p0 : Int) (p1 : Int) : Ctr l (D, ca, ra, shm) false yX12_fits cX12_fits 3 (some .boolean) rm_X12_fits σ [ar this, ai p0, ai p1] (f_X12_fits N σ this p0 p1) := by
  refine ctr_of (by decide) (Nat.le_of_ble_eq_true rfl) (fun z C => ?_)
  show X z 0 0 σ 0 [(0, ar this), (1, ai p0), (2, ai p1)] [] _
  unfold f_X12_fits
  refine x_aload_n C 0 (i := 0) (k0 := 0) rfl rfl (by decide +kernel) ?_
  refine x_iload_n C 1 (i := 1) (k0 := 1) rfl rfl (by decide +kernel) ?_
  refine x_aload_n C 0 (i := 0) (k0 := 0) rfl rfl (by decide +kernel) ?_
  refine x_aload_n C 0 (i := 0) (k0 := 0) rfl rfl (by decide +kernel) ?_
  refine x_gR C fl_RX12_48 (fun _ _ _ => rfl) (by decide +kernel) (fun jA_1 => ?_)
  refine x_bipush C (n := 16) (by decide +kernel) (by decide +kernel) ?_
  refine x_aload_n C 0 (i := 0) (k0 := 0) rfl rfl (by decide +kernel) ?_
  refine x_gI C fl_RX12_300 (fun _ _ _ => rfl) (by decide +kernel) (fun bank_2 => ?_)
  show X z 0 0 σ 13 [(0, ar this), (1, ai p0), (2, ai p1)] [ai bank_2, ai 16, ar jA_1, ar this, ai p0, ar this] _
  refine x_imul C (by decide +kernel) ?_
  refine x_iload_n C 1 (i := 1) (k0 := 1) rfl rfl (by decide +kernel) ?_
  refine x_iadd C (by decide +kernel) ?_
  refine x_aldI C (by decide +kernel) (fun a3 => ?_)
  refine x_iload_n C 2 (i := 2) (k0 := 2) rfl rfl (by decide +kernel) ?_
  refine x_callVp C (ci := 12) (c_X12_mmOf l D ca ra N σ this a3 p1) (p_X12_mmOf N σ this a3 p1) mt_X12_mmOf mv_X12_mmOf rfl ml_RX12_363 rfl (fun h => Bool.noConfusion h) ⟨Nat.le_of_ble_eq_true rfl, Nat.le_of_ble_eq_true rfl⟩ (Nat.le_of_ble_eq_true rfl) 0 0 ⟨rfl, rfl⟩ ⟨Nat.zero_le _, Nat.zero_le _⟩ (by decide +kernel) _ rfl (fun q4 => [ai q4.2, ai p0, ar this]) (fun _ => rfl) (fun q4 => ?_)
  refine x_aload_n C 0 (i := 0) (k0 := 0) rfl rfl (by decide +kernel) ?_
  refine x_aload_n C 0 (i := 0) (k0 := 0) rfl rfl (by decide +kernel) ?_
  show X z 0 0 σ 23 [(0, ar this), (1, ai p0), (2, ai p1)] [ar this, ar this, ai q4.2, ai p0, ar this] _
  refine x_gR C fl_RX12_51 (fun _ _ _ => rfl) (by decide +kernel) (fun jB_5 => ?_)
  refine x_bipush C (n := 16) (by decide +kernel) (by decide +kernel) ?_
  refine x_aload_n C 0 (i := 0) (k0 := 0) rfl rfl (by decide +kernel) ?_
  refine x_gI C fl_RX12_300 (fun _ _ _ => rfl) (by decide +kernel) (fun bank_6 => ?_)
  refine x_imul C (by decide +kernel) ?_
  refine x_iload_n C 1 (i := 1) (k0 := 1) rfl rfl (by decide +kernel) ?_
  refine x_iadd C (by decide +kernel) ?_
  refine x_aldI C (by decide +kernel) (fun a7 => ?_)
  show X z 0 0 σ 36 [(0, ar this), (1, ai p0), (2, ai p1)] [ai a7, ar this, ai q4.2, ai p0, ar this] _
  refine x_iload_n C 2 (i := 2) (k0 := 2) rfl rfl (by decide +kernel) ?_
  refine x_callVp C (ci := 12) (c_X12_mmOf l D ca ra N σ this a7 p1) (p_X12_mmOf N σ this a7 p1) mt_X12_mmOf mv_X12_mmOf rfl ml_RX12_363 rfl (fun h => Bool.noConfusion h) ⟨Nat.le_of_ble_eq_true rfl, Nat.le_of_ble_eq_true rfl⟩ (Nat.le_of_ble_eq_true rfl) 0 0 ⟨rfl, rfl⟩ ⟨Nat.zero_le _, Nat.zero_le _⟩ (by decide +kernel) _ rfl (fun q8 => [ai q8.2, ai q4.2, ai p0, ar this]) (fun _ => rfl) (fun q8 => ?_)
  refine x_callVp C (ci := 12) (c_X12_fitsBy l D ca ra N σ this p0 q4.2 q8.2) (p_X12_fitsBy N σ this p0 q4.2 q8.2) mt_X12_fitsBy mv_X12_fitsBy rfl ml_RX12_366 rfl (fun h => Bool.noConfusion h) ⟨Nat.le_of_ble_eq_true rfl, Nat.le_of_ble_eq_true rfl⟩ (Nat.le_of_ble_eq_true rfl) 0 0 ⟨rfl, rfl⟩ ⟨Nat.zero_le _, Nat.zero_le _⟩ (by decide +kernel) _ rfl (fun q9 => [ai q9.2]) (fun _ => rfl) (fun q9 => ?_)
  exact x_rZ C ⟨Nat.zero_le _, Nat.zero_le _⟩ (by decide +kernel)
theorem p_X12_fits (N : Nat) (σ : St) (this : Nat) (p0 : Int) (p1 : Int) : Pu σ (f_X12_fits N σ this p0 p1) := by
  unfold f_X12_fits
  refine pu_bind (fun _ => ?_)
  refine pu_bind (fun _ => ?_)
  refine pu_bind (fun _ => ?_)
  refine pu_bind (fun _ => ?_)
  refine pu_bind (fun _ => ?_)
  refine pu_bind (fun _ => ?_)
  refine pu_bind (fun _ => ?_)
  refine pu_bind (fun _ => ?_)
  refine pu_bind (fun _ => ?_)
  exact pu_rZ

def L_X12_clash_16 (N : Nat) (σ : St) (this : Nat) (p0 : Int) : (Int × Int) → Option (St × Int) := fixN N fun b16_2 t2 =>
 Option.bind (rcv shm σ 12 this (f_X12_joins N σ this)) fun q4 =>
 (if wr t2.2 < wr q4.2 then Option.bind (rcv shm σ 12 this (f_X12_fits N σ this t2.2 p0)) fun q5 =>
 Jn (fun t6 : Int => Lt (orZ t2.1 t6) fun x7 =>
 Lt (t2.2 + 1) fun x8 =>
 b16_2 (x7, x8)) fun J41_8 =>
 (if wr q5.2 = 0 then J41_8 (shlZ 1 t2.2) else J41_8 0) else some (σ, t2.1))
def rm_X12_clash : Room := { frames := 2, cells := 0, slots := 0, locals := 46 }
def f_X12_clash (N : Nat) (σ : St) (this : Nat) (p0 : Int) : Option (St × Int) :=
 Option.bind (f_X12_isIn N σ p0 0 30) fun q1 =>
 (if wr q1.2 = 0 then some (σ, (-1)) else L_X12_clash_16 N σ this p0 (0, 0))
set_option maxRecDepth 100000 in
set_option maxHeartbeats 4000000 in
theorem c_X12_clash (l : Launch) (D : va_G) (ca : Nat → ClassId) (ra : Nat → Nat) (N : Nat) (σ : St) (this : Nat) (p0 : Int) : Ctr l (D, ca, ra, shm) false yX12_clash cX12_clash 4 (some .int) rm_X12_clash σ [ar this, ai p0] (f_X12_clash N σ this p0) := by
  refine ctr_of (by decide) (Nat.le_of_ble_eq_true rfl) (fun z C => ?_)
  show X z 0 0 σ 0 [(0, ar this), (1, ai p0)] [] _
  unfold f_X12_clash
  refine x_iload_n C 1 (i := 1) (k0 := 1) rfl rfl (by decide +kernel) ?_
  refine x_iconst C (n := 0) (by decide +kernel) ?_
  refine x_bipush C (n := 30) (by decide +kernel) (by decide +kernel) ?_
  refine x_callSp C (c_X12_isIn l D ca ra N σ p0 0 30) (p_X12_isIn N σ p0 0 30) mt_X12_isIn ms_X12_isIn ml_RX12_354 rfl (fun h => Bool.noConfusion h) ⟨Nat.le_of_ble_eq_true rfl, Nat.le_of_ble_eq_true rfl⟩ (Nat.le_of_ble_eq_true rfl) 0 0 ⟨rfl, rfl⟩ ⟨Nat.zero_le _, Nat.zero_le _⟩ (by decide +kernel) _ rfl (fun q1 => [ai q1.2]) (fun _ => rfl) (fun q1 => ?_)
  refine x_if_ne C (tgt := 12) (off := 5) (by decide) (by decide +kernel) (fun h12 => ?_) (fun h12 => ?_)
  · skip
    refine x_iconst C (n := 0) (by decide +kernel) ?_
    refine x_istore_n C (i := 2) (k0 := 2) rfl (Nat.le_of_ble_eq_true rfl) (by decide +kernel) (lv2 := [(2, ai 0), (0, ar this), (1, ai p0)]) rfl ?_
    refine x_iconst C (n := 0) (by decide +kernel) ?_
    refine x_istore_n C (i := 3) (k0 := 3) rfl (Nat.le_of_ble_eq_true rfl) (by decide +kernel) (lv2 := [(3, ai 0), (2, ai 0), (0, ar this), (1, ai p0)]) rfl ?_
    refine x_sub [2, 3, 1, 0] (lv2 := [(0, ar this), (1, ai p0), (2, ai 0), (3, ai 0)]) rfl ?_
    -- LOOP L_X12_clash_16 hb16_2
    refine x_loop (T := Int × Int) (fun t => σ) (fun t => [(0, ar this), (1, ai p0), (2, ai t.1), (3, ai t.2)]) (0, 0) rfl (fun b16_2 hb16_2 t2 => ?_)
    show X z 0 0 σ 16 [(0, ar this), (1, ai p0), (2, ai t2.1), (3, ai t2.2)] [] _
    refine x_iload_n C 3 (i := 3) (k0 := 3) rfl rfl (by decide +kernel) ?_
    refine x_aload_n C 0 (i := 0) (k0 := 0) rfl rfl (by decide +kernel) ?_
    refine x_callVp C (ci := 12) (c_X12_joins l D ca ra N σ this) (p_X12_joins N σ this) mt_X12_joins mv_X12_joins rfl ml_RX12_369 rfl (fun h => Bool.noConfusion h) ⟨Nat.le_of_ble_eq_true rfl, Nat.le_of_ble_eq_true rfl⟩ (Nat.le_of_ble_eq_true rfl) 0 0 ⟨rfl, rfl⟩ ⟨Nat.zero_le _, Nat.zero_le _⟩ (by decide +kernel) _ rfl (fun q4 => [ai q4.2, ai t2.2]) (fun _ => rfl) (fun q4 => ?_)
    refine x_ic_ge C (tgt := 49) (off := 28) (by decide) (by decide +kernel) (fun h11 => ?_) (fun h11 => ?_)
    · skip
      refine x_iload_n C 2 (i := 2) (k0 := 2) rfl rfl (by decide +kernel) ?_
      exact x_iret C ⟨Nat.zero_le _, Nat.zero_le _⟩ (by decide +kernel)
    · skip
      refine x_iload_n C 2 (i := 2) (k0 := 2) rfl rfl (by decide +kernel) ?_
      refine x_aload_n C 0 (i := 0) (k0 := 0) rfl rfl (by decide +kernel) ?_
      refine x_iload_n C 3 (i := 3) (k0 := 3) rfl rfl (by decide +kernel) ?_
      refine x_iload_n C 1 (i := 1) (k0 := 1) rfl rfl (by decide +kernel) ?_
      refine x_callVp C (ci := 12) (c_X12_fits l D ca ra N σ this t2.2 p0) (p_X12_fits N σ this t2.2 p0) mt_X12_fits mv_X12_fits rfl ml_RX12_372 rfl (fun h => Bool.noConfusion h) ⟨Nat.le_of_ble_eq_true rfl, Nat.le_of_ble_eq_true rfl⟩ (Nat.le_of_ble_eq_true rfl) 0 0 ⟨rfl, rfl⟩ ⟨Nat.zero_le _, Nat.zero_le _⟩ (by decide +kernel) _ rfl (fun q5 => [ai q5.2, ai t2.1]) (fun _ => rfl) (fun q5 => ?_)
      refine x_join (T := Int) (fun t => σ) 41 (fun t => [(0, ar this), (1, ai p0), (3, ai t2.2)]) (fun t => [ai t, ai t2.1]) (fun t6 => ?_) (fun J41_8 hJ41_8 => ?_)
      · show X z 0 0 σ 41 [(0, ar this), (1, ai p0), (3, ai t2.2)] [ai t6, ai t2.1] _
        refine x_ior C (by decide +kernel) ?_
        refine x_istore_nL C (i := 2) (k0 := 2) rfl (Nat.le_of_ble_eq_true rfl) (by decide +kernel) (lv2 := fun x7 => [(2, ai x7), (0, ar this), (1, ai p0), (3, ai t2.2)]) (fun _ => rfl) (fun x7 => ?_)
        refine x_iinc C 3 (i := 3) (n := 1) (Nat.le_of_ble_eq_true rfl) rfl (by decide +kernel) (lv2 := fun x8 => [(3, ai x8), (2, ai x7), (0, ar this), (1, ai p0)]) (fun _ => rfl) (fun x8 => ?_)
        refine x_goto C (tgt := 16) (off := (-30)) (by decide) (by decide +kernel) ?_
        refine x_sub [2, 3, 1, 0] (lv2 := [(0, ar this), (1, ai p0), (2, ai x7), (3, ai x8)]) rfl ?_
        exact hb16_2 (x7, x8)
      · skip
        refine x_if_eq C (tgt := 38) (off := 7) (by decide) (by decide +kernel) (fun h10 => ?_) (fun h10 => ?_)
        · skip
          refine x_iconst C (n := 1) (by decide +kernel) ?_
          refine x_iload_n C 3 (i := 3) (k0 := 3) rfl rfl (by decide +kernel) ?_
          refine x_ishl C (by decide +kernel) ?_
          refine x_sub [0, 1, 3] (lv2 := [(0, ar this), (1, ai p0), (3, ai t2.2)]) rfl ?_
          exact hJ41_8 (shlZ 1 t2.2)
        · skip
          refine x_iconst C (n := 0) (by decide +kernel) ?_
          refine x_goto C (tgt := 41) (off := 6) (by decide) (by decide +kernel) ?_
          refine x_sub [0, 1, 3] (lv2 := [(0, ar this), (1, ai p0), (3, ai t2.2)]) rfl ?_
          exact hJ41_8 0
  · skip
    refine x_iconst C (n := (-1)) (by decide +kernel) ?_
    exact x_iret C ⟨Nat.zero_le _, Nat.zero_le _⟩ (by decide +kernel)
theorem p_X12_clash (N : Nat) (σ : St) (this : Nat) (p0 : Int) : Pu σ (f_X12_clash N σ this p0) := by
  unfold f_X12_clash
  refine pu_bind (fun _ => ?_)
  refine pu_ifs ?_ ?_
  · skip
    unfold L_X12_clash_16
    refine pu_fix (fun _ hb16_2 _ => ?_) _
    refine pu_bind (fun _ => ?_)
    refine pu_ifs ?_ ?_
    · skip
      exact pu_some
    · skip
      refine pu_bind (fun _ => ?_)
      refine pu_Jn (fun _ => ?_) (fun _ hJ41_8 => ?_)
      · skip
        refine pu_Lt (fun _ => ?_)
        refine pu_Lt (fun _ => ?_)
        exact hb16_2 _
      · skip
        refine pu_if ?_ ?_
        · skip
          exact hJ41_8 _
        · skip
          exact hJ41_8 _
  · skip
    exact pu_some

def L_X12_breaks_18 (N : Nat) (σ : St) (this : Nat) (p0 : Int) : Int → Option (St × Int) := fixN N fun b18_3 t3 =>
 (if wr t3 < wr 31 then Option.bind (rcv shm σ 12 this (f_X12_fits N σ this p0 t3)) fun q5 =>
 (if wr q5.2 = 0 then some (σ, t3) else Lt (t3 + 1) fun x6 =>
 b18_3 x6) else some (σ, (-1)))
def rm_X12_breaks : Room := { frames := 2, cells := 0, slots := 0, locals := 46 }
def f_X12_breaks (N : Nat) (σ : St) (this : Nat) (p0 : Int) : Option (St × Int) :=
 Option.bind (rcv shm σ 12 this (f_X12_joins N σ this)) fun q1 =>
 Option.bind (f_X12_isIn N σ p0 0 (q1.2 - 1)) fun q2 =>
 (if wr q2.2 = 0 then some (σ, (-1)) else L_X12_breaks_18 N σ this p0 0)
set_option maxRecDepth 100000 in
set_option maxHeartbeats 4000000 in
theorem c_X12_breaks (l : Launch) (D : va_G) (ca : Nat → ClassId) (ra : Nat → Nat) (N : Nat) (σ : St) (this : Nat) (p0 : Int) : Ctr l (D, ca, ra, shm) false yX12_breaks cX12_breaks 3 (some .int) rm_X12_breaks σ [ar this, ai p0] (f_X12_breaks N σ this p0) := by
  refine ctr_of (by decide) (Nat.le_of_ble_eq_true rfl) (fun z C => ?_)
  show X z 0 0 σ 0 [(0, ar this), (1, ai p0)] [] _
  unfold f_X12_breaks
  refine x_iload_n C 1 (i := 1) (k0 := 1) rfl rfl (by decide +kernel) ?_
  refine x_iconst C (n := 0) (by decide +kernel) ?_
  refine x_aload_n C 0 (i := 0) (k0 := 0) rfl rfl (by decide +kernel) ?_
  refine x_callVp C (ci := 12) (c_X12_joins l D ca ra N σ this) (p_X12_joins N σ this) mt_X12_joins mv_X12_joins rfl ml_RX12_369 rfl (fun h => Bool.noConfusion h) ⟨Nat.le_of_ble_eq_true rfl, Nat.le_of_ble_eq_true rfl⟩ (Nat.le_of_ble_eq_true rfl) 0 0 ⟨rfl, rfl⟩ ⟨Nat.zero_le _, Nat.zero_le _⟩ (by decide +kernel) _ rfl (fun q1 => [ai q1.2, ai 0, ai p0]) (fun _ => rfl) (fun q1 => ?_)
  refine x_iconst C (n := 1) (by decide +kernel) ?_
  refine x_isub C (by decide +kernel) ?_
  refine x_callSp C (c_X12_isIn l D ca ra N σ p0 0 (q1.2 - 1)) (p_X12_isIn N σ p0 0 (q1.2 - 1)) mt_X12_isIn ms_X12_isIn ml_RX12_354 rfl (fun h => Bool.noConfusion h) ⟨Nat.le_of_ble_eq_true rfl, Nat.le_of_ble_eq_true rfl⟩ (Nat.le_of_ble_eq_true rfl) 0 0 ⟨rfl, rfl⟩ ⟨Nat.zero_le _, Nat.zero_le _⟩ (by decide +kernel) _ rfl (fun q2 => [ai q2.2]) (fun _ => rfl) (fun q2 => ?_)
  refine x_if_ne C (tgt := 16) (off := 5) (by decide) (by decide +kernel) (fun h9 => ?_) (fun h9 => ?_)
  · skip
    refine x_iconst C (n := 0) (by decide +kernel) ?_
    refine x_istore_n C (i := 2) (k0 := 2) rfl (Nat.le_of_ble_eq_true rfl) (by decide +kernel) (lv2 := [(2, ai 0), (0, ar this), (1, ai p0)]) rfl ?_
    refine x_sub [1, 2, 0] (lv2 := [(0, ar this), (1, ai p0), (2, ai 0)]) rfl ?_
    -- LOOP L_X12_breaks_18 hb18_3
    refine x_loop (T := Int) (fun t => σ) (fun t => [(0, ar this), (1, ai p0), (2, ai t)]) 0 rfl (fun b18_3 hb18_3 t3 => ?_)
    show X z 0 0 σ 18 [(0, ar this), (1, ai p0), (2, ai t3)] [] _
    refine x_iload_n C 2 (i := 2) (k0 := 2) rfl rfl (by decide +kernel) ?_
    refine x_bipush C (n := 31) (by decide +kernel) (by decide +kernel) ?_
    refine x_ic_ge C (tgt := 41) (off := 20) (by decide) (by decide +kernel) (fun h8 => ?_) (fun h8 => ?_)
    · skip
      refine x_iconst C (n := (-1)) (by decide +kernel) ?_
      exact x_iret C ⟨Nat.zero_le _, Nat.zero_le _⟩ (by decide +kernel)
    · skip
      refine x_aload_n C 0 (i := 0) (k0 := 0) rfl rfl (by decide +kernel) ?_
      refine x_iload_n C 1 (i := 1) (k0 := 1) rfl rfl (by decide +kernel) ?_
      refine x_iload_n C 2 (i := 2) (k0 := 2) rfl rfl (by decide +kernel) ?_
      refine x_callVp C (ci := 12) (c_X12_fits l D ca ra N σ this p0 t3) (p_X12_fits N σ this p0 t3) mt_X12_fits mv_X12_fits rfl ml_RX12_372 rfl (fun h => Bool.noConfusion h) ⟨Nat.le_of_ble_eq_true rfl, Nat.le_of_ble_eq_true rfl⟩ (Nat.le_of_ble_eq_true rfl) 0 0 ⟨rfl, rfl⟩ ⟨Nat.zero_le _, Nat.zero_le _⟩ (by decide +kernel) _ rfl (fun q5 => [ai q5.2]) (fun _ => rfl) (fun q5 => ?_)
      refine x_if_ne C (tgt := 35) (off := 5) (by decide) (by decide +kernel) (fun h7 => ?_) (fun h7 => ?_)
      · skip
        refine x_iinc C 2 (i := 2) (n := 1) (Nat.le_of_ble_eq_true rfl) rfl (by decide +kernel) (lv2 := fun x6 => [(2, ai x6), (0, ar this), (1, ai p0)]) (fun _ => rfl) (fun x6 => ?_)
        refine x_goto C (tgt := 18) (off := (-20)) (by decide) (by decide +kernel) ?_
        refine x_sub [1, 2, 0] (lv2 := [(0, ar this), (1, ai p0), (2, ai x6)]) rfl ?_
        exact hb18_3 x6
      · skip
        refine x_iload_n C 2 (i := 2) (k0 := 2) rfl rfl (by decide +kernel) ?_
        exact x_iret C ⟨Nat.zero_le _, Nat.zero_le _⟩ (by decide +kernel)
  · skip
    refine x_iconst C (n := (-1)) (by decide +kernel) ?_
    exact x_iret C ⟨Nat.zero_le _, Nat.zero_le _⟩ (by decide +kernel)
theorem p_X12_breaks (N : Nat) (σ : St) (this : Nat) (p0 : Int) : Pu σ (f_X12_breaks N σ this p0) := by
  unfold f_X12_breaks
  refine pu_bind (fun _ => ?_)
  refine pu_bind (fun _ => ?_)
  refine pu_ifs ?_ ?_
  · skip
    unfold L_X12_breaks_18
    refine pu_fix (fun _ hb18_3 _ => ?_) _
    refine pu_ifs ?_ ?_
    · skip
      exact pu_some
    · skip
      refine pu_bind (fun _ => ?_)
      refine pu_ifs ?_ ?_
      · skip
        refine pu_Lt (fun _ => ?_)
        exact hb18_3 _
      · skip
        exact pu_some
  · skip
    exact pu_some

def L_X12_fitsWith_5 (N : Nat) (σ : St) (this : Nat) (p0 : Int) (p1 : Int) : (Int × Int) → Option (St × Int) := fixN N fun b5_1 t1 =>
 Option.bind (rcv shm σ 12 this (f_X12_joins N σ this)) fun q3 =>
 (if wr t1.2 < wr q3.2 then Option.bind (gR shm σ 12 this 20) fun jA_4 =>
 Option.bind (gI shm σ 12 this 31) fun bank_5 =>
 Option.bind (aI shm σ 1 jA_4 ((16 * bank_5) + t1.2)) fun a6 =>
 Option.bind (gR shm σ 12 this 21) fun jB_7 =>
 Option.bind (gI shm σ 12 this 31) fun bank_8 =>
 Option.bind (aI shm σ 1 jB_7 ((16 * bank_8) + t1.2)) fun a9 =>
 Jn (fun t10 : Int => Jn (fun t11 : Int => Option.bind (rcv shm σ 12 this (f_X12_fitsBy N σ this t1.2 t10 t11)) fun q12 =>
 Jn (fun t13 : Int => Lt (t1.1 + t13) fun x14 =>
 Lt (t1.2 + 1) fun x15 =>
 b5_1 (x14, x15)) fun J97_15 =>
 (if wr q12.2 = 0 then J97_15 0 else J97_15 1)) fun J86_17 =>
 (if wr a9 = wr p0 then J86_17 p1 else Option.bind (rcv shm σ 12 this (f_X12_mmOf N σ this a9 0)) fun q19 =>
 J86_17 q19.2)) fun J69_20 =>
 (if wr a6 = wr p0 then J69_20 p1 else Option.bind (rcv shm σ 12 this (f_X12_mmOf N σ this a6 0)) fun q22 =>
 J69_20 q22.2) else some (σ, t1.1))
def rm_X12_fitsWith : Room := { frames := 1, cells := 0, slots := 0, locals := 24 }
def f_X12_fitsWith (N : Nat) (σ : St) (this : Nat) (p0 : Int) (p1 : Int) : Option (St × Int) :=
 L_X12_fitsWith_5 N σ this p0 p1 (0, 0)
set_option maxRecDepth 100000 in
set_option maxHeartbeats 4000000 in
theorem c_X12_fitsWith (l : Launch) (D : va_G) (ca : Nat → ClassId) (ra : Nat → Nat) (N : Nat) (σ : St) (this : Nat) (p0 : Int) (p1 : Int) : Ctr l (D, ca, ra, shm) false yX12_fitsWith cX12_fitsWith 7 (some .int) rm_X12_fitsWith σ [ar this, ai p0, ai p1] (f_X12_fitsWith N σ this p0 p1) := by
  refine ctr_of (by decide) (Nat.le_of_ble_eq_true rfl) (fun z C => ?_)
  show X z 0 0 σ 0 [(0, ar this), (1, ai p0), (2, ai p1)] [] _
  unfold f_X12_fitsWith
  refine x_iconst C (n := 0) (by decide +kernel) ?_
  refine x_istore_n C (i := 3) (k0 := 3) rfl (Nat.le_of_ble_eq_true rfl) (by decide +kernel) (lv2 := [(3, ai 0), (0, ar this), (1, ai p0), (2, ai p1)]) rfl ?_
  refine x_iconst C (n := 0) (by decide +kernel) ?_
  refine x_istore C (i := 4) (Nat.le_of_ble_eq_true rfl) (by decide +kernel) (lv2 := [(4, ai 0), (3, ai 0), (0, ar this), (1, ai p0), (2, ai p1)]) rfl ?_
  refine x_sub [2, 3, 4, 1, 0] (lv2 := [(0, ar this), (1, ai p0), (2, ai p1), (3, ai 0), (4, ai 0)]) rfl ?_
  -- LOOP L_X12_fitsWith_5 hb5_1
  refine x_loop (T := Int × Int) (fun t => σ) (fun t => [(0, ar this), (1, ai p0), (2, ai p1), (3, ai t.1), (4, ai t.2)]) (0, 0) rfl (fun b5_1 hb5_1 t1 => ?_)
  show X z 0 0 σ 5 [(0, ar this), (1, ai p0), (2, ai p1), (3, ai t1.1), (4, ai t1.2)] [] _
  refine x_iload C 4 (i := 4) rfl (by decide +kernel) ?_
  refine x_aload_n C 0 (i := 0) (k0 := 0) rfl rfl (by decide +kernel) ?_
  refine x_callVp C (ci := 12) (c_X12_joins l D ca ra N σ this) (p_X12_joins N σ this) mt_X12_joins mv_X12_joins rfl ml_RX12_369 rfl (fun h => Bool.noConfusion h) ⟨Nat.le_of_ble_eq_true rfl, Nat.le_of_ble_eq_true rfl⟩ (Nat.le_of_ble_eq_true rfl) 0 0 ⟨rfl, rfl⟩ ⟨Nat.zero_le _, Nat.zero_le _⟩ (by decide +kernel) _ rfl (fun q3 => [ai q3.2, ai t1.2]) (fun _ => rfl) (fun q3 => ?_)
  refine x_ic_ge C (tgt := 105) (off := 94) (by decide) (by decide +kernel) (fun h24 => ?_) (fun h24 => ?_)
  · skip
    refine x_iload_n C 3 (i := 3) (k0 := 3) rfl rfl (by decide +kernel) ?_
    exact x_iret C ⟨Nat.zero_le _, Nat.zero_le _⟩ (by decide +kernel)
  · skip
    refine x_aload_n C 0 (i := 0) (k0 := 0) rfl rfl (by decide +kernel) ?_
    refine x_gR C fl_RX12_48 (fun _ _ _ => rfl) (by decide +kernel) (fun jA_4 => ?_)
    refine x_bipush C (n := 16) (by decide +kernel) (by decide +kernel) ?_
    refine x_aload_n C 0 (i := 0) (k0 := 0) rfl rfl (by decide +kernel) ?_
    refine x_gI C fl_RX12_300 (fun _ _ _ => rfl) (by decide +kernel) (fun bank_5 => ?_)
    refine x_imul C (by decide +kernel) ?_
    refine x_iload C 4 (i := 4) rfl (by decide +kernel) ?_
    refine x_iadd C (by decide +kernel) ?_
    show X z 0 0 σ 28 [(0, ar this), (1, ai p0), (2, ai p1), (3, ai t1.1), (4, ai t1.2)] [ai ((16 * bank_5) + t1.2), ar jA_4] _
    refine x_aldI C (by decide +kernel) (fun a6 => ?_)
    refine x_istore C (i := 5) (Nat.le_of_ble_eq_true rfl) (by decide +kernel) (lv2 := [(5, ai a6), (0, ar this), (1, ai p0), (2, ai p1), (3, ai t1.1), (4, ai t1.2)]) rfl ?_
    refine x_aload_n C 1 (i := 0) (k0 := 0) rfl rfl (by decide +kernel) ?_
    refine x_gR C fl_RX12_51 (fun _ _ _ => rfl) (by decide +kernel) (fun jB_7 => ?_)
    refine x_bipush C (n := 16) (by decide +kernel) (by decide +kernel) ?_
    refine x_aload_n C 1 (i := 0) (k0 := 0) rfl rfl (by decide +kernel) ?_
    refine x_gI C fl_RX12_300 (fun _ _ _ => rfl) (by decide +kernel) (fun bank_8 => ?_)
    refine x_imul C (by decide +kernel) ?_
    show X z 0 0 σ 42 [(5, ai a6), (0, ar this), (1, ai p0), (2, ai p1), (3, ai t1.1), (4, ai t1.2)] [ai (16 * bank_8), ar jB_7] _
    refine x_iload C 5 (i := 4) rfl (by decide +kernel) ?_
    refine x_iadd C (by decide +kernel) ?_
    refine x_aldI C (by decide +kernel) (fun a9 => ?_)
    refine x_istore C (i := 6) (Nat.le_of_ble_eq_true rfl) (by decide +kernel) (lv2 := [(6, ai a9), (5, ai a6), (0, ar this), (1, ai p0), (2, ai p1), (3, ai t1.1), (4, ai t1.2)]) rfl ?_
    refine x_iload_n C 5 (i := 3) (k0 := 3) rfl rfl (by decide +kernel) ?_
    refine x_aload_n C 2 (i := 0) (k0 := 0) rfl rfl (by decide +kernel) ?_
    refine x_iload C 6 (i := 4) rfl (by decide +kernel) ?_
    refine x_iload C 1 (i := 5) rfl (by decide +kernel) ?_
    show X z 0 0 σ 54 [(6, ai a9), (5, ai a6), (0, ar this), (1, ai p0), (2, ai p1), (3, ai t1.1), (4, ai t1.2)] [ai a6, ai t1.2, ar this, ai t1.1] _
    refine x_iload_n C 3 (i := 1) (k0 := 1) rfl rfl (by decide +kernel) ?_
    refine x_join (T := Int) (fun t => σ) 69 (fun t => [(0, ar this), (1, ai p0), (2, ai p1), (4, ai t1.2), (6, ai a9)]) (fun t => [ai t, ai t1.2, ar this, ai t1.1]) (fun t10 => ?_) (fun J69_20 hJ69_20 => ?_)
    · show X z 0 0 σ 69 [(0, ar this), (1, ai p0), (2, ai p1), (4, ai t1.2), (6, ai a9)] [ai t10, ai t1.2, ar this, ai t1.1] _
      refine x_iload C 4 (i := 6) rfl (by decide +kernel) ?_
      refine x_iload_n C 1 (i := 1) (k0 := 1) rfl rfl (by decide +kernel) ?_
      refine x_join (T := Int) (fun t => σ) 86 (fun t => [(0, ar this), (1, ai p0), (2, ai p1), (4, ai t1.2)]) (fun t => [ai t, ai t10, ai t1.2, ar this, ai t1.1]) (fun t11 => ?_) (fun J86_17 hJ86_17 => ?_)
      · show X z 0 0 σ 86 [(0, ar this), (1, ai p0), (2, ai p1), (4, ai t1.2)] [ai t11, ai t10, ai t1.2, ar this, ai t1.1] _
        refine x_callVp C (ci := 12) (c_X12_fitsBy l D ca ra N σ this t1.2 t10 t11) (p_X12_fitsBy N σ this t1.2 t10 t11) mt_X12_fitsBy mv_X12_fitsBy rfl ml_RX12_366 rfl (fun h => Bool.noConfusion h) ⟨Nat.le_of_ble_eq_true rfl, Nat.le_of_ble_eq_true rfl⟩ (Nat.le_of_ble_eq_true rfl) 0 0 ⟨rfl, rfl⟩ ⟨Nat.zero_le _, Nat.zero_le _⟩ (by decide +kernel) _ rfl (fun q12 => [ai q12.2, ai t1.1]) (fun _ => rfl) (fun q12 => ?_)
        refine x_join (T := Int) (fun t => σ) 97 (fun t => [(0, ar this), (1, ai p0), (2, ai p1), (4, ai t1.2)]) (fun t => [ai t, ai t1.1]) (fun t13 => ?_) (fun J97_15 hJ97_15 => ?_)
        · show X z 0 0 σ 97 [(0, ar this), (1, ai p0), (2, ai p1), (4, ai t1.2)] [ai t13, ai t1.1] _
          refine x_iadd C (by decide +kernel) ?_
          refine x_istore_nL C (i := 3) (k0 := 3) rfl (Nat.le_of_ble_eq_true rfl) (by decide +kernel) (lv2 := fun x14 => [(3, ai x14), (0, ar this), (1, ai p0), (2, ai p1), (4, ai t1.2)]) (fun _ => rfl) (fun x14 => ?_)
          refine x_iinc C 4 (i := 4) (n := 1) (Nat.le_of_ble_eq_true rfl) rfl (by decide +kernel) (lv2 := fun x15 => [(4, ai x15), (3, ai x14), (0, ar this), (1, ai p0), (2, ai p1)]) (fun _ => rfl) (fun x15 => ?_)
          refine x_goto C (tgt := 5) (off := (-97)) (by decide) (by decide +kernel) ?_
          refine x_sub [2, 3, 4, 1, 0] (lv2 := [(0, ar this), (1, ai p0), (2, ai p1), (3, ai x14), (4, ai x15)]) rfl ?_
          exact hb5_1 (x14, x15)
        · skip
          refine x_if_eq C (tgt := 96) (off := 7) (by decide) (by decide +kernel) (fun h17 => ?_) (fun h17 => ?_)
          · skip
            refine x_iconst C (n := 0) (by decide +kernel) ?_
            exact hJ97_15 0
          · skip
            refine x_iconst C (n := 1) (by decide +kernel) ?_
            refine x_goto C (tgt := 97) (off := 4) (by decide) (by decide +kernel) ?_
            exact hJ97_15 1
      · skip
        refine x_ic_ne C (tgt := 79) (off := 7) (by decide) (by decide +kernel) (fun h20 => ?_) (fun h20 => ?_)
        · skip
          refine x_aload_n C 0 (i := 0) (k0 := 0) rfl rfl (by decide +kernel) ?_
          refine x_iload C 4 (i := 6) rfl (by decide +kernel) ?_
          refine x_iconst C (n := 0) (by decide +kernel) ?_
          refine x_callVp C (ci := 12) (c_X12_mmOf l D ca ra N σ this a9 0) (p_X12_mmOf N σ this a9 0) mt_X12_mmOf mv_X12_mmOf rfl ml_RX12_363 rfl (fun h => Bool.noConfusion h) ⟨Nat.le_of_ble_eq_true rfl, Nat.le_of_ble_eq_true rfl⟩ (Nat.le_of_ble_eq_true rfl) 0 0 ⟨rfl, rfl⟩ ⟨Nat.zero_le _, Nat.zero_le _⟩ (by decide +kernel) _ rfl (fun q19 => [ai q19.2, ai t10, ai t1.2, ar this, ai t1.1]) (fun _ => rfl) (fun q19 => ?_)
          refine x_sub [0, 1, 2, 3] (lv2 := [(0, ar this), (1, ai p0), (2, ai p1), (4, ai t1.2)]) rfl ?_
          exact hJ86_17 q19.2
        · skip
          refine x_iload_n C 2 (i := 2) (k0 := 2) rfl rfl (by decide +kernel) ?_
          refine x_goto C (tgt := 86) (off := 10) (by decide) (by decide +kernel) ?_
          refine x_sub [0, 1, 2, 3] (lv2 := [(0, ar this), (1, ai p0), (2, ai p1), (4, ai t1.2)]) rfl ?_
          exact hJ86_17 p1
    · skip
      refine x_ic_ne C (tgt := 62) (off := 7) (by decide) (by decide +kernel) (fun h23 => ?_) (fun h23 => ?_)
      · skip
        refine x_aload_n C 2 (i := 0) (k0 := 0) rfl rfl (by decide +kernel) ?_
        refine x_iload C 1 (i := 5) rfl (by decide +kernel) ?_
        refine x_iconst C (n := 0) (by decide +kernel) ?_
        refine x_callVp C (ci := 12) (c_X12_mmOf l D ca ra N σ this a6 0) (p_X12_mmOf N σ this a6 0) mt_X12_mmOf mv_X12_mmOf rfl ml_RX12_363 rfl (fun h => Bool.noConfusion h) ⟨Nat.le_of_ble_eq_true rfl, Nat.le_of_ble_eq_true rfl⟩ (Nat.le_of_ble_eq_true rfl) 0 0 ⟨rfl, rfl⟩ ⟨Nat.zero_le _, Nat.zero_le _⟩ (by decide +kernel) _ rfl (fun q22 => [ai q22.2, ai t1.2, ar this, ai t1.1]) (fun _ => rfl) (fun q22 => ?_)
        refine x_sub [2, 3, 4, 6, 0] (lv2 := [(0, ar this), (1, ai p0), (2, ai p1), (4, ai t1.2), (6, ai a9)]) rfl ?_
        exact hJ69_20 q22.2
      · skip
        refine x_iload_n C 4 (i := 2) (k0 := 2) rfl rfl (by decide +kernel) ?_
        refine x_goto C (tgt := 69) (off := 10) (by decide) (by decide +kernel) ?_
        refine x_sub [2, 3, 4, 6, 0] (lv2 := [(0, ar this), (1, ai p0), (2, ai p1), (4, ai t1.2), (6, ai a9)]) rfl ?_
        exact hJ69_20 p1
theorem p_X12_fitsWith (N : Nat) (σ : St) (this : Nat) (p0 : Int) (p1 : Int) : Pu σ (f_X12_fitsWith N σ this p0 p1) := by
  unfold f_X12_fitsWith
  unfold L_X12_fitsWith_5
  refine pu_fix (fun _ hb5_1 _ => ?_) _
  refine pu_bind (fun _ => ?_)
  refine pu_ifs ?_ ?_
  · skip
    exact pu_some
  · skip
    refine pu_bind (fun _ => ?_)
    refine pu_bind (fun _ => ?_)
    refine pu_bind (fun _ => ?_)
    refine pu_bind (fun _ => ?_)
    refine pu_bind (fun _ => ?_)
    refine pu_bind (fun _ => ?_)
    refine pu_Jn (fun _ => ?_) (fun _ hJ69_20 => ?_)
    · skip
      refine pu_Jn (fun _ => ?_) (fun _ hJ86_17 => ?_)
      · skip
        refine pu_bind (fun _ => ?_)
        refine pu_Jn (fun _ => ?_) (fun _ hJ97_15 => ?_)
        · skip
          refine pu_Lt (fun _ => ?_)
          refine pu_Lt (fun _ => ?_)
          exact hb5_1 _
        · skip
          refine pu_if ?_ ?_
          · skip
            exact hJ97_15 _
          · skip
            exact hJ97_15 _
      · skip
        refine pu_ifs ?_ ?_
        · skip
          refine pu_bind (fun _ => ?_)
          exact hJ86_17 _
        · skip
          exact hJ86_17 _
    · skip
      refine pu_ifs ?_ ?_
      · skip
        refine pu_bind (fun _ => ?_)
        exact hJ69_20 _
      · skip
        exact hJ69_20 _

def L_X12_seekMend_42 (N : Nat) (this : Nat) (t5 : St × Int × Int) (q8 : (St × Int)) (J138_10 : (St × Int → Option (St × Int))) : (St × Int × Int) → Option (St × Int) := fixN N fun b42_12 t12 =>
 (if wr 30000 < wr t12.2.2 then J138_10 (t12.1, t12.2.1) else Option.bind (rcv shm t12.1 12 this (f_X12_fitsWith N t12.1 this t5.2.2 t12.2.2)) fun q14 =>
 Jn (fun t15 : Int => Option.bind (gI shm t12.1 12 this 35) fun mendFits_16 =>
 Jn (fun t17 : St × Int => Lt (t12.2.2 + 1) fun x18 =>
 b42_12 (t17.1, t17.2, x18)) fun J132_18 =>
 (if wr q14.2 < wr mendFits_16 then J132_18 (t12.1, t12.2.1) else Option.bind (gI shm t12.1 12 this 35) fun mendFits_20 =>
 Jn (fun t21 : Unit => Option.bind (pI shm t12.1 12 this 33 t5.2.2) fun σ22 =>
 Option.bind (pI shm σ22 12 this 34 t12.2.2) fun σ23 =>
 Option.bind (pI shm σ23 12 this 35 q14.2) fun σ24 =>
 J132_18 (σ24, t15)) fun J112_24 =>
 (if wr q14.2 = wr mendFits_20 then Option.bind (gI shm t12.1 12 this 33) fun mendPart_26 =>
 (if wr mendPart_26 < 0 then J132_18 (t12.1, t12.2.1) else (if wr t15 < wr t12.2.1 then J112_24 () else J132_18 (t12.1, t12.2.1))) else J112_24 ()))) fun J76_30 =>
 (if wr t12.2.2 < wr q8.2 then J76_30 (q8.2 - t12.2.2) else J76_30 (t12.2.2 - q8.2)))
def L_X12_seekMend_24 (N : Nat) (this : Nat) : (St × Int × Int) → Option (St × Int) := fixN N fun b24_5 t5 =>
 Option.bind (rcv shm t5.1 12 this (f_X12_parts N t5.1 this)) fun q7 =>
 (if wr t5.2.2 < wr q7.2 then Option.bind (rcv shm t5.1 12 this (f_X12_mmOf N t5.1 this t5.2.2 0)) fun q8 =>
 Jn (fun t9 : St × Int => Lt (t5.2.2 + 1) fun x10 =>
 b24_5 (t9.1, t9.2, x10)) fun J138_10 =>
 L_X12_seekMend_42 N this t5 q8 J138_10 (t5.1, t5.2.1, 1) else some (t5.1, 0))
def rm_X12_seekMend : Room := { frames := 2, cells := 0, slots := 0, locals := 50 }
def f_X12_seekMend (N : Nat) (σ : St) (this : Nat) : Option (St × Int) :=
 Option.bind (pI shm σ 12 this 33 (-1)) fun σ1 =>
 Option.bind (pI shm σ1 12 this 34 (-1)) fun σ2 =>
 Option.bind (rcv shm σ2 12 this (f_X12_fitsWith N σ2 this (-1) 0)) fun q3 =>
 Option.bind (pI shm σ2 12 this 35 q3.2) fun σ4 =>
 L_X12_seekMend_24 N this (σ4, 0, 0)
set_option maxRecDepth 100000 in
set_option maxHeartbeats 4000000 in
theorem c_X12_seekMend (l : Launch) (D : va_G) (ca : Nat → ClassId) (ra : Nat → Nat) (N : Nat) (σ : St) (this : Nat) : Ctr l (D, ca, ra, shm) false yX12_seekMend cX12_seekMend 7 none rm_X12_seekMend σ [ar this] (f_X12_seekMend N σ this) := by
  refine ctr_of (by decide) (Nat.le_of_ble_eq_true rfl) (fun z C => ?_)
  show X z 0 0 σ 0 [(0, ar this)] [] _
  unfold f_X12_seekMend
  refine x_aload_n C 0 (i := 0) (k0 := 0) rfl rfl (by decide +kernel) ?_
  refine x_iconst C (n := (-1)) (by decide +kernel) ?_
  refine x_pI C fl_RX12_376 rfl (fun q h => by cases h; rfl) (by decide +kernel) (fun σ1 => ?_)
  refine x_aload_n C 0 (i := 0) (k0 := 0) rfl rfl (by decide +kernel) ?_
  refine x_iconst C (n := (-1)) (by decide +kernel) ?_
  refine x_pI C fl_RX12_379 rfl (fun q h => by cases h; rfl) (by decide +kernel) (fun σ2 => ?_)
  refine x_aload_n C 0 (i := 0) (k0 := 0) rfl rfl (by decide +kernel) ?_
  refine x_aload_n C 0 (i := 0) (k0 := 0) rfl rfl (by decide +kernel) ?_
  show X z 0 0 σ2 12 [(0, ar this)] [ar this, ar this] _
  refine x_iconst C (n := (-1)) (by decide +kernel) ?_
  refine x_iconst C (n := 0) (by decide +kernel) ?_
  refine x_callVp C (ci := 12) (c_X12_fitsWith l D ca ra N σ2 this (-1) 0) (p_X12_fitsWith N σ2 this (-1) 0) mt_X12_fitsWith mv_X12_fitsWith rfl ml_RX12_382 rfl (fun h => Bool.noConfusion h) ⟨Nat.le_of_ble_eq_true rfl, Nat.le_of_ble_eq_true rfl⟩ (Nat.le_of_ble_eq_true rfl) 0 0 ⟨rfl, rfl⟩ ⟨Nat.zero_le _, Nat.zero_le _⟩ (by decide +kernel) _ rfl (fun q3 => [ai q3.2, ar this]) (fun _ => rfl) (fun q3 => ?_)
  refine x_pI C fl_RX12_385 rfl (fun q h => by cases h; rfl) (by decide +kernel) (fun σ4 => ?_)
  refine x_iconst C (n := 0) (by decide +kernel) ?_
  refine x_istore_n C (i := 1) (k0 := 1) rfl (Nat.le_of_ble_eq_true rfl) (by decide +kernel) (lv2 := [(1, ai 0), (0, ar this)]) rfl ?_
  refine x_iconst C (n := 0) (by decide +kernel) ?_
  refine x_istore_n C (i := 2) (k0 := 2) rfl (Nat.le_of_ble_eq_true rfl) (by decide +kernel) (lv2 := [(2, ai 0), (1, ai 0), (0, ar this)]) rfl ?_
  show X z 0 0 σ4 24 [(2, ai 0), (1, ai 0), (0, ar this)] [] _
  refine x_sub [2, 1, 0] (lv2 := [(0, ar this), (1, ai 0), (2, ai 0)]) rfl ?_
  -- LOOP L_X12_seekMend_24 hb24_5
  refine x_loop (T := St × Int × Int) (fun t => t.1) (fun t => [(0, ar this), (1, ai t.2.1), (2, ai t.2.2)]) (σ4, 0, 0) rfl (fun b24_5 hb24_5 t5 => ?_)
  show X z 0 0 t5.1 24 [(0, ar this), (1, ai t5.2.1), (2, ai t5.2.2)] [] _
  refine x_iload_n C 2 (i := 2) (k0 := 2) rfl rfl (by decide +kernel) ?_
  refine x_aload_n C 0 (i := 0) (k0 := 0) rfl rfl (by decide +kernel) ?_
  refine x_callVp C (ci := 12) (c_X12_parts l D ca ra N t5.1 this) (p_X12_parts N t5.1 this) mt_X12_parts mv_X12_parts rfl ml_RX12_350 rfl (fun h => Bool.noConfusion h) ⟨Nat.le_of_ble_eq_true rfl, Nat.le_of_ble_eq_true rfl⟩ (Nat.le_of_ble_eq_true rfl) 0 0 ⟨rfl, rfl⟩ ⟨Nat.zero_le _, Nat.zero_le _⟩ (by decide +kernel) _ rfl (fun q7 => [ai q7.2, ai t5.2.2]) (fun _ => rfl) (fun q7 => ?_)
  refine x_ic_ge C (tgt := 144) (off := 115) (by decide) (by decide +kernel) (fun h34 => ?_) (fun h34 => ?_)
  · skip
    exact x_vret C ⟨Nat.zero_le _, Nat.zero_le _⟩ (by decide +kernel)
  · skip
    refine x_aload_n C 0 (i := 0) (k0 := 0) rfl rfl (by decide +kernel) ?_
    refine x_iload_n C 2 (i := 2) (k0 := 2) rfl rfl (by decide +kernel) ?_
    refine x_iconst C (n := 0) (by decide +kernel) ?_
    refine x_callVp C (ci := 12) (c_X12_mmOf l D ca ra N t5.1 this t5.2.2 0) (p_X12_mmOf N t5.1 this t5.2.2 0) mt_X12_mmOf mv_X12_mmOf rfl ml_RX12_363 rfl (fun h => Bool.noConfusion h) ⟨Nat.le_of_ble_eq_true rfl, Nat.le_of_ble_eq_true rfl⟩ (Nat.le_of_ble_eq_true rfl) 0 0 ⟨rfl, rfl⟩ ⟨Nat.zero_le _, Nat.zero_le _⟩ (by decide +kernel) _ rfl (fun q8 => [ai q8.2]) (fun _ => rfl) (fun q8 => ?_)
    refine x_istore_n C (i := 3) (k0 := 3) rfl (Nat.le_of_ble_eq_true rfl) (by decide +kernel) (lv2 := [(3, ai q8.2), (0, ar this), (1, ai t5.2.1), (2, ai t5.2.2)]) rfl ?_
    refine x_iconst C (n := 1) (by decide +kernel) ?_
    refine x_istore C (i := 4) (Nat.le_of_ble_eq_true rfl) (by decide +kernel) (lv2 := [(4, ai 1), (3, ai q8.2), (0, ar this), (1, ai t5.2.1), (2, ai t5.2.2)]) rfl ?_
    refine x_join (T := St × Int) (fun t => t.1) 138 (fun t => [(0, ar this), (1, ai t.2), (2, ai t5.2.2)]) (fun t => []) (fun t9 => ?_) (fun J138_10 hJ138_10 => ?_)
    · show X z 0 0 t9.1 138 [(0, ar this), (1, ai t9.2), (2, ai t5.2.2)] [] _
      refine x_iinc C 2 (i := 2) (n := 1) (Nat.le_of_ble_eq_true rfl) rfl (by decide +kernel) (lv2 := fun x10 => [(2, ai x10), (0, ar this), (1, ai t9.2)]) (fun _ => rfl) (fun x10 => ?_)
      refine x_goto C (tgt := 24) (off := (-117)) (by decide) (by decide +kernel) ?_
      refine x_sub [1, 2, 0] (lv2 := [(0, ar this), (1, ai t9.2), (2, ai x10)]) rfl ?_
      exact hb24_5 (t9.1, t9.2, x10)
    · skip
      refine x_sub [2, 3, 4, 1, 0] (lv2 := [(0, ar this), (1, ai t5.2.1), (2, ai t5.2.2), (3, ai q8.2), (4, ai 1)]) rfl ?_
      -- LOOP L_X12_seekMend_42 hb42_12
      refine x_loop (T := St × Int × Int) (fun t => t.1) (fun t => [(0, ar this), (1, ai t.2.1), (2, ai t5.2.2), (3, ai q8.2), (4, ai t.2.2)]) (t5.1, t5.2.1, 1) rfl (fun b42_12 hb42_12 t12 => ?_)
      show X z 0 0 t12.1 42 [(0, ar this), (1, ai t12.2.1), (2, ai t5.2.2), (3, ai q8.2), (4, ai t12.2.2)] [] _
      refine x_iload C 4 (i := 4) rfl (by decide +kernel) ?_
      refine x_sipush C (n := 30000) (by decide +kernel) (by decide +kernel) ?_
      refine x_ic_gt C (tgt := 138) (off := 91) (by decide) (by decide +kernel) (fun h33 => ?_) (fun h33 => ?_)
      · skip
        refine x_sub [0, 1, 2] (lv2 := [(0, ar this), (1, ai t12.2.1), (2, ai t5.2.2)]) rfl ?_
        exact hJ138_10 (t12.1, t12.2.1)
      · skip
        refine x_aload_n C 0 (i := 0) (k0 := 0) rfl rfl (by decide +kernel) ?_
        refine x_iload_n C 2 (i := 2) (k0 := 2) rfl rfl (by decide +kernel) ?_
        refine x_iload C 4 (i := 4) rfl (by decide +kernel) ?_
        refine x_callVp C (ci := 12) (c_X12_fitsWith l D ca ra N t12.1 this t5.2.2 t12.2.2) (p_X12_fitsWith N t12.1 this t5.2.2 t12.2.2) mt_X12_fitsWith mv_X12_fitsWith rfl ml_RX12_382 rfl (fun h => Bool.noConfusion h) ⟨Nat.le_of_ble_eq_true rfl, Nat.le_of_ble_eq_true rfl⟩ (Nat.le_of_ble_eq_true rfl) 0 0 ⟨rfl, rfl⟩ ⟨Nat.zero_le _, Nat.zero_le _⟩ (by decide +kernel) _ rfl (fun q14 => [ai q14.2]) (fun _ => rfl) (fun q14 => ?_)
        refine x_istore C (i := 5) (Nat.le_of_ble_eq_true rfl) (by decide +kernel) (lv2 := [(5, ai q14.2), (0, ar this), (1, ai t12.2.1), (2, ai t5.2.2), (3, ai q8.2), (4, ai t12.2.2)]) rfl ?_
        refine x_iload C 5 (i := 4) rfl (by decide +kernel) ?_
        refine x_iload_n C 4 (i := 3) (k0 := 3) rfl rfl (by decide +kernel) ?_
        refine x_join (T := Int) (fun t => t12.1) 76 (fun t => [(0, ar this), (1, ai t12.2.1), (2, ai t5.2.2), (3, ai q8.2), (4, ai t12.2.2), (5, ai q14.2)]) (fun t => [ai t]) (fun t15 => ?_) (fun J76_30 hJ76_30 => ?_)
        · show X z 0 0 t12.1 76 [(0, ar this), (1, ai t12.2.1), (2, ai t5.2.2), (3, ai q8.2), (4, ai t12.2.2), (5, ai q14.2)] [ai t15] _
          refine x_istore C (i := 6) (Nat.le_of_ble_eq_true rfl) (by decide +kernel) (lv2 := [(6, ai t15), (0, ar this), (1, ai t12.2.1), (2, ai t5.2.2), (3, ai q8.2), (4, ai t12.2.2), (5, ai q14.2)]) rfl ?_
          refine x_iload C 6 (i := 5) rfl (by decide +kernel) ?_
          refine x_aload_n C 1 (i := 0) (k0 := 0) rfl rfl (by decide +kernel) ?_
          refine x_gI C fl_RX12_385 (fun _ _ _ => rfl) (by decide +kernel) (fun mendFits_16 => ?_)
          refine x_join (T := St × Int) (fun t => t.1) 132 (fun t => [(0, ar this), (1, ai t.2), (2, ai t5.2.2), (3, ai q8.2), (4, ai t12.2.2)]) (fun t => []) (fun t17 => ?_) (fun J132_18 hJ132_18 => ?_)
          · show X z 0 0 t17.1 132 [(0, ar this), (1, ai t17.2), (2, ai t5.2.2), (3, ai q8.2), (4, ai t12.2.2)] [] _
            refine x_iinc C 4 (i := 4) (n := 1) (Nat.le_of_ble_eq_true rfl) rfl (by decide +kernel) (lv2 := fun x18 => [(4, ai x18), (0, ar this), (1, ai t17.2), (2, ai t5.2.2), (3, ai q8.2)]) (fun _ => rfl) (fun x18 => ?_)
            refine x_goto C (tgt := 42) (off := (-93)) (by decide) (by decide +kernel) ?_
            refine x_sub [1, 2, 3, 4, 0] (lv2 := [(0, ar this), (1, ai t17.2), (2, ai t5.2.2), (3, ai q8.2), (4, ai x18)]) rfl ?_
            exact hb42_12 (t17.1, t17.2, x18)
          · skip
            refine x_ic_lt C (tgt := 132) (off := 48) (by decide) (by decide +kernel) (fun h30 => ?_) (fun h30 => ?_)
            · skip
              refine x_sub [1, 2, 3, 4, 5] (lv2 := [(0, ar this), (1, ai t12.2.1), (2, ai t5.2.2), (3, ai q8.2), (4, ai t12.2.2)]) rfl ?_
              exact hJ132_18 (t12.1, t12.2.1)
            · skip
              refine x_iload C 6 (i := 5) rfl (by decide +kernel) ?_
              refine x_aload_n C 1 (i := 0) (k0 := 0) rfl rfl (by decide +kernel) ?_
              refine x_gI C fl_RX12_385 (fun _ _ _ => rfl) (by decide +kernel) (fun mendFits_20 => ?_)
              refine x_join (T := Unit) (fun t => t12.1) 112 (fun t => [(0, ar this), (2, ai t5.2.2), (3, ai q8.2), (4, ai t12.2.2), (5, ai q14.2), (6, ai t15)]) (fun t => []) (fun t21 => ?_) (fun J112_24 hJ112_24 => ?_)
              · show X z 0 0 t12.1 112 [(0, ar this), (2, ai t5.2.2), (3, ai q8.2), (4, ai t12.2.2), (5, ai q14.2), (6, ai t15)] [] _
                refine x_aload_n C 0 (i := 0) (k0 := 0) rfl rfl (by decide +kernel) ?_
                refine x_iload_n C 1 (i := 2) (k0 := 2) rfl rfl (by decide +kernel) ?_
                refine x_pI C fl_RX12_376 rfl (fun q h => by cases h; rfl) (by decide +kernel) (fun σ22 => ?_)
                refine x_aload_n C 0 (i := 0) (k0 := 0) rfl rfl (by decide +kernel) ?_
                refine x_iload C 3 (i := 4) rfl (by decide +kernel) ?_
                refine x_pI C fl_RX12_379 rfl (fun q h => by cases h; rfl) (by decide +kernel) (fun σ23 => ?_)
                refine x_aload_n C 0 (i := 0) (k0 := 0) rfl rfl (by decide +kernel) ?_
                refine x_iload C 4 (i := 5) rfl (by decide +kernel) ?_
                show X z 0 0 σ23 126 [(0, ar this), (2, ai t5.2.2), (3, ai q8.2), (4, ai t12.2.2), (5, ai q14.2), (6, ai t15)] [ai q14.2, ar this] _
                refine x_pI C fl_RX12_385 rfl (fun q h => by cases h; rfl) (by decide +kernel) (fun σ24 => ?_)
                refine x_iload C 5 (i := 6) rfl (by decide +kernel) ?_
                refine x_istore_n C (i := 1) (k0 := 1) rfl (Nat.le_of_ble_eq_true rfl) (by decide +kernel) (lv2 := [(1, ai t15), (0, ar this), (2, ai t5.2.2), (3, ai q8.2), (4, ai t12.2.2), (5, ai q14.2), (6, ai t15)]) rfl ?_
                refine x_sub [1, 0, 2, 3, 4] (lv2 := [(0, ar this), (1, ai t15), (2, ai t5.2.2), (3, ai q8.2), (4, ai t12.2.2)]) rfl ?_
                exact hJ132_18 (σ24, t15)
              · skip
                refine x_ic_ne C (tgt := 112) (off := 19) (by decide) (by decide +kernel) (fun h29 => ?_) (fun h29 => ?_)
                · skip
                  refine x_sub [1, 3, 4, 5, 6, 0] (lv2 := [(0, ar this), (2, ai t5.2.2), (3, ai q8.2), (4, ai t12.2.2), (5, ai q14.2), (6, ai t15)]) rfl ?_
                  exact hJ112_24 ()
                · skip
                  refine x_aload_n C 1 (i := 0) (k0 := 0) rfl rfl (by decide +kernel) ?_
                  refine x_gI C fl_RX12_376 (fun _ _ _ => rfl) (by decide +kernel) (fun mendPart_26 => ?_)
                  refine x_if_lt C (tgt := 132) (off := 32) (by decide) (by decide +kernel) (fun h28 => ?_) (fun h28 => ?_)
                  · skip
                    refine x_sub [1, 2, 3, 4, 5] (lv2 := [(0, ar this), (1, ai t12.2.1), (2, ai t5.2.2), (3, ai q8.2), (4, ai t12.2.2)]) rfl ?_
                    exact hJ132_18 (t12.1, t12.2.1)
                  · skip
                    refine x_iload C 0 (i := 6) rfl (by decide +kernel) ?_
                    refine x_iload_n C 2 (i := 1) (k0 := 1) rfl rfl (by decide +kernel) ?_
                    refine x_ic_lt C (tgt := 112) (off := 6) (by decide) (by decide +kernel) (fun h27 => ?_) (fun h27 => ?_)
                    · skip
                      refine x_sub [1, 3, 4, 5, 6, 0] (lv2 := [(0, ar this), (2, ai t5.2.2), (3, ai q8.2), (4, ai t12.2.2), (5, ai q14.2), (6, ai t15)]) rfl ?_
                      exact hJ112_24 ()
                    · skip
                      refine x_goto C (tgt := 132) (off := 23) (by decide) (by decide +kernel) ?_
                      refine x_sub [1, 2, 3, 4, 5] (lv2 := [(0, ar this), (1, ai t12.2.1), (2, ai t5.2.2), (3, ai q8.2), (4, ai t12.2.2)]) rfl ?_
                      exact hJ132_18 (t12.1, t12.2.1)
        · skip
          refine x_ic_ge C (tgt := 72) (off := 10) (by decide) (by decide +kernel) (fun h32 => ?_) (fun h32 => ?_)
          · skip
            refine x_iload C 5 (i := 4) rfl (by decide +kernel) ?_
            refine x_iload_n C 4 (i := 3) (k0 := 3) rfl rfl (by decide +kernel) ?_
            refine x_isub C (by decide +kernel) ?_
            refine x_sub [1, 2, 3, 4, 5, 0] (lv2 := [(0, ar this), (1, ai t12.2.1), (2, ai t5.2.2), (3, ai q8.2), (4, ai t12.2.2), (5, ai q14.2)]) rfl ?_
            exact hJ76_30 (t12.2.2 - q8.2)
          · skip
            refine x_iload_n C 4 (i := 3) (k0 := 3) rfl rfl (by decide +kernel) ?_
            refine x_iload C 5 (i := 4) rfl (by decide +kernel) ?_
            refine x_isub C (by decide +kernel) ?_
            refine x_goto C (tgt := 76) (off := 7) (by decide) (by decide +kernel) ?_
            refine x_sub [1, 2, 3, 4, 5, 0] (lv2 := [(0, ar this), (1, ai t12.2.1), (2, ai t5.2.2), (3, ai q8.2), (4, ai t12.2.2), (5, ai q14.2)]) rfl ?_
            exact hJ76_30 (q8.2 - t12.2.2)

def rm_X12_mend : Room := { frames := 3, cells := 0, slots := 0, locals := 76 }
def f_X12_mend (N : Nat) (σ : St) (this : Nat) (p0 : Int) : Option (St × Int) :=
 Option.bind (f_X12_isIn N σ p0 0 2) fun q1 =>
 (if wr q1.2 = 0 then some (σ, (-1)) else Option.bind (rcv shm σ 12 this (f_X12_seekMend N σ this)) fun q2 =>
 Option.bind (gI shm q2.1 12 this 33) fun mendPart_3 =>
 (if wr mendPart_3 < 0 then some (q2.1, (-1)) else (if wr p0 = 0 then Option.bind (gI shm q2.1 12 this 33) fun mendPart_7 =>
 some (q2.1, mendPart_7) else (if wr p0 = wr 1 then Option.bind (gI shm q2.1 12 this 34) fun mendMm_5 =>
 some (q2.1, mendMm_5) else Option.bind (gI shm q2.1 12 this 35) fun mendFits_4 =>
 some (q2.1, mendFits_4)))))
set_option maxRecDepth 100000 in
set_option maxHeartbeats 4000000 in
theorem c_X12_mend (l : Launch) (D : va_G) (ca : Nat → ClassId) (ra : Nat → Nat) (N : Nat) (σ : St) (this : Nat) (p0 : Int) : Ctr l (D, ca, ra, shm) false yX12_mend cX12_mend 2 (some .int) rm_X12_mend σ [ar this, ai p0] (f_X12_mend N σ this p0) := by
  refine ctr_of (by decide) (Nat.le_of_ble_eq_true rfl) (fun z C => ?_)
  show X z 0 0 σ 0 [(0, ar this), (1, ai p0)] [] _
  unfold f_X12_mend
  refine x_iload_n C 1 (i := 1) (k0 := 1) rfl rfl (by decide +kernel) ?_
  refine x_iconst C (n := 0) (by decide +kernel) ?_
  refine x_iconst C (n := 2) (by decide +kernel) ?_
  refine x_callSp C (c_X12_isIn l D ca ra N σ p0 0 2) (p_X12_isIn N σ p0 0 2) mt_X12_isIn ms_X12_isIn ml_RX12_354 rfl (fun h => Bool.noConfusion h) ⟨Nat.le_of_ble_eq_true rfl, Nat.le_of_ble_eq_true rfl⟩ (Nat.le_of_ble_eq_true rfl) 0 0 ⟨rfl, rfl⟩ ⟨Nat.zero_le _, Nat.zero_le _⟩ (by decide +kernel) _ rfl (fun q1 => [ai q1.2]) (fun _ => rfl) (fun q1 => ?_)
  refine x_if_ne C (tgt := 11) (off := 5) (by decide) (by decide +kernel) (fun h10 => ?_) (fun h10 => ?_)
  · skip
    refine x_aload_n C 0 (i := 0) (k0 := 0) rfl rfl (by decide +kernel) ?_
    refine x_callV C (ci := 12) (c_X12_seekMend l D ca ra N σ this) mt_X12_seekMend mv_X12_seekMend rfl ml_RX12_388 rfl (fun h => Bool.noConfusion h) ⟨Nat.le_of_ble_eq_true rfl, Nat.le_of_ble_eq_true rfl⟩ (Nat.le_of_ble_eq_true rfl) 0 0 ⟨rfl, rfl⟩ ⟨Nat.zero_le _, Nat.zero_le _⟩ (by decide +kernel) _ rfl (fun q2 => []) (fun _ => rfl) (fun q2 => ?_)
    refine x_aload_n C 0 (i := 0) (k0 := 0) rfl rfl (by decide +kernel) ?_
    refine x_gI C fl_RX12_376 (fun _ _ _ => rfl) (by decide +kernel) (fun mendPart_3 => ?_)
    refine x_if_ge C (tgt := 26) (off := 7) (by decide) (by decide +kernel) (fun h9 => ?_) (fun h9 => ?_)
    · skip
      refine x_iload_n C 1 (i := 1) (k0 := 1) rfl rfl (by decide +kernel) ?_
      refine x_if_ne C (tgt := 37) (off := 10) (by decide) (by decide +kernel) (fun h8 => ?_) (fun h8 => ?_)
      · skip
        refine x_iload_n C 1 (i := 1) (k0 := 1) rfl rfl (by decide +kernel) ?_
        refine x_iconst C (n := 1) (by decide +kernel) ?_
        refine x_ic_ne C (tgt := 49) (off := 10) (by decide) (by decide +kernel) (fun h6 => ?_) (fun h6 => ?_)
        · skip
          refine x_aload_n C 0 (i := 0) (k0 := 0) rfl rfl (by decide +kernel) ?_
          refine x_gI C fl_RX12_385 (fun _ _ _ => rfl) (by decide +kernel) (fun mendFits_4 => ?_)
          exact x_iret C ⟨Nat.zero_le _, Nat.zero_le _⟩ (by decide +kernel)
        · skip
          refine x_aload_n C 0 (i := 0) (k0 := 0) rfl rfl (by decide +kernel) ?_
          refine x_gI C fl_RX12_379 (fun _ _ _ => rfl) (by decide +kernel) (fun mendMm_5 => ?_)
          refine x_goto C (tgt := 53) (off := 7) (by decide) (by decide +kernel) ?_
          exact x_iret C ⟨Nat.zero_le _, Nat.zero_le _⟩ (by decide +kernel)
      · skip
        refine x_aload_n C 0 (i := 0) (k0 := 0) rfl rfl (by decide +kernel) ?_
        refine x_gI C fl_RX12_376 (fun _ _ _ => rfl) (by decide +kernel) (fun mendPart_7 => ?_)
        refine x_goto C (tgt := 53) (off := 19) (by decide) (by decide +kernel) ?_
        exact x_iret C ⟨Nat.zero_le _, Nat.zero_le _⟩ (by decide +kernel)
    · skip
      refine x_iconst C (n := (-1)) (by decide +kernel) ?_
      refine x_goto C (tgt := 53) (off := 30) (by decide) (by decide +kernel) ?_
      exact x_iret C ⟨Nat.zero_le _, Nat.zero_le _⟩ (by decide +kernel)
  · skip
    refine x_iconst C (n := (-1)) (by decide +kernel) ?_
    exact x_iret C ⟨Nat.zero_le _, Nat.zero_le _⟩ (by decide +kernel)

def rm_X12_isTongue : Room := { frames := 1, cells := 0, slots := 0, locals := 22 }
def f_X12_isTongue (N : Nat) (σ : St) (p0 : Int) : Option (St × Int) :=
 Option.bind (f_X12_isIn N σ p0 0 2) fun q1 =>
 rZ σ q1.2
set_option maxRecDepth 100000 in
set_option maxHeartbeats 4000000 in
theorem c_X12_isTongue (l : Launch) (D : va_G) (ca : Nat → ClassId) (ra : Nat → Nat) (N : Nat) (σ : St) (p0 : Int) : Ctr l (D, ca, ra, shm) false yX12_isTongue cX12_isTongue 1 (some .boolean) rm_X12_isTongue σ [ai p0] (f_X12_isTongue N σ p0) := by
  refine ctr_of (by decide) (Nat.le_of_ble_eq_true rfl) (fun z C => ?_)
  show X z 0 0 σ 0 [(0, ai p0)] [] _
  unfold f_X12_isTongue
  refine x_iload_n C 0 (i := 0) (k0 := 0) rfl rfl (by decide +kernel) ?_
  refine x_iconst C (n := 0) (by decide +kernel) ?_
  refine x_iconst C (n := 2) (by decide +kernel) ?_
  refine x_callSp C (c_X12_isIn l D ca ra N σ p0 0 2) (p_X12_isIn N σ p0 0 2) mt_X12_isIn ms_X12_isIn ml_RX12_354 rfl (fun h => Bool.noConfusion h) ⟨Nat.le_of_ble_eq_true rfl, Nat.le_of_ble_eq_true rfl⟩ (Nat.le_of_ble_eq_true rfl) 0 0 ⟨rfl, rfl⟩ ⟨Nat.zero_le _, Nat.zero_le _⟩ (by decide +kernel) _ rfl (fun q1 => [ai q1.2]) (fun _ => rfl) (fun q1 => ?_)
  exact x_rZ C ⟨Nat.zero_le _, Nat.zero_le _⟩ (by decide +kernel)
theorem p_X12_isTongue (N : Nat) (σ : St) (p0 : Int) : Pu σ (f_X12_isTongue N σ p0) := by
  unfold f_X12_isTongue
  refine pu_bind (fun _ => ?_)
  exact pu_rZ

def L_X12_isCompared_7 (N : Nat) (σ : St) (this : Nat) (J34_6 : (Int → Option (St × Int))) : Int → Option (St × Int) := fixN N fun b7_8 t8 =>
 Option.bind (gR shm σ 12 this 41) fun eWhat_10 =>
 Option.bind (aI shm σ 1 eWhat_10 t8) fun a11 =>
 Jn (fun t12 : Unit => Lt (t8 + (-1)) fun x13 =>
 b7_8 x13) fun J28_13 =>
 (if wr a11 = wr 5 then J28_13 () else Option.bind (gR shm σ 12 this 41) fun eWhat_15 =>
 Option.bind (aI shm σ 1 eWhat_15 t8) fun a16 =>
 (if wr a16 = wr 6 then J28_13 () else J34_6 t8))
def rm_X12_isCompared : Room := { frames := 0, cells := 0, slots := 0, locals := 0 }
def f_X12_isCompared (N : Nat) (σ : St) (this : Nat) : Option (St × Int) :=
 Option.bind (gI shm σ 12 this 48) fun piled_1 =>
 Lt (piled_1 - 1) fun x2 =>
 Jn (fun t3 : Int => Option.bind (gR shm σ 12 this 41) fun eWhat_4 =>
 Option.bind (aI shm σ 1 eWhat_4 t3) fun a5 =>
 (if wr a5 = wr 4 then some (σ, 1) else some (σ, 0))) fun J34_6 =>
 L_X12_isCompared_7 N σ this J34_6 x2
set_option maxRecDepth 100000 in
set_option maxHeartbeats 4000000 in
theorem c_X12_isCompared (l : Launch) (D : va_G) (ca : Nat → ClassId) (ra : Nat → Nat) (N : Nat) (σ : St) (this : Nat) : Ctr l (D, ca, ra, shm) false yX12_isCompared cX12_isCompared 2 (some .boolean) rm_X12_isCompared σ [ar this] (f_X12_isCompared N σ this) := by
  refine ctr_of (by decide) (Nat.le_of_ble_eq_true rfl) (fun z C => ?_)
  show X z 0 0 σ 0 [(0, ar this)] [] _
  unfold f_X12_isCompared
  refine x_aload_n C 0 (i := 0) (k0 := 0) rfl rfl (by decide +kernel) ?_
  refine x_gI C fl_RX12_409 (fun _ _ _ => rfl) (by decide +kernel) (fun piled_1 => ?_)
  refine x_iconst C (n := 1) (by decide +kernel) ?_
  refine x_isub C (by decide +kernel) ?_
  refine x_istore_nL C (i := 1) (k0 := 1) rfl (Nat.le_of_ble_eq_true rfl) (by decide +kernel) (lv2 := fun x2 => [(1, ai x2), (0, ar this)]) (fun _ => rfl) (fun x2 => ?_)
  refine x_join (T := Int) (fun t => σ) 34 (fun t => [(0, ar this), (1, ai t)]) (fun t => []) (fun t3 => ?_) (fun J34_6 hJ34_6 => ?_)
  · show X z 0 0 σ 34 [(0, ar this), (1, ai t3)] [] _
    refine x_aload_n C 0 (i := 0) (k0 := 0) rfl rfl (by decide +kernel) ?_
    refine x_gR C fl_RX12_98 (fun _ _ _ => rfl) (by decide +kernel) (fun eWhat_4 => ?_)
    refine x_iload_n C 1 (i := 1) (k0 := 1) rfl rfl (by decide +kernel) ?_
    refine x_aldI C (by decide +kernel) (fun a5 => ?_)
    refine x_iconst C (n := 4) (by decide +kernel) ?_
    refine x_ic_ne C (tgt := 48) (off := 7) (by decide) (by decide +kernel) (fun h6 => ?_) (fun h6 => ?_)
    · skip
      refine x_iconst C (n := 0) (by decide +kernel) ?_
      exact x_zret C (Or.inl rfl) ⟨Nat.zero_le _, Nat.zero_le _⟩ (by decide +kernel)
    · skip
      refine x_iconst C (n := 1) (by decide +kernel) ?_
      refine x_goto C (tgt := 49) (off := 4) (by decide) (by decide +kernel) ?_
      exact x_zret C (Or.inr rfl) ⟨Nat.zero_le _, Nat.zero_le _⟩ (by decide +kernel)
  · skip
    refine x_sub [1, 0] (lv2 := [(0, ar this), (1, ai x2)]) rfl ?_
    -- LOOP L_X12_isCompared_7 hb7_8
    refine x_loop (T := Int) (fun t => σ) (fun t => [(0, ar this), (1, ai t)]) x2 rfl (fun b7_8 hb7_8 t8 => ?_)
    show X z 0 0 σ 7 [(0, ar this), (1, ai t8)] [] _
    refine x_aload_n C 0 (i := 0) (k0 := 0) rfl rfl (by decide +kernel) ?_
    refine x_gR C fl_RX12_98 (fun _ _ _ => rfl) (by decide +kernel) (fun eWhat_10 => ?_)
    refine x_iload_n C 1 (i := 1) (k0 := 1) rfl rfl (by decide +kernel) ?_
    refine x_aldI C (by decide +kernel) (fun a11 => ?_)
    refine x_iconst C (n := 5) (by decide +kernel) ?_
    refine x_join (T := Unit) (fun t => σ) 28 (fun t => [(0, ar this), (1, ai t8)]) (fun t => []) (fun t12 => ?_) (fun J28_13 hJ28_13 => ?_)
    · show X z 0 0 σ 28 [(0, ar this), (1, ai t8)] [] _
      refine x_iinc C 1 (i := 1) (n := (-1)) (Nat.le_of_ble_eq_true rfl) rfl (by decide +kernel) (lv2 := fun x13 => [(1, ai x13), (0, ar this)]) (fun _ => rfl) (fun x13 => ?_)
      refine x_goto C (tgt := 7) (off := (-24)) (by decide) (by decide +kernel) ?_
      refine x_sub [1, 0] (lv2 := [(0, ar this), (1, ai x13)]) rfl ?_
      exact hb7_8 x13
    · skip
      refine x_ic_eq C (tgt := 28) (off := 14) (by decide) (by decide +kernel) (fun h18 => ?_) (fun h18 => ?_)
      · skip
        exact hJ28_13 ()
      · skip
        refine x_aload_n C 0 (i := 0) (k0 := 0) rfl rfl (by decide +kernel) ?_
        refine x_gR C fl_RX12_98 (fun _ _ _ => rfl) (by decide +kernel) (fun eWhat_15 => ?_)
        refine x_iload_n C 1 (i := 1) (k0 := 1) rfl rfl (by decide +kernel) ?_
        refine x_aldI C (by decide +kernel) (fun a16 => ?_)
        refine x_bipush C (n := 6) (by decide +kernel) (by decide +kernel) ?_
        refine x_ic_ne C (tgt := 34) (off := 9) (by decide) (by decide +kernel) (fun h17 => ?_) (fun h17 => ?_)
        · skip
          exact hJ34_6 t8
        · skip
          exact hJ28_13 ()
theorem p_X12_isCompared (N : Nat) (σ : St) (this : Nat) : Pu σ (f_X12_isCompared N σ this) := by
  unfold f_X12_isCompared
  refine pu_bind (fun _ => ?_)
  refine pu_Lt (fun _ => ?_)
  refine pu_Jn (fun _ => ?_) (fun _ hJ34_6 => ?_)
  · skip
    refine pu_bind (fun _ => ?_)
    refine pu_bind (fun _ => ?_)
    refine pu_ifs ?_ ?_
    · skip
      exact pu_some
    · skip
      exact pu_some
  · skip
    unfold L_X12_isCompared_7
    refine pu_fix (fun _ hb7_8 _ => ?_) _
    refine pu_bind (fun _ => ?_)
    refine pu_bind (fun _ => ?_)
    refine pu_Jn (fun _ => ?_) (fun _ hJ28_13 => ?_)
    · skip
      refine pu_Lt (fun _ => ?_)
      exact hb7_8 _
    · skip
      refine pu_if ?_ ?_
      · skip
        exact hJ28_13 _
      · skip
        refine pu_bind (fun _ => ?_)
        refine pu_bind (fun _ => ?_)
        refine pu_ifs ?_ ?_
        · skip
          exact hJ34_6 _
        · skip
          exact hJ28_13 _

def rm_X12_put : Room := { frames := 0, cells := 0, slots := 0, locals := 0 }
def f_X12_put (N : Nat) (σ : St) (this : Nat) (p0 : Int) (p1 : Int) : Option (St × Int) :=
 Option.bind (gR shm σ 12 this 41) fun eWhat_1 =>
 Option.bind (gI shm σ 12 this 48) fun piled_2 =>
 Option.bind (sI shm σ 1 eWhat_1 piled_2 p0) fun σ3 =>
 Option.bind (gR shm σ3 12 this 42) fun eSign_4 =>
 Option.bind (gI shm σ3 12 this 48) fun piled_5 =>
 Option.bind (sI shm σ3 1 eSign_4 piled_5 p1) fun σ6 =>
 Option.bind (gI shm σ6 12 this 48) fun piled_7 =>
 Option.bind (pI shm σ6 12 this 48 (piled_7 + 1)) fun σ8 =>
 some (σ8, 0)
set_option maxRecDepth 100000 in
set_option maxHeartbeats 4000000 in
theorem c_X12_put (l : Launch) (D : va_G) (ca : Nat → ClassId) (ra : Nat → Nat) (N : Nat) (σ : St) (this : Nat) (p0 : Int) (p1 : Int) : Ctr l (D, ca, ra, shm) false yX12_put cX12_put 3 none rm_X12_put σ [ar this, ai p0, ai p1] (f_X12_put N σ this p0 p1) := by
  refine ctr_of (by decide) (Nat.le_of_ble_eq_true rfl) (fun z C => ?_)
  show X z 0 0 σ 0 [(0, ar this), (1, ai p0), (2, ai p1)] [] _
  unfold f_X12_put
  refine x_aload_n C 0 (i := 0) (k0 := 0) rfl rfl (by decide +kernel) ?_
  refine x_gR C fl_RX12_98 (fun _ _ _ => rfl) (by decide +kernel) (fun eWhat_1 => ?_)
  refine x_aload_n C 0 (i := 0) (k0 := 0) rfl rfl (by decide +kernel) ?_
  refine x_gI C fl_RX12_409 (fun _ _ _ => rfl) (by decide +kernel) (fun piled_2 => ?_)
  refine x_iload_n C 1 (i := 1) (k0 := 1) rfl rfl (by decide +kernel) ?_
  refine x_astI C (by decide +kernel) (fun σ3 => ?_)
  refine x_aload_n C 0 (i := 0) (k0 := 0) rfl rfl (by decide +kernel) ?_
  refine x_gR C fl_RX12_101 (fun _ _ _ => rfl) (by decide +kernel) (fun eSign_4 => ?_)
  show X z 0 0 σ3 14 [(0, ar this), (1, ai p0), (2, ai p1)] [ar eSign_4] _
  refine x_aload_n C 0 (i := 0) (k0 := 0) rfl rfl (by decide +kernel) ?_
  refine x_gI C fl_RX12_409 (fun _ _ _ => rfl) (by decide +kernel) (fun piled_5 => ?_)
  refine x_iload_n C 2 (i := 2) (k0 := 2) rfl rfl (by decide +kernel) ?_
  refine x_astI C (by decide +kernel) (fun σ6 => ?_)
  refine x_aload_n C 0 (i := 0) (k0 := 0) rfl rfl (by decide +kernel) ?_
  refine x_dup C rfl (by decide +kernel) ?_
  refine x_gI C fl_RX12_409 (fun _ _ _ => rfl) (by decide +kernel) (fun piled_7 => ?_)
  refine x_iconst C (n := 1) (by decide +kernel) ?_
  show X z 0 0 σ6 26 [(0, ar this), (1, ai p0), (2, ai p1)] [ai 1, ai piled_7, ar this] _
  refine x_iadd C (by decide +kernel) ?_
  refine x_pI C fl_RX12_409 rfl (fun q h => by cases h; rfl) (by decide +kernel) (fun σ8 => ?_)
  exact x_vret C ⟨Nat.zero_le _, Nat.zero_le _⟩ (by decide +kernel)

def rm_X12_rankHere : Room := { frames := 2, cells := 0, slots := 0, locals := 42 }
def f_X12_rankHere (N : Nat) (σ : St) (this : Nat) : Option (St × Int) :=
 Option.bind (rcv shm σ 12 this (f_X12_isWord N σ this 6385252)) fun q1 =>
 (if wr q1.2 = 0 then Option.bind (rcv shm σ 12 this (f_X12_isWord N σ this 28530)) fun q2 =>
 (if wr q2.2 = 0 then Option.bind (rcv shm σ 12 this (f_X12_is N σ this 60)) fun q3 =>
 (if wr q3.2 = 0 then Option.bind (rcv shm σ 12 this (f_X12_is N σ this 62)) fun q4 =>
 (if wr q4.2 = 0 then Option.bind (rcv shm σ 12 this (f_X12_is N σ this 61)) fun q5 =>
 (if wr q5.2 = 0 then Option.bind (rcv shm σ 12 this (f_X12_is N σ this 43)) fun q6 =>
 (if wr q6.2 = 0 then Option.bind (rcv shm σ 12 this (f_X12_is N σ this 45)) fun q7 =>
 (if wr q7.2 = 0 then Option.bind (rcv shm σ 12 this (f_X12_is N σ this 42)) fun q8 =>
 (if wr q8.2 = 0 then some (σ, 0) else some (σ, 6)) else some (σ, 5)) else some (σ, 5)) else some (σ, 4)) else some (σ, 4)) else some (σ, 4)) else some (σ, 1)) else some (σ, 2))
set_option maxRecDepth 100000 in
set_option maxHeartbeats 4000000 in
theorem c_X12_rankHere (l : Launch) (D : va_G) (ca : Nat → ClassId) (ra : Nat → Nat) (N : Nat) (σ : St) (this : Nat) : Ctr l (D, ca, ra, shm) false yX12_rankHere cX12_rankHere 1 (some .int) rm_X12_rankHere σ [ar this] (f_X12_rankHere N σ this) := by
  refine ctr_of (by decide) (Nat.le_of_ble_eq_true rfl) (fun z C => ?_)
  show X z 0 0 σ 0 [(0, ar this)] [] _
  unfold f_X12_rankHere
  refine x_aload_n C 0 (i := 0) (k0 := 0) rfl rfl (by decide +kernel) ?_
  refine x_ldc2 C (n := 6385252) (v := 6385252) kl_RX12_218 (by decide +kernel) (by decide +kernel) ?_
  refine x_callVp C (ci := 12) (c_X12_isWord l D ca ra N σ this 6385252) (p_X12_isWord N σ this 6385252) mt_X12_isWord mv_X12_isWord rfl ml_RX12_315 rfl (fun h => Bool.noConfusion h) ⟨Nat.le_of_ble_eq_true rfl, Nat.le_of_ble_eq_true rfl⟩ (Nat.le_of_ble_eq_true rfl) 0 0 ⟨rfl, rfl⟩ ⟨Nat.zero_le _, Nat.zero_le _⟩ (by decide +kernel) _ rfl (fun q1 => [ai q1.2]) (fun _ => rfl) (fun q1 => ?_)
  refine x_if_eq C (tgt := 12) (off := 5) (by decide) (by decide +kernel) (fun h16 => ?_) (fun h16 => ?_)
  · skip
    refine x_aload_n C 0 (i := 0) (k0 := 0) rfl rfl (by decide +kernel) ?_
    refine x_ldc2 C (n := 28530) (v := 28530) kl_RX12_220 (by decide +kernel) (by decide +kernel) ?_
    refine x_callVp C (ci := 12) (c_X12_isWord l D ca ra N σ this 28530) (p_X12_isWord N σ this 28530) mt_X12_isWord mv_X12_isWord rfl ml_RX12_315 rfl (fun h => Bool.noConfusion h) ⟨Nat.le_of_ble_eq_true rfl, Nat.le_of_ble_eq_true rfl⟩ (Nat.le_of_ble_eq_true rfl) 0 0 ⟨rfl, rfl⟩ ⟨Nat.zero_le _, Nat.zero_le _⟩ (by decide +kernel) _ rfl (fun q2 => [ai q2.2]) (fun _ => rfl) (fun q2 => ?_)
    refine x_if_eq C (tgt := 24) (off := 5) (by decide) (by decide +kernel) (fun h15 => ?_) (fun h15 => ?_)
    · skip
      refine x_aload_n C 0 (i := 0) (k0 := 0) rfl rfl (by decide +kernel) ?_
      refine x_bipush C (n := 60) (by decide +kernel) (by decide +kernel) ?_
      refine x_callVp C (ci := 12) (c_X12_is l D ca ra N σ this 60) (p_X12_is N σ this 60) mt_X12_is mv_X12_is rfl ml_RX12_336 rfl (fun h => Bool.noConfusion h) ⟨Nat.le_of_ble_eq_true rfl, Nat.le_of_ble_eq_true rfl⟩ (Nat.le_of_ble_eq_true rfl) 0 0 ⟨rfl, rfl⟩ ⟨Nat.zero_le _, Nat.zero_le _⟩ (by decide +kernel) _ rfl (fun q3 => [ai q3.2]) (fun _ => rfl) (fun q3 => ?_)
      refine x_if_ne C (tgt := 51) (off := 21) (by decide) (by decide +kernel) (fun h14 => ?_) (fun h14 => ?_)
      · skip
        refine x_iconst C (n := 4) (by decide +kernel) ?_
        exact x_iret C ⟨Nat.zero_le _, Nat.zero_le _⟩ (by decide +kernel)
      · skip
        refine x_aload_n C 0 (i := 0) (k0 := 0) rfl rfl (by decide +kernel) ?_
        refine x_bipush C (n := 62) (by decide +kernel) (by decide +kernel) ?_
        refine x_callVp C (ci := 12) (c_X12_is l D ca ra N σ this 62) (p_X12_is N σ this 62) mt_X12_is mv_X12_is rfl ml_RX12_336 rfl (fun h => Bool.noConfusion h) ⟨Nat.le_of_ble_eq_true rfl, Nat.le_of_ble_eq_true rfl⟩ (Nat.le_of_ble_eq_true rfl) 0 0 ⟨rfl, rfl⟩ ⟨Nat.zero_le _, Nat.zero_le _⟩ (by decide +kernel) _ rfl (fun q4 => [ai q4.2]) (fun _ => rfl) (fun q4 => ?_)
        refine x_if_ne C (tgt := 51) (off := 12) (by decide) (by decide +kernel) (fun h13 => ?_) (fun h13 => ?_)
        · skip
          refine x_iconst C (n := 4) (by decide +kernel) ?_
          exact x_iret C ⟨Nat.zero_le _, Nat.zero_le _⟩ (by decide +kernel)
        · skip
          refine x_aload_n C 0 (i := 0) (k0 := 0) rfl rfl (by decide +kernel) ?_
          refine x_bipush C (n := 61) (by decide +kernel) (by decide +kernel) ?_
          refine x_callVp C (ci := 12) (c_X12_is l D ca ra N σ this 61) (p_X12_is N σ this 61) mt_X12_is mv_X12_is rfl ml_RX12_336 rfl (fun h => Bool.noConfusion h) ⟨Nat.le_of_ble_eq_true rfl, Nat.le_of_ble_eq_true rfl⟩ (Nat.le_of_ble_eq_true rfl) 0 0 ⟨rfl, rfl⟩ ⟨Nat.zero_le _, Nat.zero_le _⟩ (by decide +kernel) _ rfl (fun q5 => [ai q5.2]) (fun _ => rfl) (fun q5 => ?_)
          refine x_if_eq C (tgt := 53) (off := 5) (by decide) (by decide +kernel) (fun h12 => ?_) (fun h12 => ?_)
          · skip
            refine x_aload_n C 0 (i := 0) (k0 := 0) rfl rfl (by decide +kernel) ?_
            refine x_bipush C (n := 43) (by decide +kernel) (by decide +kernel) ?_
            refine x_callVp C (ci := 12) (c_X12_is l D ca ra N σ this 43) (p_X12_is N σ this 43) mt_X12_is mv_X12_is rfl ml_RX12_336 rfl (fun h => Bool.noConfusion h) ⟨Nat.le_of_ble_eq_true rfl, Nat.le_of_ble_eq_true rfl⟩ (Nat.le_of_ble_eq_true rfl) 0 0 ⟨rfl, rfl⟩ ⟨Nat.zero_le _, Nat.zero_le _⟩ (by decide +kernel) _ rfl (fun q6 => [ai q6.2]) (fun _ => rfl) (fun q6 => ?_)
            refine x_if_ne C (tgt := 71) (off := 12) (by decide) (by decide +kernel) (fun h11 => ?_) (fun h11 => ?_)
            · skip
              refine x_iconst C (n := 5) (by decide +kernel) ?_
              exact x_iret C ⟨Nat.zero_le _, Nat.zero_le _⟩ (by decide +kernel)
            · skip
              refine x_aload_n C 0 (i := 0) (k0 := 0) rfl rfl (by decide +kernel) ?_
              refine x_bipush C (n := 45) (by decide +kernel) (by decide +kernel) ?_
              refine x_callVp C (ci := 12) (c_X12_is l D ca ra N σ this 45) (p_X12_is N σ this 45) mt_X12_is mv_X12_is rfl ml_RX12_336 rfl (fun h => Bool.noConfusion h) ⟨Nat.le_of_ble_eq_true rfl, Nat.le_of_ble_eq_true rfl⟩ (Nat.le_of_ble_eq_true rfl) 0 0 ⟨rfl, rfl⟩ ⟨Nat.zero_le _, Nat.zero_le _⟩ (by decide +kernel) _ rfl (fun q7 => [ai q7.2]) (fun _ => rfl) (fun q7 => ?_)
              refine x_if_eq C (tgt := 73) (off := 5) (by decide) (by decide +kernel) (fun h10 => ?_) (fun h10 => ?_)
              · skip
                refine x_aload_n C 0 (i := 0) (k0 := 0) rfl rfl (by decide +kernel) ?_
                refine x_bipush C (n := 42) (by decide +kernel) (by decide +kernel) ?_
                refine x_callVp C (ci := 12) (c_X12_is l D ca ra N σ this 42) (p_X12_is N σ this 42) mt_X12_is mv_X12_is rfl ml_RX12_336 rfl (fun h => Bool.noConfusion h) ⟨Nat.le_of_ble_eq_true rfl, Nat.le_of_ble_eq_true rfl⟩ (Nat.le_of_ble_eq_true rfl) 0 0 ⟨rfl, rfl⟩ ⟨Nat.zero_le _, Nat.zero_le _⟩ (by decide +kernel) _ rfl (fun q8 => [ai q8.2]) (fun _ => rfl) (fun q8 => ?_)
                refine x_if_eq C (tgt := 87) (off := 8) (by decide) (by decide +kernel) (fun h9 => ?_) (fun h9 => ?_)
                · skip
                  refine x_iconst C (n := 0) (by decide +kernel) ?_
                  exact x_iret C ⟨Nat.zero_le _, Nat.zero_le _⟩ (by decide +kernel)
                · skip
                  refine x_bipush C (n := 6) (by decide +kernel) (by decide +kernel) ?_
                  refine x_goto C (tgt := 88) (off := 4) (by decide) (by decide +kernel) ?_
                  exact x_iret C ⟨Nat.zero_le _, Nat.zero_le _⟩ (by decide +kernel)
              · skip
                refine x_iconst C (n := 5) (by decide +kernel) ?_
                exact x_iret C ⟨Nat.zero_le _, Nat.zero_le _⟩ (by decide +kernel)
          · skip
            refine x_iconst C (n := 4) (by decide +kernel) ?_
            exact x_iret C ⟨Nat.zero_le _, Nat.zero_le _⟩ (by decide +kernel)
    · skip
      refine x_iconst C (n := 1) (by decide +kernel) ?_
      exact x_iret C ⟨Nat.zero_le _, Nat.zero_le _⟩ (by decide +kernel)
  · skip
    refine x_iconst C (n := 2) (by decide +kernel) ?_
    exact x_iret C ⟨Nat.zero_le _, Nat.zero_le _⟩ (by decide +kernel)
theorem p_X12_rankHere (N : Nat) (σ : St) (this : Nat) : Pu σ (f_X12_rankHere N σ this) := by
  unfold f_X12_rankHere
  refine pu_bind (fun _ => ?_)
  refine pu_if ?_ ?_
  · skip
    refine pu_bind (fun _ => ?_)
    refine pu_if ?_ ?_
    · skip
      refine pu_bind (fun _ => ?_)
      refine pu_ifs ?_ ?_
      · skip
        exact pu_some
      · skip
        refine pu_bind (fun _ => ?_)
        refine pu_ifs ?_ ?_
        · skip
          exact pu_some
        · skip
          refine pu_bind (fun _ => ?_)
          refine pu_if ?_ ?_
          · skip
            refine pu_bind (fun _ => ?_)
            refine pu_ifs ?_ ?_
            · skip
              exact pu_some
            · skip
              refine pu_bind (fun _ => ?_)
              refine pu_if ?_ ?_
              · skip
                refine pu_bind (fun _ => ?_)
                refine pu_if ?_ ?_
                · skip
                  exact pu_some
                · skip
                  exact pu_some
              · skip
                exact pu_some
          · skip
            exact pu_some
    · skip
      exact pu_some
  · skip
    exact pu_some

def rm_X12_step : Room := { frames := 0, cells := 0, slots := 0, locals := 0 }
def f_X12_step (N : Nat) (σ : St) (this : Nat) (p0 : Int) (p1 : Int) : Option (St × Int) :=
 Option.bind (gR shm σ 12 this 39) fun code_1 =>
 Option.bind (gI shm σ 12 this 45) fun codes_2 =>
 Option.bind (sI shm σ 1 code_1 (2100 + codes_2) p0) fun σ3 =>
 Option.bind (gR shm σ3 12 this 40) fun codeNumber_4 =>
 Option.bind (gI shm σ3 12 this 45) fun codes_5 =>
 Option.bind (sI shm σ3 1 codeNumber_4 (2100 + codes_5) p1) fun σ6 =>
 Option.bind (gI shm σ6 12 this 45) fun codes_7 =>
 Option.bind (pI shm σ6 12 this 45 (codes_7 + 1)) fun σ8 =>
 some (σ8, 0)
set_option maxRecDepth 100000 in
set_option maxHeartbeats 4000000 in
theorem c_X12_step (l : Launch) (D : va_G) (ca : Nat → ClassId) (ra : Nat → Nat) (N : Nat) (σ : St) (this : Nat) (p0 : Int) (p1 : Int) : Ctr l (D, ca, ra, shm) false yX12_step cX12_step 3 none rm_X12_step σ [ar this, ai p0, ai p1] (f_X12_step N σ this p0 p1) := by
  refine ctr_of (by decide) (Nat.le_of_ble_eq_true rfl) (fun z C => ?_)
  show X z 0 0 σ 0 [(0, ar this), (1, ai p0), (2, ai p1)] [] _
  unfold f_X12_step
  refine x_aload_n C 0 (i := 0) (k0 := 0) rfl rfl (by decide +kernel) ?_
  refine x_gR C fl_RX12_92 (fun _ _ _ => rfl) (by decide +kernel) (fun code_1 => ?_)
  refine x_sipush C (n := 2100) (by decide +kernel) (by decide +kernel) ?_
  refine x_aload_n C 0 (i := 0) (k0 := 0) rfl rfl (by decide +kernel) ?_
  refine x_gI C fl_RX12_394 (fun _ _ _ => rfl) (by decide +kernel) (fun codes_2 => ?_)
  refine x_iadd C (by decide +kernel) ?_
  refine x_iload_n C 1 (i := 1) (k0 := 1) rfl rfl (by decide +kernel) ?_
  refine x_astI C (by decide +kernel) (fun σ3 => ?_)
  show X z 0 0 σ3 14 [(0, ar this), (1, ai p0), (2, ai p1)] [] _
  refine x_aload_n C 0 (i := 0) (k0 := 0) rfl rfl (by decide +kernel) ?_
  refine x_gR C fl_RX12_95 (fun _ _ _ => rfl) (by decide +kernel) (fun codeNumber_4 => ?_)
  refine x_sipush C (n := 2100) (by decide +kernel) (by decide +kernel) ?_
  refine x_aload_n C 0 (i := 0) (k0 := 0) rfl rfl (by decide +kernel) ?_
  refine x_gI C fl_RX12_394 (fun _ _ _ => rfl) (by decide +kernel) (fun codes_5 => ?_)
  refine x_iadd C (by decide +kernel) ?_
  refine x_iload_n C 2 (i := 2) (k0 := 2) rfl rfl (by decide +kernel) ?_
  refine x_astI C (by decide +kernel) (fun σ6 => ?_)
  show X z 0 0 σ6 28 [(0, ar this), (1, ai p0), (2, ai p1)] [] _
  refine x_aload_n C 0 (i := 0) (k0 := 0) rfl rfl (by decide +kernel) ?_
  refine x_dup C rfl (by decide +kernel) ?_
  refine x_gI C fl_RX12_394 (fun _ _ _ => rfl) (by decide +kernel) (fun codes_7 => ?_)
  refine x_iconst C (n := 1) (by decide +kernel) ?_
  refine x_iadd C (by decide +kernel) ?_
  refine x_pI C fl_RX12_394 rfl (fun q h => by cases h; rfl) (by decide +kernel) (fun σ8 => ?_)
  exact x_vret C ⟨Nat.zero_le _, Nat.zero_le _⟩ (by decide +kernel)

def L_X12_behind_23 (N : Nat) (this : Nat) (q1 : (St × Int)) (J104_22 : (St → Option (St × Int))) : St → Option (St × Int) := fixN N fun b23_24 t24 =>
 Option.bind (gR shm t24 12 this 41) fun eWhat_26 =>
 Option.bind (gI shm t24 12 this 48) fun piled_27 =>
 Option.bind (aI shm t24 1 eWhat_26 (piled_27 - 1)) fun a28 =>
 (if wr 6 < wr a28 then J104_22 t24 else Option.bind (gR shm t24 12 this 41) fun eWhat_29 =>
 Option.bind (gI shm t24 12 this 48) fun piled_30 =>
 Option.bind (aI shm t24 1 eWhat_29 (piled_30 - 1)) fun a31 =>
 (if wr a31 < wr q1.2 then J104_22 t24 else Option.bind (gI shm t24 12 this 48) fun piled_32 =>
 Option.bind (pI shm t24 12 this 48 (piled_32 - 1)) fun σ33 =>
 Option.bind (gR shm σ33 12 this 41) fun eWhat_34 =>
 Option.bind (gI shm σ33 12 this 48) fun piled_35 =>
 Option.bind (aI shm σ33 1 eWhat_34 piled_35) fun a36 =>
 Jn (fun t37 : St => Option.bind (gR shm t37 12 this 42) fun eSign_38 =>
 Option.bind (gI shm t37 12 this 48) fun piled_39 =>
 Option.bind (aI shm t37 1 eSign_38 piled_39) fun a40 =>
 Option.bind (rcv shm t37 12 this (f_X12_step N t37 this a40 0)) fun q41 =>
 b23_24 q41.1) fun J87_41 =>
 (if wr a36 = wr 3 then Option.bind (gI shm σ33 12 this 47) fun deep_43 =>
 Option.bind (pI shm σ33 12 this 47 (deep_43 - 1)) fun σ44 =>
 J87_41 σ44 else J87_41 σ33)))
def rm_X12_behind : Room := { frames := 3, cells := 0, slots := 0, locals := 66 }
def f_X12_behind (N : Nat) (σ : St) (this : Nat) : Option (St × Int) :=
 Option.bind (rcv shm σ 12 this (f_X12_rankHere N σ this)) fun q1 =>
 Jn (fun t2 : Unit => Jn (fun t3 : St => (if 0 < wr q1.2 then Jn (fun t14 : Int => Option.bind (rcv shm t3 12 this (f_X12_put N t3 this q1.2 t14)) fun q15 =>
 Option.bind (rcv shm q15.1 12 this (f_X12_next N q15.1 this)) fun q16 =>
 some (q16.1, 1)) fun J138_16 =>
 (if wr q1.2 = wr 2 then J138_16 38 else (if wr q1.2 = wr 1 then J138_16 124 else Option.bind (gI shm t3 12 this 6) fun at_18 =>
 Option.bind (rcv shm t3 12 this (f_X12_sign N t3 this at_18)) fun q19 =>
 J138_16 q19.2)) else Option.bind (gI shm t3 12 this 48) fun piled_4 =>
 Option.bind (pI shm t3 12 this 48 (piled_4 - 1)) fun σ5 =>
 Option.bind (gR shm σ5 12 this 41) fun eWhat_6 =>
 Option.bind (gI shm σ5 12 this 48) fun piled_7 =>
 Option.bind (aI shm σ5 1 eWhat_6 piled_7) fun a8 =>
 (if wr a8 = wr 7 then Option.bind (gI shm σ5 12 this 47) fun deep_9 =>
 Option.bind (pI shm σ5 12 this 47 (deep_9 - 1)) fun σ10 =>
 Option.bind (rcv shm σ10 12 this (f_X12_is N σ10 this 41)) fun q11 =>
 Option.bind (rcv shm σ10 12 this (f_X12_must N σ10 this q11.2)) fun q12 =>
 some (q12.1, 0) else some (σ5, 0)))) fun J104_22 =>
 L_X12_behind_23 N this q1 J104_22 σ) fun J23_47 =>
 (if wr q1.2 = wr 4 then Option.bind (rcv shm σ 12 this (f_X12_isCompared N σ this)) fun q49 =>
 (if wr q49.2 = 0 then J23_47 () else Option.bind (rcv shm σ 12 this (f_X12_wrong N σ this)) fun q50 =>
 some (q50.1, 1)) else J23_47 ())
set_option maxRecDepth 100000 in
set_option maxHeartbeats 4000000 in
theorem c_X12_behind (l : Launch) (D : va_G) (ca : Nat → ClassId) (ra : Nat → Nat) (N : Nat) (σ : St) (this : Nat) : Ctr l (D, ca, ra, shm) false yX12_behind cX12_behind 2 (some .boolean) rm_X12_behind σ [ar this] (f_X12_behind N σ this) := by
  refine ctr_of (by decide) (Nat.le_of_ble_eq_true rfl) (fun z C => ?_)
  show X z 0 0 σ 0 [(0, ar this)] [] _
  unfold f_X12_behind
  refine x_aload_n C 0 (i := 0) (k0 := 0) rfl rfl (by decide +kernel) ?_
  refine x_callVp C (ci := 12) (c_X12_rankHere l D ca ra N σ this) (p_X12_rankHere N σ this) mt_X12_rankHere mv_X12_rankHere rfl ml_RX12_433 rfl (fun h => Bool.noConfusion h) ⟨Nat.le_of_ble_eq_true rfl, Nat.le_of_ble_eq_true rfl⟩ (Nat.le_of_ble_eq_true rfl) 0 0 ⟨rfl, rfl⟩ ⟨Nat.zero_le _, Nat.zero_le _⟩ (by decide +kernel) _ rfl (fun q1 => [ai q1.2]) (fun _ => rfl) (fun q1 => ?_)
  refine x_istore_n C (i := 1) (k0 := 1) rfl (Nat.le_of_ble_eq_true rfl) (by decide +kernel) (lv2 := [(1, ai q1.2), (0, ar this)]) rfl ?_
  refine x_iload_n C 0 (i := 1) (k0 := 1) rfl rfl (by decide +kernel) ?_
  refine x_iconst C (n := 4) (by decide +kernel) ?_
  refine x_join (T := Unit) (fun t => σ) 23 (fun t => [(0, ar this), (1, ai q1.2)]) (fun t => []) (fun t2 => ?_) (fun J23_47 hJ23_47 => ?_)
  · show X z 0 0 σ 23 [(0, ar this), (1, ai q1.2)] [] _
    refine x_join (T := St) (fun t => t) 104 (fun t => [(0, ar this), (1, ai q1.2)]) (fun t => []) (fun t3 => ?_) (fun J104_22 hJ104_22 => ?_)
    · show X z 0 0 t3 104 [(0, ar this), (1, ai q1.2)] [] _
      refine x_iload_n C 1 (i := 1) (k0 := 1) rfl rfl (by decide +kernel) ?_
      refine x_if_le C (tgt := 147) (off := 42) (by decide) (by decide +kernel) (fun h22 => ?_) (fun h22 => ?_)
      · skip
        refine x_aload_n C 0 (i := 0) (k0 := 0) rfl rfl (by decide +kernel) ?_
        refine x_dup C rfl (by decide +kernel) ?_
        refine x_gI C fl_RX12_409 (fun _ _ _ => rfl) (by decide +kernel) (fun piled_4 => ?_)
        refine x_iconst C (n := 1) (by decide +kernel) ?_
        refine x_isub C (by decide +kernel) ?_
        refine x_pI C fl_RX12_409 rfl (fun q h => by cases h; rfl) (by decide +kernel) (fun σ5 => ?_)
        refine x_aload_n C 0 (i := 0) (k0 := 0) rfl rfl (by decide +kernel) ?_
        refine x_gR C fl_RX12_98 (fun _ _ _ => rfl) (by decide +kernel) (fun eWhat_6 => ?_)
        show X z 0 0 σ5 161 [(0, ar this), (1, ai q1.2)] [ar eWhat_6] _
        refine x_aload_n C 0 (i := 0) (k0 := 0) rfl rfl (by decide +kernel) ?_
        refine x_gI C fl_RX12_409 (fun _ _ _ => rfl) (by decide +kernel) (fun piled_7 => ?_)
        refine x_aldI C (by decide +kernel) (fun a8 => ?_)
        refine x_bipush C (n := 7) (by decide +kernel) (by decide +kernel) ?_
        refine x_ic_ne C (tgt := 191) (off := 23) (by decide) (by decide +kernel) (fun h13 => ?_) (fun h13 => ?_)
        · skip
          refine x_iconst C (n := 0) (by decide +kernel) ?_
          exact x_zret C (Or.inl rfl) ⟨Nat.zero_le _, Nat.zero_le _⟩ (by decide +kernel)
        · skip
          refine x_aload_n C 0 (i := 0) (k0 := 0) rfl rfl (by decide +kernel) ?_
          refine x_dup C rfl (by decide +kernel) ?_
          refine x_gI C fl_RX12_412 (fun _ _ _ => rfl) (by decide +kernel) (fun deep_9 => ?_)
          refine x_iconst C (n := 1) (by decide +kernel) ?_
          refine x_isub C (by decide +kernel) ?_
          refine x_pI C fl_RX12_412 rfl (fun q h => by cases h; rfl) (by decide +kernel) (fun σ10 => ?_)
          refine x_aload_n C 0 (i := 0) (k0 := 0) rfl rfl (by decide +kernel) ?_
          refine x_aload_n C 0 (i := 0) (k0 := 0) rfl rfl (by decide +kernel) ?_
          show X z 0 0 σ10 183 [(0, ar this), (1, ai q1.2)] [ar this, ar this] _
          refine x_bipush C (n := 41) (by decide +kernel) (by decide +kernel) ?_
          refine x_callVp C (ci := 12) (c_X12_is l D ca ra N σ10 this 41) (p_X12_is N σ10 this 41) mt_X12_is mv_X12_is rfl ml_RX12_336 rfl (fun h => Bool.noConfusion h) ⟨Nat.le_of_ble_eq_true rfl, Nat.le_of_ble_eq_true rfl⟩ (Nat.le_of_ble_eq_true rfl) 0 0 ⟨rfl, rfl⟩ ⟨Nat.zero_le _, Nat.zero_le _⟩ (by decide +kernel) _ rfl (fun q11 => [ai q11.2, ar this]) (fun _ => rfl) (fun q11 => ?_)
          refine x_callV C (ci := 12) (c_X12_must l D ca ra N σ10 this q11.2) mt_X12_must mv_X12_must rfl ml_RX12_339 rfl (fun h => Bool.noConfusion h) ⟨Nat.le_of_ble_eq_true rfl, Nat.le_of_ble_eq_true rfl⟩ (Nat.le_of_ble_eq_true rfl) 0 0 ⟨rfl, rfl⟩ ⟨Nat.zero_le _, Nat.zero_le _⟩ (by decide +kernel) _ rfl (fun q12 => []) (fun _ => rfl) (fun q12 => ?_)
          refine x_iconst C (n := 0) (by decide +kernel) ?_
          exact x_zret C (Or.inl rfl) ⟨Nat.zero_le _, Nat.zero_le _⟩ (by decide +kernel)
      · skip
        refine x_aload_n C 0 (i := 0) (k0 := 0) rfl rfl (by decide +kernel) ?_
        refine x_iload_n C 1 (i := 1) (k0 := 1) rfl rfl (by decide +kernel) ?_
        refine x_iload_n C 1 (i := 1) (k0 := 1) rfl rfl (by decide +kernel) ?_
        refine x_iconst C (n := 2) (by decide +kernel) ?_
        refine x_join (T := Int) (fun t => t3) 138 (fun t => [(0, ar this)]) (fun t => [ai t, ai q1.2, ar this]) (fun t14 => ?_) (fun J138_16 hJ138_16 => ?_)
        · show X z 0 0 t3 138 [(0, ar this)] [ai t14, ai q1.2, ar this] _
          refine x_callV C (ci := 12) (c_X12_put l D ca ra N t3 this q1.2 t14) mt_X12_put mv_X12_put rfl ml_RX12_415 rfl (fun h => Bool.noConfusion h) ⟨Nat.le_of_ble_eq_true rfl, Nat.le_of_ble_eq_true rfl⟩ (Nat.le_of_ble_eq_true rfl) 0 0 ⟨rfl, rfl⟩ ⟨Nat.zero_le _, Nat.zero_le _⟩ (by decide +kernel) _ rfl (fun q15 => []) (fun _ => rfl) (fun q15 => ?_)
          refine x_aload_n C 0 (i := 0) (k0 := 0) rfl rfl (by decide +kernel) ?_
          refine x_callV C (ci := 12) (c_X12_next l D ca ra N q15.1 this) mt_X12_next mv_X12_next rfl ml_RX12_288 rfl (fun h => Bool.noConfusion h) ⟨Nat.le_of_ble_eq_true rfl, Nat.le_of_ble_eq_true rfl⟩ (Nat.le_of_ble_eq_true rfl) 0 0 ⟨rfl, rfl⟩ ⟨Nat.zero_le _, Nat.zero_le _⟩ (by decide +kernel) _ rfl (fun q16 => []) (fun _ => rfl) (fun q16 => ?_)
          refine x_iconst C (n := 1) (by decide +kernel) ?_
          exact x_zret C (Or.inr rfl) ⟨Nat.zero_le _, Nat.zero_le _⟩ (by decide +kernel)
        · skip
          refine x_ic_ne C (tgt := 120) (off := 8) (by decide) (by decide +kernel) (fun h21 => ?_) (fun h21 => ?_)
          · skip
            refine x_iload_n C 1 (i := 1) (k0 := 1) rfl rfl (by decide +kernel) ?_
            refine x_iconst C (n := 1) (by decide +kernel) ?_
            refine x_ic_ne C (tgt := 130) (off := 8) (by decide) (by decide +kernel) (fun h20 => ?_) (fun h20 => ?_)
            · skip
              refine x_aload_n C 0 (i := 0) (k0 := 0) rfl rfl (by decide +kernel) ?_
              refine x_aload_n C 0 (i := 0) (k0 := 0) rfl rfl (by decide +kernel) ?_
              refine x_gI C fl_RX12_249 (fun _ _ _ => rfl) (by decide +kernel) (fun at_18 => ?_)
              refine x_callVp C (ci := 12) (c_X12_sign l D ca ra N t3 this at_18) (p_X12_sign N t3 this at_18) mt_X12_sign mv_X12_sign rfl ml_RX12_252 rfl (fun h => Bool.noConfusion h) ⟨Nat.le_of_ble_eq_true rfl, Nat.le_of_ble_eq_true rfl⟩ (Nat.le_of_ble_eq_true rfl) 0 0 ⟨rfl, rfl⟩ ⟨Nat.zero_le _, Nat.zero_le _⟩ (by decide +kernel) _ rfl (fun q19 => [ai q19.2, ai q1.2, ar this]) (fun _ => rfl) (fun q19 => ?_)
              refine x_sub [0] (lv2 := [(0, ar this)]) rfl ?_
              exact hJ138_16 q19.2
            · skip
              refine x_bipush C (n := 124) (by decide +kernel) (by decide +kernel) ?_
              refine x_goto C (tgt := 138) (off := 11) (by decide) (by decide +kernel) ?_
              refine x_sub [0] (lv2 := [(0, ar this)]) rfl ?_
              exact hJ138_16 124
          · skip
            refine x_bipush C (n := 38) (by decide +kernel) (by decide +kernel) ?_
            refine x_goto C (tgt := 138) (off := 21) (by decide) (by decide +kernel) ?_
            refine x_sub [0] (lv2 := [(0, ar this)]) rfl ?_
            exact hJ138_16 38
    · skip
      -- LOOP L_X12_behind_23 hb23_24
      refine x_loop (T := St) (fun t => t) (fun t => [(0, ar this), (1, ai q1.2)]) σ rfl (fun b23_24 hb23_24 t24 => ?_)
      show X z 0 0 t24 23 [(0, ar this), (1, ai q1.2)] [] _
      refine x_aload_n C 0 (i := 0) (k0 := 0) rfl rfl (by decide +kernel) ?_
      refine x_gR C fl_RX12_98 (fun _ _ _ => rfl) (by decide +kernel) (fun eWhat_26 => ?_)
      refine x_aload_n C 0 (i := 0) (k0 := 0) rfl rfl (by decide +kernel) ?_
      refine x_gI C fl_RX12_409 (fun _ _ _ => rfl) (by decide +kernel) (fun piled_27 => ?_)
      refine x_iconst C (n := 1) (by decide +kernel) ?_
      refine x_isub C (by decide +kernel) ?_
      refine x_aldI C (by decide +kernel) (fun a28 => ?_)
      refine x_bipush C (n := 6) (by decide +kernel) (by decide +kernel) ?_
      show X z 0 0 t24 36 [(0, ar this), (1, ai q1.2)] [ai 6, ai a28] _
      refine x_ic_gt C (tgt := 104) (off := 68) (by decide) (by decide +kernel) (fun h47 => ?_) (fun h47 => ?_)
      · skip
        exact hJ104_22 t24
      · skip
        refine x_aload_n C 0 (i := 0) (k0 := 0) rfl rfl (by decide +kernel) ?_
        refine x_gR C fl_RX12_98 (fun _ _ _ => rfl) (by decide +kernel) (fun eWhat_29 => ?_)
        refine x_aload_n C 0 (i := 0) (k0 := 0) rfl rfl (by decide +kernel) ?_
        refine x_gI C fl_RX12_409 (fun _ _ _ => rfl) (by decide +kernel) (fun piled_30 => ?_)
        refine x_iconst C (n := 1) (by decide +kernel) ?_
        refine x_isub C (by decide +kernel) ?_
        refine x_aldI C (by decide +kernel) (fun a31 => ?_)
        refine x_iload_n C 1 (i := 1) (k0 := 1) rfl rfl (by decide +kernel) ?_
        show X z 0 0 t24 51 [(0, ar this), (1, ai q1.2)] [ai q1.2, ai a31] _
        refine x_ic_lt C (tgt := 104) (off := 53) (by decide) (by decide +kernel) (fun h46 => ?_) (fun h46 => ?_)
        · skip
          exact hJ104_22 t24
        · skip
          refine x_aload_n C 0 (i := 0) (k0 := 0) rfl rfl (by decide +kernel) ?_
          refine x_dup C rfl (by decide +kernel) ?_
          refine x_gI C fl_RX12_409 (fun _ _ _ => rfl) (by decide +kernel) (fun piled_32 => ?_)
          refine x_iconst C (n := 1) (by decide +kernel) ?_
          refine x_isub C (by decide +kernel) ?_
          refine x_pI C fl_RX12_409 rfl (fun q h => by cases h; rfl) (by decide +kernel) (fun σ33 => ?_)
          refine x_aload_n C 0 (i := 0) (k0 := 0) rfl rfl (by decide +kernel) ?_
          refine x_gR C fl_RX12_98 (fun _ _ _ => rfl) (by decide +kernel) (fun eWhat_34 => ?_)
          show X z 0 0 σ33 68 [(0, ar this), (1, ai q1.2)] [ar eWhat_34] _
          refine x_aload_n C 0 (i := 0) (k0 := 0) rfl rfl (by decide +kernel) ?_
          refine x_gI C fl_RX12_409 (fun _ _ _ => rfl) (by decide +kernel) (fun piled_35 => ?_)
          refine x_aldI C (by decide +kernel) (fun a36 => ?_)
          refine x_iconst C (n := 3) (by decide +kernel) ?_
          refine x_join (T := St) (fun t => t) 87 (fun t => [(0, ar this), (1, ai q1.2)]) (fun t => []) (fun t37 => ?_) (fun J87_41 hJ87_41 => ?_)
          · show X z 0 0 t37 87 [(0, ar this), (1, ai q1.2)] [] _
            refine x_aload_n C 0 (i := 0) (k0 := 0) rfl rfl (by decide +kernel) ?_
            refine x_aload_n C 0 (i := 0) (k0 := 0) rfl rfl (by decide +kernel) ?_
            refine x_gR C fl_RX12_101 (fun _ _ _ => rfl) (by decide +kernel) (fun eSign_38 => ?_)
            refine x_aload_n C 0 (i := 0) (k0 := 0) rfl rfl (by decide +kernel) ?_
            refine x_gI C fl_RX12_409 (fun _ _ _ => rfl) (by decide +kernel) (fun piled_39 => ?_)
            refine x_aldI C (by decide +kernel) (fun a40 => ?_)
            refine x_iconst C (n := 0) (by decide +kernel) ?_
            refine x_callV C (ci := 12) (c_X12_step l D ca ra N t37 this a40 0) mt_X12_step mv_X12_step rfl ml_RX12_430 rfl (fun h => Bool.noConfusion h) ⟨Nat.le_of_ble_eq_true rfl, Nat.le_of_ble_eq_true rfl⟩ (Nat.le_of_ble_eq_true rfl) 0 0 ⟨rfl, rfl⟩ ⟨Nat.zero_le _, Nat.zero_le _⟩ (by decide +kernel) _ rfl (fun q41 => []) (fun _ => rfl) (fun q41 => ?_)
            show X z 0 0 q41.1 101 [(0, ar this), (1, ai q1.2)] [] _
            refine x_goto C (tgt := 23) (off := (-78)) (by decide) (by decide +kernel) ?_
            exact hb23_24 q41.1
          · skip
            refine x_ic_ne C (tgt := 87) (off := 13) (by decide) (by decide +kernel) (fun h45 => ?_) (fun h45 => ?_)
            · skip
              exact hJ87_41 σ33
            · skip
              refine x_aload_n C 0 (i := 0) (k0 := 0) rfl rfl (by decide +kernel) ?_
              refine x_dup C rfl (by decide +kernel) ?_
              refine x_gI C fl_RX12_412 (fun _ _ _ => rfl) (by decide +kernel) (fun deep_43 => ?_)
              refine x_iconst C (n := 1) (by decide +kernel) ?_
              refine x_isub C (by decide +kernel) ?_
              refine x_pI C fl_RX12_412 rfl (fun q h => by cases h; rfl) (by decide +kernel) (fun σ44 => ?_)
              exact hJ87_41 σ44
  · skip
    refine x_ic_ne C (tgt := 23) (off := 16) (by decide) (by decide +kernel) (fun h52 => ?_) (fun h52 => ?_)
    · skip
      refine x_sub [1, 0] (lv2 := [(0, ar this), (1, ai q1.2)]) rfl ?_
      exact hJ23_47 ()
    · skip
      refine x_aload_n C 1 (i := 0) (k0 := 0) rfl rfl (by decide +kernel) ?_
      refine x_callVp C (ci := 12) (c_X12_isCompared l D ca ra N σ this) (p_X12_isCompared N σ this) mt_X12_isCompared mv_X12_isCompared rfl ml_RX12_436 rfl (fun h => Bool.noConfusion h) ⟨Nat.le_of_ble_eq_true rfl, Nat.le_of_ble_eq_true rfl⟩ (Nat.le_of_ble_eq_true rfl) 0 0 ⟨rfl, rfl⟩ ⟨Nat.zero_le _, Nat.zero_le _⟩ (by decide +kernel) _ rfl (fun q49 => [ai q49.2]) (fun _ => rfl) (fun q49 => ?_)
      refine x_if_eq C (tgt := 23) (off := 9) (by decide) (by decide +kernel) (fun h51 => ?_) (fun h51 => ?_)
      · skip
        refine x_sub [1, 0] (lv2 := [(0, ar this), (1, ai q1.2)]) rfl ?_
        exact hJ23_47 ()
      · skip
        refine x_aload_n C 1 (i := 0) (k0 := 0) rfl rfl (by decide +kernel) ?_
        refine x_callV C (ci := 12) (c_X12_wrong l D ca ra N σ this) mt_X12_wrong mv_X12_wrong rfl ml_RX12_291 rfl (fun h => Bool.noConfusion h) ⟨Nat.le_of_ble_eq_true rfl, Nat.le_of_ble_eq_true rfl⟩ (Nat.le_of_ble_eq_true rfl) 0 0 ⟨rfl, rfl⟩ ⟨Nat.zero_le _, Nat.zero_le _⟩ (by decide +kernel) _ rfl (fun q50 => []) (fun _ => rfl) (fun q50 => ?_)
        refine x_iconst C (n := 1) (by decide +kernel) ?_
        exact x_zret C (Or.inr rfl) ⟨Nat.zero_le _, Nat.zero_le _⟩ (by decide +kernel)

def rm_X12_mayAsk : Room := { frames := 0, cells := 0, slots := 0, locals := 0 }
def f_X12_mayAsk (N : Nat) (σ : St) (this : Nat) (p0 : Int) : Option (St × Int) :=
 (if wr p0 = 0 then some (σ, 1) else Option.bind (gI shm σ 12 this 49) fun lineNow_1 =>
 (if wr lineNow_1 = 0 then (if wr p0 = wr 108 then some (σ, 1) else (if wr p0 = wr 99 then some (σ, 1) else (if wr p0 = wr 109 then some (σ, 1) else some (σ, 0)))) else Option.bind (gI shm σ 12 this 49) fun lineNow_2 =>
 (if wr lineNow_2 = wr 1 then (if wr p0 = wr 109 then some (σ, 1) else (if wr p0 = wr 111 then some (σ, 1) else some (σ, 0))) else Option.bind (gI shm σ 12 this 49) fun lineNow_3 =>
 (if wr lineNow_3 = wr 2 then (if wr p0 = wr 103 then some (σ, 1) else (if wr p0 = wr 104 then some (σ, 1) else (if wr p0 = wr 115 then some (σ, 1) else some (σ, 0)))) else (if wr p0 = wr 97 then some (σ, 1) else (if wr p0 = wr 119 then some (σ, 1) else (if wr p0 = wr 116 then some (σ, 1) else (if wr p0 = wr 112 then some (σ, 1) else (if wr p0 = wr 109 then some (σ, 1) else some (σ, 0))))))))))
set_option maxRecDepth 100000 in
set_option maxHeartbeats 4000000 in
theorem c_X12_mayAsk (l : Launch) (D : va_G) (ca : Nat → ClassId) (ra : Nat → Nat) (N : Nat) (σ : St) (this : Nat) (p0 : Int) : Ctr l (D, ca, ra, shm) false yX12_mayAsk cX12_mayAsk 2 (some .boolean) rm_X12_mayAsk σ [ar this, ai p0] (f_X12_mayAsk N σ this p0) := by
  refine ctr_of (by decide) (Nat.le_of_ble_eq_true rfl) (fun z C => ?_)
  show X z 0 0 σ 0 [(0, ar this), (1, ai p0)] [] _
  unfold f_X12_mayAsk
  refine x_iload_n C 1 (i := 1) (k0 := 1) rfl rfl (by decide +kernel) ?_
  refine x_if_ne C (tgt := 6) (off := 5) (by decide) (by decide +kernel) (fun h20 => ?_) (fun h20 => ?_)
  · skip
    refine x_aload_n C 0 (i := 0) (k0 := 0) rfl rfl (by decide +kernel) ?_
    refine x_gI C fl_RX12_403 (fun _ _ _ => rfl) (by decide +kernel) (fun lineNow_1 => ?_)
    refine x_if_ne C (tgt := 37) (off := 27) (by decide) (by decide +kernel) (fun h19 => ?_) (fun h19 => ?_)
    · skip
      refine x_aload_n C 0 (i := 0) (k0 := 0) rfl rfl (by decide +kernel) ?_
      refine x_gI C fl_RX12_403 (fun _ _ _ => rfl) (by decide +kernel) (fun lineNow_2 => ?_)
      refine x_iconst C (n := 1) (by decide +kernel) ?_
      refine x_ic_ne C (tgt := 63) (off := 21) (by decide) (by decide +kernel) (fun h15 => ?_) (fun h15 => ?_)
      · skip
        refine x_aload_n C 0 (i := 0) (k0 := 0) rfl rfl (by decide +kernel) ?_
        refine x_gI C fl_RX12_403 (fun _ _ _ => rfl) (by decide +kernel) (fun lineNow_3 => ?_)
        refine x_iconst C (n := 2) (by decide +kernel) ?_
        refine x_ic_ne C (tgt := 95) (off := 27) (by decide) (by decide +kernel) (fun h12 => ?_) (fun h12 => ?_)
        · skip
          refine x_iload_n C 1 (i := 1) (k0 := 1) rfl rfl (by decide +kernel) ?_
          refine x_bipush C (n := 97) (by decide +kernel) (by decide +kernel) ?_
          refine x_ic_eq C (tgt := 125) (off := 27) (by decide) (by decide +kernel) (fun h8 => ?_) (fun h8 => ?_)
          · skip
            refine x_iconst C (n := 1) (by decide +kernel) ?_
            refine x_goto C (tgt := 130) (off := 4) (by decide) (by decide +kernel) ?_
            exact x_zret C (Or.inr rfl) ⟨Nat.zero_le _, Nat.zero_le _⟩ (by decide +kernel)
          · skip
            refine x_iload_n C 1 (i := 1) (k0 := 1) rfl rfl (by decide +kernel) ?_
            refine x_bipush C (n := 119) (by decide +kernel) (by decide +kernel) ?_
            refine x_ic_eq C (tgt := 125) (off := 21) (by decide) (by decide +kernel) (fun h7 => ?_) (fun h7 => ?_)
            · skip
              refine x_iconst C (n := 1) (by decide +kernel) ?_
              refine x_goto C (tgt := 130) (off := 4) (by decide) (by decide +kernel) ?_
              exact x_zret C (Or.inr rfl) ⟨Nat.zero_le _, Nat.zero_le _⟩ (by decide +kernel)
            · skip
              refine x_iload_n C 1 (i := 1) (k0 := 1) rfl rfl (by decide +kernel) ?_
              refine x_bipush C (n := 116) (by decide +kernel) (by decide +kernel) ?_
              refine x_ic_eq C (tgt := 125) (off := 15) (by decide) (by decide +kernel) (fun h6 => ?_) (fun h6 => ?_)
              · skip
                refine x_iconst C (n := 1) (by decide +kernel) ?_
                refine x_goto C (tgt := 130) (off := 4) (by decide) (by decide +kernel) ?_
                exact x_zret C (Or.inr rfl) ⟨Nat.zero_le _, Nat.zero_le _⟩ (by decide +kernel)
              · skip
                refine x_iload_n C 1 (i := 1) (k0 := 1) rfl rfl (by decide +kernel) ?_
                refine x_bipush C (n := 112) (by decide +kernel) (by decide +kernel) ?_
                refine x_ic_eq C (tgt := 125) (off := 9) (by decide) (by decide +kernel) (fun h5 => ?_) (fun h5 => ?_)
                · skip
                  refine x_iconst C (n := 1) (by decide +kernel) ?_
                  refine x_goto C (tgt := 130) (off := 4) (by decide) (by decide +kernel) ?_
                  exact x_zret C (Or.inr rfl) ⟨Nat.zero_le _, Nat.zero_le _⟩ (by decide +kernel)
                · skip
                  refine x_iload_n C 1 (i := 1) (k0 := 1) rfl rfl (by decide +kernel) ?_
                  refine x_bipush C (n := 109) (by decide +kernel) (by decide +kernel) ?_
                  refine x_ic_ne C (tgt := 129) (off := 7) (by decide) (by decide +kernel) (fun h4 => ?_) (fun h4 => ?_)
                  · skip
                    refine x_iconst C (n := 0) (by decide +kernel) ?_
                    exact x_zret C (Or.inl rfl) ⟨Nat.zero_le _, Nat.zero_le _⟩ (by decide +kernel)
                  · skip
                    refine x_iconst C (n := 1) (by decide +kernel) ?_
                    refine x_goto C (tgt := 130) (off := 4) (by decide) (by decide +kernel) ?_
                    exact x_zret C (Or.inr rfl) ⟨Nat.zero_le _, Nat.zero_le _⟩ (by decide +kernel)
        · skip
          refine x_iload_n C 1 (i := 1) (k0 := 1) rfl rfl (by decide +kernel) ?_
          refine x_bipush C (n := 103) (by decide +kernel) (by decide +kernel) ?_
          refine x_ic_eq C (tgt := 89) (off := 15) (by decide) (by decide +kernel) (fun h11 => ?_) (fun h11 => ?_)
          · skip
            refine x_iconst C (n := 1) (by decide +kernel) ?_
            refine x_goto C (tgt := 94) (off := 4) (by decide) (by decide +kernel) ?_
            exact x_zret C (Or.inr rfl) ⟨Nat.zero_le _, Nat.zero_le _⟩ (by decide +kernel)
          · skip
            refine x_iload_n C 1 (i := 1) (k0 := 1) rfl rfl (by decide +kernel) ?_
            refine x_bipush C (n := 104) (by decide +kernel) (by decide +kernel) ?_
            refine x_ic_eq C (tgt := 89) (off := 9) (by decide) (by decide +kernel) (fun h10 => ?_) (fun h10 => ?_)
            · skip
              refine x_iconst C (n := 1) (by decide +kernel) ?_
              refine x_goto C (tgt := 94) (off := 4) (by decide) (by decide +kernel) ?_
              exact x_zret C (Or.inr rfl) ⟨Nat.zero_le _, Nat.zero_le _⟩ (by decide +kernel)
            · skip
              refine x_iload_n C 1 (i := 1) (k0 := 1) rfl rfl (by decide +kernel) ?_
              refine x_bipush C (n := 115) (by decide +kernel) (by decide +kernel) ?_
              refine x_ic_ne C (tgt := 93) (off := 7) (by decide) (by decide +kernel) (fun h9 => ?_) (fun h9 => ?_)
              · skip
                refine x_iconst C (n := 0) (by decide +kernel) ?_
                exact x_zret C (Or.inl rfl) ⟨Nat.zero_le _, Nat.zero_le _⟩ (by decide +kernel)
              · skip
                refine x_iconst C (n := 1) (by decide +kernel) ?_
                refine x_goto C (tgt := 94) (off := 4) (by decide) (by decide +kernel) ?_
                exact x_zret C (Or.inr rfl) ⟨Nat.zero_le _, Nat.zero_le _⟩ (by decide +kernel)
      · skip
        refine x_iload_n C 1 (i := 1) (k0 := 1) rfl rfl (by decide +kernel) ?_
        refine x_bipush C (n := 109) (by decide +kernel) (by decide +kernel) ?_
        refine x_ic_eq C (tgt := 57) (off := 9) (by decide) (by decide +kernel) (fun h14 => ?_) (fun h14 => ?_)
        · skip
          refine x_iconst C (n := 1) (by decide +kernel) ?_
          refine x_goto C (tgt := 62) (off := 4) (by decide) (by decide +kernel) ?_
          exact x_zret C (Or.inr rfl) ⟨Nat.zero_le _, Nat.zero_le _⟩ (by decide +kernel)
        · skip
          refine x_iload_n C 1 (i := 1) (k0 := 1) rfl rfl (by decide +kernel) ?_
          refine x_bipush C (n := 111) (by decide +kernel) (by decide +kernel) ?_
          refine x_ic_ne C (tgt := 61) (off := 7) (by decide) (by decide +kernel) (fun h13 => ?_) (fun h13 => ?_)
          · skip
            refine x_iconst C (n := 0) (by decide +kernel) ?_
            exact x_zret C (Or.inl rfl) ⟨Nat.zero_le _, Nat.zero_le _⟩ (by decide +kernel)
          · skip
            refine x_iconst C (n := 1) (by decide +kernel) ?_
            refine x_goto C (tgt := 62) (off := 4) (by decide) (by decide +kernel) ?_
            exact x_zret C (Or.inr rfl) ⟨Nat.zero_le _, Nat.zero_le _⟩ (by decide +kernel)
    · skip
      refine x_iload_n C 1 (i := 1) (k0 := 1) rfl rfl (by decide +kernel) ?_
      refine x_bipush C (n := 108) (by decide +kernel) (by decide +kernel) ?_
      refine x_ic_eq C (tgt := 31) (off := 15) (by decide) (by decide +kernel) (fun h18 => ?_) (fun h18 => ?_)
      · skip
        refine x_iconst C (n := 1) (by decide +kernel) ?_
        refine x_goto C (tgt := 36) (off := 4) (by decide) (by decide +kernel) ?_
        exact x_zret C (Or.inr rfl) ⟨Nat.zero_le _, Nat.zero_le _⟩ (by decide +kernel)
      · skip
        refine x_iload_n C 1 (i := 1) (k0 := 1) rfl rfl (by decide +kernel) ?_
        refine x_bipush C (n := 99) (by decide +kernel) (by decide +kernel) ?_
        refine x_ic_eq C (tgt := 31) (off := 9) (by decide) (by decide +kernel) (fun h17 => ?_) (fun h17 => ?_)
        · skip
          refine x_iconst C (n := 1) (by decide +kernel) ?_
          refine x_goto C (tgt := 36) (off := 4) (by decide) (by decide +kernel) ?_
          exact x_zret C (Or.inr rfl) ⟨Nat.zero_le _, Nat.zero_le _⟩ (by decide +kernel)
        · skip
          refine x_iload_n C 1 (i := 1) (k0 := 1) rfl rfl (by decide +kernel) ?_
          refine x_bipush C (n := 109) (by decide +kernel) (by decide +kernel) ?_
          refine x_ic_ne C (tgt := 35) (off := 7) (by decide) (by decide +kernel) (fun h16 => ?_) (fun h16 => ?_)
          · skip
            refine x_iconst C (n := 0) (by decide +kernel) ?_
            exact x_zret C (Or.inl rfl) ⟨Nat.zero_le _, Nat.zero_le _⟩ (by decide +kernel)
          · skip
            refine x_iconst C (n := 1) (by decide +kernel) ?_
            refine x_goto C (tgt := 36) (off := 4) (by decide) (by decide +kernel) ?_
            exact x_zret C (Or.inr rfl) ⟨Nat.zero_le _, Nat.zero_le _⟩ (by decide +kernel)
  · skip
    refine x_iconst C (n := 1) (by decide +kernel) ?_
    exact x_zret C (Or.inr rfl) ⟨Nat.zero_le _, Nat.zero_le _⟩ (by decide +kernel)
theorem p_X12_mayAsk (N : Nat) (σ : St) (this : Nat) (p0 : Int) : Pu σ (f_X12_mayAsk N σ this p0) := by
  unfold f_X12_mayAsk
  refine pu_ifs ?_ ?_
  · skip
    refine pu_bind (fun _ => ?_)
    refine pu_ifs ?_ ?_
    · skip
      refine pu_bind (fun _ => ?_)
      refine pu_ifs ?_ ?_
      · skip
        refine pu_bind (fun _ => ?_)
        refine pu_ifs ?_ ?_
        · skip
          refine pu_if ?_ ?_
          · skip
            exact pu_some
          · skip
            refine pu_if ?_ ?_
            · skip
              exact pu_some
            · skip
              refine pu_if ?_ ?_
              · skip
                exact pu_some
              · skip
                refine pu_if ?_ ?_
                · skip
                  exact pu_some
                · skip
                  refine pu_ifs ?_ ?_
                  · skip
                    exact pu_some
                  · skip
                    exact pu_some
        · skip
          refine pu_if ?_ ?_
          · skip
            exact pu_some
          · skip
            refine pu_if ?_ ?_
            · skip
              exact pu_some
            · skip
              refine pu_ifs ?_ ?_
              · skip
                exact pu_some
              · skip
                exact pu_some
      · skip
        refine pu_if ?_ ?_
        · skip
          exact pu_some
        · skip
          refine pu_ifs ?_ ?_
          · skip
            exact pu_some
          · skip
            exact pu_some
    · skip
      refine pu_if ?_ ?_
      · skip
        exact pu_some
      · skip
        refine pu_if ?_ ?_
        · skip
          exact pu_some
        · skip
          refine pu_ifs ?_ ?_
          · skip
            exact pu_some
          · skip
            exact pu_some
  · skip
    exact pu_some

def rm_X12_wordHere : Room := { frames := 1, cells := 0, slots := 0, locals := 22 }
def f_X12_wordHere (N : Nat) (σ : St) (this : Nat) : Option (St × Int) :=
 Option.bind (rcv shm σ 12 this (f_X12_isWord N σ this 1818324580)) fun q1 =>
 (if wr q1.2 = 0 then Option.bind (rcv shm σ 12 this (f_X12_isWord N σ this 1668248436)) fun q2 =>
 (if wr q2.2 = 0 then Option.bind (rcv shm σ 12 this (f_X12_isWord N σ this 470020945000)) fun q3 =>
 (if wr q3.2 = 0 then Option.bind (rcv shm σ 12 this (f_X12_isWord N σ this 1870030194)) fun q4 =>
 (if wr q4.2 = 0 then Option.bind (rcv shm σ 12 this (f_X12_isWord N σ this 113741193899620)) fun q5 =>
 (if wr q5.2 = 0 then Option.bind (rcv shm σ 12 this (f_X12_isWord N σ this 1752135026)) fun q6 =>
 (if wr q6.2 = 0 then Option.bind (rcv shm σ 12 this (f_X12_isWord N σ this 495806932324)) fun q7 =>
 (if wr q7.2 = 0 then Option.bind (rcv shm σ 12 this (f_X12_isWord N σ this 27419012906970725)) fun q8 =>
 (if wr q8.2 = 0 then Option.bind (rcv shm σ 12 this (f_X12_isWord N σ this 495673374574)) fun q9 =>
 (if wr q9.2 = 0 then Option.bind (rcv shm σ 12 this (f_X12_isWord N σ this 122545758368371)) fun q10 =>
 (if wr q10.2 = 0 then Option.bind (rcv shm σ 12 this (f_X12_isWord N σ this 482955846501)) fun q11 =>
 (if wr q11.2 = 0 then some (σ, 0) else some (σ, 112)) else some (σ, 116)) else some (σ, 119)) else some (σ, 97)) else some (σ, 115)) else some (σ, 104)) else some (σ, 103)) else some (σ, 111)) else some (σ, 109)) else some (σ, 99)) else some (σ, 108))
set_option maxRecDepth 100000 in
set_option maxHeartbeats 4000000 in
theorem c_X12_wordHere (l : Launch) (D : va_G) (ca : Nat → ClassId) (ra : Nat → Nat) (N : Nat) (σ : St) (this : Nat) : Ctr l (D, ca, ra, shm) false yX12_wordHere cX12_wordHere 1 (some .int) rm_X12_wordHere σ [ar this] (f_X12_wordHere N σ this) := by
  refine ctr_of (by decide) (Nat.le_of_ble_eq_true rfl) (fun z C => ?_)
  show X z 0 0 σ 0 [(0, ar this)] [] _
  unfold f_X12_wordHere
  refine x_aload_n C 0 (i := 0) (k0 := 0) rfl rfl (by decide +kernel) ?_
  refine x_ldc2 C (n := 1818324580) (v := 1818324580) kl_RX12_224 (by decide +kernel) (by decide +kernel) ?_
  refine x_callVp C (ci := 12) (c_X12_isWord l D ca ra N σ this 1818324580) (p_X12_isWord N σ this 1818324580) mt_X12_isWord mv_X12_isWord rfl ml_RX12_315 rfl (fun h => Bool.noConfusion h) ⟨Nat.le_of_ble_eq_true rfl, Nat.le_of_ble_eq_true rfl⟩ (Nat.le_of_ble_eq_true rfl) 0 0 ⟨rfl, rfl⟩ ⟨Nat.zero_le _, Nat.zero_le _⟩ (by decide +kernel) _ rfl (fun q1 => [ai q1.2]) (fun _ => rfl) (fun q1 => ?_)
  refine x_if_eq C (tgt := 13) (off := 6) (by decide) (by decide +kernel) (fun h22 => ?_) (fun h22 => ?_)
  · skip
    refine x_aload_n C 0 (i := 0) (k0 := 0) rfl rfl (by decide +kernel) ?_
    refine x_ldc2 C (n := 1668248436) (v := 1668248436) kl_RX12_226 (by decide +kernel) (by decide +kernel) ?_
    refine x_callVp C (ci := 12) (c_X12_isWord l D ca ra N σ this 1668248436) (p_X12_isWord N σ this 1668248436) mt_X12_isWord mv_X12_isWord rfl ml_RX12_315 rfl (fun h => Bool.noConfusion h) ⟨Nat.le_of_ble_eq_true rfl, Nat.le_of_ble_eq_true rfl⟩ (Nat.le_of_ble_eq_true rfl) 0 0 ⟨rfl, rfl⟩ ⟨Nat.zero_le _, Nat.zero_le _⟩ (by decide +kernel) _ rfl (fun q2 => [ai q2.2]) (fun _ => rfl) (fun q2 => ?_)
    refine x_if_eq C (tgt := 26) (off := 6) (by decide) (by decide +kernel) (fun h21 => ?_) (fun h21 => ?_)
    · skip
      refine x_aload_n C 0 (i := 0) (k0 := 0) rfl rfl (by decide +kernel) ?_
      refine x_ldc2 C (n := 470020945000) (v := 470020945000) kl_RX12_228 (by decide +kernel) (by decide +kernel) ?_
      refine x_callVp C (ci := 12) (c_X12_isWord l D ca ra N σ this 470020945000) (p_X12_isWord N σ this 470020945000) mt_X12_isWord mv_X12_isWord rfl ml_RX12_315 rfl (fun h => Bool.noConfusion h) ⟨Nat.le_of_ble_eq_true rfl, Nat.le_of_ble_eq_true rfl⟩ (Nat.le_of_ble_eq_true rfl) 0 0 ⟨rfl, rfl⟩ ⟨Nat.zero_le _, Nat.zero_le _⟩ (by decide +kernel) _ rfl (fun q3 => [ai q3.2]) (fun _ => rfl) (fun q3 => ?_)
      refine x_if_eq C (tgt := 39) (off := 6) (by decide) (by decide +kernel) (fun h20 => ?_) (fun h20 => ?_)
      · skip
        refine x_aload_n C 0 (i := 0) (k0 := 0) rfl rfl (by decide +kernel) ?_
        refine x_ldc2 C (n := 1870030194) (v := 1870030194) kl_RX12_230 (by decide +kernel) (by decide +kernel) ?_
        refine x_callVp C (ci := 12) (c_X12_isWord l D ca ra N σ this 1870030194) (p_X12_isWord N σ this 1870030194) mt_X12_isWord mv_X12_isWord rfl ml_RX12_315 rfl (fun h => Bool.noConfusion h) ⟨Nat.le_of_ble_eq_true rfl, Nat.le_of_ble_eq_true rfl⟩ (Nat.le_of_ble_eq_true rfl) 0 0 ⟨rfl, rfl⟩ ⟨Nat.zero_le _, Nat.zero_le _⟩ (by decide +kernel) _ rfl (fun q4 => [ai q4.2]) (fun _ => rfl) (fun q4 => ?_)
        refine x_if_eq C (tgt := 52) (off := 6) (by decide) (by decide +kernel) (fun h19 => ?_) (fun h19 => ?_)
        · skip
          refine x_aload_n C 0 (i := 0) (k0 := 0) rfl rfl (by decide +kernel) ?_
          refine x_ldc2 C (n := 113741193899620) (v := 113741193899620) kl_RX12_232 (by decide +kernel) (by decide +kernel) ?_
          refine x_callVp C (ci := 12) (c_X12_isWord l D ca ra N σ this 113741193899620) (p_X12_isWord N σ this 113741193899620) mt_X12_isWord mv_X12_isWord rfl ml_RX12_315 rfl (fun h => Bool.noConfusion h) ⟨Nat.le_of_ble_eq_true rfl, Nat.le_of_ble_eq_true rfl⟩ (Nat.le_of_ble_eq_true rfl) 0 0 ⟨rfl, rfl⟩ ⟨Nat.zero_le _, Nat.zero_le _⟩ (by decide +kernel) _ rfl (fun q5 => [ai q5.2]) (fun _ => rfl) (fun q5 => ?_)
          refine x_if_eq C (tgt := 65) (off := 6) (by decide) (by decide +kernel) (fun h18 => ?_) (fun h18 => ?_)
          · skip
            refine x_aload_n C 0 (i := 0) (k0 := 0) rfl rfl (by decide +kernel) ?_
            refine x_ldc2 C (n := 1752135026) (v := 1752135026) kl_RX12_234 (by decide +kernel) (by decide +kernel) ?_
            refine x_callVp C (ci := 12) (c_X12_isWord l D ca ra N σ this 1752135026) (p_X12_isWord N σ this 1752135026) mt_X12_isWord mv_X12_isWord rfl ml_RX12_315 rfl (fun h => Bool.noConfusion h) ⟨Nat.le_of_ble_eq_true rfl, Nat.le_of_ble_eq_true rfl⟩ (Nat.le_of_ble_eq_true rfl) 0 0 ⟨rfl, rfl⟩ ⟨Nat.zero_le _, Nat.zero_le _⟩ (by decide +kernel) _ rfl (fun q6 => [ai q6.2]) (fun _ => rfl) (fun q6 => ?_)
            refine x_if_eq C (tgt := 78) (off := 6) (by decide) (by decide +kernel) (fun h17 => ?_) (fun h17 => ?_)
            · skip
              refine x_aload_n C 0 (i := 0) (k0 := 0) rfl rfl (by decide +kernel) ?_
              refine x_ldc2 C (n := 495806932324) (v := 495806932324) kl_RX12_236 (by decide +kernel) (by decide +kernel) ?_
              refine x_callVp C (ci := 12) (c_X12_isWord l D ca ra N σ this 495806932324) (p_X12_isWord N σ this 495806932324) mt_X12_isWord mv_X12_isWord rfl ml_RX12_315 rfl (fun h => Bool.noConfusion h) ⟨Nat.le_of_ble_eq_true rfl, Nat.le_of_ble_eq_true rfl⟩ (Nat.le_of_ble_eq_true rfl) 0 0 ⟨rfl, rfl⟩ ⟨Nat.zero_le _, Nat.zero_le _⟩ (by decide +kernel) _ rfl (fun q7 => [ai q7.2]) (fun _ => rfl) (fun q7 => ?_)
              refine x_if_eq C (tgt := 91) (off := 6) (by decide) (by decide +kernel) (fun h16 => ?_) (fun h16 => ?_)
              · skip
                refine x_aload_n C 0 (i := 0) (k0 := 0) rfl rfl (by decide +kernel) ?_
                refine x_ldc2 C (n := 27419012906970725) (v := 27419012906970725) kl_RX12_238 (by decide +kernel) (by decide +kernel) ?_
                refine x_callVp C (ci := 12) (c_X12_isWord l D ca ra N σ this 27419012906970725) (p_X12_isWord N σ this 27419012906970725) mt_X12_isWord mv_X12_isWord rfl ml_RX12_315 rfl (fun h => Bool.noConfusion h) ⟨Nat.le_of_ble_eq_true rfl, Nat.le_of_ble_eq_true rfl⟩ (Nat.le_of_ble_eq_true rfl) 0 0 ⟨rfl, rfl⟩ ⟨Nat.zero_le _, Nat.zero_le _⟩ (by decide +kernel) _ rfl (fun q8 => [ai q8.2]) (fun _ => rfl) (fun q8 => ?_)
                refine x_if_eq C (tgt := 104) (off := 6) (by decide) (by decide +kernel) (fun h15 => ?_) (fun h15 => ?_)
                · skip
                  refine x_aload_n C 0 (i := 0) (k0 := 0) rfl rfl (by decide +kernel) ?_
                  refine x_ldc2 C (n := 495673374574) (v := 495673374574) kl_RX12_240 (by decide +kernel) (by decide +kernel) ?_
                  refine x_callVp C (ci := 12) (c_X12_isWord l D ca ra N σ this 495673374574) (p_X12_isWord N σ this 495673374574) mt_X12_isWord mv_X12_isWord rfl ml_RX12_315 rfl (fun h => Bool.noConfusion h) ⟨Nat.le_of_ble_eq_true rfl, Nat.le_of_ble_eq_true rfl⟩ (Nat.le_of_ble_eq_true rfl) 0 0 ⟨rfl, rfl⟩ ⟨Nat.zero_le _, Nat.zero_le _⟩ (by decide +kernel) _ rfl (fun q9 => [ai q9.2]) (fun _ => rfl) (fun q9 => ?_)
                  refine x_if_eq C (tgt := 117) (off := 6) (by decide) (by decide +kernel) (fun h14 => ?_) (fun h14 => ?_)
                  · skip
                    refine x_aload_n C 0 (i := 0) (k0 := 0) rfl rfl (by decide +kernel) ?_
                    refine x_ldc2 C (n := 122545758368371) (v := 122545758368371) kl_RX12_242 (by decide +kernel) (by decide +kernel) ?_
                    refine x_callVp C (ci := 12) (c_X12_isWord l D ca ra N σ this 122545758368371) (p_X12_isWord N σ this 122545758368371) mt_X12_isWord mv_X12_isWord rfl ml_RX12_315 rfl (fun h => Bool.noConfusion h) ⟨Nat.le_of_ble_eq_true rfl, Nat.le_of_ble_eq_true rfl⟩ (Nat.le_of_ble_eq_true rfl) 0 0 ⟨rfl, rfl⟩ ⟨Nat.zero_le _, Nat.zero_le _⟩ (by decide +kernel) _ rfl (fun q10 => [ai q10.2]) (fun _ => rfl) (fun q10 => ?_)
                    refine x_if_eq C (tgt := 130) (off := 6) (by decide) (by decide +kernel) (fun h13 => ?_) (fun h13 => ?_)
                    · skip
                      refine x_aload_n C 0 (i := 0) (k0 := 0) rfl rfl (by decide +kernel) ?_
                      refine x_ldc2 C (n := 482955846501) (v := 482955846501) kl_RX12_244 (by decide +kernel) (by decide +kernel) ?_
                      refine x_callVp C (ci := 12) (c_X12_isWord l D ca ra N σ this 482955846501) (p_X12_isWord N σ this 482955846501) mt_X12_isWord mv_X12_isWord rfl ml_RX12_315 rfl (fun h => Bool.noConfusion h) ⟨Nat.le_of_ble_eq_true rfl, Nat.le_of_ble_eq_true rfl⟩ (Nat.le_of_ble_eq_true rfl) 0 0 ⟨rfl, rfl⟩ ⟨Nat.zero_le _, Nat.zero_le _⟩ (by decide +kernel) _ rfl (fun q11 => [ai q11.2]) (fun _ => rfl) (fun q11 => ?_)
                      refine x_if_eq C (tgt := 145) (off := 8) (by decide) (by decide +kernel) (fun h12 => ?_) (fun h12 => ?_)
                      · skip
                        refine x_iconst C (n := 0) (by decide +kernel) ?_
                        exact x_iret C ⟨Nat.zero_le _, Nat.zero_le _⟩ (by decide +kernel)
                      · skip
                        refine x_bipush C (n := 112) (by decide +kernel) (by decide +kernel) ?_
                        refine x_goto C (tgt := 146) (off := 4) (by decide) (by decide +kernel) ?_
                        exact x_iret C ⟨Nat.zero_le _, Nat.zero_le _⟩ (by decide +kernel)
                    · skip
                      refine x_bipush C (n := 116) (by decide +kernel) (by decide +kernel) ?_
                      exact x_iret C ⟨Nat.zero_le _, Nat.zero_le _⟩ (by decide +kernel)
                  · skip
                    refine x_bipush C (n := 119) (by decide +kernel) (by decide +kernel) ?_
                    exact x_iret C ⟨Nat.zero_le _, Nat.zero_le _⟩ (by decide +kernel)
                · skip
                  refine x_bipush C (n := 97) (by decide +kernel) (by decide +kernel) ?_
                  exact x_iret C ⟨Nat.zero_le _, Nat.zero_le _⟩ (by decide +kernel)
              · skip
                refine x_bipush C (n := 115) (by decide +kernel) (by decide +kernel) ?_
                exact x_iret C ⟨Nat.zero_le _, Nat.zero_le _⟩ (by decide +kernel)
            · skip
              refine x_bipush C (n := 104) (by decide +kernel) (by decide +kernel) ?_
              exact x_iret C ⟨Nat.zero_le _, Nat.zero_le _⟩ (by decide +kernel)
          · skip
            refine x_bipush C (n := 103) (by decide +kernel) (by decide +kernel) ?_
            exact x_iret C ⟨Nat.zero_le _, Nat.zero_le _⟩ (by decide +kernel)
        · skip
          refine x_bipush C (n := 111) (by decide +kernel) (by decide +kernel) ?_
          exact x_iret C ⟨Nat.zero_le _, Nat.zero_le _⟩ (by decide +kernel)
      · skip
        refine x_bipush C (n := 109) (by decide +kernel) (by decide +kernel) ?_
        exact x_iret C ⟨Nat.zero_le _, Nat.zero_le _⟩ (by decide +kernel)
    · skip
      refine x_bipush C (n := 99) (by decide +kernel) (by decide +kernel) ?_
      exact x_iret C ⟨Nat.zero_le _, Nat.zero_le _⟩ (by decide +kernel)
  · skip
    refine x_bipush C (n := 108) (by decide +kernel) (by decide +kernel) ?_
    exact x_iret C ⟨Nat.zero_le _, Nat.zero_le _⟩ (by decide +kernel)
theorem p_X12_wordHere (N : Nat) (σ : St) (this : Nat) : Pu σ (f_X12_wordHere N σ this) := by
  unfold f_X12_wordHere
  refine pu_bind (fun _ => ?_)
  refine pu_if ?_ ?_
  · skip
    refine pu_bind (fun _ => ?_)
    refine pu_if ?_ ?_
    · skip
      refine pu_bind (fun _ => ?_)
      refine pu_if ?_ ?_
      · skip
        refine pu_bind (fun _ => ?_)
        refine pu_if ?_ ?_
        · skip
          refine pu_bind (fun _ => ?_)
          refine pu_if ?_ ?_
          · skip
            refine pu_bind (fun _ => ?_)
            refine pu_if ?_ ?_
            · skip
              refine pu_bind (fun _ => ?_)
              refine pu_if ?_ ?_
              · skip
                refine pu_bind (fun _ => ?_)
                refine pu_if ?_ ?_
                · skip
                  refine pu_bind (fun _ => ?_)
                  refine pu_if ?_ ?_
                  · skip
                    refine pu_bind (fun _ => ?_)
                    refine pu_if ?_ ?_
                    · skip
                      refine pu_bind (fun _ => ?_)
                      refine pu_if ?_ ?_
                      · skip
                        exact pu_some
                      · skip
                        exact pu_some
                    · skip
                      exact pu_some
                  · skip
                    exact pu_some
                · skip
                  exact pu_some
              · skip
                exact pu_some
            · skip
              exact pu_some
          · skip
            exact pu_some
        · skip
          exact pu_some
      · skip
        exact pu_some
    · skip
      exact pu_some
  · skip
    exact pu_some

def rm_X12_unit : Room := { frames := 2, cells := 0, slots := 0, locals := 45 }
def f_X12_unit (N : Nat) (σ : St) (this : Nat) : Option (St × Int) :=
 Option.bind (gR shm σ 12 this 41) fun eWhat_1 =>
 Option.bind (gI shm σ 12 this 48) fun piled_2 =>
 Option.bind (aI shm σ 1 eWhat_1 (piled_2 - 1)) fun a3 =>
 Jn (fun t4 : Int => Jn (fun t5 : Int => Option.bind (rcv shm σ 12 this (f_X12_is N σ this 40)) fun q6 =>
 Option.bind (rcv shm σ 12 this (f_X12_wordHere N σ this)) fun q7 =>
 Jn (fun t8 : St => Option.bind (rcv shm t8 12 this (f_X12_isGood N t8 this)) fun q9 =>
 Jn (fun t10 : St => Option.bind (rcv shm t10 12 this (f_X12_isGood N t10 this)) fun q11 =>
 (if wr q11.2 = 0 then some (t10, 1) else Option.bind (gI shm t10 12 this 46) fun units_12 =>
 Jn (fun t13 : Int => Option.bind (pI shm t10 12 this 46 (units_12 + t13)) fun σ14 =>
 Jn (fun t15 : Int => Option.bind (rcv shm σ14 12 this (f_X12_next N σ14 this)) fun q16 =>
 Jn (fun t17 : Unit => Jn (fun t18 : Int => Option.bind (rcv shm q16.1 12 this (f_X12_put N q16.1 this t18 126)) fun q19 =>
 Option.bind (gI shm q19.1 12 this 47) fun deep_20 =>
 Option.bind (pI shm q19.1 12 this 47 (deep_20 + 1)) fun σ21 =>
 some (σ21, 1)) fun J212_21 =>
 (if wr t5 = 0 then J212_21 7 else J212_21 3)) fun J201_23 =>
 (if wr t5 = 0 then (if wr q6.2 = 0 then Jn (fun t25 : Int => Option.bind (rcv shm q16.1 12 this (f_X12_step N q16.1 this t25 t15)) fun q26 =>
 some (q26.1, 0)) fun J242_26 =>
 (if wr q7.2 = 0 then J242_26 110 else J242_26 q7.2) else J201_23 ()) else J201_23 ())) fun J187_30 =>
 (if wr q7.2 = 0 then Option.bind (gI shm σ14 12 this 9) fun number_32 =>
 J187_30 number_32 else J187_30 0)) fun J170_33 =>
 (if wr t5 = 0 then J170_33 1 else J170_33 0))) fun J147_36 =>
 (if wr q9.2 = 0 then J147_36 t8 else Option.bind (rcv shm t8 12 this (f_X12_mayAsk N t8 this q7.2)) fun q38 =>
 (if wr q38.2 = 0 then Option.bind (gI shm t8 12 this 6) fun at_39 =>
 Option.bind (rcv shm t8 12 this (f_X12_fails N t8 this 7 at_39)) fun q40 =>
 J147_36 q40.1 else J147_36 t8))) fun J121_42 =>
 Jn (fun t44 : Unit => Option.bind (rcv shm σ 12 this (f_X12_wrong N σ this)) fun q45 =>
 J121_42 q45.1) fun J117_45 =>
 Jn (fun t47 : Unit => Jn (fun t48 : Unit => Option.bind (gI shm σ 12 this 47) fun deep_49 =>
 (if wr deep_49 = wr 7 then J117_45 () else J121_42 σ)) fun J108_50 =>
 (if wr t5 = 0 then (if wr q6.2 = 0 then J121_42 σ else J108_50 ()) else J108_50 ())) fun J100_53 =>
 (if wr t5 = 0 then Jn (fun t55 : Unit => Option.bind (gI shm σ 12 this 46) fun units_56 =>
 (if wr units_56 = wr 60 then J117_45 () else J100_53 ())) fun J91_57 =>
 (if wr q7.2 = 0 then Option.bind (gI shm σ 12 this 8) fun token_59 =>
 (if wr token_59 = wr 4 then J91_57 () else (if wr q6.2 = 0 then J117_45 () else J91_57 ())) else J91_57 ()) else J100_53 ())) fun J56_63 =>
 Jn (fun t65 : Unit => J56_63 0) fun J55_65 =>
 (if wr t4 = 0 then J55_65 () else Option.bind (rcv shm σ 12 this (f_X12_isWord N σ this 7237492)) fun q67 =>
 (if wr q67.2 = 0 then J55_65 () else J56_63 1))) fun J36_69 =>
 Jn (fun t71 : Unit => J36_69 1) fun J31_71 =>
 (if wr 3 < wr a3 then Option.bind (gR shm σ 12 this 41) fun eWhat_73 =>
 Option.bind (gI shm σ 12 this 48) fun piled_74 =>
 Option.bind (aI shm σ 1 eWhat_73 (piled_74 - 1)) fun a75 =>
 (if wr a75 < wr 7 then J36_69 0 else J31_71 ()) else J31_71 ())
set_option maxRecDepth 100000 in
set_option maxHeartbeats 4000000 in
theorem c_X12_unit (l : Launch) (D : va_G) (ca : Nat → ClassId) (ra : Nat → Nat) (N : Nat) (σ : St) (this : Nat) : Ctr l (D, ca, ra, shm) false yX12_unit cX12_unit 6 (some .boolean) rm_X12_unit σ [ar this] (f_X12_unit N σ this) := by
  refine ctr_of (by decide) (Nat.le_of_ble_eq_true rfl) (fun z C => ?_)
  show X z 0 0 σ 0 [(0, ar this)] [] _
  unfold f_X12_unit
  refine x_aload_n C 0 (i := 0) (k0 := 0) rfl rfl (by decide +kernel) ?_
  refine x_gR C fl_RX12_98 (fun _ _ _ => rfl) (by decide +kernel) (fun eWhat_1 => ?_)
  refine x_aload_n C 0 (i := 0) (k0 := 0) rfl rfl (by decide +kernel) ?_
  refine x_gI C fl_RX12_409 (fun _ _ _ => rfl) (by decide +kernel) (fun piled_2 => ?_)
  refine x_iconst C (n := 1) (by decide +kernel) ?_
  refine x_isub C (by decide +kernel) ?_
  refine x_aldI C (by decide +kernel) (fun a3 => ?_)
  refine x_iconst C (n := 3) (by decide +kernel) ?_
  show X z 0 0 σ 12 [(0, ar this)] [ai 3, ai a3] _
  refine x_join (T := Int) (fun t => σ) 36 (fun t => [(0, ar this)]) (fun t => [ai t]) (fun t4 => ?_) (fun J36_69 hJ36_69 => ?_)
  · show X z 0 0 σ 36 [(0, ar this)] [ai t4] _
    refine x_istore_n C (i := 1) (k0 := 1) rfl (Nat.le_of_ble_eq_true rfl) (by decide +kernel) (lv2 := [(1, ai t4), (0, ar this)]) rfl ?_
    refine x_iload_n C 0 (i := 1) (k0 := 1) rfl rfl (by decide +kernel) ?_
    refine x_join (T := Int) (fun t => σ) 56 (fun t => [(0, ar this)]) (fun t => [ai t]) (fun t5 => ?_) (fun J56_63 hJ56_63 => ?_)
    · show X z 0 0 σ 56 [(0, ar this)] [ai t5] _
      refine x_istore_n C (i := 2) (k0 := 2) rfl (Nat.le_of_ble_eq_true rfl) (by decide +kernel) (lv2 := [(2, ai t5), (0, ar this)]) rfl ?_
      refine x_aload_n C 1 (i := 0) (k0 := 0) rfl rfl (by decide +kernel) ?_
      refine x_bipush C (n := 40) (by decide +kernel) (by decide +kernel) ?_
      refine x_callVp C (ci := 12) (c_X12_is l D ca ra N σ this 40) (p_X12_is N σ this 40) mt_X12_is mv_X12_is rfl ml_RX12_336 rfl (fun h => Bool.noConfusion h) ⟨Nat.le_of_ble_eq_true rfl, Nat.le_of_ble_eq_true rfl⟩ (Nat.le_of_ble_eq_true rfl) 0 0 ⟨rfl, rfl⟩ ⟨Nat.zero_le _, Nat.zero_le _⟩ (by decide +kernel) _ rfl (fun q6 => [ai q6.2]) (fun _ => rfl) (fun q6 => ?_)
      refine x_istore_n C (i := 3) (k0 := 3) rfl (Nat.le_of_ble_eq_true rfl) (by decide +kernel) (lv2 := [(3, ai q6.2), (2, ai t5), (0, ar this)]) rfl ?_
      refine x_aload_n C 2 (i := 0) (k0 := 0) rfl rfl (by decide +kernel) ?_
      refine x_callVp C (ci := 12) (c_X12_wordHere l D ca ra N σ this) (p_X12_wordHere N σ this) mt_X12_wordHere mv_X12_wordHere rfl ml_RX12_424 rfl (fun h => Bool.noConfusion h) ⟨Nat.le_of_ble_eq_true rfl, Nat.le_of_ble_eq_true rfl⟩ (Nat.le_of_ble_eq_true rfl) 0 0 ⟨rfl, rfl⟩ ⟨Nat.zero_le _, Nat.zero_le _⟩ (by decide +kernel) _ rfl (fun q7 => [ai q7.2]) (fun _ => rfl) (fun q7 => ?_)
      refine x_istore C (i := 4) (Nat.le_of_ble_eq_true rfl) (by decide +kernel) (lv2 := [(4, ai q7.2), (3, ai q6.2), (2, ai t5), (0, ar this)]) rfl ?_
      show X z 0 0 σ 70 [(4, ai q7.2), (3, ai q6.2), (2, ai t5), (0, ar this)] [] _
      refine x_iload_n C 2 (i := 2) (k0 := 2) rfl rfl (by decide +kernel) ?_
      refine x_join (T := St) (fun t => t) 121 (fun t => [(0, ar this), (2, ai t5), (3, ai q6.2), (4, ai q7.2)]) (fun t => []) (fun t8 => ?_) (fun J121_42 hJ121_42 => ?_)
      · show X z 0 0 t8 121 [(0, ar this), (2, ai t5), (3, ai q6.2), (4, ai q7.2)] [] _
        refine x_aload_n C 0 (i := 0) (k0 := 0) rfl rfl (by decide +kernel) ?_
        refine x_callVp C (ci := 12) (c_X12_isGood l D ca ra N t8 this) (p_X12_isGood N t8 this) mt_X12_isGood mv_X12_isGood rfl ml_RX12_284 rfl (fun h => Bool.noConfusion h) ⟨Nat.le_of_ble_eq_true rfl, Nat.le_of_ble_eq_true rfl⟩ (Nat.le_of_ble_eq_true rfl) 0 0 ⟨rfl, rfl⟩ ⟨Nat.zero_le _, Nat.zero_le _⟩ (by decide +kernel) _ rfl (fun q9 => [ai q9.2]) (fun _ => rfl) (fun q9 => ?_)
        refine x_join (T := St) (fun t => t) 147 (fun t => [(0, ar this), (2, ai t5), (3, ai q6.2), (4, ai q7.2)]) (fun t => []) (fun t10 => ?_) (fun J147_36 hJ147_36 => ?_)
        · show X z 0 0 t10 147 [(0, ar this), (2, ai t5), (3, ai q6.2), (4, ai q7.2)] [] _
          refine x_aload_n C 0 (i := 0) (k0 := 0) rfl rfl (by decide +kernel) ?_
          refine x_callVp C (ci := 12) (c_X12_isGood l D ca ra N t10 this) (p_X12_isGood N t10 this) mt_X12_isGood mv_X12_isGood rfl ml_RX12_284 rfl (fun h => Bool.noConfusion h) ⟨Nat.le_of_ble_eq_true rfl, Nat.le_of_ble_eq_true rfl⟩ (Nat.le_of_ble_eq_true rfl) 0 0 ⟨rfl, rfl⟩ ⟨Nat.zero_le _, Nat.zero_le _⟩ (by decide +kernel) _ rfl (fun q11 => [ai q11.2]) (fun _ => rfl) (fun q11 => ?_)
          refine x_if_ne C (tgt := 156) (off := 5) (by decide) (by decide +kernel) (fun h36 => ?_) (fun h36 => ?_)
          · skip
            refine x_aload_n C 0 (i := 0) (k0 := 0) rfl rfl (by decide +kernel) ?_
            refine x_dup C rfl (by decide +kernel) ?_
            refine x_gI C fl_RX12_397 (fun _ _ _ => rfl) (by decide +kernel) (fun units_12 => ?_)
            refine x_iload_n C 1 (i := 2) (k0 := 2) rfl rfl (by decide +kernel) ?_
            refine x_join (T := Int) (fun t => t10) 170 (fun t => [(0, ar this), (2, ai t5), (3, ai q6.2), (4, ai q7.2)]) (fun t => [ai t, ai units_12, ar this]) (fun t13 => ?_) (fun J170_33 hJ170_33 => ?_)
            · show X z 0 0 t10 170 [(0, ar this), (2, ai t5), (3, ai q6.2), (4, ai q7.2)] [ai t13, ai units_12, ar this] _
              refine x_iadd C (by decide +kernel) ?_
              refine x_pI C fl_RX12_397 rfl (fun q h => by cases h; rfl) (by decide +kernel) (fun σ14 => ?_)
              refine x_iload C 3 (i := 4) rfl (by decide +kernel) ?_
              refine x_join (T := Int) (fun t => σ14) 187 (fun t => [(0, ar this), (2, ai t5), (3, ai q6.2), (4, ai q7.2)]) (fun t => [ai t]) (fun t15 => ?_) (fun J187_30 hJ187_30 => ?_)
              · show X z 0 0 σ14 187 [(0, ar this), (2, ai t5), (3, ai q6.2), (4, ai q7.2)] [ai t15] _
                refine x_istore C (i := 5) (Nat.le_of_ble_eq_true rfl) (by decide +kernel) (lv2 := [(5, ai t15), (0, ar this), (2, ai t5), (3, ai q6.2), (4, ai q7.2)]) rfl ?_
                refine x_aload_n C 1 (i := 0) (k0 := 0) rfl rfl (by decide +kernel) ?_
                refine x_callV C (ci := 12) (c_X12_next l D ca ra N σ14 this) mt_X12_next mv_X12_next rfl ml_RX12_288 rfl (fun h => Bool.noConfusion h) ⟨Nat.le_of_ble_eq_true rfl, Nat.le_of_ble_eq_true rfl⟩ (Nat.le_of_ble_eq_true rfl) 0 0 ⟨rfl, rfl⟩ ⟨Nat.zero_le _, Nat.zero_le _⟩ (by decide +kernel) _ rfl (fun q16 => []) (fun _ => rfl) (fun q16 => ?_)
                refine x_iload_n C 2 (i := 2) (k0 := 2) rfl rfl (by decide +kernel) ?_
                refine x_join (T := Unit) (fun t => q16.1) 201 (fun t => [(0, ar this), (2, ai t5)]) (fun t => []) (fun t17 => ?_) (fun J201_23 hJ201_23 => ?_)
                · show X z 0 0 q16.1 201 [(0, ar this), (2, ai t5)] [] _
                  refine x_aload_n C 0 (i := 0) (k0 := 0) rfl rfl (by decide +kernel) ?_
                  refine x_iload_n C 1 (i := 2) (k0 := 2) rfl rfl (by decide +kernel) ?_
                  refine x_join (T := Int) (fun t => q16.1) 212 (fun t => [(0, ar this)]) (fun t => [ai t, ar this]) (fun t18 => ?_) (fun J212_21 hJ212_21 => ?_)
                  · show X z 0 0 q16.1 212 [(0, ar this)] [ai t18, ar this] _
                    refine x_bipush C (n := 126) (by decide +kernel) (by decide +kernel) ?_
                    refine x_callV C (ci := 12) (c_X12_put l D ca ra N q16.1 this t18 126) mt_X12_put mv_X12_put rfl ml_RX12_415 rfl (fun h => Bool.noConfusion h) ⟨Nat.le_of_ble_eq_true rfl, Nat.le_of_ble_eq_true rfl⟩ (Nat.le_of_ble_eq_true rfl) 0 0 ⟨rfl, rfl⟩ ⟨Nat.zero_le _, Nat.zero_le _⟩ (by decide +kernel) _ rfl (fun q19 => []) (fun _ => rfl) (fun q19 => ?_)
                    refine x_aload_n C 0 (i := 0) (k0 := 0) rfl rfl (by decide +kernel) ?_
                    refine x_dup C rfl (by decide +kernel) ?_
                    refine x_gI C fl_RX12_412 (fun _ _ _ => rfl) (by decide +kernel) (fun deep_20 => ?_)
                    refine x_iconst C (n := 1) (by decide +kernel) ?_
                    refine x_iadd C (by decide +kernel) ?_
                    refine x_pI C fl_RX12_412 rfl (fun q h => by cases h; rfl) (by decide +kernel) (fun σ21 => ?_)
                    show X z 0 0 σ21 227 [(0, ar this)] [] _
                    refine x_iconst C (n := 1) (by decide +kernel) ?_
                    exact x_zret C (Or.inr rfl) ⟨Nat.zero_le _, Nat.zero_le _⟩ (by decide +kernel)
                  · skip
                    refine x_if_eq C (tgt := 210) (off := 7) (by decide) (by decide +kernel) (fun h23 => ?_) (fun h23 => ?_)
                    · skip
                      refine x_bipush C (n := 7) (by decide +kernel) (by decide +kernel) ?_
                      refine x_sub [0] (lv2 := [(0, ar this)]) rfl ?_
                      exact hJ212_21 7
                    · skip
                      refine x_iconst C (n := 3) (by decide +kernel) ?_
                      refine x_goto C (tgt := 212) (off := 5) (by decide) (by decide +kernel) ?_
                      refine x_sub [0] (lv2 := [(0, ar this)]) rfl ?_
                      exact hJ212_21 3
                · skip
                  refine x_if_ne C (tgt := 201) (off := 7) (by decide) (by decide +kernel) (fun h30 => ?_) (fun h30 => ?_)
                  · skip
                    refine x_sub [1, 2] (lv2 := [(0, ar this), (2, ai t5)]) rfl ?_
                    exact hJ201_23 ()
                  · skip
                    refine x_iload_n C 3 (i := 3) (k0 := 3) rfl rfl (by decide +kernel) ?_
                    refine x_if_eq C (tgt := 229) (off := 31) (by decide) (by decide +kernel) (fun h29 => ?_) (fun h29 => ?_)
                    · skip
                      refine x_aload_n C 1 (i := 0) (k0 := 0) rfl rfl (by decide +kernel) ?_
                      refine x_iload C 4 (i := 4) rfl (by decide +kernel) ?_
                      refine x_join (T := Int) (fun t => q16.1) 242 (fun t => [(5, ai t15)]) (fun t => [ai t, ar this]) (fun t25 => ?_) (fun J242_26 hJ242_26 => ?_)
                      · show X z 0 0 q16.1 242 [(5, ai t15)] [ai t25, ar this] _
                        refine x_iload C 0 (i := 5) rfl (by decide +kernel) ?_
                        refine x_callV C (ci := 12) (c_X12_step l D ca ra N q16.1 this t25 t15) mt_X12_step mv_X12_step rfl ml_RX12_430 rfl (fun h => Bool.noConfusion h) ⟨Nat.le_of_ble_eq_true rfl, Nat.le_of_ble_eq_true rfl⟩ (Nat.le_of_ble_eq_true rfl) 0 0 ⟨rfl, rfl⟩ ⟨Nat.zero_le _, Nat.zero_le _⟩ (by decide +kernel) _ rfl (fun q26 => []) (fun _ => rfl) (fun q26 => ?_)
                        refine x_iconst C (n := 0) (by decide +kernel) ?_
                        exact x_zret C (Or.inl rfl) ⟨Nat.zero_le _, Nat.zero_le _⟩ (by decide +kernel)
                      · skip
                        refine x_if_ne C (tgt := 240) (off := 8) (by decide) (by decide +kernel) (fun h28 => ?_) (fun h28 => ?_)
                        · skip
                          refine x_iload C 4 (i := 4) rfl (by decide +kernel) ?_
                          refine x_sub [0] (lv2 := [(5, ai t15)]) rfl ?_
                          exact hJ242_26 q7.2
                        · skip
                          refine x_bipush C (n := 110) (by decide +kernel) (by decide +kernel) ?_
                          refine x_goto C (tgt := 242) (off := 5) (by decide) (by decide +kernel) ?_
                          refine x_sub [0] (lv2 := [(5, ai t15)]) rfl ?_
                          exact hJ242_26 110
                    · skip
                      refine x_sub [1, 2] (lv2 := [(0, ar this), (2, ai t5)]) rfl ?_
                      exact hJ201_23 ()
              · skip
                refine x_if_ne C (tgt := 186) (off := 10) (by decide) (by decide +kernel) (fun h33 => ?_) (fun h33 => ?_)
                · skip
                  refine x_iconst C (n := 0) (by decide +kernel) ?_
                  exact hJ187_30 0
                · skip
                  refine x_aload_n C 0 (i := 0) (k0 := 0) rfl rfl (by decide +kernel) ?_
                  refine x_gI C fl_RX12_274 (fun _ _ _ => rfl) (by decide +kernel) (fun number_32 => ?_)
                  refine x_goto C (tgt := 187) (off := 4) (by decide) (by decide +kernel) ?_
                  exact hJ187_30 number_32
            · skip
              refine x_if_eq C (tgt := 169) (off := 7) (by decide) (by decide +kernel) (fun h35 => ?_) (fun h35 => ?_)
              · skip
                refine x_iconst C (n := 1) (by decide +kernel) ?_
                exact hJ170_33 1
              · skip
                refine x_iconst C (n := 0) (by decide +kernel) ?_
                refine x_goto C (tgt := 170) (off := 4) (by decide) (by decide +kernel) ?_
                exact hJ170_33 0
          · skip
            refine x_iconst C (n := 1) (by decide +kernel) ?_
            exact x_zret C (Or.inr rfl) ⟨Nat.zero_le _, Nat.zero_le _⟩ (by decide +kernel)
        · skip
          refine x_if_eq C (tgt := 147) (off := 22) (by decide) (by decide +kernel) (fun h42 => ?_) (fun h42 => ?_)
          · skip
            exact hJ147_36 t8
          · skip
            refine x_aload_n C 0 (i := 0) (k0 := 0) rfl rfl (by decide +kernel) ?_
            refine x_iload C 3 (i := 4) rfl (by decide +kernel) ?_
            refine x_callVp C (ci := 12) (c_X12_mayAsk l D ca ra N t8 this q7.2) (p_X12_mayAsk N t8 this q7.2) mt_X12_mayAsk mv_X12_mayAsk rfl ml_RX12_427 rfl (fun h => Bool.noConfusion h) ⟨Nat.le_of_ble_eq_true rfl, Nat.le_of_ble_eq_true rfl⟩ (Nat.le_of_ble_eq_true rfl) 0 0 ⟨rfl, rfl⟩ ⟨Nat.zero_le _, Nat.zero_le _⟩ (by decide +kernel) _ rfl (fun q38 => [ai q38.2]) (fun _ => rfl) (fun q38 => ?_)
            refine x_if_ne C (tgt := 147) (off := 13) (by decide) (by decide +kernel) (fun h41 => ?_) (fun h41 => ?_)
            · skip
              exact hJ147_36 t8
            · skip
              refine x_aload_n C 0 (i := 0) (k0 := 0) rfl rfl (by decide +kernel) ?_
              refine x_bipush C (n := 7) (by decide +kernel) (by decide +kernel) ?_
              refine x_aload_n C 0 (i := 0) (k0 := 0) rfl rfl (by decide +kernel) ?_
              refine x_gI C fl_RX12_249 (fun _ _ _ => rfl) (by decide +kernel) (fun at_39 => ?_)
              refine x_callV C (ci := 12) (c_X12_fails l D ca ra N t8 this 7 at_39) mt_X12_fails mv_X12_fails rfl ml_RX12_280 rfl (fun h => Bool.noConfusion h) ⟨Nat.le_of_ble_eq_true rfl, Nat.le_of_ble_eq_true rfl⟩ (Nat.le_of_ble_eq_true rfl) 0 0 ⟨rfl, rfl⟩ ⟨Nat.zero_le _, Nat.zero_le _⟩ (by decide +kernel) _ rfl (fun q40 => []) (fun _ => rfl) (fun q40 => ?_)
              exact hJ147_36 q40.1
      · skip
        refine x_join (T := Unit) (fun t => σ) 117 (fun t => [(0, ar this), (2, ai t5), (3, ai q6.2), (4, ai q7.2)]) (fun t => []) (fun t44 => ?_) (fun J117_45 hJ117_45 => ?_)
        · show X z 0 0 σ 117 [(0, ar this), (2, ai t5), (3, ai q6.2), (4, ai q7.2)] [] _
          refine x_aload_n C 0 (i := 0) (k0 := 0) rfl rfl (by decide +kernel) ?_
          refine x_callV C (ci := 12) (c_X12_wrong l D ca ra N σ this) mt_X12_wrong mv_X12_wrong rfl ml_RX12_291 rfl (fun h => Bool.noConfusion h) ⟨Nat.le_of_ble_eq_true rfl, Nat.le_of_ble_eq_true rfl⟩ (Nat.le_of_ble_eq_true rfl) 0 0 ⟨rfl, rfl⟩ ⟨Nat.zero_le _, Nat.zero_le _⟩ (by decide +kernel) _ rfl (fun q45 => []) (fun _ => rfl) (fun q45 => ?_)
          exact hJ121_42 q45.1
        · skip
          refine x_join (T := Unit) (fun t => σ) 100 (fun t => [(0, ar this), (2, ai t5), (3, ai q6.2), (4, ai q7.2)]) (fun t => []) (fun t47 => ?_) (fun J100_53 hJ100_53 => ?_)
          · show X z 0 0 σ 100 [(0, ar this), (2, ai t5), (3, ai q6.2), (4, ai q7.2)] [] _
            refine x_iload_n C 1 (i := 2) (k0 := 2) rfl rfl (by decide +kernel) ?_
            refine x_join (T := Unit) (fun t => σ) 108 (fun t => [(0, ar this), (2, ai t5), (3, ai q6.2), (4, ai q7.2)]) (fun t => []) (fun t48 => ?_) (fun J108_50 hJ108_50 => ?_)
            · show X z 0 0 σ 108 [(0, ar this), (2, ai t5), (3, ai q6.2), (4, ai q7.2)] [] _
              refine x_aload_n C 0 (i := 0) (k0 := 0) rfl rfl (by decide +kernel) ?_
              refine x_gI C fl_RX12_412 (fun _ _ _ => rfl) (by decide +kernel) (fun deep_49 => ?_)
              refine x_bipush C (n := 7) (by decide +kernel) (by decide +kernel) ?_
              refine x_ic_ne C (tgt := 121) (off := 7) (by decide) (by decide +kernel) (fun h50 => ?_) (fun h50 => ?_)
              · skip
                exact hJ121_42 σ
              · skip
                exact hJ117_45 ()
            · skip
              refine x_if_ne C (tgt := 108) (off := 7) (by decide) (by decide +kernel) (fun h53 => ?_) (fun h53 => ?_)
              · skip
                exact hJ108_50 ()
              · skip
                refine x_iload_n C 2 (i := 3) (k0 := 3) rfl rfl (by decide +kernel) ?_
                refine x_if_eq C (tgt := 121) (off := 16) (by decide) (by decide +kernel) (fun h52 => ?_) (fun h52 => ?_)
                · skip
                  exact hJ121_42 σ
                · skip
                  exact hJ108_50 ()
          · skip
            refine x_if_ne C (tgt := 100) (off := 29) (by decide) (by decide +kernel) (fun h63 => ?_) (fun h63 => ?_)
            · skip
              refine x_sub [3, 2, 1, 0] (lv2 := [(0, ar this), (2, ai t5), (3, ai q6.2), (4, ai q7.2)]) rfl ?_
              exact hJ100_53 ()
            · skip
              refine x_iload C 0 (i := 4) rfl (by decide +kernel) ?_
              refine x_join (T := Unit) (fun t => σ) 91 (fun t => [(0, ar this), (2, ai t5), (3, ai q6.2), (4, ai q7.2)]) (fun t => []) (fun t55 => ?_) (fun J91_57 hJ91_57 => ?_)
              · show X z 0 0 σ 91 [(0, ar this), (2, ai t5), (3, ai q6.2), (4, ai q7.2)] [] _
                refine x_aload_n C 0 (i := 0) (k0 := 0) rfl rfl (by decide +kernel) ?_
                refine x_gI C fl_RX12_397 (fun _ _ _ => rfl) (by decide +kernel) (fun units_56 => ?_)
                refine x_bipush C (n := 60) (by decide +kernel) (by decide +kernel) ?_
                refine x_ic_eq C (tgt := 117) (off := 20) (by decide) (by decide +kernel) (fun h57 => ?_) (fun h57 => ?_)
                · skip
                  exact hJ117_45 ()
                · skip
                  exact hJ100_53 ()
              · skip
                refine x_if_ne C (tgt := 91) (off := 15) (by decide) (by decide +kernel) (fun h62 => ?_) (fun h62 => ?_)
                · skip
                  refine x_sub [3, 2, 1, 0] (lv2 := [(0, ar this), (2, ai t5), (3, ai q6.2), (4, ai q7.2)]) rfl ?_
                  exact hJ91_57 ()
                · skip
                  refine x_aload_n C 3 (i := 0) (k0 := 0) rfl rfl (by decide +kernel) ?_
                  refine x_gI C fl_RX12_256 (fun _ _ _ => rfl) (by decide +kernel) (fun token_59 => ?_)
                  refine x_iconst C (n := 4) (by decide +kernel) ?_
                  refine x_ic_eq C (tgt := 91) (off := 7) (by decide) (by decide +kernel) (fun h61 => ?_) (fun h61 => ?_)
                  · skip
                    refine x_sub [3, 2, 1, 0] (lv2 := [(0, ar this), (2, ai t5), (3, ai q6.2), (4, ai q7.2)]) rfl ?_
                    exact hJ91_57 ()
                  · skip
                    refine x_iload_n C 1 (i := 3) (k0 := 3) rfl rfl (by decide +kernel) ?_
                    refine x_if_eq C (tgt := 117) (off := 29) (by decide) (by decide +kernel) (fun h60 => ?_) (fun h60 => ?_)
                    · skip
                      refine x_sub [3, 2, 1, 0] (lv2 := [(0, ar this), (2, ai t5), (3, ai q6.2), (4, ai q7.2)]) rfl ?_
                      exact hJ117_45 ()
                    · skip
                      refine x_sub [3, 2, 1, 0] (lv2 := [(0, ar this), (2, ai t5), (3, ai q6.2), (4, ai q7.2)]) rfl ?_
                      exact hJ91_57 ()
    · skip
      refine x_join (T := Unit) (fun t => σ) 55 (fun t => [(0, ar this)]) (fun t => []) (fun t65 => ?_) (fun J55_65 hJ55_65 => ?_)
      · show X z 0 0 σ 55 [(0, ar this)] [] _
        refine x_iconst C (n := 0) (by decide +kernel) ?_
        exact hJ56_63 0
      · skip
        refine x_if_eq C (tgt := 55) (off := 17) (by decide) (by decide +kernel) (fun h69 => ?_) (fun h69 => ?_)
        · skip
          refine x_sub [1] (lv2 := [(0, ar this)]) rfl ?_
          exact hJ55_65 ()
        · skip
          refine x_aload_n C 1 (i := 0) (k0 := 0) rfl rfl (by decide +kernel) ?_
          refine x_ldc2 C (n := 7237492) (v := 7237492) kl_RX12_222 (by decide +kernel) (by decide +kernel) ?_
          refine x_callVp C (ci := 12) (c_X12_isWord l D ca ra N σ this 7237492) (p_X12_isWord N σ this 7237492) mt_X12_isWord mv_X12_isWord rfl ml_RX12_315 rfl (fun h => Bool.noConfusion h) ⟨Nat.le_of_ble_eq_true rfl, Nat.le_of_ble_eq_true rfl⟩ (Nat.le_of_ble_eq_true rfl) 0 0 ⟨rfl, rfl⟩ ⟨Nat.zero_le _, Nat.zero_le _⟩ (by decide +kernel) _ rfl (fun q67 => [ai q67.2]) (fun _ => rfl) (fun q67 => ?_)
          refine x_if_eq C (tgt := 55) (off := 7) (by decide) (by decide +kernel) (fun h68 => ?_) (fun h68 => ?_)
          · skip
            refine x_sub [1] (lv2 := [(0, ar this)]) rfl ?_
            exact hJ55_65 ()
          · skip
            refine x_iconst C (n := 1) (by decide +kernel) ?_
            refine x_goto C (tgt := 56) (off := 4) (by decide) (by decide +kernel) ?_
            refine x_sub [1] (lv2 := [(0, ar this)]) rfl ?_
            exact hJ56_63 1
  · skip
    refine x_join (T := Unit) (fun t => σ) 31 (fun t => [(0, ar this)]) (fun t => []) (fun t71 => ?_) (fun J31_71 hJ31_71 => ?_)
    · show X z 0 0 σ 31 [(0, ar this)] [] _
      refine x_iconst C (n := 1) (by decide +kernel) ?_
      refine x_goto C (tgt := 36) (off := 4) (by decide) (by decide +kernel) ?_
      exact hJ36_69 1
    · skip
      refine x_ic_le C (tgt := 31) (off := 19) (by decide) (by decide +kernel) (fun h77 => ?_) (fun h77 => ?_)
      · skip
        exact hJ31_71 ()
      · skip
        refine x_aload_n C 0 (i := 0) (k0 := 0) rfl rfl (by decide +kernel) ?_
        refine x_gR C fl_RX12_98 (fun _ _ _ => rfl) (by decide +kernel) (fun eWhat_73 => ?_)
        refine x_aload_n C 0 (i := 0) (k0 := 0) rfl rfl (by decide +kernel) ?_
        refine x_gI C fl_RX12_409 (fun _ _ _ => rfl) (by decide +kernel) (fun piled_74 => ?_)
        refine x_iconst C (n := 1) (by decide +kernel) ?_
        refine x_isub C (by decide +kernel) ?_
        refine x_aldI C (by decide +kernel) (fun a75 => ?_)
        refine x_bipush C (n := 7) (by decide +kernel) (by decide +kernel) ?_
        show X z 0 0 σ 28 [(0, ar this)] [ai 7, ai a75] _
        refine x_ic_lt C (tgt := 35) (off := 7) (by decide) (by decide +kernel) (fun h76 => ?_) (fun h76 => ?_)
        · skip
          refine x_iconst C (n := 0) (by decide +kernel) ?_
          exact hJ36_69 0
        · skip
          exact hJ31_71 ()

def L_X12_e_19 (N : Nat) (this : Nat) : (St × Int) → Option (St × Int) := fixN N fun b19_4 t4 =>
 Option.bind (rcv shm t4.1 12 this (f_X12_isGood N t4.1 this)) fun q6 =>
 (if wr q6.2 = 0 then some (t4.1, 0) else Option.bind (gI shm t4.1 12 this 48) fun piled_7 =>
 (if 0 < wr piled_7 then Jn (fun t8 : St × Int => b19_4 (t8.1, t8.2)) fun J48_8 =>
 (if wr t4.2 = 0 then Option.bind (rcv shm t4.1 12 this (f_X12_behind N t4.1 this)) fun q10 =>
 J48_8 (q10.1, q10.2) else Option.bind (rcv shm t4.1 12 this (f_X12_unit N t4.1 this)) fun q11 =>
 J48_8 (q11.1, q11.2)) else some (t4.1, 0)))
def rm_X12_e : Room := { frames := 4, cells := 0, slots := 0, locals := 87 }
def f_X12_e (N : Nat) (σ : St) (this : Nat) : Option (St × Int) :=
 Option.bind (pI shm σ 12 this 48 0) fun σ1 =>
 Option.bind (pI shm σ1 12 this 47 0) fun σ2 =>
 Option.bind (rcv shm σ2 12 this (f_X12_put N σ2 this 8 0)) fun q3 =>
 L_X12_e_19 N this (q3.1, 1)
set_option maxRecDepth 100000 in
set_option maxHeartbeats 4000000 in
theorem c_X12_e (l : Launch) (D : va_G) (ca : Nat → ClassId) (ra : Nat → Nat) (N : Nat) (σ : St) (this : Nat) : Ctr l (D, ca, ra, shm) false yX12_e cX12_e 2 none rm_X12_e σ [ar this] (f_X12_e N σ this) := by
  refine ctr_of (by decide) (Nat.le_of_ble_eq_true rfl) (fun z C => ?_)
  show X z 0 0 σ 0 [(0, ar this)] [] _
  unfold f_X12_e
  refine x_aload_n C 0 (i := 0) (k0 := 0) rfl rfl (by decide +kernel) ?_
  refine x_iconst C (n := 0) (by decide +kernel) ?_
  refine x_pI C fl_RX12_409 rfl (fun q h => by cases h; rfl) (by decide +kernel) (fun σ1 => ?_)
  refine x_aload_n C 0 (i := 0) (k0 := 0) rfl rfl (by decide +kernel) ?_
  refine x_iconst C (n := 0) (by decide +kernel) ?_
  refine x_pI C fl_RX12_412 rfl (fun q h => by cases h; rfl) (by decide +kernel) (fun σ2 => ?_)
  refine x_aload_n C 0 (i := 0) (k0 := 0) rfl rfl (by decide +kernel) ?_
  refine x_bipush C (n := 8) (by decide +kernel) (by decide +kernel) ?_
  show X z 0 0 σ2 13 [(0, ar this)] [ai 8, ar this] _
  refine x_iconst C (n := 0) (by decide +kernel) ?_
  refine x_callV C (ci := 12) (c_X12_put l D ca ra N σ2 this 8 0) mt_X12_put mv_X12_put rfl ml_RX12_415 rfl (fun h => Bool.noConfusion h) ⟨Nat.le_of_ble_eq_true rfl, Nat.le_of_ble_eq_true rfl⟩ (Nat.le_of_ble_eq_true rfl) 0 0 ⟨rfl, rfl⟩ ⟨Nat.zero_le _, Nat.zero_le _⟩ (by decide +kernel) _ rfl (fun q3 => []) (fun _ => rfl) (fun q3 => ?_)
  refine x_iconst C (n := 1) (by decide +kernel) ?_
  refine x_istore_n C (i := 1) (k0 := 1) rfl (Nat.le_of_ble_eq_true rfl) (by decide +kernel) (lv2 := [(1, ai 1), (0, ar this)]) rfl ?_
  refine x_sub [1, 0] (lv2 := [(0, ar this), (1, ai 1)]) rfl ?_
  -- LOOP L_X12_e_19 hb19_4
  refine x_loop (T := St × Int) (fun t => t.1) (fun t => [(0, ar this), (1, ai t.2)]) (q3.1, 1) rfl (fun b19_4 hb19_4 t4 => ?_)
  show X z 0 0 t4.1 19 [(0, ar this), (1, ai t4.2)] [] _
  refine x_aload_n C 0 (i := 0) (k0 := 0) rfl rfl (by decide +kernel) ?_
  refine x_callVp C (ci := 12) (c_X12_isGood l D ca ra N t4.1 this) (p_X12_isGood N t4.1 this) mt_X12_isGood mv_X12_isGood rfl ml_RX12_284 rfl (fun h => Bool.noConfusion h) ⟨Nat.le_of_ble_eq_true rfl, Nat.le_of_ble_eq_true rfl⟩ (Nat.le_of_ble_eq_true rfl) 0 0 ⟨rfl, rfl⟩ ⟨Nat.zero_le _, Nat.zero_le _⟩ (by decide +kernel) _ rfl (fun q6 => [ai q6.2]) (fun _ => rfl) (fun q6 => ?_)
  refine x_if_eq C (tgt := 52) (off := 29) (by decide) (by decide +kernel) (fun h14 => ?_) (fun h14 => ?_)
  · skip
    exact x_vret C ⟨Nat.zero_le _, Nat.zero_le _⟩ (by decide +kernel)
  · skip
    refine x_aload_n C 0 (i := 0) (k0 := 0) rfl rfl (by decide +kernel) ?_
    refine x_gI C fl_RX12_409 (fun _ _ _ => rfl) (by decide +kernel) (fun piled_7 => ?_)
    refine x_if_le C (tgt := 52) (off := 22) (by decide) (by decide +kernel) (fun h13 => ?_) (fun h13 => ?_)
    · skip
      exact x_vret C ⟨Nat.zero_le _, Nat.zero_le _⟩ (by decide +kernel)
    · skip
      refine x_iload_n C 1 (i := 1) (k0 := 1) rfl rfl (by decide +kernel) ?_
      refine x_join (T := St × Int) (fun t => t.1) 48 (fun t => [(0, ar this)]) (fun t => [ai t.2]) (fun t8 => ?_) (fun J48_8 hJ48_8 => ?_)
      · show X z 0 0 t8.1 48 [(0, ar this)] [ai t8.2] _
        refine x_istore_n C (i := 1) (k0 := 1) rfl (Nat.le_of_ble_eq_true rfl) (by decide +kernel) (lv2 := [(1, ai t8.2), (0, ar this)]) rfl ?_
        refine x_goto C (tgt := 19) (off := (-30)) (by decide) (by decide +kernel) ?_
        refine x_sub [1, 0] (lv2 := [(0, ar this), (1, ai t8.2)]) rfl ?_
        exact hb19_4 (t8.1, t8.2)
      · skip
        refine x_if_eq C (tgt := 44) (off := 10) (by decide) (by decide +kernel) (fun h12 => ?_) (fun h12 => ?_)
        · skip
          refine x_aload_n C 0 (i := 0) (k0 := 0) rfl rfl (by decide +kernel) ?_
          refine x_callV C (ci := 12) (c_X12_behind l D ca ra N t4.1 this) mt_X12_behind mv_X12_behind rfl ml_RX12_421 rfl (fun h => Bool.noConfusion h) ⟨Nat.le_of_ble_eq_true rfl, Nat.le_of_ble_eq_true rfl⟩ (Nat.le_of_ble_eq_true rfl) 0 0 ⟨rfl, rfl⟩ ⟨Nat.zero_le _, Nat.zero_le _⟩ (by decide +kernel) _ rfl (fun q10 => [ai q10.2]) (fun _ => rfl) (fun q10 => ?_)
          refine x_sub [0] (lv2 := [(0, ar this)]) rfl ?_
          exact hJ48_8 (q10.1, q10.2)
        · skip
          refine x_aload_n C 0 (i := 0) (k0 := 0) rfl rfl (by decide +kernel) ?_
          refine x_callV C (ci := 12) (c_X12_unit l D ca ra N t4.1 this) mt_X12_unit mv_X12_unit rfl ml_RX12_418 rfl (fun h => Bool.noConfusion h) ⟨Nat.le_of_ble_eq_true rfl, Nat.le_of_ble_eq_true rfl⟩ (Nat.le_of_ble_eq_true rfl) 0 0 ⟨rfl, rfl⟩ ⟨Nat.zero_le _, Nat.zero_le _⟩ (by decide +kernel) _ rfl (fun q11 => [ai q11.2]) (fun _ => rfl) (fun q11 => ?_)
          refine x_goto C (tgt := 48) (off := 7) (by decide) (by decide +kernel) ?_
          refine x_sub [0] (lv2 := [(0, ar this)]) rfl ?_
          exact hJ48_8 (q11.1, q11.2)

def rm_X12_readTreaty : Room := { frames := 5, cells := 0, slots := 0, locals := 108 }
def f_X12_readTreaty (N : Nat) (σ : St) (this : Nat) : Option (St × Int) :=
 Option.bind (rcv shm σ 12 this (f_X12_isWord N σ this 495672455781)) fun q1 =>
 Jn (fun t2 : Int => Jn (fun t3 : St => Option.bind (rcv shm t3 12 this (f_X12_isGood N t3 this)) fun q4 =>
 (if wr q4.2 = 0 then some (t3, 0) else Option.bind (rcv shm t3 12 this (f_X12_next N t3 this)) fun q5 =>
 Jn (fun t6 : St => Option.bind (pI shm t6 12 this 49 t2) fun σ7 =>
 Option.bind (gR shm σ7 12 this 37) fun uFrom_8 =>
 Option.bind (gI shm σ7 12 this 45) fun codes_9 =>
 Option.bind (sI shm σ7 1 uFrom_8 (12 + t2) codes_9) fun σ10 =>
 Option.bind (rcv shm σ10 12 this (f_X12_isGood N σ10 this)) fun q11 =>
 Jn (fun t12 : St => Option.bind (gR shm t12 12 this 38) fun uTo_13 =>
 Option.bind (gI shm t12 12 this 45) fun codes_14 =>
 Option.bind (sI shm t12 1 uTo_13 (12 + t2) codes_14) fun σ15 =>
 Option.bind (gR shm σ15 12 this 44) fun hasE_16 =>
 Option.bind (sI shm σ15 3 hasE_16 (12 + t2) 1) fun σ17 =>
 Option.bind (rcv shm σ17 12 this (f_X12_is N σ17 this 59)) fun q18 =>
 Option.bind (rcv shm σ17 12 this (f_X12_must N σ17 this q18.2)) fun q19 =>
 Option.bind (gR shm q19.1 12 this 36) fun treatyLines_20 =>
 Option.bind (aI shm q19.1 1 treatyLines_20 3) fun a21 =>
 Option.bind (sI shm q19.1 1 treatyLines_20 3 (a21 + 1)) fun σ22 =>
 some (σ22, 0)) fun J142_22 =>
 (if wr q11.2 = 0 then J142_22 σ10 else Option.bind (rcv shm σ10 12 this (f_X12_e N σ10 this)) fun q24 =>
 J142_22 q24.1)) fun J113_25 =>
 (if wr t2 = 0 then J113_25 q5.1 else Option.bind (rcv shm q5.1 12 this (f_X12_isWord N q5.1 this 2003330414)) fun q27 =>
 Option.bind (rcv shm q5.1 12 this (f_X12_must N q5.1 this q27.2)) fun q28 =>
 J113_25 q28.1))) fun J86_30 =>
 Jn (fun t32 : Unit => Option.bind (rcv shm σ 12 this (f_X12_wrong N σ this)) fun q33 =>
 J86_30 q33.1) fun J82_33 =>
 (if wr t2 < 0 then J82_33 () else Option.bind (gR shm σ 12 this 44) fun hasE_35 =>
 Jn (fun t36 : Int => Option.bind (aI shm σ 3 hasE_35 (12 + t36)) fun a37 =>
 (if wr (wz a37) = 0 then J86_30 σ else J82_33 ())) fun J77_38 =>
 (if wr t2 < 0 then J77_38 0 else J77_38 t2))) fun J57_41 =>
 (if wr q1.2 = 0 then Option.bind (rcv shm σ 12 this (f_X12_isWord N σ this 465557354085)) fun q43 =>
 (if wr q43.2 = 0 then Option.bind (rcv shm σ 12 this (f_X12_isWord N σ this 6712441)) fun q44 =>
 (if wr q44.2 = 0 then Option.bind (rcv shm σ 12 this (f_X12_isWord N σ this 1801807216)) fun q45 =>
 (if wr q45.2 = 0 then J57_41 (-1) else J57_41 3) else J57_41 2) else J57_41 1) else J57_41 0)
set_option maxRecDepth 100000 in
set_option maxHeartbeats 4000000 in
theorem c_X12_readTreaty (l : Launch) (D : va_G) (ca : Nat → ClassId) (ra : Nat → Nat) (N : Nat) (σ : St) (this : Nat) : Ctr l (D, ca, ra, shm) false yX12_readTreaty cX12_readTreaty 2 none rm_X12_readTreaty σ [ar this] (f_X12_readTreaty N σ this) := by
  refine ctr_of (by decide) (Nat.le_of_ble_eq_true rfl) (fun z C => ?_)
  show X z 0 0 σ 0 [(0, ar this)] [] _
  unfold f_X12_readTreaty
  refine x_aload_n C 0 (i := 0) (k0 := 0) rfl rfl (by decide +kernel) ?_
  refine x_ldc2 C (n := 495672455781) (v := 495672455781) kl_RX12_208 (by decide +kernel) (by decide +kernel) ?_
  refine x_callVp C (ci := 12) (c_X12_isWord l D ca ra N σ this 495672455781) (p_X12_isWord N σ this 495672455781) mt_X12_isWord mv_X12_isWord rfl ml_RX12_315 rfl (fun h => Bool.noConfusion h) ⟨Nat.le_of_ble_eq_true rfl, Nat.le_of_ble_eq_true rfl⟩ (Nat.le_of_ble_eq_true rfl) 0 0 ⟨rfl, rfl⟩ ⟨Nat.zero_le _, Nat.zero_le _⟩ (by decide +kernel) _ rfl (fun q1 => [ai q1.2]) (fun _ => rfl) (fun q1 => ?_)
  refine x_join (T := Int) (fun t => σ) 57 (fun t => [(0, ar this)]) (fun t => [ai t]) (fun t2 => ?_) (fun J57_41 hJ57_41 => ?_)
  · show X z 0 0 σ 57 [(0, ar this)] [ai t2] _
    refine x_istore_n C (i := 1) (k0 := 1) rfl (Nat.le_of_ble_eq_true rfl) (by decide +kernel) (lv2 := [(1, ai t2), (0, ar this)]) rfl ?_
    refine x_iload_n C 0 (i := 1) (k0 := 1) rfl rfl (by decide +kernel) ?_
    refine x_join (T := St) (fun t => t) 86 (fun t => [(0, ar this), (1, ai t2)]) (fun t => []) (fun t3 => ?_) (fun J86_30 hJ86_30 => ?_)
    · show X z 0 0 t3 86 [(0, ar this), (1, ai t2)] [] _
      refine x_aload_n C 0 (i := 0) (k0 := 0) rfl rfl (by decide +kernel) ?_
      refine x_callVp C (ci := 12) (c_X12_isGood l D ca ra N t3 this) (p_X12_isGood N t3 this) mt_X12_isGood mv_X12_isGood rfl ml_RX12_284 rfl (fun h => Bool.noConfusion h) ⟨Nat.le_of_ble_eq_true rfl, Nat.le_of_ble_eq_true rfl⟩ (Nat.le_of_ble_eq_true rfl) 0 0 ⟨rfl, rfl⟩ ⟨Nat.zero_le _, Nat.zero_le _⟩ (by decide +kernel) _ rfl (fun q4 => [ai q4.2]) (fun _ => rfl) (fun q4 => ?_)
      refine x_if_ne C (tgt := 94) (off := 4) (by decide) (by decide +kernel) (fun h30 => ?_) (fun h30 => ?_)
      · skip
        refine x_aload_n C 0 (i := 0) (k0 := 0) rfl rfl (by decide +kernel) ?_
        refine x_callV C (ci := 12) (c_X12_next l D ca ra N t3 this) mt_X12_next mv_X12_next rfl ml_RX12_288 rfl (fun h => Bool.noConfusion h) ⟨Nat.le_of_ble_eq_true rfl, Nat.le_of_ble_eq_true rfl⟩ (Nat.le_of_ble_eq_true rfl) 0 0 ⟨rfl, rfl⟩ ⟨Nat.zero_le _, Nat.zero_le _⟩ (by decide +kernel) _ rfl (fun q5 => []) (fun _ => rfl) (fun q5 => ?_)
        refine x_iload_n C 1 (i := 1) (k0 := 1) rfl rfl (by decide +kernel) ?_
        refine x_join (T := St) (fun t => t) 113 (fun t => [(0, ar this), (1, ai t2)]) (fun t => []) (fun t6 => ?_) (fun J113_25 hJ113_25 => ?_)
        · show X z 0 0 t6 113 [(0, ar this), (1, ai t2)] [] _
          refine x_aload_n C 0 (i := 0) (k0 := 0) rfl rfl (by decide +kernel) ?_
          refine x_iload_n C 1 (i := 1) (k0 := 1) rfl rfl (by decide +kernel) ?_
          refine x_pI C fl_RX12_403 rfl (fun q h => by cases h; rfl) (by decide +kernel) (fun σ7 => ?_)
          refine x_aload_n C 0 (i := 0) (k0 := 0) rfl rfl (by decide +kernel) ?_
          refine x_gR C fl_RX12_86 (fun _ _ _ => rfl) (by decide +kernel) (fun uFrom_8 => ?_)
          refine x_bipush C (n := 12) (by decide +kernel) (by decide +kernel) ?_
          refine x_iload_n C 1 (i := 1) (k0 := 1) rfl rfl (by decide +kernel) ?_
          refine x_iadd C (by decide +kernel) ?_
          show X z 0 0 σ7 126 [(0, ar this), (1, ai t2)] [ai (12 + t2), ar uFrom_8] _
          refine x_aload_n C 0 (i := 0) (k0 := 0) rfl rfl (by decide +kernel) ?_
          refine x_gI C fl_RX12_394 (fun _ _ _ => rfl) (by decide +kernel) (fun codes_9 => ?_)
          refine x_astI C (by decide +kernel) (fun σ10 => ?_)
          refine x_aload_n C 0 (i := 0) (k0 := 0) rfl rfl (by decide +kernel) ?_
          refine x_callVp C (ci := 12) (c_X12_isGood l D ca ra N σ10 this) (p_X12_isGood N σ10 this) mt_X12_isGood mv_X12_isGood rfl ml_RX12_284 rfl (fun h => Bool.noConfusion h) ⟨Nat.le_of_ble_eq_true rfl, Nat.le_of_ble_eq_true rfl⟩ (Nat.le_of_ble_eq_true rfl) 0 0 ⟨rfl, rfl⟩ ⟨Nat.zero_le _, Nat.zero_le _⟩ (by decide +kernel) _ rfl (fun q11 => [ai q11.2]) (fun _ => rfl) (fun q11 => ?_)
          refine x_join (T := St) (fun t => t) 142 (fun t => [(0, ar this), (1, ai t2)]) (fun t => []) (fun t12 => ?_) (fun J142_22 hJ142_22 => ?_)
          · show X z 0 0 t12 142 [(0, ar this), (1, ai t2)] [] _
            refine x_aload_n C 0 (i := 0) (k0 := 0) rfl rfl (by decide +kernel) ?_
            refine x_gR C fl_RX12_89 (fun _ _ _ => rfl) (by decide +kernel) (fun uTo_13 => ?_)
            refine x_bipush C (n := 12) (by decide +kernel) (by decide +kernel) ?_
            refine x_iload_n C 1 (i := 1) (k0 := 1) rfl rfl (by decide +kernel) ?_
            refine x_iadd C (by decide +kernel) ?_
            refine x_aload_n C 0 (i := 0) (k0 := 0) rfl rfl (by decide +kernel) ?_
            refine x_gI C fl_RX12_394 (fun _ _ _ => rfl) (by decide +kernel) (fun codes_14 => ?_)
            refine x_astI C (by decide +kernel) (fun σ15 => ?_)
            show X z 0 0 σ15 155 [(0, ar this), (1, ai t2)] [] _
            refine x_aload_n C 0 (i := 0) (k0 := 0) rfl rfl (by decide +kernel) ?_
            refine x_gR C fl_RX12_107 (fun _ _ _ => rfl) (by decide +kernel) (fun hasE_16 => ?_)
            refine x_bipush C (n := 12) (by decide +kernel) (by decide +kernel) ?_
            refine x_iload_n C 1 (i := 1) (k0 := 1) rfl rfl (by decide +kernel) ?_
            refine x_iadd C (by decide +kernel) ?_
            refine x_iconst C (n := 1) (by decide +kernel) ?_
            refine x_astZ C (by decide +kernel) (fun σ17 => ?_)
            refine x_aload_n C 0 (i := 0) (k0 := 0) rfl rfl (by decide +kernel) ?_
            show X z 0 0 σ17 166 [(0, ar this), (1, ai t2)] [ar this] _
            refine x_aload_n C 0 (i := 0) (k0 := 0) rfl rfl (by decide +kernel) ?_
            refine x_bipush C (n := 59) (by decide +kernel) (by decide +kernel) ?_
            refine x_callVp C (ci := 12) (c_X12_is l D ca ra N σ17 this 59) (p_X12_is N σ17 this 59) mt_X12_is mv_X12_is rfl ml_RX12_336 rfl (fun h => Bool.noConfusion h) ⟨Nat.le_of_ble_eq_true rfl, Nat.le_of_ble_eq_true rfl⟩ (Nat.le_of_ble_eq_true rfl) 0 0 ⟨rfl, rfl⟩ ⟨Nat.zero_le _, Nat.zero_le _⟩ (by decide +kernel) _ rfl (fun q18 => [ai q18.2, ar this]) (fun _ => rfl) (fun q18 => ?_)
            refine x_callV C (ci := 12) (c_X12_must l D ca ra N σ17 this q18.2) mt_X12_must mv_X12_must rfl ml_RX12_339 rfl (fun h => Bool.noConfusion h) ⟨Nat.le_of_ble_eq_true rfl, Nat.le_of_ble_eq_true rfl⟩ (Nat.le_of_ble_eq_true rfl) 0 0 ⟨rfl, rfl⟩ ⟨Nat.zero_le _, Nat.zero_le _⟩ (by decide +kernel) _ rfl (fun q19 => []) (fun _ => rfl) (fun q19 => ?_)
            refine x_aload_n C 0 (i := 0) (k0 := 0) rfl rfl (by decide +kernel) ?_
            refine x_gR C fl_RX12_83 (fun _ _ _ => rfl) (by decide +kernel) (fun treatyLines_20 => ?_)
            refine x_iconst C (n := 3) (by decide +kernel) ?_
            refine x_dup2 C rfl rfl (by decide +kernel) ?_
            show X z 0 0 q19.1 181 [(0, ar this), (1, ai t2)] [ai 3, ar treatyLines_20, ai 3, ar treatyLines_20] _
            refine x_aldI C (by decide +kernel) (fun a21 => ?_)
            refine x_iconst C (n := 1) (by decide +kernel) ?_
            refine x_iadd C (by decide +kernel) ?_
            refine x_astI C (by decide +kernel) (fun σ22 => ?_)
            exact x_vret C ⟨Nat.zero_le _, Nat.zero_le _⟩ (by decide +kernel)
          · skip
            refine x_if_eq C (tgt := 142) (off := 7) (by decide) (by decide +kernel) (fun h25 => ?_) (fun h25 => ?_)
            · skip
              exact hJ142_22 σ10
            · skip
              refine x_aload_n C 0 (i := 0) (k0 := 0) rfl rfl (by decide +kernel) ?_
              refine x_callV C (ci := 12) (c_X12_e l D ca ra N σ10 this) mt_X12_e mv_X12_e rfl ml_RX12_406 rfl (fun h => Bool.noConfusion h) ⟨Nat.le_of_ble_eq_true rfl, Nat.le_of_ble_eq_true rfl⟩ (Nat.le_of_ble_eq_true rfl) 0 0 ⟨rfl, rfl⟩ ⟨Nat.zero_le _, Nat.zero_le _⟩ (by decide +kernel) _ rfl (fun q24 => []) (fun _ => rfl) (fun q24 => ?_)
              exact hJ142_22 q24.1
        · skip
          refine x_if_eq C (tgt := 113) (off := 14) (by decide) (by decide +kernel) (fun h29 => ?_) (fun h29 => ?_)
          · skip
            exact hJ113_25 q5.1
          · skip
            refine x_aload_n C 0 (i := 0) (k0 := 0) rfl rfl (by decide +kernel) ?_
            refine x_aload_n C 0 (i := 0) (k0 := 0) rfl rfl (by decide +kernel) ?_
            refine x_ldc2 C (n := 2003330414) (v := 2003330414) kl_RX12_216 (by decide +kernel) (by decide +kernel) ?_
            refine x_callVp C (ci := 12) (c_X12_isWord l D ca ra N q5.1 this 2003330414) (p_X12_isWord N q5.1 this 2003330414) mt_X12_isWord mv_X12_isWord rfl ml_RX12_315 rfl (fun h => Bool.noConfusion h) ⟨Nat.le_of_ble_eq_true rfl, Nat.le_of_ble_eq_true rfl⟩ (Nat.le_of_ble_eq_true rfl) 0 0 ⟨rfl, rfl⟩ ⟨Nat.zero_le _, Nat.zero_le _⟩ (by decide +kernel) _ rfl (fun q27 => [ai q27.2, ar this]) (fun _ => rfl) (fun q27 => ?_)
            refine x_callV C (ci := 12) (c_X12_must l D ca ra N q5.1 this q27.2) mt_X12_must mv_X12_must rfl ml_RX12_339 rfl (fun h => Bool.noConfusion h) ⟨Nat.le_of_ble_eq_true rfl, Nat.le_of_ble_eq_true rfl⟩ (Nat.le_of_ble_eq_true rfl) 0 0 ⟨rfl, rfl⟩ ⟨Nat.zero_le _, Nat.zero_le _⟩ (by decide +kernel) _ rfl (fun q28 => []) (fun _ => rfl) (fun q28 => ?_)
            exact hJ113_25 q28.1
      · skip
        exact x_vret C ⟨Nat.zero_le _, Nat.zero_le _⟩ (by decide +kernel)
    · skip
      refine x_join (T := Unit) (fun t => σ) 82 (fun t => [(0, ar this), (1, ai t2)]) (fun t => []) (fun t32 => ?_) (fun J82_33 hJ82_33 => ?_)
      · show X z 0 0 σ 82 [(0, ar this), (1, ai t2)] [] _
        refine x_aload_n C 0 (i := 0) (k0 := 0) rfl rfl (by decide +kernel) ?_
        refine x_callV C (ci := 12) (c_X12_wrong l D ca ra N σ this) mt_X12_wrong mv_X12_wrong rfl ml_RX12_291 rfl (fun h => Bool.noConfusion h) ⟨Nat.le_of_ble_eq_true rfl, Nat.le_of_ble_eq_true rfl⟩ (Nat.le_of_ble_eq_true rfl) 0 0 ⟨rfl, rfl⟩ ⟨Nat.zero_le _, Nat.zero_le _⟩ (by decide +kernel) _ rfl (fun q33 => []) (fun _ => rfl) (fun q33 => ?_)
        exact hJ86_30 q33.1
      · skip
        refine x_if_lt C (tgt := 82) (off := 23) (by decide) (by decide +kernel) (fun h41 => ?_) (fun h41 => ?_)
        · skip
          refine x_sub [1, 0] (lv2 := [(0, ar this), (1, ai t2)]) rfl ?_
          exact hJ82_33 ()
        · skip
          refine x_aload_n C 1 (i := 0) (k0 := 0) rfl rfl (by decide +kernel) ?_
          refine x_gR C fl_RX12_107 (fun _ _ _ => rfl) (by decide +kernel) (fun hasE_35 => ?_)
          refine x_bipush C (n := 12) (by decide +kernel) (by decide +kernel) ?_
          refine x_iload_n C 0 (i := 1) (k0 := 1) rfl rfl (by decide +kernel) ?_
          refine x_join (T := Int) (fun t => σ) 77 (fun t => [(0, ar this), (1, ai t2)]) (fun t => [ai t, ai 12, ar hasE_35]) (fun t36 => ?_) (fun J77_38 hJ77_38 => ?_)
          · show X z 0 0 σ 77 [(0, ar this), (1, ai t2)] [ai t36, ai 12, ar hasE_35] _
            refine x_iadd C (by decide +kernel) ?_
            refine x_aldZ C (by decide +kernel) (fun a37 => ?_)
            refine x_if_eq C (tgt := 86) (off := 7) (by decide) (by decide +kernel) (fun h38 => ?_) (fun h38 => ?_)
            · skip
              exact hJ86_30 σ
            · skip
              exact hJ82_33 ()
          · skip
            refine x_if_ge C (tgt := 76) (off := 7) (by decide) (by decide +kernel) (fun h40 => ?_) (fun h40 => ?_)
            · skip
              refine x_iload_n C 0 (i := 1) (k0 := 1) rfl rfl (by decide +kernel) ?_
              refine x_sub [1, 0] (lv2 := [(0, ar this), (1, ai t2)]) rfl ?_
              exact hJ77_38 t2
            · skip
              refine x_iconst C (n := 0) (by decide +kernel) ?_
              refine x_goto C (tgt := 77) (off := 4) (by decide) (by decide +kernel) ?_
              refine x_sub [1, 0] (lv2 := [(0, ar this), (1, ai t2)]) rfl ?_
              exact hJ77_38 0
  · skip
    refine x_if_eq C (tgt := 14) (off := 7) (by decide) (by decide +kernel) (fun h49 => ?_) (fun h49 => ?_)
    · skip
      refine x_aload_n C 0 (i := 0) (k0 := 0) rfl rfl (by decide +kernel) ?_
      refine x_ldc2 C (n := 465557354085) (v := 465557354085) kl_RX12_210 (by decide +kernel) (by decide +kernel) ?_
      refine x_callVp C (ci := 12) (c_X12_isWord l D ca ra N σ this 465557354085) (p_X12_isWord N σ this 465557354085) mt_X12_isWord mv_X12_isWord rfl ml_RX12_315 rfl (fun h => Bool.noConfusion h) ⟨Nat.le_of_ble_eq_true rfl, Nat.le_of_ble_eq_true rfl⟩ (Nat.le_of_ble_eq_true rfl) 0 0 ⟨rfl, rfl⟩ ⟨Nat.zero_le _, Nat.zero_le _⟩ (by decide +kernel) _ rfl (fun q43 => [ai q43.2]) (fun _ => rfl) (fun q43 => ?_)
      refine x_if_eq C (tgt := 28) (off := 7) (by decide) (by decide +kernel) (fun h48 => ?_) (fun h48 => ?_)
      · skip
        refine x_aload_n C 0 (i := 0) (k0 := 0) rfl rfl (by decide +kernel) ?_
        refine x_ldc2 C (n := 6712441) (v := 6712441) kl_RX12_212 (by decide +kernel) (by decide +kernel) ?_
        refine x_callVp C (ci := 12) (c_X12_isWord l D ca ra N σ this 6712441) (p_X12_isWord N σ this 6712441) mt_X12_isWord mv_X12_isWord rfl ml_RX12_315 rfl (fun h => Bool.noConfusion h) ⟨Nat.le_of_ble_eq_true rfl, Nat.le_of_ble_eq_true rfl⟩ (Nat.le_of_ble_eq_true rfl) 0 0 ⟨rfl, rfl⟩ ⟨Nat.zero_le _, Nat.zero_le _⟩ (by decide +kernel) _ rfl (fun q44 => [ai q44.2]) (fun _ => rfl) (fun q44 => ?_)
        refine x_if_eq C (tgt := 42) (off := 7) (by decide) (by decide +kernel) (fun h47 => ?_) (fun h47 => ?_)
        · skip
          refine x_aload_n C 0 (i := 0) (k0 := 0) rfl rfl (by decide +kernel) ?_
          refine x_ldc2 C (n := 1801807216) (v := 1801807216) kl_RX12_214 (by decide +kernel) (by decide +kernel) ?_
          refine x_callVp C (ci := 12) (c_X12_isWord l D ca ra N σ this 1801807216) (p_X12_isWord N σ this 1801807216) mt_X12_isWord mv_X12_isWord rfl ml_RX12_315 rfl (fun h => Bool.noConfusion h) ⟨Nat.le_of_ble_eq_true rfl, Nat.le_of_ble_eq_true rfl⟩ (Nat.le_of_ble_eq_true rfl) 0 0 ⟨rfl, rfl⟩ ⟨Nat.zero_le _, Nat.zero_le _⟩ (by decide +kernel) _ rfl (fun q45 => [ai q45.2]) (fun _ => rfl) (fun q45 => ?_)
          refine x_if_eq C (tgt := 56) (off := 7) (by decide) (by decide +kernel) (fun h46 => ?_) (fun h46 => ?_)
          · skip
            refine x_iconst C (n := (-1)) (by decide +kernel) ?_
            exact hJ57_41 (-1)
          · skip
            refine x_iconst C (n := 3) (by decide +kernel) ?_
            refine x_goto C (tgt := 57) (off := 4) (by decide) (by decide +kernel) ?_
            exact hJ57_41 3
        · skip
          refine x_iconst C (n := 2) (by decide +kernel) ?_
          refine x_goto C (tgt := 57) (off := 18) (by decide) (by decide +kernel) ?_
          exact hJ57_41 2
      · skip
        refine x_iconst C (n := 1) (by decide +kernel) ?_
        refine x_goto C (tgt := 57) (off := 32) (by decide) (by decide +kernel) ?_
        exact hJ57_41 1
    · skip
      refine x_iconst C (n := 0) (by decide +kernel) ?_
      refine x_goto C (tgt := 57) (off := 46) (by decide) (by decide +kernel) ?_
      exact hJ57_41 0

def L_X12_treaty_182 (N : Nat) (this : Nat) (p0 : Int) (J240_19 : (St → Option (St × Int))) : (St × Int) → Option (St × Int) := fixN N fun b182_21 t21 =>
 Option.bind (gI shm t21.1 12 this 45) fun codes_23 =>
 (if wr t21.2 < wr codes_23 then Option.bind (gR shm t21.1 12 this 39) fun code_24 =>
 Option.bind (gR shm t21.1 12 this 39) fun code_25 =>
 Option.bind (aI shm t21.1 1 code_25 (2100 + t21.2)) fun a26 =>
 Option.bind (sI shm t21.1 1 code_24 ((700 * p0) + t21.2) a26) fun σ27 =>
 Option.bind (gR shm σ27 12 this 40) fun codeNumber_28 =>
 Option.bind (gR shm σ27 12 this 40) fun codeNumber_29 =>
 Option.bind (aI shm σ27 1 codeNumber_29 (2100 + t21.2)) fun a30 =>
 Option.bind (sI shm σ27 1 codeNumber_28 ((700 * p0) + t21.2) a30) fun σ31 =>
 Lt (t21.2 + 1) fun x32 =>
 b182_21 (σ31, x32) else J240_19 t21.1)
def L_X12_treaty_112 (N : Nat) (this : Nat) (p0 : Int) (J180_33 : (St → Option (St × Int))) : (St × Int) → Option (St × Int) := fixN N fun b112_35 t35 =>
 (if wr t35.2 < wr 4 then Option.bind (gR shm t35.1 12 this 44) fun hasE_37 =>
 Option.bind (gR shm t35.1 12 this 44) fun hasE_38 =>
 Option.bind (aI shm t35.1 3 hasE_38 (12 + t35.2)) fun a39 =>
 Option.bind (sI shm t35.1 3 hasE_37 ((4 * p0) + t35.2) (wz a39)) fun σ40 =>
 Option.bind (gR shm σ40 12 this 37) fun uFrom_41 =>
 Option.bind (gR shm σ40 12 this 37) fun uFrom_42 =>
 Option.bind (aI shm σ40 1 uFrom_42 (12 + t35.2)) fun a43 =>
 Option.bind (sI shm σ40 1 uFrom_41 ((4 * p0) + t35.2) a43) fun σ44 =>
 Option.bind (gR shm σ44 12 this 38) fun uTo_45 =>
 Option.bind (gR shm σ44 12 this 38) fun uTo_46 =>
 Option.bind (aI shm σ44 1 uTo_46 (12 + t35.2)) fun a47 =>
 Option.bind (sI shm σ44 1 uTo_45 ((4 * p0) + t35.2) a47) fun σ48 =>
 Lt (t35.2 + 1) fun x49 =>
 b112_35 (σ48, x49) else J180_33 t35.1)
def L_X12_treaty_68 (N : Nat) (this : Nat) (J89_51 : (St → Option (St × Int))) : St → Option (St × Int) := fixN N fun b68_53 t53 =>
 Option.bind (rcv shm t53 12 this (f_X12_isGood N t53 this)) fun q55 =>
 (if wr q55.2 = 0 then J89_51 t53 else Option.bind (gI shm t53 12 this 8) fun token_56 =>
 (if wr token_56 = 0 then J89_51 t53 else Option.bind (rcv shm t53 12 this (f_X12_readTreaty N t53 this)) fun q57 =>
 b68_53 q57.1))
def L_X12_treaty_26 (N : Nat) (this : Nat) (J47_59 : (St → Option (St × Int))) : (St × Int) → Option (St × Int) := fixN N fun b26_61 t61 =>
 (if wr t61.2 < wr 4 then Option.bind (gR shm t61.1 12 this 44) fun hasE_63 =>
 Option.bind (sI shm t61.1 3 hasE_63 (12 + t61.2) 0) fun σ64 =>
 Lt (t61.2 + 1) fun x65 =>
 b26_61 (σ64, x65) else J47_59 t61.1)
def rm_X12_treaty : Room := { frames := 6, cells := 0, slots := 0, locals := 129 }
def f_X12_treaty (N : Nat) (σ : St) (this : Nat) (p0 : Int) : Option (St × Int) :=
 Option.bind (gI shm σ 12 this 2) fun taped_1 =>
 (if wr 700 < wr taped_1 then some (σ, (-2)) else Option.bind (f_X12_isTongue N σ p0) fun q2 =>
 (if wr q2.2 = 0 then some (σ, (-2)) else Option.bind (rcv shm σ 12 this (f_X12_takeTape N σ this)) fun q3 =>
 Jn (fun t4 : St => Option.bind (gR shm t4 12 this 36) fun treatyLines_5 =>
 Option.bind (sI shm t4 1 treatyLines_5 3 0) fun σ6 =>
 Option.bind (pI shm σ6 12 this 45 0) fun σ7 =>
 Option.bind (pI shm σ7 12 this 46 0) fun σ8 =>
 Option.bind (rcv shm σ8 12 this (f_X12_next N σ8 this)) fun q9 =>
 Jn (fun t10 : St => Option.bind (rcv shm t10 12 this (f_X12_isGood N t10 this)) fun q11 =>
 (if wr q11.2 = 0 then some (t10, (-1)) else Option.bind (gR shm t10 12 this 36) fun treatyLines_12 =>
 Option.bind (gR shm t10 12 this 36) fun treatyLines_13 =>
 Option.bind (aI shm t10 1 treatyLines_13 3) fun a14 =>
 Option.bind (sI shm t10 1 treatyLines_12 p0 a14) fun σ15 =>
 Jn (fun t16 : St => Jn (fun t17 : St => Option.bind (gR shm t17 12 this 36) fun treatyLines_18 =>
 Option.bind (aI shm t17 1 treatyLines_18 p0) fun a19 =>
 some (t17, a19)) fun J240_19 =>
 L_X12_treaty_182 N this p0 J240_19 (t16, 0)) fun J180_33 =>
 L_X12_treaty_112 N this p0 J180_33 (σ15, 0))) fun J89_51 =>
 L_X12_treaty_68 N this J89_51 q9.1) fun J47_59 =>
 L_X12_treaty_26 N this J47_59 (q3.1, 0)))
set_option maxRecDepth 100000 in
set_option maxHeartbeats 4000000 in
theorem c_X12_treaty (l : Launch) (D : va_G) (ca : Nat → ClassId) (ra : Nat → Nat) (N : Nat) (σ : St) (this : Nat) (p0 : Int) : Ctr l (D, ca, ra, shm) false yX12_treaty cX12_treaty 3 (some .int) rm_X12_treaty σ [ar this, ai p0] (f_X12_treaty N σ this p0) := by
  refine ctr_of (by decide) (Nat.le_of_ble_eq_true rfl) (fun z C => ?_)
  show X z 0 0 σ 0 [(0, ar this), (1, ai p0)] [] _
  unfold f_X12_treaty
  refine x_aload_n C 0 (i := 0) (k0 := 0) rfl rfl (by decide +kernel) ?_
  refine x_gI C fl_RX12_294 (fun _ _ _ => rfl) (by decide +kernel) (fun taped_1 => ?_)
  refine x_sipush C (n := 700) (by decide +kernel) (by decide +kernel) ?_
  refine x_ic_gt C (tgt := 17) (off := 10) (by decide) (by decide +kernel) (fun h68 => ?_) (fun h68 => ?_)
  · skip
    refine x_bipush C (n := (-2)) (by decide +kernel) (by decide +kernel) ?_
    exact x_iret C ⟨Nat.zero_le _, Nat.zero_le _⟩ (by decide +kernel)
  · skip
    refine x_iload_n C 1 (i := 1) (k0 := 1) rfl rfl (by decide +kernel) ?_
    refine x_callSp C (c_X12_isTongue l D ca ra N σ p0) (p_X12_isTongue N σ p0) mt_X12_isTongue ms_X12_isTongue ml_RX12_391 rfl (fun h => Bool.noConfusion h) ⟨Nat.le_of_ble_eq_true rfl, Nat.le_of_ble_eq_true rfl⟩ (Nat.le_of_ble_eq_true rfl) 0 0 ⟨rfl, rfl⟩ ⟨Nat.zero_le _, Nat.zero_le _⟩ (by decide +kernel) _ rfl (fun q2 => [ai q2.2]) (fun _ => rfl) (fun q2 => ?_)
    refine x_if_ne C (tgt := 20) (off := 6) (by decide) (by decide +kernel) (fun h67 => ?_) (fun h67 => ?_)
    · skip
      refine x_aload_n C 0 (i := 0) (k0 := 0) rfl rfl (by decide +kernel) ?_
      refine x_callV C (ci := 12) (c_X12_takeTape l D ca ra N σ this) mt_X12_takeTape mv_X12_takeTape rfl ml_RX12_297 rfl (fun h => Bool.noConfusion h) ⟨Nat.le_of_ble_eq_true rfl, Nat.le_of_ble_eq_true rfl⟩ (Nat.le_of_ble_eq_true rfl) 0 0 ⟨rfl, rfl⟩ ⟨Nat.zero_le _, Nat.zero_le _⟩ (by decide +kernel) _ rfl (fun q3 => []) (fun _ => rfl) (fun q3 => ?_)
      refine x_iconst C (n := 0) (by decide +kernel) ?_
      refine x_istore_n C (i := 2) (k0 := 2) rfl (Nat.le_of_ble_eq_true rfl) (by decide +kernel) (lv2 := [(2, ai 0), (0, ar this), (1, ai p0)]) rfl ?_
      refine x_join (T := St) (fun t => t) 47 (fun t => [(0, ar this), (1, ai p0)]) (fun t => []) (fun t4 => ?_) (fun J47_59 hJ47_59 => ?_)
      · show X z 0 0 t4 47 [(0, ar this), (1, ai p0)] [] _
        refine x_aload_n C 0 (i := 0) (k0 := 0) rfl rfl (by decide +kernel) ?_
        refine x_gR C fl_RX12_83 (fun _ _ _ => rfl) (by decide +kernel) (fun treatyLines_5 => ?_)
        refine x_iconst C (n := 3) (by decide +kernel) ?_
        refine x_iconst C (n := 0) (by decide +kernel) ?_
        refine x_astI C (by decide +kernel) (fun σ6 => ?_)
        refine x_aload_n C 0 (i := 0) (k0 := 0) rfl rfl (by decide +kernel) ?_
        refine x_iconst C (n := 0) (by decide +kernel) ?_
        refine x_pI C fl_RX12_394 rfl (fun q h => by cases h; rfl) (by decide +kernel) (fun σ7 => ?_)
        show X z 0 0 σ7 59 [(0, ar this), (1, ai p0)] [] _
        refine x_aload_n C 0 (i := 0) (k0 := 0) rfl rfl (by decide +kernel) ?_
        refine x_iconst C (n := 0) (by decide +kernel) ?_
        refine x_pI C fl_RX12_397 rfl (fun q h => by cases h; rfl) (by decide +kernel) (fun σ8 => ?_)
        refine x_aload_n C 0 (i := 0) (k0 := 0) rfl rfl (by decide +kernel) ?_
        refine x_callV C (ci := 12) (c_X12_next l D ca ra N σ8 this) mt_X12_next mv_X12_next rfl ml_RX12_288 rfl (fun h => Bool.noConfusion h) ⟨Nat.le_of_ble_eq_true rfl, Nat.le_of_ble_eq_true rfl⟩ (Nat.le_of_ble_eq_true rfl) 0 0 ⟨rfl, rfl⟩ ⟨Nat.zero_le _, Nat.zero_le _⟩ (by decide +kernel) _ rfl (fun q9 => []) (fun _ => rfl) (fun q9 => ?_)
        refine x_join (T := St) (fun t => t) 89 (fun t => [(0, ar this), (1, ai p0)]) (fun t => []) (fun t10 => ?_) (fun J89_51 hJ89_51 => ?_)
        · show X z 0 0 t10 89 [(0, ar this), (1, ai p0)] [] _
          refine x_aload_n C 0 (i := 0) (k0 := 0) rfl rfl (by decide +kernel) ?_
          refine x_callVp C (ci := 12) (c_X12_isGood l D ca ra N t10 this) (p_X12_isGood N t10 this) mt_X12_isGood mv_X12_isGood rfl ml_RX12_284 rfl (fun h => Bool.noConfusion h) ⟨Nat.le_of_ble_eq_true rfl, Nat.le_of_ble_eq_true rfl⟩ (Nat.le_of_ble_eq_true rfl) 0 0 ⟨rfl, rfl⟩ ⟨Nat.zero_le _, Nat.zero_le _⟩ (by decide +kernel) _ rfl (fun q11 => [ai q11.2]) (fun _ => rfl) (fun q11 => ?_)
          refine x_if_ne C (tgt := 98) (off := 5) (by decide) (by decide +kernel) (fun h51 => ?_) (fun h51 => ?_)
          · skip
            refine x_aload_n C 0 (i := 0) (k0 := 0) rfl rfl (by decide +kernel) ?_
            refine x_gR C fl_RX12_83 (fun _ _ _ => rfl) (by decide +kernel) (fun treatyLines_12 => ?_)
            refine x_iload_n C 1 (i := 1) (k0 := 1) rfl rfl (by decide +kernel) ?_
            refine x_aload_n C 0 (i := 0) (k0 := 0) rfl rfl (by decide +kernel) ?_
            refine x_gR C fl_RX12_83 (fun _ _ _ => rfl) (by decide +kernel) (fun treatyLines_13 => ?_)
            refine x_iconst C (n := 3) (by decide +kernel) ?_
            refine x_aldI C (by decide +kernel) (fun a14 => ?_)
            refine x_astI C (by decide +kernel) (fun σ15 => ?_)
            show X z 0 0 σ15 110 [(0, ar this), (1, ai p0)] [] _
            refine x_iconst C (n := 0) (by decide +kernel) ?_
            refine x_istore_n C (i := 2) (k0 := 2) rfl (Nat.le_of_ble_eq_true rfl) (by decide +kernel) (lv2 := [(2, ai 0), (0, ar this), (1, ai p0)]) rfl ?_
            refine x_join (T := St) (fun t => t) 180 (fun t => [(0, ar this), (1, ai p0)]) (fun t => []) (fun t16 => ?_) (fun J180_33 hJ180_33 => ?_)
            · show X z 0 0 t16 180 [(0, ar this), (1, ai p0)] [] _
              refine x_iconst C (n := 0) (by decide +kernel) ?_
              refine x_istore_n C (i := 2) (k0 := 2) rfl (Nat.le_of_ble_eq_true rfl) (by decide +kernel) (lv2 := [(2, ai 0), (0, ar this), (1, ai p0)]) rfl ?_
              refine x_join (T := St) (fun t => t) 240 (fun t => [(0, ar this), (1, ai p0)]) (fun t => []) (fun t17 => ?_) (fun J240_19 hJ240_19 => ?_)
              · show X z 0 0 t17 240 [(0, ar this), (1, ai p0)] [] _
                refine x_aload_n C 0 (i := 0) (k0 := 0) rfl rfl (by decide +kernel) ?_
                refine x_gR C fl_RX12_83 (fun _ _ _ => rfl) (by decide +kernel) (fun treatyLines_18 => ?_)
                refine x_iload_n C 1 (i := 1) (k0 := 1) rfl rfl (by decide +kernel) ?_
                refine x_aldI C (by decide +kernel) (fun a19 => ?_)
                exact x_iret C ⟨Nat.zero_le _, Nat.zero_le _⟩ (by decide +kernel)
              · skip
                refine x_sub [1, 2, 0] (lv2 := [(0, ar this), (1, ai p0), (2, ai 0)]) rfl ?_
                -- LOOP L_X12_treaty_182 hb182_21
                refine x_loop (T := St × Int) (fun t => t.1) (fun t => [(0, ar this), (1, ai p0), (2, ai t.2)]) (t16, 0) rfl (fun b182_21 hb182_21 t21 => ?_)
                show X z 0 0 t21.1 182 [(0, ar this), (1, ai p0), (2, ai t21.2)] [] _
                refine x_iload_n C 2 (i := 2) (k0 := 2) rfl rfl (by decide +kernel) ?_
                refine x_aload_n C 0 (i := 0) (k0 := 0) rfl rfl (by decide +kernel) ?_
                refine x_gI C fl_RX12_394 (fun _ _ _ => rfl) (by decide +kernel) (fun codes_23 => ?_)
                refine x_ic_ge C (tgt := 240) (off := 53) (by decide) (by decide +kernel) (fun h33 => ?_) (fun h33 => ?_)
                · skip
                  refine x_sub [0, 1] (lv2 := [(0, ar this), (1, ai p0)]) rfl ?_
                  exact hJ240_19 t21.1
                · skip
                  refine x_aload_n C 0 (i := 0) (k0 := 0) rfl rfl (by decide +kernel) ?_
                  refine x_gR C fl_RX12_92 (fun _ _ _ => rfl) (by decide +kernel) (fun code_24 => ?_)
                  refine x_sipush C (n := 700) (by decide +kernel) (by decide +kernel) ?_
                  refine x_iload_n C 1 (i := 1) (k0 := 1) rfl rfl (by decide +kernel) ?_
                  refine x_imul C (by decide +kernel) ?_
                  refine x_iload_n C 2 (i := 2) (k0 := 2) rfl rfl (by decide +kernel) ?_
                  refine x_iadd C (by decide +kernel) ?_
                  refine x_aload_n C 0 (i := 0) (k0 := 0) rfl rfl (by decide +kernel) ?_
                  show X z 0 0 t21.1 202 [(0, ar this), (1, ai p0), (2, ai t21.2)] [ar this, ai ((700 * p0) + t21.2), ar code_24] _
                  refine x_gR C fl_RX12_92 (fun _ _ _ => rfl) (by decide +kernel) (fun code_25 => ?_)
                  refine x_sipush C (n := 2100) (by decide +kernel) (by decide +kernel) ?_
                  refine x_iload_n C 2 (i := 2) (k0 := 2) rfl rfl (by decide +kernel) ?_
                  refine x_iadd C (by decide +kernel) ?_
                  refine x_aldI C (by decide +kernel) (fun a26 => ?_)
                  refine x_astI C (by decide +kernel) (fun σ27 => ?_)
                  refine x_aload_n C 0 (i := 0) (k0 := 0) rfl rfl (by decide +kernel) ?_
                  refine x_gR C fl_RX12_95 (fun _ _ _ => rfl) (by decide +kernel) (fun codeNumber_28 => ?_)
                  show X z 0 0 σ27 216 [(0, ar this), (1, ai p0), (2, ai t21.2)] [ar codeNumber_28] _
                  refine x_sipush C (n := 700) (by decide +kernel) (by decide +kernel) ?_
                  refine x_iload_n C 1 (i := 1) (k0 := 1) rfl rfl (by decide +kernel) ?_
                  refine x_imul C (by decide +kernel) ?_
                  refine x_iload_n C 2 (i := 2) (k0 := 2) rfl rfl (by decide +kernel) ?_
                  refine x_iadd C (by decide +kernel) ?_
                  refine x_aload_n C 0 (i := 0) (k0 := 0) rfl rfl (by decide +kernel) ?_
                  refine x_gR C fl_RX12_95 (fun _ _ _ => rfl) (by decide +kernel) (fun codeNumber_29 => ?_)
                  refine x_sipush C (n := 2100) (by decide +kernel) (by decide +kernel) ?_
                  show X z 0 0 σ27 230 [(0, ar this), (1, ai p0), (2, ai t21.2)] [ai 2100, ar codeNumber_29, ai ((700 * p0) + t21.2), ar codeNumber_28] _
                  refine x_iload_n C 2 (i := 2) (k0 := 2) rfl rfl (by decide +kernel) ?_
                  refine x_iadd C (by decide +kernel) ?_
                  refine x_aldI C (by decide +kernel) (fun a30 => ?_)
                  refine x_astI C (by decide +kernel) (fun σ31 => ?_)
                  refine x_iinc C 2 (i := 2) (n := 1) (Nat.le_of_ble_eq_true rfl) rfl (by decide +kernel) (lv2 := fun x32 => [(2, ai x32), (0, ar this), (1, ai p0)]) (fun _ => rfl) (fun x32 => ?_)
                  refine x_goto C (tgt := 182) (off := (-55)) (by decide) (by decide +kernel) ?_
                  refine x_sub [1, 2, 0] (lv2 := [(0, ar this), (1, ai p0), (2, ai x32)]) rfl ?_
                  exact hb182_21 (σ31, x32)
            · skip
              refine x_sub [1, 2, 0] (lv2 := [(0, ar this), (1, ai p0), (2, ai 0)]) rfl ?_
              -- LOOP L_X12_treaty_112 hb112_35
              refine x_loop (T := St × Int) (fun t => t.1) (fun t => [(0, ar this), (1, ai p0), (2, ai t.2)]) (σ15, 0) rfl (fun b112_35 hb112_35 t35 => ?_)
              show X z 0 0 t35.1 112 [(0, ar this), (1, ai p0), (2, ai t35.2)] [] _
              refine x_iload_n C 2 (i := 2) (k0 := 2) rfl rfl (by decide +kernel) ?_
              refine x_iconst C (n := 4) (by decide +kernel) ?_
              refine x_ic_ge C (tgt := 180) (off := 66) (by decide) (by decide +kernel) (fun h50 => ?_) (fun h50 => ?_)
              · skip
                refine x_sub [0, 1] (lv2 := [(0, ar this), (1, ai p0)]) rfl ?_
                exact hJ180_33 t35.1
              · skip
                refine x_aload_n C 0 (i := 0) (k0 := 0) rfl rfl (by decide +kernel) ?_
                refine x_gR C fl_RX12_107 (fun _ _ _ => rfl) (by decide +kernel) (fun hasE_37 => ?_)
                refine x_iconst C (n := 4) (by decide +kernel) ?_
                refine x_iload_n C 1 (i := 1) (k0 := 1) rfl rfl (by decide +kernel) ?_
                refine x_imul C (by decide +kernel) ?_
                refine x_iload_n C 2 (i := 2) (k0 := 2) rfl rfl (by decide +kernel) ?_
                refine x_iadd C (by decide +kernel) ?_
                refine x_aload_n C 0 (i := 0) (k0 := 0) rfl rfl (by decide +kernel) ?_
                show X z 0 0 t35.1 127 [(0, ar this), (1, ai p0), (2, ai t35.2)] [ar this, ai ((4 * p0) + t35.2), ar hasE_37] _
                refine x_gR C fl_RX12_107 (fun _ _ _ => rfl) (by decide +kernel) (fun hasE_38 => ?_)
                refine x_bipush C (n := 12) (by decide +kernel) (by decide +kernel) ?_
                refine x_iload_n C 2 (i := 2) (k0 := 2) rfl rfl (by decide +kernel) ?_
                refine x_iadd C (by decide +kernel) ?_
                refine x_aldZ C (by decide +kernel) (fun a39 => ?_)
                refine x_astZ C (by decide +kernel) (fun σ40 => ?_)
                refine x_aload_n C 0 (i := 0) (k0 := 0) rfl rfl (by decide +kernel) ?_
                refine x_gR C fl_RX12_86 (fun _ _ _ => rfl) (by decide +kernel) (fun uFrom_41 => ?_)
                show X z 0 0 σ40 140 [(0, ar this), (1, ai p0), (2, ai t35.2)] [ar uFrom_41] _
                refine x_iconst C (n := 4) (by decide +kernel) ?_
                refine x_iload_n C 1 (i := 1) (k0 := 1) rfl rfl (by decide +kernel) ?_
                refine x_imul C (by decide +kernel) ?_
                refine x_iload_n C 2 (i := 2) (k0 := 2) rfl rfl (by decide +kernel) ?_
                refine x_iadd C (by decide +kernel) ?_
                refine x_aload_n C 0 (i := 0) (k0 := 0) rfl rfl (by decide +kernel) ?_
                refine x_gR C fl_RX12_86 (fun _ _ _ => rfl) (by decide +kernel) (fun uFrom_42 => ?_)
                refine x_bipush C (n := 12) (by decide +kernel) (by decide +kernel) ?_
                show X z 0 0 σ40 151 [(0, ar this), (1, ai p0), (2, ai t35.2)] [ai 12, ar uFrom_42, ai ((4 * p0) + t35.2), ar uFrom_41] _
                refine x_iload_n C 2 (i := 2) (k0 := 2) rfl rfl (by decide +kernel) ?_
                refine x_iadd C (by decide +kernel) ?_
                refine x_aldI C (by decide +kernel) (fun a43 => ?_)
                refine x_astI C (by decide +kernel) (fun σ44 => ?_)
                refine x_aload_n C 0 (i := 0) (k0 := 0) rfl rfl (by decide +kernel) ?_
                refine x_gR C fl_RX12_89 (fun _ _ _ => rfl) (by decide +kernel) (fun uTo_45 => ?_)
                refine x_iconst C (n := 4) (by decide +kernel) ?_
                refine x_iload_n C 1 (i := 1) (k0 := 1) rfl rfl (by decide +kernel) ?_
                show X z 0 0 σ44 161 [(0, ar this), (1, ai p0), (2, ai t35.2)] [ai p0, ai 4, ar uTo_45] _
                refine x_imul C (by decide +kernel) ?_
                refine x_iload_n C 2 (i := 2) (k0 := 2) rfl rfl (by decide +kernel) ?_
                refine x_iadd C (by decide +kernel) ?_
                refine x_aload_n C 0 (i := 0) (k0 := 0) rfl rfl (by decide +kernel) ?_
                refine x_gR C fl_RX12_89 (fun _ _ _ => rfl) (by decide +kernel) (fun uTo_46 => ?_)
                refine x_bipush C (n := 12) (by decide +kernel) (by decide +kernel) ?_
                refine x_iload_n C 2 (i := 2) (k0 := 2) rfl rfl (by decide +kernel) ?_
                refine x_iadd C (by decide +kernel) ?_
                show X z 0 0 σ44 172 [(0, ar this), (1, ai p0), (2, ai t35.2)] [ai (12 + t35.2), ar uTo_46, ai ((4 * p0) + t35.2), ar uTo_45] _
                refine x_aldI C (by decide +kernel) (fun a47 => ?_)
                refine x_astI C (by decide +kernel) (fun σ48 => ?_)
                refine x_iinc C 2 (i := 2) (n := 1) (Nat.le_of_ble_eq_true rfl) rfl (by decide +kernel) (lv2 := fun x49 => [(2, ai x49), (0, ar this), (1, ai p0)]) (fun _ => rfl) (fun x49 => ?_)
                refine x_goto C (tgt := 112) (off := (-65)) (by decide) (by decide +kernel) ?_
                refine x_sub [1, 2, 0] (lv2 := [(0, ar this), (1, ai p0), (2, ai x49)]) rfl ?_
                exact hb112_35 (σ48, x49)
          · skip
            refine x_iconst C (n := (-1)) (by decide +kernel) ?_
            exact x_iret C ⟨Nat.zero_le _, Nat.zero_le _⟩ (by decide +kernel)
        · skip
          -- LOOP L_X12_treaty_68 hb68_53
          refine x_loop (T := St) (fun t => t) (fun t => [(0, ar this), (1, ai p0)]) q9.1 rfl (fun b68_53 hb68_53 t53 => ?_)
          show X z 0 0 t53 68 [(0, ar this), (1, ai p0)] [] _
          refine x_aload_n C 0 (i := 0) (k0 := 0) rfl rfl (by decide +kernel) ?_
          refine x_callVp C (ci := 12) (c_X12_isGood l D ca ra N t53 this) (p_X12_isGood N t53 this) mt_X12_isGood mv_X12_isGood rfl ml_RX12_284 rfl (fun h => Bool.noConfusion h) ⟨Nat.le_of_ble_eq_true rfl, Nat.le_of_ble_eq_true rfl⟩ (Nat.le_of_ble_eq_true rfl) 0 0 ⟨rfl, rfl⟩ ⟨Nat.zero_le _, Nat.zero_le _⟩ (by decide +kernel) _ rfl (fun q55 => [ai q55.2]) (fun _ => rfl) (fun q55 => ?_)
          refine x_if_eq C (tgt := 89) (off := 17) (by decide) (by decide +kernel) (fun h59 => ?_) (fun h59 => ?_)
          · skip
            exact hJ89_51 t53
          · skip
            refine x_aload_n C 0 (i := 0) (k0 := 0) rfl rfl (by decide +kernel) ?_
            refine x_gI C fl_RX12_256 (fun _ _ _ => rfl) (by decide +kernel) (fun token_56 => ?_)
            refine x_if_eq C (tgt := 89) (off := 10) (by decide) (by decide +kernel) (fun h58 => ?_) (fun h58 => ?_)
            · skip
              exact hJ89_51 t53
            · skip
              refine x_aload_n C 0 (i := 0) (k0 := 0) rfl rfl (by decide +kernel) ?_
              refine x_callV C (ci := 12) (c_X12_readTreaty l D ca ra N t53 this) mt_X12_readTreaty mv_X12_readTreaty rfl ml_RX12_400 rfl (fun h => Bool.noConfusion h) ⟨Nat.le_of_ble_eq_true rfl, Nat.le_of_ble_eq_true rfl⟩ (Nat.le_of_ble_eq_true rfl) 0 0 ⟨rfl, rfl⟩ ⟨Nat.zero_le _, Nat.zero_le _⟩ (by decide +kernel) _ rfl (fun q57 => []) (fun _ => rfl) (fun q57 => ?_)
              refine x_goto C (tgt := 68) (off := (-18)) (by decide) (by decide +kernel) ?_
              exact hb68_53 q57.1
      · skip
        refine x_sub [1, 2, 0] (lv2 := [(0, ar this), (1, ai p0), (2, ai 0)]) rfl ?_
        -- LOOP L_X12_treaty_26 hb26_61
        refine x_loop (T := St × Int) (fun t => t.1) (fun t => [(0, ar this), (1, ai p0), (2, ai t.2)]) (q3.1, 0) rfl (fun b26_61 hb26_61 t61 => ?_)
        show X z 0 0 t61.1 26 [(0, ar this), (1, ai p0), (2, ai t61.2)] [] _
        refine x_iload_n C 2 (i := 2) (k0 := 2) rfl rfl (by decide +kernel) ?_
        refine x_iconst C (n := 4) (by decide +kernel) ?_
        refine x_ic_ge C (tgt := 47) (off := 19) (by decide) (by decide +kernel) (fun h66 => ?_) (fun h66 => ?_)
        · skip
          refine x_sub [0, 1] (lv2 := [(0, ar this), (1, ai p0)]) rfl ?_
          exact hJ47_59 t61.1
        · skip
          refine x_aload_n C 0 (i := 0) (k0 := 0) rfl rfl (by decide +kernel) ?_
          refine x_gR C fl_RX12_107 (fun _ _ _ => rfl) (by decide +kernel) (fun hasE_63 => ?_)
          refine x_bipush C (n := 12) (by decide +kernel) (by decide +kernel) ?_
          refine x_iload_n C 2 (i := 2) (k0 := 2) rfl rfl (by decide +kernel) ?_
          refine x_iadd C (by decide +kernel) ?_
          refine x_iconst C (n := 0) (by decide +kernel) ?_
          refine x_astZ C (by decide +kernel) (fun σ64 => ?_)
          refine x_iinc C 2 (i := 2) (n := 1) (Nat.le_of_ble_eq_true rfl) rfl (by decide +kernel) (lv2 := fun x65 => [(2, ai x65), (0, ar this), (1, ai p0)]) (fun _ => rfl) (fun x65 => ?_)
          show X z 0 0 σ64 44 [(2, ai x65), (0, ar this), (1, ai p0)] [] _
          refine x_goto C (tgt := 26) (off := (-18)) (by decide) (by decide +kernel) ?_
          refine x_sub [1, 2, 0] (lv2 := [(0, ar this), (1, ai p0), (2, ai x65)]) rfl ?_
          exact hb26_61 (σ64, x65)
    · skip
      refine x_bipush C (n := (-2)) (by decide +kernel) (by decide +kernel) ?_
      exact x_iret C ⟨Nat.zero_le _, Nat.zero_le _⟩ (by decide +kernel)

def rm_X12_term : Room := { frames := 0, cells := 0, slots := 0, locals := 0 }
def f_X12_term (N : Nat) (σ : St) (this : Nat) (p0 : Int) (p1 : Int) : Option (St × Int) :=
 (if wr p0 = 97 then Option.bind (gI shm σ 12 this 57) fun qAirline_2 =>
 some (σ, qAirline_2) else (if wr p0 = 99 then Option.bind (gI shm σ 12 this 51) fun qCost_4 =>
 some (σ, qCost_4) else (if wr p0 = 103 then Option.bind (gI shm σ 12 this 54) fun qGround_6 =>
 some (σ, qGround_6) else (if wr p0 = 104 then Option.bind (gI shm σ 12 this 55) fun qHour_8 =>
 some (σ, qHour_8) else (if wr p0 = 108 then Option.bind (gI shm σ 12 this 50) fun qLand_10 =>
 some (σ, qLand_10) else (if wr p0 = 109 then Option.bind (gI shm σ 12 this 52) fun qMonth_12 =>
 some (σ, qMonth_12) else (if wr p0 = 110 then some (σ, p1) else (if wr p0 = 111 then Option.bind (gI shm σ 12 this 53) fun qOver_15 =>
 some (σ, qOver_15) else (if wr p0 = 115 then Option.bind (gI shm σ 12 this 56) fun qSpeed_17 =>
 some (σ, qSpeed_17) else (if wr p0 = 116 then Option.bind (gI shm σ 12 this 59) fun qOthers_19 =>
 some (σ, qOthers_19) else (if wr p0 = 119 then Option.bind (gI shm σ 12 this 58) fun qShown_21 =>
 some (σ, qShown_21) else Option.bind (gI shm σ 12 this 60) fun qPrice_1 =>
 some (σ, qPrice_1))))))))))))
set_option maxRecDepth 100000 in
set_option maxHeartbeats 4000000 in
theorem c_X12_term (l : Launch) (D : va_G) (ca : Nat → ClassId) (ra : Nat → Nat) (N : Nat) (σ : St) (this : Nat) (p0 : Int) (p1 : Int) : Ctr l (D, ca, ra, shm) false yX12_term cX12_term 3 (some .int) rm_X12_term σ [ar this, ai p0, ai p1] (f_X12_term N σ this p0 p1) := by
  refine ctr_of (by decide) (Nat.le_of_ble_eq_true rfl) (fun z C => ?_)
  show X z 0 0 σ 0 [(0, ar this), (1, ai p0), (2, ai p1)] [] _
  unfold f_X12_term
  refine x_iload_n C 1 (i := 1) (k0 := 1) rfl rfl (by decide +kernel) ?_
  refine x_split (fun h3 => ?_) (fun h3 => ?_)
  · refine x_ts C (dflt := 159) (lo := 97) (hi := 119) (offs := #[144, 159, 114, 159, 159, 159, 129, 134, 159, 159, 159, 109, 119, 107, 124, 159, 159, 159, 139, 154, 159, 159, 149]) (len := 107) (v := 97) (off := 144) (tgt := 145) h3 (by decide) (by decide) rfl (by decide) (by decide +kernel) ?_
    refine x_aload_n C 0 (i := 0) (k0 := 0) rfl rfl (by decide +kernel) ?_
    refine x_gI C fl_RX12_460 (fun _ _ _ => rfl) (by decide +kernel) (fun qAirline_2 => ?_)
    exact x_iret C ⟨Nat.zero_le _, Nat.zero_le _⟩ (by decide +kernel)
  refine x_split (fun h5 => ?_) (fun h5 => ?_)
  · refine x_ts C (dflt := 159) (lo := 97) (hi := 119) (offs := #[144, 159, 114, 159, 159, 159, 129, 134, 159, 159, 159, 109, 119, 107, 124, 159, 159, 159, 139, 154, 159, 159, 149]) (len := 107) (v := 99) (off := 114) (tgt := 115) h5 (by decide) (by decide) rfl (by decide) (by decide +kernel) ?_
    refine x_aload_n C 0 (i := 0) (k0 := 0) rfl rfl (by decide +kernel) ?_
    refine x_gI C fl_RX12_442 (fun _ _ _ => rfl) (by decide +kernel) (fun qCost_4 => ?_)
    exact x_iret C ⟨Nat.zero_le _, Nat.zero_le _⟩ (by decide +kernel)
  refine x_split (fun h7 => ?_) (fun h7 => ?_)
  · refine x_ts C (dflt := 159) (lo := 97) (hi := 119) (offs := #[144, 159, 114, 159, 159, 159, 129, 134, 159, 159, 159, 109, 119, 107, 124, 159, 159, 159, 139, 154, 159, 159, 149]) (len := 107) (v := 103) (off := 129) (tgt := 130) h7 (by decide) (by decide) rfl (by decide) (by decide +kernel) ?_
    refine x_aload_n C 0 (i := 0) (k0 := 0) rfl rfl (by decide +kernel) ?_
    refine x_gI C fl_RX12_451 (fun _ _ _ => rfl) (by decide +kernel) (fun qGround_6 => ?_)
    exact x_iret C ⟨Nat.zero_le _, Nat.zero_le _⟩ (by decide +kernel)
  refine x_split (fun h9 => ?_) (fun h9 => ?_)
  · refine x_ts C (dflt := 159) (lo := 97) (hi := 119) (offs := #[144, 159, 114, 159, 159, 159, 129, 134, 159, 159, 159, 109, 119, 107, 124, 159, 159, 159, 139, 154, 159, 159, 149]) (len := 107) (v := 104) (off := 134) (tgt := 135) h9 (by decide) (by decide) rfl (by decide) (by decide +kernel) ?_
    refine x_aload_n C 0 (i := 0) (k0 := 0) rfl rfl (by decide +kernel) ?_
    refine x_gI C fl_RX12_454 (fun _ _ _ => rfl) (by decide +kernel) (fun qHour_8 => ?_)
    exact x_iret C ⟨Nat.zero_le _, Nat.zero_le _⟩ (by decide +kernel)
  refine x_split (fun h11 => ?_) (fun h11 => ?_)
  · refine x_ts C (dflt := 159) (lo := 97) (hi := 119) (offs := #[144, 159, 114, 159, 159, 159, 129, 134, 159, 159, 159, 109, 119, 107, 124, 159, 159, 159, 139, 154, 159, 159, 149]) (len := 107) (v := 108) (off := 109) (tgt := 110) h11 (by decide) (by decide) rfl (by decide) (by decide +kernel) ?_
    refine x_aload_n C 0 (i := 0) (k0 := 0) rfl rfl (by decide +kernel) ?_
    refine x_gI C fl_RX12_439 (fun _ _ _ => rfl) (by decide +kernel) (fun qLand_10 => ?_)
    exact x_iret C ⟨Nat.zero_le _, Nat.zero_le _⟩ (by decide +kernel)
  refine x_split (fun h13 => ?_) (fun h13 => ?_)
  · refine x_ts C (dflt := 159) (lo := 97) (hi := 119) (offs := #[144, 159, 114, 159, 159, 159, 129, 134, 159, 159, 159, 109, 119, 107, 124, 159, 159, 159, 139, 154, 159, 159, 149]) (len := 107) (v := 109) (off := 119) (tgt := 120) h13 (by decide) (by decide) rfl (by decide) (by decide +kernel) ?_
    refine x_aload_n C 0 (i := 0) (k0 := 0) rfl rfl (by decide +kernel) ?_
    refine x_gI C fl_RX12_445 (fun _ _ _ => rfl) (by decide +kernel) (fun qMonth_12 => ?_)
    exact x_iret C ⟨Nat.zero_le _, Nat.zero_le _⟩ (by decide +kernel)
  refine x_split (fun h14 => ?_) (fun h14 => ?_)
  · refine x_ts C (dflt := 159) (lo := 97) (hi := 119) (offs := #[144, 159, 114, 159, 159, 159, 129, 134, 159, 159, 159, 109, 119, 107, 124, 159, 159, 159, 139, 154, 159, 159, 149]) (len := 107) (v := 110) (off := 107) (tgt := 108) h14 (by decide) (by decide) rfl (by decide) (by decide +kernel) ?_
    refine x_iload_n C 2 (i := 2) (k0 := 2) rfl rfl (by decide +kernel) ?_
    exact x_iret C ⟨Nat.zero_le _, Nat.zero_le _⟩ (by decide +kernel)
  refine x_split (fun h16 => ?_) (fun h16 => ?_)
  · refine x_ts C (dflt := 159) (lo := 97) (hi := 119) (offs := #[144, 159, 114, 159, 159, 159, 129, 134, 159, 159, 159, 109, 119, 107, 124, 159, 159, 159, 139, 154, 159, 159, 149]) (len := 107) (v := 111) (off := 124) (tgt := 125) h16 (by decide) (by decide) rfl (by decide) (by decide +kernel) ?_
    refine x_aload_n C 0 (i := 0) (k0 := 0) rfl rfl (by decide +kernel) ?_
    refine x_gI C fl_RX12_448 (fun _ _ _ => rfl) (by decide +kernel) (fun qOver_15 => ?_)
    exact x_iret C ⟨Nat.zero_le _, Nat.zero_le _⟩ (by decide +kernel)
  refine x_split (fun h18 => ?_) (fun h18 => ?_)
  · refine x_ts C (dflt := 159) (lo := 97) (hi := 119) (offs := #[144, 159, 114, 159, 159, 159, 129, 134, 159, 159, 159, 109, 119, 107, 124, 159, 159, 159, 139, 154, 159, 159, 149]) (len := 107) (v := 115) (off := 139) (tgt := 140) h18 (by decide) (by decide) rfl (by decide) (by decide +kernel) ?_
    refine x_aload_n C 0 (i := 0) (k0 := 0) rfl rfl (by decide +kernel) ?_
    refine x_gI C fl_RX12_457 (fun _ _ _ => rfl) (by decide +kernel) (fun qSpeed_17 => ?_)
    exact x_iret C ⟨Nat.zero_le _, Nat.zero_le _⟩ (by decide +kernel)
  refine x_split (fun h20 => ?_) (fun h20 => ?_)
  · refine x_ts C (dflt := 159) (lo := 97) (hi := 119) (offs := #[144, 159, 114, 159, 159, 159, 129, 134, 159, 159, 159, 109, 119, 107, 124, 159, 159, 159, 139, 154, 159, 159, 149]) (len := 107) (v := 116) (off := 154) (tgt := 155) h20 (by decide) (by decide) rfl (by decide) (by decide +kernel) ?_
    refine x_aload_n C 0 (i := 0) (k0 := 0) rfl rfl (by decide +kernel) ?_
    refine x_gI C fl_RX12_466 (fun _ _ _ => rfl) (by decide +kernel) (fun qOthers_19 => ?_)
    exact x_iret C ⟨Nat.zero_le _, Nat.zero_le _⟩ (by decide +kernel)
  refine x_split (fun h22 => ?_) (fun h22 => ?_)
  · refine x_ts C (dflt := 159) (lo := 97) (hi := 119) (offs := #[144, 159, 114, 159, 159, 159, 129, 134, 159, 159, 159, 109, 119, 107, 124, 159, 159, 159, 139, 154, 159, 159, 149]) (len := 107) (v := 119) (off := 149) (tgt := 150) h22 (by decide) (by decide) rfl (by decide) (by decide +kernel) ?_
    refine x_aload_n C 0 (i := 0) (k0 := 0) rfl rfl (by decide +kernel) ?_
    refine x_gI C fl_RX12_463 (fun _ _ _ => rfl) (by decide +kernel) (fun qShown_21 => ?_)
    exact x_iret C ⟨Nat.zero_le _, Nat.zero_le _⟩ (by decide +kernel)
  refine x_tsD C (dflt := 159) (lo := 97) (hi := 119) (offs := #[144, 159, 114, 159, 159, 159, 129, 134, 159, 159, 159, 109, 119, 107, 124, 159, 159, 159, 139, 154, 159, 159, 149]) (len := 107) (tgt := 160) [97, 99, 103, 104, 108, 109, 110, 111, 115, 116, 119] (List.forall_mem_cons.mpr ⟨h3, (List.forall_mem_cons.mpr ⟨h5, (List.forall_mem_cons.mpr ⟨h7, (List.forall_mem_cons.mpr ⟨h9, (List.forall_mem_cons.mpr ⟨h11, (List.forall_mem_cons.mpr ⟨h13, (List.forall_mem_cons.mpr ⟨h14, (List.forall_mem_cons.mpr ⟨h16, (List.forall_mem_cons.mpr ⟨h18, (List.forall_mem_cons.mpr ⟨h20, (List.forall_mem_cons.mpr ⟨h22, (List.forall_mem_nil _)⟩)⟩)⟩)⟩)⟩)⟩)⟩)⟩)⟩)⟩)⟩) rfl (by decide +kernel) (by decide) (by decide +kernel) ?_
  refine x_aload_n C 0 (i := 0) (k0 := 0) rfl rfl (by decide +kernel) ?_
  refine x_gI C fl_RX12_469 (fun _ _ _ => rfl) (by decide +kernel) (fun qPrice_1 => ?_)
  exact x_iret C ⟨Nat.zero_le _, Nat.zero_le _⟩ (by decide +kernel)
theorem p_X12_term (N : Nat) (σ : St) (this : Nat) (p0 : Int) (p1 : Int) : Pu σ (f_X12_term N σ this p0 p1) := by
  unfold f_X12_term
  refine pu_if ?_ ?_
  · skip
    refine pu_bind (fun _ => ?_)
    exact pu_some
  refine pu_if ?_ ?_
  · skip
    refine pu_bind (fun _ => ?_)
    exact pu_some
  refine pu_if ?_ ?_
  · skip
    refine pu_bind (fun _ => ?_)
    exact pu_some
  refine pu_if ?_ ?_
  · skip
    refine pu_bind (fun _ => ?_)
    exact pu_some
  refine pu_if ?_ ?_
  · skip
    refine pu_bind (fun _ => ?_)
    exact pu_some
  refine pu_if ?_ ?_
  · skip
    refine pu_bind (fun _ => ?_)
    exact pu_some
  refine pu_if ?_ ?_
  · skip
    exact pu_some
  refine pu_if ?_ ?_
  · skip
    refine pu_bind (fun _ => ?_)
    exact pu_some
  refine pu_if ?_ ?_
  · skip
    refine pu_bind (fun _ => ?_)
    exact pu_some
  refine pu_if ?_ ?_
  · skip
    refine pu_bind (fun _ => ?_)
    exact pu_some
  refine pu_if ?_ ?_
  · skip
    refine pu_bind (fun _ => ?_)
    exact pu_some
  refine pu_bind (fun _ => ?_)
  exact pu_some

def rm_X12_two : Room := { frames := 0, cells := 0, slots := 0, locals := 0 }
def f_X12_two (N : Nat) (σ : St) (p0 : Int) (p1 : Int) (p2 : Int) : Option (St × Int) :=
 (if wr p0 = 38 then (if wr p1 = 0 then some (σ, 0) else (if wr p2 = 0 then some (σ, 0) else some (σ, 1))) else (if wr p0 = 42 then some (σ, (p1 * p2)) else (if wr p0 = 43 then some (σ, (p1 + p2)) else (if wr p0 = 45 then some (σ, (p1 - p2)) else (if wr p0 = 60 then (if wr p1 < wr p2 then some (σ, 1) else some (σ, 0)) else (if wr p0 = 61 then (if wr p1 = wr p2 then some (σ, 1) else some (σ, 0)) else (if wr p0 = 62 then (if wr p2 < wr p1 then some (σ, 1) else some (σ, 0)) else (if wr p1 = 0 then (if wr p2 = 0 then some (σ, 0) else some (σ, 1)) else some (σ, 1)))))))))
set_option maxRecDepth 100000 in
set_option maxHeartbeats 4000000 in
theorem c_X12_two (l : Launch) (D : va_G) (ca : Nat → ClassId) (ra : Nat → Nat) (N : Nat) (σ : St) (p0 : Int) (p1 : Int) (p2 : Int) : Ctr l (D, ca, ra, shm) false yX12_two cX12_two 3 (some .int) rm_X12_two σ [ai p0, ai p1, ai p2] (f_X12_two N σ p0 p1 p2) := by
  refine ctr_of (by decide) (Nat.le_of_ble_eq_true rfl) (fun z C => ?_)
  show X z 0 0 σ 0 [(0, ai p0), (1, ai p1), (2, ai p2)] [] _
  unfold f_X12_two
  refine x_iload_n C 0 (i := 0) (k0 := 0) rfl rfl (by decide +kernel) ?_
  refine x_split (fun h5 => ?_) (fun h5 => ?_)
  · refine x_ts C (dflt := 174) (lo := 38) (hi := 62) (offs := #[160, 174, 174, 174, 123, 115, 174, 119, 174, 174, 174, 174, 174, 174, 174, 174, 174, 174, 174, 174, 174, 174, 127, 149, 138]) (len := 115) (v := 38) (off := 160) (tgt := 161) h5 (by decide) (by decide) rfl (by decide) (by decide +kernel) ?_
    refine x_iload_n C 1 (i := 1) (k0 := 1) rfl rfl (by decide +kernel) ?_
    refine x_if_eq C (tgt := 173) (off := 11) (by decide) (by decide +kernel) (fun h4 => ?_) (fun h4 => ?_)
    · skip
      refine x_iconst C (n := 0) (by decide +kernel) ?_
      exact x_iret C ⟨Nat.zero_le _, Nat.zero_le _⟩ (by decide +kernel)
    · skip
      refine x_iload_n C 2 (i := 2) (k0 := 2) rfl rfl (by decide +kernel) ?_
      refine x_if_eq C (tgt := 173) (off := 7) (by decide) (by decide +kernel) (fun h3 => ?_) (fun h3 => ?_)
      · skip
        refine x_iconst C (n := 0) (by decide +kernel) ?_
        exact x_iret C ⟨Nat.zero_le _, Nat.zero_le _⟩ (by decide +kernel)
      · skip
        refine x_iconst C (n := 1) (by decide +kernel) ?_
        refine x_goto C (tgt := 174) (off := 4) (by decide) (by decide +kernel) ?_
        exact x_iret C ⟨Nat.zero_le _, Nat.zero_le _⟩ (by decide +kernel)
  refine x_split (fun h6 => ?_) (fun h6 => ?_)
  · refine x_ts C (dflt := 174) (lo := 38) (hi := 62) (offs := #[160, 174, 174, 174, 123, 115, 174, 119, 174, 174, 174, 174, 174, 174, 174, 174, 174, 174, 174, 174, 174, 174, 127, 149, 138]) (len := 115) (v := 42) (off := 123) (tgt := 124) h6 (by decide) (by decide) rfl (by decide) (by decide +kernel) ?_
    refine x_iload_n C 1 (i := 1) (k0 := 1) rfl rfl (by decide +kernel) ?_
    refine x_iload_n C 2 (i := 2) (k0 := 2) rfl rfl (by decide +kernel) ?_
    refine x_imul C (by decide +kernel) ?_
    exact x_iret C ⟨Nat.zero_le _, Nat.zero_le _⟩ (by decide +kernel)
  refine x_split (fun h7 => ?_) (fun h7 => ?_)
  · refine x_ts C (dflt := 174) (lo := 38) (hi := 62) (offs := #[160, 174, 174, 174, 123, 115, 174, 119, 174, 174, 174, 174, 174, 174, 174, 174, 174, 174, 174, 174, 174, 174, 127, 149, 138]) (len := 115) (v := 43) (off := 115) (tgt := 116) h7 (by decide) (by decide) rfl (by decide) (by decide +kernel) ?_
    refine x_iload_n C 1 (i := 1) (k0 := 1) rfl rfl (by decide +kernel) ?_
    refine x_iload_n C 2 (i := 2) (k0 := 2) rfl rfl (by decide +kernel) ?_
    refine x_iadd C (by decide +kernel) ?_
    exact x_iret C ⟨Nat.zero_le _, Nat.zero_le _⟩ (by decide +kernel)
  refine x_split (fun h8 => ?_) (fun h8 => ?_)
  · refine x_ts C (dflt := 174) (lo := 38) (hi := 62) (offs := #[160, 174, 174, 174, 123, 115, 174, 119, 174, 174, 174, 174, 174, 174, 174, 174, 174, 174, 174, 174, 174, 174, 127, 149, 138]) (len := 115) (v := 45) (off := 119) (tgt := 120) h8 (by decide) (by decide) rfl (by decide) (by decide +kernel) ?_
    refine x_iload_n C 1 (i := 1) (k0 := 1) rfl rfl (by decide +kernel) ?_
    refine x_iload_n C 2 (i := 2) (k0 := 2) rfl rfl (by decide +kernel) ?_
    refine x_isub C (by decide +kernel) ?_
    exact x_iret C ⟨Nat.zero_le _, Nat.zero_le _⟩ (by decide +kernel)
  refine x_split (fun h10 => ?_) (fun h10 => ?_)
  · refine x_ts C (dflt := 174) (lo := 38) (hi := 62) (offs := #[160, 174, 174, 174, 123, 115, 174, 119, 174, 174, 174, 174, 174, 174, 174, 174, 174, 174, 174, 174, 174, 174, 127, 149, 138]) (len := 115) (v := 60) (off := 127) (tgt := 128) h10 (by decide) (by decide) rfl (by decide) (by decide +kernel) ?_
    refine x_iload_n C 1 (i := 1) (k0 := 1) rfl rfl (by decide +kernel) ?_
    refine x_iload_n C 2 (i := 2) (k0 := 2) rfl rfl (by decide +kernel) ?_
    refine x_ic_ge C (tgt := 137) (off := 7) (by decide) (by decide +kernel) (fun h9 => ?_) (fun h9 => ?_)
    · skip
      refine x_iconst C (n := 0) (by decide +kernel) ?_
      exact x_iret C ⟨Nat.zero_le _, Nat.zero_le _⟩ (by decide +kernel)
    · skip
      refine x_iconst C (n := 1) (by decide +kernel) ?_
      refine x_goto C (tgt := 138) (off := 4) (by decide) (by decide +kernel) ?_
      exact x_iret C ⟨Nat.zero_le _, Nat.zero_le _⟩ (by decide +kernel)
  refine x_split (fun h12 => ?_) (fun h12 => ?_)
  · refine x_ts C (dflt := 174) (lo := 38) (hi := 62) (offs := #[160, 174, 174, 174, 123, 115, 174, 119, 174, 174, 174, 174, 174, 174, 174, 174, 174, 174, 174, 174, 174, 174, 127, 149, 138]) (len := 115) (v := 61) (off := 149) (tgt := 150) h12 (by decide) (by decide) rfl (by decide) (by decide +kernel) ?_
    refine x_iload_n C 1 (i := 1) (k0 := 1) rfl rfl (by decide +kernel) ?_
    refine x_iload_n C 2 (i := 2) (k0 := 2) rfl rfl (by decide +kernel) ?_
    refine x_ic_ne C (tgt := 159) (off := 7) (by decide) (by decide +kernel) (fun h11 => ?_) (fun h11 => ?_)
    · skip
      refine x_iconst C (n := 0) (by decide +kernel) ?_
      exact x_iret C ⟨Nat.zero_le _, Nat.zero_le _⟩ (by decide +kernel)
    · skip
      refine x_iconst C (n := 1) (by decide +kernel) ?_
      refine x_goto C (tgt := 160) (off := 4) (by decide) (by decide +kernel) ?_
      exact x_iret C ⟨Nat.zero_le _, Nat.zero_le _⟩ (by decide +kernel)
  refine x_split (fun h14 => ?_) (fun h14 => ?_)
  · refine x_ts C (dflt := 174) (lo := 38) (hi := 62) (offs := #[160, 174, 174, 174, 123, 115, 174, 119, 174, 174, 174, 174, 174, 174, 174, 174, 174, 174, 174, 174, 174, 174, 127, 149, 138]) (len := 115) (v := 62) (off := 138) (tgt := 139) h14 (by decide) (by decide) rfl (by decide) (by decide +kernel) ?_
    refine x_iload_n C 1 (i := 1) (k0 := 1) rfl rfl (by decide +kernel) ?_
    refine x_iload_n C 2 (i := 2) (k0 := 2) rfl rfl (by decide +kernel) ?_
    refine x_ic_le C (tgt := 148) (off := 7) (by decide) (by decide +kernel) (fun h13 => ?_) (fun h13 => ?_)
    · skip
      refine x_iconst C (n := 0) (by decide +kernel) ?_
      exact x_iret C ⟨Nat.zero_le _, Nat.zero_le _⟩ (by decide +kernel)
    · skip
      refine x_iconst C (n := 1) (by decide +kernel) ?_
      refine x_goto C (tgt := 149) (off := 4) (by decide) (by decide +kernel) ?_
      exact x_iret C ⟨Nat.zero_le _, Nat.zero_le _⟩ (by decide +kernel)
  refine x_tsD C (dflt := 174) (lo := 38) (hi := 62) (offs := #[160, 174, 174, 174, 123, 115, 174, 119, 174, 174, 174, 174, 174, 174, 174, 174, 174, 174, 174, 174, 174, 174, 127, 149, 138]) (len := 115) (tgt := 175) [38, 42, 43, 45, 60, 61, 62] (List.forall_mem_cons.mpr ⟨h5, (List.forall_mem_cons.mpr ⟨h6, (List.forall_mem_cons.mpr ⟨h7, (List.forall_mem_cons.mpr ⟨h8, (List.forall_mem_cons.mpr ⟨h10, (List.forall_mem_cons.mpr ⟨h12, (List.forall_mem_cons.mpr ⟨h14, (List.forall_mem_nil _)⟩)⟩)⟩)⟩)⟩)⟩)⟩) rfl (by decide +kernel) (by decide) (by decide +kernel) ?_
  refine x_iload_n C 1 (i := 1) (k0 := 1) rfl rfl (by decide +kernel) ?_
  refine x_if_ne C (tgt := 183) (off := 7) (by decide) (by decide +kernel) (fun h2 => ?_) (fun h2 => ?_)
  · skip
    refine x_iconst C (n := 1) (by decide +kernel) ?_
    refine x_goto C (tgt := 188) (off := 4) (by decide) (by decide +kernel) ?_
    exact x_iret C ⟨Nat.zero_le _, Nat.zero_le _⟩ (by decide +kernel)
  · skip
    refine x_iload_n C 2 (i := 2) (k0 := 2) rfl rfl (by decide +kernel) ?_
    refine x_if_eq C (tgt := 187) (off := 7) (by decide) (by decide +kernel) (fun h1 => ?_) (fun h1 => ?_)
    · skip
      refine x_iconst C (n := 0) (by decide +kernel) ?_
      exact x_iret C ⟨Nat.zero_le _, Nat.zero_le _⟩ (by decide +kernel)
    · skip
      refine x_iconst C (n := 1) (by decide +kernel) ?_
      refine x_goto C (tgt := 188) (off := 4) (by decide) (by decide +kernel) ?_
      exact x_iret C ⟨Nat.zero_le _, Nat.zero_le _⟩ (by decide +kernel)
theorem p_X12_two (N : Nat) (σ : St) (p0 : Int) (p1 : Int) (p2 : Int) : Pu σ (f_X12_two N σ p0 p1 p2) := by
  unfold f_X12_two
  refine pu_if ?_ ?_
  · skip
    refine pu_if ?_ ?_
    · skip
      exact pu_some
    · skip
      refine pu_if ?_ ?_
      · skip
        exact pu_some
      · skip
        exact pu_some
  refine pu_if ?_ ?_
  · skip
    exact pu_some
  refine pu_if ?_ ?_
  · skip
    exact pu_some
  refine pu_if ?_ ?_
  · skip
    exact pu_some
  refine pu_if ?_ ?_
  · skip
    refine pu_ifs ?_ ?_
    · skip
      exact pu_some
    · skip
      exact pu_some
  refine pu_if ?_ ?_
  · skip
    refine pu_ifs ?_ ?_
    · skip
      exact pu_some
    · skip
      exact pu_some
  refine pu_if ?_ ?_
  · skip
    refine pu_ifs ?_ ?_
    · skip
      exact pu_some
    · skip
      exact pu_some
  refine pu_ifs ?_ ?_
  · skip
    exact pu_some
  · skip
    refine pu_if ?_ ?_
    · skip
      exact pu_some
    · skip
      exact pu_some

def L_X12_work_36 (N : Nat) (this : Nat) (p0 : Int) (p1 : Int) (J175_8 : (St → Option (St × Int))) : (St × Int × Int) → Option (St × Int) := fixN N fun b36_10 t10 =>
 Option.bind (gR shm t10.1 12 this 38) fun uTo_12 =>
 Option.bind (aI shm t10.1 1 uTo_12 ((4 * p0) + p1)) fun a13 =>
 (if wr t10.2.2 < wr ((700 * p0) + a13) then Option.bind (gR shm t10.1 12 this 39) fun code_14 =>
 Option.bind (aI shm t10.1 1 code_14 t10.2.2) fun a15 =>
 Jn (fun t16 : St × Int => Lt (t10.2.2 + 1) fun x17 =>
 b36_10 (t16.1, t16.2, x17)) fun J169_17 =>
 (if wr a15 = wr 126 then Option.bind (gR shm t10.1 12 this 43) fun pile_35 =>
 Option.bind (gR shm t10.1 12 this 43) fun pile_36 =>
 Option.bind (aI shm t10.1 1 pile_36 (t10.2.1 - 1)) fun a37 =>
 Jn (fun t38 : Int => Option.bind (sI shm t10.1 1 pile_35 (t10.2.1 - 1) t38) fun σ39 =>
 J169_17 (σ39, t10.2.1)) fun J98_39 =>
 (if wr a37 = 0 then J98_39 1 else J98_39 0) else Option.bind (f_X12_isLetter N t10.1 a15) fun q19 =>
 (if wr q19.2 = 0 then Lt (t10.2.1 + (-1)) fun x20 =>
 Option.bind (gR shm t10.1 12 this 43) fun pile_21 =>
 Option.bind (gR shm t10.1 12 this 43) fun pile_22 =>
 Option.bind (aI shm t10.1 1 pile_22 (x20 - 1)) fun a23 =>
 Option.bind (gR shm t10.1 12 this 43) fun pile_24 =>
 Option.bind (aI shm t10.1 1 pile_24 x20) fun a25 =>
 Option.bind (f_X12_two N t10.1 a15 a23 a25) fun q26 =>
 Option.bind (sI shm t10.1 1 pile_21 (x20 - 1) q26.2) fun σ27 =>
 J169_17 (σ27, x20) else Option.bind (gR shm t10.1 12 this 43) fun pile_28 =>
 Option.bind (gR shm t10.1 12 this 40) fun codeNumber_29 =>
 Option.bind (aI shm t10.1 1 codeNumber_29 t10.2.2) fun a30 =>
 Option.bind (rcv shm t10.1 12 this (f_X12_term N t10.1 this a15 a30)) fun q31 =>
 Option.bind (sI shm t10.1 1 pile_28 t10.2.1 q31.2) fun σ32 =>
 Lt (t10.2.1 + 1) fun x33 =>
 J169_17 (σ32, x33))) else J175_8 t10.1)
def rm_X12_work : Room := { frames := 1, cells := 0, slots := 0, locals := 22 }
def f_X12_work (N : Nat) (σ : St) (this : Nat) (p0 : Int) (p1 : Int) (p2 : Int) : Option (St × Int) :=
 Option.bind (gR shm σ 12 this 44) fun hasE_1 =>
 Option.bind (aI shm σ 3 hasE_1 ((4 * p0) + p1)) fun a2 =>
 (if wr (wz a2) = 0 then some (σ, p2) else Option.bind (gR shm σ 12 this 37) fun uFrom_3 =>
 Option.bind (aI shm σ 1 uFrom_3 ((4 * p0) + p1)) fun a4 =>
 Lt ((700 * p0) + a4) fun x5 =>
 Jn (fun t6 : St => Option.bind (gR shm t6 12 this 43) fun pile_7 =>
 Option.bind (aI shm t6 1 pile_7 0) fun a8 =>
 some (t6, a8)) fun J175_8 =>
 L_X12_work_36 N this p0 p1 J175_8 (σ, 0, x5))
set_option maxRecDepth 100000 in
set_option maxHeartbeats 4000000 in
theorem c_X12_work (l : Launch) (D : va_G) (ca : Nat → ClassId) (ra : Nat → Nat) (N : Nat) (σ : St) (this : Nat) (p0 : Int) (p1 : Int) (p2 : Int) : Ctr l (D, ca, ra, shm) false yX12_work cX12_work 7 (some .int) rm_X12_work σ [ar this, ai p0, ai p1, ai p2] (f_X12_work N σ this p0 p1 p2) := by
  refine ctr_of (by decide) (Nat.le_of_ble_eq_true rfl) (fun z C => ?_)
  show X z 0 0 σ 0 [(0, ar this), (1, ai p0), (2, ai p1), (3, ai p2)] [] _
  unfold f_X12_work
  refine x_aload_n C 0 (i := 0) (k0 := 0) rfl rfl (by decide +kernel) ?_
  refine x_gR C fl_RX12_107 (fun _ _ _ => rfl) (by decide +kernel) (fun hasE_1 => ?_)
  refine x_iconst C (n := 4) (by decide +kernel) ?_
  refine x_iload_n C 1 (i := 1) (k0 := 1) rfl rfl (by decide +kernel) ?_
  refine x_imul C (by decide +kernel) ?_
  refine x_iload_n C 2 (i := 2) (k0 := 2) rfl rfl (by decide +kernel) ?_
  refine x_iadd C (by decide +kernel) ?_
  refine x_aldZ C (by decide +kernel) (fun a2 => ?_)
  show X z 0 0 σ 10 [(0, ar this), (1, ai p0), (2, ai p1), (3, ai p2)] [ai (wz a2)] _
  refine x_if_ne C (tgt := 15) (off := 5) (by decide) (by decide +kernel) (fun h44 => ?_) (fun h44 => ?_)
  · skip
    refine x_iconst C (n := 0) (by decide +kernel) ?_
    refine x_istore C (i := 4) (Nat.le_of_ble_eq_true rfl) (by decide +kernel) (lv2 := [(4, ai 0), (0, ar this), (1, ai p0), (2, ai p1), (3, ai p2)]) rfl ?_
    refine x_sipush C (n := 700) (by decide +kernel) (by decide +kernel) ?_
    refine x_iload_n C 2 (i := 1) (k0 := 1) rfl rfl (by decide +kernel) ?_
    refine x_imul C (by decide +kernel) ?_
    refine x_aload_n C 1 (i := 0) (k0 := 0) rfl rfl (by decide +kernel) ?_
    refine x_gR C fl_RX12_86 (fun _ _ _ => rfl) (by decide +kernel) (fun uFrom_3 => ?_)
    refine x_iconst C (n := 4) (by decide +kernel) ?_
    show X z 0 0 σ 28 [(4, ai 0), (0, ar this), (1, ai p0), (2, ai p1), (3, ai p2)] [ai 4, ar uFrom_3, ai (700 * p0)] _
    refine x_iload_n C 2 (i := 1) (k0 := 1) rfl rfl (by decide +kernel) ?_
    refine x_imul C (by decide +kernel) ?_
    refine x_iload_n C 3 (i := 2) (k0 := 2) rfl rfl (by decide +kernel) ?_
    refine x_iadd C (by decide +kernel) ?_
    refine x_aldI C (by decide +kernel) (fun a4 => ?_)
    refine x_iadd C (by decide +kernel) ?_
    refine x_istoreL C (i := 5) (Nat.le_of_ble_eq_true rfl) (by decide +kernel) (lv2 := fun x5 => [(5, ai x5), (4, ai 0), (0, ar this), (1, ai p0), (2, ai p1), (3, ai p2)]) (fun _ => rfl) (fun x5 => ?_)
    refine x_join (T := St) (fun t => t) 175 (fun t => [(0, ar this)]) (fun t => []) (fun t6 => ?_) (fun J175_8 hJ175_8 => ?_)
    · show X z 0 0 t6 175 [(0, ar this)] [] _
      refine x_aload_n C 0 (i := 0) (k0 := 0) rfl rfl (by decide +kernel) ?_
      refine x_gR C fl_RX12_104 (fun _ _ _ => rfl) (by decide +kernel) (fun pile_7 => ?_)
      refine x_iconst C (n := 0) (by decide +kernel) ?_
      refine x_aldI C (by decide +kernel) (fun a8 => ?_)
      exact x_iret C ⟨Nat.zero_le _, Nat.zero_le _⟩ (by decide +kernel)
    · skip
      refine x_sub [2, 3, 4, 1, 0] (lv2 := [(0, ar this), (1, ai p0), (2, ai p1), (4, ai 0), (5, ai x5)]) rfl ?_
      -- LOOP L_X12_work_36 hb36_10
      refine x_loop (T := St × Int × Int) (fun t => t.1) (fun t => [(0, ar this), (1, ai p0), (2, ai p1), (4, ai t.2.1), (5, ai t.2.2)]) (σ, 0, x5) rfl (fun b36_10 hb36_10 t10 => ?_)
      show X z 0 0 t10.1 36 [(0, ar this), (1, ai p0), (2, ai p1), (4, ai t10.2.1), (5, ai t10.2.2)] [] _
      refine x_iload C 4 (i := 5) rfl (by decide +kernel) ?_
      refine x_sipush C (n := 700) (by decide +kernel) (by decide +kernel) ?_
      refine x_iload_n C 1 (i := 1) (k0 := 1) rfl rfl (by decide +kernel) ?_
      refine x_imul C (by decide +kernel) ?_
      refine x_aload_n C 0 (i := 0) (k0 := 0) rfl rfl (by decide +kernel) ?_
      refine x_gR C fl_RX12_89 (fun _ _ _ => rfl) (by decide +kernel) (fun uTo_12 => ?_)
      refine x_iconst C (n := 4) (by decide +kernel) ?_
      refine x_iload_n C 1 (i := 1) (k0 := 1) rfl rfl (by decide +kernel) ?_
      show X z 0 0 t10.1 49 [(0, ar this), (1, ai p0), (2, ai p1), (4, ai t10.2.1), (5, ai t10.2.2)] [ai p0, ai 4, ar uTo_12, ai (700 * p0), ai t10.2.2] _
      refine x_imul C (by decide +kernel) ?_
      refine x_iload_n C 2 (i := 2) (k0 := 2) rfl rfl (by decide +kernel) ?_
      refine x_iadd C (by decide +kernel) ?_
      refine x_aldI C (by decide +kernel) (fun a13 => ?_)
      refine x_iadd C (by decide +kernel) ?_
      refine x_ic_ge C (tgt := 175) (off := 121) (by decide) (by decide +kernel) (fun h43 => ?_) (fun h43 => ?_)
      · skip
        refine x_sub [0] (lv2 := [(0, ar this)]) rfl ?_
        exact hJ175_8 t10.1
      · skip
        refine x_aload_n C 0 (i := 0) (k0 := 0) rfl rfl (by decide +kernel) ?_
        refine x_gR C fl_RX12_92 (fun _ _ _ => rfl) (by decide +kernel) (fun code_14 => ?_)
        refine x_iload C 4 (i := 5) rfl (by decide +kernel) ?_
        refine x_aldI C (by decide +kernel) (fun a15 => ?_)
        refine x_istore C (i := 6) (Nat.le_of_ble_eq_true rfl) (by decide +kernel) (lv2 := [(6, ai a15), (0, ar this), (1, ai p0), (2, ai p1), (4, ai t10.2.1), (5, ai t10.2.2)]) rfl ?_
        refine x_iload C 0 (i := 6) rfl (by decide +kernel) ?_
        refine x_bipush C (n := 126) (by decide +kernel) (by decide +kernel) ?_
        refine x_join (T := St × Int) (fun t => t.1) 169 (fun t => [(0, ar this), (1, ai p0), (2, ai p1), (4, ai t.2), (5, ai t10.2.2)]) (fun t => []) (fun t16 => ?_) (fun J169_17 hJ169_17 => ?_)
        · show X z 0 0 t16.1 169 [(0, ar this), (1, ai p0), (2, ai p1), (4, ai t16.2), (5, ai t10.2.2)] [] _
          refine x_iinc C 4 (i := 5) (n := 1) (Nat.le_of_ble_eq_true rfl) rfl (by decide +kernel) (lv2 := fun x17 => [(5, ai x17), (0, ar this), (1, ai p0), (2, ai p1), (4, ai t16.2)]) (fun _ => rfl) (fun x17 => ?_)
          refine x_goto C (tgt := 36) (off := (-136)) (by decide) (by decide +kernel) ?_
          refine x_sub [1, 2, 3, 4, 0] (lv2 := [(0, ar this), (1, ai p0), (2, ai p1), (4, ai t16.2), (5, ai x17)]) rfl ?_
          exact hb36_10 (t16.1, t16.2, x17)
        · skip
          refine x_ic_ne C (tgt := 102) (off := 32) (by decide) (by decide +kernel) (fun h42 => ?_) (fun h42 => ?_)
          · skip
            refine x_iload C 0 (i := 6) rfl (by decide +kernel) ?_
            refine x_callSp C (c_X12_isLetter l D ca ra N t10.1 a15) (p_X12_isLetter N t10.1 a15) mt_X12_isLetter ms_X12_isLetter ml_RX12_259 rfl (fun h => Bool.noConfusion h) ⟨Nat.le_of_ble_eq_true rfl, Nat.le_of_ble_eq_true rfl⟩ (Nat.le_of_ble_eq_true rfl) 0 0 ⟨rfl, rfl⟩ ⟨Nat.zero_le _, Nat.zero_le _⟩ (by decide +kernel) _ rfl (fun q19 => [ai q19.2]) (fun _ => rfl) (fun q19 => ?_)
            refine x_if_eq C (tgt := 136) (off := 29) (by decide) (by decide +kernel) (fun h34 => ?_) (fun h34 => ?_)
            · skip
              refine x_iinc C 4 (i := 4) (n := (-1)) (Nat.le_of_ble_eq_true rfl) rfl (by decide +kernel) (lv2 := fun x20 => [(4, ai x20), (6, ai a15), (0, ar this), (1, ai p0), (2, ai p1), (5, ai t10.2.2)]) (fun _ => rfl) (fun x20 => ?_)
              refine x_aload_n C 2 (i := 0) (k0 := 0) rfl rfl (by decide +kernel) ?_
              refine x_gR C fl_RX12_104 (fun _ _ _ => rfl) (by decide +kernel) (fun pile_21 => ?_)
              refine x_iload C 0 (i := 4) rfl (by decide +kernel) ?_
              refine x_iconst C (n := 1) (by decide +kernel) ?_
              refine x_isub C (by decide +kernel) ?_
              refine x_iload C 1 (i := 6) rfl (by decide +kernel) ?_
              refine x_aload_n C 2 (i := 0) (k0 := 0) rfl rfl (by decide +kernel) ?_
              show X z 0 0 t10.1 150 [(4, ai x20), (6, ai a15), (0, ar this), (1, ai p0), (2, ai p1), (5, ai t10.2.2)] [ar this, ai a15, ai (x20 - 1), ar pile_21] _
              refine x_gR C fl_RX12_104 (fun _ _ _ => rfl) (by decide +kernel) (fun pile_22 => ?_)
              refine x_iload C 0 (i := 4) rfl (by decide +kernel) ?_
              refine x_iconst C (n := 1) (by decide +kernel) ?_
              refine x_isub C (by decide +kernel) ?_
              refine x_aldI C (by decide +kernel) (fun a23 => ?_)
              refine x_aload_n C 2 (i := 0) (k0 := 0) rfl rfl (by decide +kernel) ?_
              refine x_gR C fl_RX12_104 (fun _ _ _ => rfl) (by decide +kernel) (fun pile_24 => ?_)
              refine x_iload C 0 (i := 4) rfl (by decide +kernel) ?_
              show X z 0 0 t10.1 164 [(4, ai x20), (6, ai a15), (0, ar this), (1, ai p0), (2, ai p1), (5, ai t10.2.2)] [ai x20, ar pile_24, ai a23, ai a15, ai (x20 - 1), ar pile_21] _
              refine x_aldI C (by decide +kernel) (fun a25 => ?_)
              refine x_callSp C (c_X12_two l D ca ra N t10.1 a15 a23 a25) (p_X12_two N t10.1 a15 a23 a25) mt_X12_two ms_X12_two ml_RX12_475 rfl (fun h => Bool.noConfusion h) ⟨Nat.le_of_ble_eq_true rfl, Nat.le_of_ble_eq_true rfl⟩ (Nat.le_of_ble_eq_true rfl) 0 0 ⟨rfl, rfl⟩ ⟨Nat.zero_le _, Nat.zero_le _⟩ (by decide +kernel) _ rfl (fun q26 => [ai q26.2, ai (x20 - 1), ar pile_21]) (fun _ => rfl) (fun q26 => ?_)
              refine x_astI C (by decide +kernel) (fun σ27 => ?_)
              refine x_sub [2, 3, 4, 0, 5] (lv2 := [(0, ar this), (1, ai p0), (2, ai p1), (4, ai x20), (5, ai t10.2.2)]) rfl ?_
              exact hJ169_17 (σ27, x20)
            · skip
              refine x_aload_n C 1 (i := 0) (k0 := 0) rfl rfl (by decide +kernel) ?_
              refine x_gR C fl_RX12_104 (fun _ _ _ => rfl) (by decide +kernel) (fun pile_28 => ?_)
              refine x_iload C 4 (i := 4) rfl (by decide +kernel) ?_
              refine x_aload_n C 1 (i := 0) (k0 := 0) rfl rfl (by decide +kernel) ?_
              refine x_iload C 0 (i := 6) rfl (by decide +kernel) ?_
              refine x_aload_n C 1 (i := 0) (k0 := 0) rfl rfl (by decide +kernel) ?_
              refine x_gR C fl_RX12_95 (fun _ _ _ => rfl) (by decide +kernel) (fun codeNumber_29 => ?_)
              refine x_iload C 5 (i := 5) rfl (by decide +kernel) ?_
              show X z 0 0 t10.1 125 [(6, ai a15), (0, ar this), (1, ai p0), (2, ai p1), (4, ai t10.2.1), (5, ai t10.2.2)] [ai t10.2.2, ar codeNumber_29, ai a15, ar this, ai t10.2.1, ar pile_28] _
              refine x_aldI C (by decide +kernel) (fun a30 => ?_)
              refine x_callVp C (ci := 12) (c_X12_term l D ca ra N t10.1 this a15 a30) (p_X12_term N t10.1 this a15 a30) mt_X12_term mv_X12_term rfl ml_RX12_472 rfl (fun h => Bool.noConfusion h) ⟨Nat.le_of_ble_eq_true rfl, Nat.le_of_ble_eq_true rfl⟩ (Nat.le_of_ble_eq_true rfl) 0 0 ⟨rfl, rfl⟩ ⟨Nat.zero_le _, Nat.zero_le _⟩ (by decide +kernel) _ rfl (fun q31 => [ai q31.2, ai t10.2.1, ar pile_28]) (fun _ => rfl) (fun q31 => ?_)
              refine x_astI C (by decide +kernel) (fun σ32 => ?_)
              refine x_iinc C 4 (i := 4) (n := 1) (Nat.le_of_ble_eq_true rfl) rfl (by decide +kernel) (lv2 := fun x33 => [(4, ai x33), (6, ai a15), (0, ar this), (1, ai p0), (2, ai p1), (5, ai t10.2.2)]) (fun _ => rfl) (fun x33 => ?_)
              refine x_goto C (tgt := 169) (off := 36) (by decide) (by decide +kernel) ?_
              refine x_sub [2, 3, 4, 0, 5] (lv2 := [(0, ar this), (1, ai p0), (2, ai p1), (4, ai x33), (5, ai t10.2.2)]) rfl ?_
              exact hJ169_17 (σ32, x33)
          · skip
            refine x_aload_n C 1 (i := 0) (k0 := 0) rfl rfl (by decide +kernel) ?_
            refine x_gR C fl_RX12_104 (fun _ _ _ => rfl) (by decide +kernel) (fun pile_35 => ?_)
            refine x_iload C 4 (i := 4) rfl (by decide +kernel) ?_
            refine x_iconst C (n := 1) (by decide +kernel) ?_
            refine x_isub C (by decide +kernel) ?_
            refine x_aload_n C 1 (i := 0) (k0 := 0) rfl rfl (by decide +kernel) ?_
            refine x_gR C fl_RX12_104 (fun _ _ _ => rfl) (by decide +kernel) (fun pile_36 => ?_)
            refine x_iload C 4 (i := 4) rfl (by decide +kernel) ?_
            show X z 0 0 t10.1 87 [(6, ai a15), (0, ar this), (1, ai p0), (2, ai p1), (4, ai t10.2.1), (5, ai t10.2.2)] [ai t10.2.1, ar pile_36, ai (t10.2.1 - 1), ar pile_35] _
            refine x_iconst C (n := 1) (by decide +kernel) ?_
            refine x_isub C (by decide +kernel) ?_
            refine x_aldI C (by decide +kernel) (fun a37 => ?_)
            refine x_join (T := Int) (fun t => t10.1) 98 (fun t => [(0, ar this), (1, ai p0), (2, ai p1), (4, ai t10.2.1), (5, ai t10.2.2)]) (fun t => [ai t, ai (t10.2.1 - 1), ar pile_35]) (fun t38 => ?_) (fun J98_39 hJ98_39 => ?_)
            · show X z 0 0 t10.1 98 [(0, ar this), (1, ai p0), (2, ai p1), (4, ai t10.2.1), (5, ai t10.2.2)] [ai t38, ai (t10.2.1 - 1), ar pile_35] _
              refine x_astI C (by decide +kernel) (fun σ39 => ?_)
              refine x_goto C (tgt := 169) (off := 70) (by decide) (by decide +kernel) ?_
              exact hJ169_17 (σ39, t10.2.1)
            · skip
              refine x_if_ne C (tgt := 97) (off := 7) (by decide) (by decide +kernel) (fun h41 => ?_) (fun h41 => ?_)
              · skip
                refine x_iconst C (n := 0) (by decide +kernel) ?_
                refine x_sub [1, 2, 3, 4, 5] (lv2 := [(0, ar this), (1, ai p0), (2, ai p1), (4, ai t10.2.1), (5, ai t10.2.2)]) rfl ?_
                exact hJ98_39 0
              · skip
                refine x_iconst C (n := 1) (by decide +kernel) ?_
                refine x_goto C (tgt := 98) (off := 4) (by decide) (by decide +kernel) ?_
                refine x_sub [1, 2, 3, 4, 5] (lv2 := [(0, ar this), (1, ai p0), (2, ai p1), (4, ai t10.2.1), (5, ai t10.2.2)]) rfl ?_
                exact hJ98_39 1
  · skip
    refine x_iload_n C 3 (i := 3) (k0 := 3) rfl rfl (by decide +kernel) ?_
    exact x_iret C ⟨Nat.zero_le _, Nat.zero_le _⟩ (by decide +kernel)

def rm_X12_leavesBy : Room := { frames := 2, cells := 0, slots := 0, locals := 48 }
def f_X12_leavesBy (N : Nat) (σ : St) (this : Nat) (p0 : Int) (p1 : Int) (p2 : Int) : Option (St × Int) :=
 Option.bind (pI shm σ 12 this 52 p1) fun σ1 =>
 Option.bind (pI shm σ1 12 this 53 p2) fun σ2 =>
 Option.bind (rcv shm σ2 12 this (f_X12_work N σ2 this p0 1 0)) fun q3 =>
 (if wr q3.2 = 0 then some (q3.1, 0) else some (q3.1, 1))
set_option maxRecDepth 100000 in
set_option maxHeartbeats 4000000 in
theorem c_X12_leavesBy (l : Launch) (D : va_G) (ca : Nat → ClassId) (ra : Nat → Nat) (N : Nat) (σ : St) (this : Nat) (p0 : Int) (p1 : Int) (p2 : Int) : Ctr l (D, ca, ra, shm) false yX12_leavesBy cX12_leavesBy 4 (some .boolean) rm_X12_leavesBy σ [ar this, ai p0, ai p1, ai p2] (f_X12_leavesBy N σ this p0 p1 p2) := by
  refine ctr_of (by decide) (Nat.le_of_ble_eq_true rfl) (fun z C => ?_)
  show X z 0 0 σ 0 [(0, ar this), (1, ai p0), (2, ai p1), (3, ai p2)] [] _
  unfold f_X12_leavesBy
  refine x_aload_n C 0 (i := 0) (k0 := 0) rfl rfl (by decide +kernel) ?_
  refine x_iload_n C 2 (i := 2) (k0 := 2) rfl rfl (by decide +kernel) ?_
  refine x_pI C fl_RX12_445 rfl (fun q h => by cases h; rfl) (by decide +kernel) (fun σ1 => ?_)
  refine x_aload_n C 0 (i := 0) (k0 := 0) rfl rfl (by decide +kernel) ?_
  refine x_iload_n C 3 (i := 3) (k0 := 3) rfl rfl (by decide +kernel) ?_
  refine x_pI C fl_RX12_448 rfl (fun q h => by cases h; rfl) (by decide +kernel) (fun σ2 => ?_)
  refine x_aload_n C 0 (i := 0) (k0 := 0) rfl rfl (by decide +kernel) ?_
  refine x_iload_n C 1 (i := 1) (k0 := 1) rfl rfl (by decide +kernel) ?_
  show X z 0 0 σ2 12 [(0, ar this), (1, ai p0), (2, ai p1), (3, ai p2)] [ai p0, ar this] _
  refine x_iconst C (n := 1) (by decide +kernel) ?_
  refine x_iconst C (n := 0) (by decide +kernel) ?_
  refine x_callV C (ci := 12) (c_X12_work l D ca ra N σ2 this p0 1 0) mt_X12_work mv_X12_work rfl ml_RX12_479 rfl (fun h => Bool.noConfusion h) ⟨Nat.le_of_ble_eq_true rfl, Nat.le_of_ble_eq_true rfl⟩ (Nat.le_of_ble_eq_true rfl) 0 0 ⟨rfl, rfl⟩ ⟨Nat.zero_le _, Nat.zero_le _⟩ (by decide +kernel) _ rfl (fun q3 => [ai q3.2]) (fun _ => rfl) (fun q3 => ?_)
  refine x_if_eq C (tgt := 24) (off := 7) (by decide) (by decide +kernel) (fun h4 => ?_) (fun h4 => ?_)
  · skip
    refine x_iconst C (n := 0) (by decide +kernel) ?_
    exact x_zret C (Or.inl rfl) ⟨Nat.zero_le _, Nat.zero_le _⟩ (by decide +kernel)
  · skip
    refine x_iconst C (n := 1) (by decide +kernel) ?_
    refine x_goto C (tgt := 25) (off := 4) (by decide) (by decide +kernel) ?_
    exact x_zret C (Or.inr rfl) ⟨Nat.zero_le _, Nat.zero_le _⟩ (by decide +kernel)

def rm_X12_flies : Room := { frames := 2, cells := 0, slots := 0, locals := 48 }
def f_X12_flies (N : Nat) (σ : St) (this : Nat) (p0 : Int) (p1 : Int) (p2 : Int) (p3 : Int) : Option (St × Int) :=
 Option.bind (pI shm σ 12 this 54 p1) fun σ1 =>
 Option.bind (pI shm σ1 12 this 55 p2) fun σ2 =>
 Option.bind (pI shm σ2 12 this 56 p3) fun σ3 =>
 Option.bind (rcv shm σ3 12 this (f_X12_work N σ3 this p0 2 1)) fun q4 =>
 (if wr q4.2 = 0 then some (q4.1, 0) else some (q4.1, 1))
set_option maxRecDepth 100000 in
set_option maxHeartbeats 4000000 in
theorem c_X12_flies (l : Launch) (D : va_G) (ca : Nat → ClassId) (ra : Nat → Nat) (N : Nat) (σ : St) (this : Nat) (p0 : Int) (p1 : Int) (p2 : Int) (p3 : Int) : Ctr l (D, ca, ra, shm) false yX12_flies cX12_flies 5 (some .boolean) rm_X12_flies σ [ar this, ai p0, ai p1, ai p2, ai p3] (f_X12_flies N σ this p0 p1 p2 p3) := by
  refine ctr_of (by decide) (Nat.le_of_ble_eq_true rfl) (fun z C => ?_)
  show X z 0 0 σ 0 [(0, ar this), (1, ai p0), (2, ai p1), (3, ai p2), (4, ai p3)] [] _
  unfold f_X12_flies
  refine x_aload_n C 0 (i := 0) (k0 := 0) rfl rfl (by decide +kernel) ?_
  refine x_iload_n C 2 (i := 2) (k0 := 2) rfl rfl (by decide +kernel) ?_
  refine x_pI C fl_RX12_451 rfl (fun q h => by cases h; rfl) (by decide +kernel) (fun σ1 => ?_)
  refine x_aload_n C 0 (i := 0) (k0 := 0) rfl rfl (by decide +kernel) ?_
  refine x_iload_n C 3 (i := 3) (k0 := 3) rfl rfl (by decide +kernel) ?_
  refine x_pI C fl_RX12_454 rfl (fun q h => by cases h; rfl) (by decide +kernel) (fun σ2 => ?_)
  refine x_aload_n C 0 (i := 0) (k0 := 0) rfl rfl (by decide +kernel) ?_
  refine x_iload C 4 (i := 4) rfl (by decide +kernel) ?_
  show X z 0 0 σ2 13 [(0, ar this), (1, ai p0), (2, ai p1), (3, ai p2), (4, ai p3)] [ai p3, ar this] _
  refine x_pI C fl_RX12_457 rfl (fun q h => by cases h; rfl) (by decide +kernel) (fun σ3 => ?_)
  refine x_aload_n C 0 (i := 0) (k0 := 0) rfl rfl (by decide +kernel) ?_
  refine x_iload_n C 1 (i := 1) (k0 := 1) rfl rfl (by decide +kernel) ?_
  refine x_iconst C (n := 2) (by decide +kernel) ?_
  refine x_iconst C (n := 1) (by decide +kernel) ?_
  refine x_callV C (ci := 12) (c_X12_work l D ca ra N σ3 this p0 2 1) mt_X12_work mv_X12_work rfl ml_RX12_479 rfl (fun h => Bool.noConfusion h) ⟨Nat.le_of_ble_eq_true rfl, Nat.le_of_ble_eq_true rfl⟩ (Nat.le_of_ble_eq_true rfl) 0 0 ⟨rfl, rfl⟩ ⟨Nat.zero_le _, Nat.zero_le _⟩ (by decide +kernel) _ rfl (fun q4 => [ai q4.2]) (fun _ => rfl) (fun q4 => ?_)
  refine x_if_eq C (tgt := 30) (off := 7) (by decide) (by decide +kernel) (fun h5 => ?_) (fun h5 => ?_)
  · skip
    refine x_iconst C (n := 0) (by decide +kernel) ?_
    exact x_zret C (Or.inl rfl) ⟨Nat.zero_le _, Nat.zero_le _⟩ (by decide +kernel)
  · skip
    refine x_iconst C (n := 1) (by decide +kernel) ?_
    refine x_goto C (tgt := 31) (off := 4) (by decide) (by decide +kernel) ?_
    exact x_zret C (Or.inr rfl) ⟨Nat.zero_le _, Nat.zero_le _⟩ (by decide +kernel)

def L_X12_unlikeToFly_21 (N : Nat) (this : Nat) (p0 : Int) (p1 : Int) (J51_1 : (St × Int × Int × Int → Option (St × Int))) (t3 : St × Int) (t8 : St × Int) (J72_11 : (St → Option (St × Int))) : (St × Int) → Option (St × Int) := fixN N fun b21_13 t13 =>
 (if wr t13.2 < wr 31 then Option.bind (rcv shm t13.1 12 this (f_X12_flies N t13.1 this p0 t3.2 t8.2 t13.2)) fun q15 =>
 Option.bind (rcv shm q15.1 12 this (f_X12_flies N q15.1 this p1 t3.2 t8.2 t13.2)) fun q16 =>
 (if wr q15.2 = wr q16.2 then Lt (t13.2 + 1) fun x17 =>
 b21_13 (q16.1, x17) else J51_1 (q16.1, t3.2, t8.2, t13.2)) else J72_11 t13.1)
def L_X12_unlikeToFly_11 (N : Nat) (this : Nat) (p0 : Int) (p1 : Int) (J51_1 : (St × Int × Int × Int → Option (St × Int))) (t3 : St × Int) (J78_6 : (St → Option (St × Int))) : (St × Int) → Option (St × Int) := fixN N fun b11_8 t8 =>
 (if wr t8.2 < wr 24 then Jn (fun t10 : St => Lt (t8.2 + 1) fun x11 =>
 b11_8 (t10, x11)) fun J72_11 =>
 L_X12_unlikeToFly_21 N this p0 p1 J51_1 t3 t8 J72_11 (t8.1, 0) else J78_6 t8.1)
def L_X12_unlikeToFly_2 (N : Nat) (this : Nat) (p0 : Int) (p1 : Int) (J51_1 : (St × Int × Int × Int → Option (St × Int))) : (St × Int) → Option (St × Int) := fixN N fun b2_3 t3 =>
 (if wr t3.2 < wr 8 then Jn (fun t5 : St => Lt (t3.2 + 1) fun x6 =>
 b2_3 (t5, x6)) fun J78_6 =>
 L_X12_unlikeToFly_11 N this p0 p1 J51_1 t3 J78_6 (t3.1, 0) else some (t3.1, (-1)))
def rm_X12_unlikeToFly : Room := { frames := 3, cells := 0, slots := 0, locals := 72 }
def f_X12_unlikeToFly (N : Nat) (σ : St) (this : Nat) (p0 : Int) (p1 : Int) : Option (St × Int) :=
 Jn (fun t1 : St × Int × Int × Int => some (t1.1, (((10000 * t1.2.1) + (100 * t1.2.2.1)) + t1.2.2.2))) fun J51_1 =>
 L_X12_unlikeToFly_2 N this p0 p1 J51_1 (σ, 0)
set_option maxRecDepth 100000 in
set_option maxHeartbeats 4000000 in
theorem c_X12_unlikeToFly (l : Launch) (D : va_G) (ca : Nat → ClassId) (ra : Nat → Nat) (N : Nat) (σ : St) (this : Nat) (p0 : Int) (p1 : Int) : Ctr l (D, ca, ra, shm) false yX12_unlikeToFly cX12_unlikeToFly 6 (some .int) rm_X12_unlikeToFly σ [ar this, ai p0, ai p1] (f_X12_unlikeToFly N σ this p0 p1) := by
  refine ctr_of (by decide) (Nat.le_of_ble_eq_true rfl) (fun z C => ?_)
  show X z 0 0 σ 0 [(0, ar this), (1, ai p0), (2, ai p1)] [] _
  unfold f_X12_unlikeToFly
  refine x_iconst C (n := 0) (by decide +kernel) ?_
  refine x_istore_n C (i := 3) (k0 := 3) rfl (Nat.le_of_ble_eq_true rfl) (by decide +kernel) (lv2 := [(3, ai 0), (0, ar this), (1, ai p0), (2, ai p1)]) rfl ?_
  refine x_join (T := St × Int × Int × Int) (fun t => t.1) 51 (fun t => [(3, ai t.2.1), (4, ai t.2.2.1), (5, ai t.2.2.2)]) (fun t => []) (fun t1 => ?_) (fun J51_1 hJ51_1 => ?_)
  · show X z 0 0 t1.1 51 [(3, ai t1.2.1), (4, ai t1.2.2.1), (5, ai t1.2.2.2)] [] _
    refine x_sipush C (n := 10000) (by decide +kernel) (by decide +kernel) ?_
    refine x_iload_n C 0 (i := 3) (k0 := 3) rfl rfl (by decide +kernel) ?_
    refine x_imul C (by decide +kernel) ?_
    refine x_bipush C (n := 100) (by decide +kernel) (by decide +kernel) ?_
    refine x_iload C 1 (i := 4) rfl (by decide +kernel) ?_
    refine x_imul C (by decide +kernel) ?_
    refine x_iadd C (by decide +kernel) ?_
    refine x_iload C 2 (i := 5) rfl (by decide +kernel) ?_
    show X z 0 0 t1.1 64 [(3, ai t1.2.1), (4, ai t1.2.2.1), (5, ai t1.2.2.2)] [ai t1.2.2.2, ai ((10000 * t1.2.1) + (100 * t1.2.2.1))] _
    refine x_iadd C (by decide +kernel) ?_
    exact x_iret C ⟨Nat.zero_le _, Nat.zero_le _⟩ (by decide +kernel)
  · skip
    refine x_sub [1, 2, 3, 0] (lv2 := [(0, ar this), (1, ai p0), (2, ai p1), (3, ai 0)]) rfl ?_
    -- LOOP L_X12_unlikeToFly_2 hb2_3
    refine x_loop (T := St × Int) (fun t => t.1) (fun t => [(0, ar this), (1, ai p0), (2, ai p1), (3, ai t.2)]) (σ, 0) rfl (fun b2_3 hb2_3 t3 => ?_)
    show X z 0 0 t3.1 2 [(0, ar this), (1, ai p0), (2, ai p1), (3, ai t3.2)] [] _
    refine x_iload_n C 3 (i := 3) (k0 := 3) rfl rfl (by decide +kernel) ?_
    refine x_bipush C (n := 8) (by decide +kernel) (by decide +kernel) ?_
    refine x_ic_ge C (tgt := 84) (off := 79) (by decide) (by decide +kernel) (fun h21 => ?_) (fun h21 => ?_)
    · skip
      refine x_iconst C (n := (-1)) (by decide +kernel) ?_
      exact x_iret C ⟨Nat.zero_le _, Nat.zero_le _⟩ (by decide +kernel)
    · skip
      refine x_iconst C (n := 0) (by decide +kernel) ?_
      refine x_istore C (i := 4) (Nat.le_of_ble_eq_true rfl) (by decide +kernel) (lv2 := [(4, ai 0), (0, ar this), (1, ai p0), (2, ai p1), (3, ai t3.2)]) rfl ?_
      refine x_join (T := St) (fun t => t) 78 (fun t => [(0, ar this), (1, ai p0), (2, ai p1), (3, ai t3.2)]) (fun t => []) (fun t5 => ?_) (fun J78_6 hJ78_6 => ?_)
      · show X z 0 0 t5 78 [(0, ar this), (1, ai p0), (2, ai p1), (3, ai t3.2)] [] _
        refine x_iinc C 3 (i := 3) (n := 1) (Nat.le_of_ble_eq_true rfl) rfl (by decide +kernel) (lv2 := fun x6 => [(3, ai x6), (0, ar this), (1, ai p0), (2, ai p1)]) (fun _ => rfl) (fun x6 => ?_)
        refine x_goto C (tgt := 2) (off := (-79)) (by decide) (by decide +kernel) ?_
        refine x_sub [1, 2, 3, 0] (lv2 := [(0, ar this), (1, ai p0), (2, ai p1), (3, ai x6)]) rfl ?_
        exact hb2_3 (t5, x6)
      · skip
        refine x_sub [1, 2, 3, 4, 0] (lv2 := [(0, ar this), (1, ai p0), (2, ai p1), (3, ai t3.2), (4, ai 0)]) rfl ?_
        -- LOOP L_X12_unlikeToFly_11 hb11_8
        refine x_loop (T := St × Int) (fun t => t.1) (fun t => [(0, ar this), (1, ai p0), (2, ai p1), (3, ai t3.2), (4, ai t.2)]) (t3.1, 0) rfl (fun b11_8 hb11_8 t8 => ?_)
        show X z 0 0 t8.1 11 [(0, ar this), (1, ai p0), (2, ai p1), (3, ai t3.2), (4, ai t8.2)] [] _
        refine x_iload C 4 (i := 4) rfl (by decide +kernel) ?_
        refine x_bipush C (n := 24) (by decide +kernel) (by decide +kernel) ?_
        refine x_ic_ge C (tgt := 78) (off := 63) (by decide) (by decide +kernel) (fun h20 => ?_) (fun h20 => ?_)
        · skip
          refine x_sub [0, 1, 2, 3] (lv2 := [(0, ar this), (1, ai p0), (2, ai p1), (3, ai t3.2)]) rfl ?_
          exact hJ78_6 t8.1
        · skip
          refine x_iconst C (n := 0) (by decide +kernel) ?_
          refine x_istore C (i := 5) (Nat.le_of_ble_eq_true rfl) (by decide +kernel) (lv2 := [(5, ai 0), (0, ar this), (1, ai p0), (2, ai p1), (3, ai t3.2), (4, ai t8.2)]) rfl ?_
          refine x_join (T := St) (fun t => t) 72 (fun t => [(0, ar this), (1, ai p0), (2, ai p1), (3, ai t3.2), (4, ai t8.2)]) (fun t => []) (fun t10 => ?_) (fun J72_11 hJ72_11 => ?_)
          · show X z 0 0 t10 72 [(0, ar this), (1, ai p0), (2, ai p1), (3, ai t3.2), (4, ai t8.2)] [] _
            refine x_iinc C 4 (i := 4) (n := 1) (Nat.le_of_ble_eq_true rfl) rfl (by decide +kernel) (lv2 := fun x11 => [(4, ai x11), (0, ar this), (1, ai p0), (2, ai p1), (3, ai t3.2)]) (fun _ => rfl) (fun x11 => ?_)
            refine x_goto C (tgt := 11) (off := (-64)) (by decide) (by decide +kernel) ?_
            refine x_sub [1, 2, 3, 4, 0] (lv2 := [(0, ar this), (1, ai p0), (2, ai p1), (3, ai t3.2), (4, ai x11)]) rfl ?_
            exact hb11_8 (t10, x11)
          · skip
            refine x_sub [1, 2, 3, 4, 5, 0] (lv2 := [(0, ar this), (1, ai p0), (2, ai p1), (3, ai t3.2), (4, ai t8.2), (5, ai 0)]) rfl ?_
            -- LOOP L_X12_unlikeToFly_21 hb21_13
            refine x_loop (T := St × Int) (fun t => t.1) (fun t => [(0, ar this), (1, ai p0), (2, ai p1), (3, ai t3.2), (4, ai t8.2), (5, ai t.2)]) (t8.1, 0) rfl (fun b21_13 hb21_13 t13 => ?_)
            show X z 0 0 t13.1 21 [(0, ar this), (1, ai p0), (2, ai p1), (3, ai t3.2), (4, ai t8.2), (5, ai t13.2)] [] _
            refine x_iload C 5 (i := 5) rfl (by decide +kernel) ?_
            refine x_bipush C (n := 31) (by decide +kernel) (by decide +kernel) ?_
            refine x_ic_ge C (tgt := 72) (off := 47) (by decide) (by decide +kernel) (fun h19 => ?_) (fun h19 => ?_)
            · skip
              refine x_sub [0, 1, 2, 3, 4] (lv2 := [(0, ar this), (1, ai p0), (2, ai p1), (3, ai t3.2), (4, ai t8.2)]) rfl ?_
              exact hJ72_11 t13.1
            · skip
              refine x_aload_n C 0 (i := 0) (k0 := 0) rfl rfl (by decide +kernel) ?_
              refine x_iload_n C 1 (i := 1) (k0 := 1) rfl rfl (by decide +kernel) ?_
              refine x_iload_n C 3 (i := 3) (k0 := 3) rfl rfl (by decide +kernel) ?_
              refine x_iload C 4 (i := 4) rfl (by decide +kernel) ?_
              refine x_iload C 5 (i := 5) rfl (by decide +kernel) ?_
              refine x_callV C (ci := 12) (c_X12_flies l D ca ra N t13.1 this p0 t3.2 t8.2 t13.2) mt_X12_flies mv_X12_flies rfl ml_RX12_482 rfl (fun h => Bool.noConfusion h) ⟨Nat.le_of_ble_eq_true rfl, Nat.le_of_ble_eq_true rfl⟩ (Nat.le_of_ble_eq_true rfl) 0 0 ⟨rfl, rfl⟩ ⟨Nat.zero_le _, Nat.zero_le _⟩ (by decide +kernel) _ rfl (fun q15 => [ai q15.2]) (fun _ => rfl) (fun q15 => ?_)
              refine x_aload_n C 0 (i := 0) (k0 := 0) rfl rfl (by decide +kernel) ?_
              refine x_iload_n C 2 (i := 2) (k0 := 2) rfl rfl (by decide +kernel) ?_
              show X z 0 0 q15.1 40 [(0, ar this), (1, ai p0), (2, ai p1), (3, ai t3.2), (4, ai t8.2), (5, ai t13.2)] [ai p1, ar this, ai q15.2] _
              refine x_iload_n C 3 (i := 3) (k0 := 3) rfl rfl (by decide +kernel) ?_
              refine x_iload C 4 (i := 4) rfl (by decide +kernel) ?_
              refine x_iload C 5 (i := 5) rfl (by decide +kernel) ?_
              refine x_callV C (ci := 12) (c_X12_flies l D ca ra N q15.1 this p1 t3.2 t8.2 t13.2) mt_X12_flies mv_X12_flies rfl ml_RX12_482 rfl (fun h => Bool.noConfusion h) ⟨Nat.le_of_ble_eq_true rfl, Nat.le_of_ble_eq_true rfl⟩ (Nat.le_of_ble_eq_true rfl) 0 0 ⟨rfl, rfl⟩ ⟨Nat.zero_le _, Nat.zero_le _⟩ (by decide +kernel) _ rfl (fun q16 => [ai q16.2, ai q15.2]) (fun _ => rfl) (fun q16 => ?_)
              refine x_ic_eq C (tgt := 66) (off := 18) (by decide) (by decide +kernel) (fun h18 => ?_) (fun h18 => ?_)
              · skip
                refine x_iinc C 5 (i := 5) (n := 1) (Nat.le_of_ble_eq_true rfl) rfl (by decide +kernel) (lv2 := fun x17 => [(5, ai x17), (0, ar this), (1, ai p0), (2, ai p1), (3, ai t3.2), (4, ai t8.2)]) (fun _ => rfl) (fun x17 => ?_)
                refine x_goto C (tgt := 21) (off := (-48)) (by decide) (by decide +kernel) ?_
                refine x_sub [1, 2, 3, 4, 5, 0] (lv2 := [(0, ar this), (1, ai p0), (2, ai p1), (3, ai t3.2), (4, ai t8.2), (5, ai x17)]) rfl ?_
                exact hb21_13 (q16.1, x17)
              · skip
                refine x_sub [3, 4, 5] (lv2 := [(3, ai t3.2), (4, ai t8.2), (5, ai t13.2)]) rfl ?_
                exact hJ51_1 (q16.1, t3.2, t8.2, t13.2)

def L_X12_unlike_41 (N : Nat) (this : Nat) (p0 : Int) (p1 : Int) (J69_3 : (St × Int × Int → Option (St × Int))) (t5 : St × Int) (J84_8 : (St → Option (St × Int))) : (St × Int) → Option (St × Int) := fixN N fun b41_10 t10 =>
 (if wr t10.2 < wr 100 then Option.bind (rcv shm t10.1 12 this (f_X12_leavesBy N t10.1 this p0 t5.2 t10.2)) fun q12 =>
 Option.bind (rcv shm q12.1 12 this (f_X12_leavesBy N q12.1 this p1 t5.2 t10.2)) fun q13 =>
 (if wr q12.2 = wr q13.2 then Lt (t10.2 + 1) fun x14 =>
 b41_10 (q13.1, x14) else J69_3 (q13.1, t5.2, t10.2)) else J84_8 t10.1)
def L_X12_unlike_30 (N : Nat) (this : Nat) (p0 : Int) (p1 : Int) (J69_3 : (St × Int × Int → Option (St × Int))) : (St × Int) → Option (St × Int) := fixN N fun b30_5 t5 =>
 (if wr t5.2 < wr 200 then Jn (fun t7 : St => Lt (t5.2 + 1) fun x8 =>
 b30_5 (t7, x8)) fun J84_8 =>
 L_X12_unlike_41 N this p0 p1 J69_3 t5 J84_8 (t5.1, 0) else some (t5.1, (-1)))
def rm_X12_unlike : Room := { frames := 4, cells := 0, slots := 0, locals := 97 }
def f_X12_unlike (N : Nat) (σ : St) (this : Nat) (p0 : Int) (p1 : Int) (p2 : Int) : Option (St × Int) :=
 Option.bind (f_X12_isTongue N σ p0) fun q1 =>
 (if wr q1.2 = 0 then some (σ, (-1)) else Option.bind (f_X12_isTongue N σ p1) fun q2 =>
 (if wr q2.2 = 0 then some (σ, (-1)) else (if wr p2 = 0 then Jn (fun t3 : St × Int × Int => some (t3.1, ((100 * t3.2.1) + t3.2.2))) fun J69_3 =>
 L_X12_unlike_30 N this p0 p1 J69_3 (σ, 0) else Option.bind (rcv shm σ 12 this (f_X12_unlikeToFly N σ this p0 p1)) fun q18 =>
 some (q18.1, q18.2))))
set_option maxRecDepth 100000 in
set_option maxHeartbeats 4000000 in
theorem c_X12_unlike (l : Launch) (D : va_G) (ca : Nat → ClassId) (ra : Nat → Nat) (N : Nat) (σ : St) (this : Nat) (p0 : Int) (p1 : Int) (p2 : Int) : Ctr l (D, ca, ra, shm) false yX12_unlike cX12_unlike 6 (some .int) rm_X12_unlike σ [ar this, ai p0, ai p1, ai p2] (f_X12_unlike N σ this p0 p1 p2) := by
  refine ctr_of (by decide) (Nat.le_of_ble_eq_true rfl) (fun z C => ?_)
  show X z 0 0 σ 0 [(0, ar this), (1, ai p0), (2, ai p1), (3, ai p2)] [] _
  unfold f_X12_unlike
  refine x_iload_n C 1 (i := 1) (k0 := 1) rfl rfl (by decide +kernel) ?_
  refine x_callSp C (c_X12_isTongue l D ca ra N σ p0) (p_X12_isTongue N σ p0) mt_X12_isTongue ms_X12_isTongue ml_RX12_391 rfl (fun h => Bool.noConfusion h) ⟨Nat.le_of_ble_eq_true rfl, Nat.le_of_ble_eq_true rfl⟩ (Nat.le_of_ble_eq_true rfl) 0 0 ⟨rfl, rfl⟩ ⟨Nat.zero_le _, Nat.zero_le _⟩ (by decide +kernel) _ rfl (fun q1 => [ai q1.2]) (fun _ => rfl) (fun q1 => ?_)
  refine x_if_eq C (tgt := 14) (off := 10) (by decide) (by decide +kernel) (fun h21 => ?_) (fun h21 => ?_)
  · skip
    refine x_iconst C (n := (-1)) (by decide +kernel) ?_
    exact x_iret C ⟨Nat.zero_le _, Nat.zero_le _⟩ (by decide +kernel)
  · skip
    refine x_iload_n C 2 (i := 2) (k0 := 2) rfl rfl (by decide +kernel) ?_
    refine x_callSp C (c_X12_isTongue l D ca ra N σ p1) (p_X12_isTongue N σ p1) mt_X12_isTongue ms_X12_isTongue ml_RX12_391 rfl (fun h => Bool.noConfusion h) ⟨Nat.le_of_ble_eq_true rfl, Nat.le_of_ble_eq_true rfl⟩ (Nat.le_of_ble_eq_true rfl) 0 0 ⟨rfl, rfl⟩ ⟨Nat.zero_le _, Nat.zero_le _⟩ (by decide +kernel) _ rfl (fun q2 => [ai q2.2]) (fun _ => rfl) (fun q2 => ?_)
    refine x_if_ne C (tgt := 16) (off := 5) (by decide) (by decide +kernel) (fun h20 => ?_) (fun h20 => ?_)
    · skip
      refine x_iload_n C 3 (i := 3) (k0 := 3) rfl rfl (by decide +kernel) ?_
      refine x_if_eq C (tgt := 27) (off := 10) (by decide) (by decide +kernel) (fun h19 => ?_) (fun h19 => ?_)
      · skip
        refine x_iconst C (n := 0) (by decide +kernel) ?_
        refine x_istore C (i := 4) (Nat.le_of_ble_eq_true rfl) (by decide +kernel) (lv2 := [(4, ai 0), (0, ar this), (1, ai p0), (2, ai p1), (3, ai p2)]) rfl ?_
        refine x_join (T := St × Int × Int) (fun t => t.1) 69 (fun t => [(4, ai t.2.1), (5, ai t.2.2)]) (fun t => []) (fun t3 => ?_) (fun J69_3 hJ69_3 => ?_)
        · show X z 0 0 t3.1 69 [(4, ai t3.2.1), (5, ai t3.2.2)] [] _
          refine x_bipush C (n := 100) (by decide +kernel) (by decide +kernel) ?_
          refine x_iload C 0 (i := 4) rfl (by decide +kernel) ?_
          refine x_imul C (by decide +kernel) ?_
          refine x_iload C 1 (i := 5) rfl (by decide +kernel) ?_
          refine x_iadd C (by decide +kernel) ?_
          exact x_iret C ⟨Nat.zero_le _, Nat.zero_le _⟩ (by decide +kernel)
        · skip
          refine x_sub [1, 2, 3, 0] (lv2 := [(0, ar this), (1, ai p0), (2, ai p1), (4, ai 0)]) rfl ?_
          -- LOOP L_X12_unlike_30 hb30_5
          refine x_loop (T := St × Int) (fun t => t.1) (fun t => [(0, ar this), (1, ai p0), (2, ai p1), (4, ai t.2)]) (σ, 0) rfl (fun b30_5 hb30_5 t5 => ?_)
          show X z 0 0 t5.1 30 [(0, ar this), (1, ai p0), (2, ai p1), (4, ai t5.2)] [] _
          refine x_iload C 3 (i := 4) rfl (by decide +kernel) ?_
          refine x_sipush C (n := 200) (by decide +kernel) (by decide +kernel) ?_
          refine x_ic_ge C (tgt := 90) (off := 55) (by decide) (by decide +kernel) (fun h17 => ?_) (fun h17 => ?_)
          · skip
            refine x_iconst C (n := (-1)) (by decide +kernel) ?_
            exact x_iret C ⟨Nat.zero_le _, Nat.zero_le _⟩ (by decide +kernel)
          · skip
            refine x_iconst C (n := 0) (by decide +kernel) ?_
            refine x_istore C (i := 5) (Nat.le_of_ble_eq_true rfl) (by decide +kernel) (lv2 := [(5, ai 0), (0, ar this), (1, ai p0), (2, ai p1), (4, ai t5.2)]) rfl ?_
            refine x_join (T := St) (fun t => t) 84 (fun t => [(0, ar this), (1, ai p0), (2, ai p1), (4, ai t5.2)]) (fun t => []) (fun t7 => ?_) (fun J84_8 hJ84_8 => ?_)
            · show X z 0 0 t7 84 [(0, ar this), (1, ai p0), (2, ai p1), (4, ai t5.2)] [] _
              refine x_iinc C 3 (i := 4) (n := 1) (Nat.le_of_ble_eq_true rfl) rfl (by decide +kernel) (lv2 := fun x8 => [(4, ai x8), (0, ar this), (1, ai p0), (2, ai p1)]) (fun _ => rfl) (fun x8 => ?_)
              refine x_goto C (tgt := 30) (off := (-57)) (by decide) (by decide +kernel) ?_
              refine x_sub [1, 2, 3, 0] (lv2 := [(0, ar this), (1, ai p0), (2, ai p1), (4, ai x8)]) rfl ?_
              exact hb30_5 (t7, x8)
            · skip
              refine x_sub [1, 2, 3, 4, 0] (lv2 := [(0, ar this), (1, ai p0), (2, ai p1), (4, ai t5.2), (5, ai 0)]) rfl ?_
              -- LOOP L_X12_unlike_41 hb41_10
              refine x_loop (T := St × Int) (fun t => t.1) (fun t => [(0, ar this), (1, ai p0), (2, ai p1), (4, ai t5.2), (5, ai t.2)]) (t5.1, 0) rfl (fun b41_10 hb41_10 t10 => ?_)
              show X z 0 0 t10.1 41 [(0, ar this), (1, ai p0), (2, ai p1), (4, ai t5.2), (5, ai t10.2)] [] _
              refine x_iload C 4 (i := 5) rfl (by decide +kernel) ?_
              refine x_bipush C (n := 100) (by decide +kernel) (by decide +kernel) ?_
              refine x_ic_ge C (tgt := 84) (off := 39) (by decide) (by decide +kernel) (fun h16 => ?_) (fun h16 => ?_)
              · skip
                refine x_sub [0, 1, 2, 3] (lv2 := [(0, ar this), (1, ai p0), (2, ai p1), (4, ai t5.2)]) rfl ?_
                exact hJ84_8 t10.1
              · skip
                refine x_aload_n C 0 (i := 0) (k0 := 0) rfl rfl (by decide +kernel) ?_
                refine x_iload_n C 1 (i := 1) (k0 := 1) rfl rfl (by decide +kernel) ?_
                refine x_iload C 3 (i := 4) rfl (by decide +kernel) ?_
                refine x_iload C 4 (i := 5) rfl (by decide +kernel) ?_
                refine x_callV C (ci := 12) (c_X12_leavesBy l D ca ra N t10.1 this p0 t5.2 t10.2) mt_X12_leavesBy mv_X12_leavesBy rfl ml_RX12_489 rfl (fun h => Bool.noConfusion h) ⟨Nat.le_of_ble_eq_true rfl, Nat.le_of_ble_eq_true rfl⟩ (Nat.le_of_ble_eq_true rfl) 0 0 ⟨rfl, rfl⟩ ⟨Nat.zero_le _, Nat.zero_le _⟩ (by decide +kernel) _ rfl (fun q12 => [ai q12.2]) (fun _ => rfl) (fun q12 => ?_)
                refine x_aload_n C 0 (i := 0) (k0 := 0) rfl rfl (by decide +kernel) ?_
                refine x_iload_n C 2 (i := 2) (k0 := 2) rfl rfl (by decide +kernel) ?_
                refine x_iload C 3 (i := 4) rfl (by decide +kernel) ?_
                show X z 0 0 q12.1 61 [(0, ar this), (1, ai p0), (2, ai p1), (4, ai t5.2), (5, ai t10.2)] [ai t5.2, ai p1, ar this, ai q12.2] _
                refine x_iload C 4 (i := 5) rfl (by decide +kernel) ?_
                refine x_callV C (ci := 12) (c_X12_leavesBy l D ca ra N q12.1 this p1 t5.2 t10.2) mt_X12_leavesBy mv_X12_leavesBy rfl ml_RX12_489 rfl (fun h => Bool.noConfusion h) ⟨Nat.le_of_ble_eq_true rfl, Nat.le_of_ble_eq_true rfl⟩ (Nat.le_of_ble_eq_true rfl) 0 0 ⟨rfl, rfl⟩ ⟨Nat.zero_le _, Nat.zero_le _⟩ (by decide +kernel) _ rfl (fun q13 => [ai q13.2, ai q12.2]) (fun _ => rfl) (fun q13 => ?_)
                refine x_ic_eq C (tgt := 78) (off := 12) (by decide) (by decide +kernel) (fun h15 => ?_) (fun h15 => ?_)
                · skip
                  refine x_iinc C 4 (i := 5) (n := 1) (Nat.le_of_ble_eq_true rfl) rfl (by decide +kernel) (lv2 := fun x14 => [(5, ai x14), (0, ar this), (1, ai p0), (2, ai p1), (4, ai t5.2)]) (fun _ => rfl) (fun x14 => ?_)
                  refine x_goto C (tgt := 41) (off := (-40)) (by decide) (by decide +kernel) ?_
                  refine x_sub [1, 2, 3, 4, 0] (lv2 := [(0, ar this), (1, ai p0), (2, ai p1), (4, ai t5.2), (5, ai x14)]) rfl ?_
                  exact hb41_10 (q13.1, x14)
                · skip
                  refine x_sub [3, 4] (lv2 := [(4, ai t5.2), (5, ai t10.2)]) rfl ?_
                  exact hJ69_3 (q13.1, t5.2, t10.2)
      · skip
        refine x_aload_n C 0 (i := 0) (k0 := 0) rfl rfl (by decide +kernel) ?_
        refine x_iload_n C 1 (i := 1) (k0 := 1) rfl rfl (by decide +kernel) ?_
        refine x_iload_n C 2 (i := 2) (k0 := 2) rfl rfl (by decide +kernel) ?_
        refine x_callV C (ci := 12) (c_X12_unlikeToFly l D ca ra N σ this p0 p1) mt_X12_unlikeToFly mv_X12_unlikeToFly rfl ml_RX12_486 rfl (fun h => Bool.noConfusion h) ⟨Nat.le_of_ble_eq_true rfl, Nat.le_of_ble_eq_true rfl⟩ (Nat.le_of_ble_eq_true rfl) 0 0 ⟨rfl, rfl⟩ ⟨Nat.zero_le _, Nat.zero_le _⟩ (by decide +kernel) _ rfl (fun q18 => [ai q18.2]) (fun _ => rfl) (fun q18 => ?_)
        exact x_iret C ⟨Nat.zero_le _, Nat.zero_le _⟩ (by decide +kernel)
    · skip
      refine x_iconst C (n := (-1)) (by decide +kernel) ?_
      exact x_iret C ⟨Nat.zero_le _, Nat.zero_le _⟩ (by decide +kernel)
