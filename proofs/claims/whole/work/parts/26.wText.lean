def rm_J0_isLatin1_aae02 : Room := { frames := 0, cells := 0, slots := 0, locals := 0 }
def f_J0_isLatin1_aae02 (N : Nat) (σ : St) (this : Nat) : Option (St × Int) :=
 (if wr 1 = 0 then some (σ, 0) else Option.bind (stC this) fun c_1 =>
 (if wr c_1 = 0 then some (σ, 1) else some (σ, 0)))
set_option maxRecDepth 100000 in
set_option maxHeartbeats 4000000 in
theorem c_J0_isLatin1_aae02 (l : Launch) (D : va_G) (ca : Nat → ClassId) (ra : Nat → Nat) (N : Nat) (σ : St) (this : Nat) : Ctr l (D, ca, ra, shx) false yJ0_isLatin1_aae02 cJ0_isLatin1_aae02 1 (some .boolean) rm_J0_isLatin1_aae02 σ [ao this] (f_J0_isLatin1_aae02 N σ this) := by
  refine ctr_of (by decide) (Nat.le_of_ble_eq_true rfl) (fun z C => ?_)
  show X z 0 0 σ 0 [(0, ao this)] [] _
  unfold f_J0_isLatin1_aae02
  refine x_getCS C sf_RJ0_38 (by decide +kernel) ?_
  refine x_if_eq C (tgt := 17) (off := 14) (by decide) (by decide +kernel) (fun h3 => ?_) (fun h3 => ?_)
  · skip
    refine x_iconst C (n := 0) (by decide +kernel) ?_
    exact x_zret C (Or.inl rfl) ⟨Nat.zero_le _, Nat.zero_le _⟩ (by decide +kernel)
  · skip
    refine x_aload_nO C 0 (i := 0) (k0 := 0) rfl rfl (by decide +kernel) ?_
    refine x_strC C sf_RJ0_15 (by decide +kernel) (fun c_1 => ?_)
    refine x_if_ne C (tgt := 17) (off := 7) (by decide) (by decide +kernel) (fun h2 => ?_) (fun h2 => ?_)
    · skip
      refine x_iconst C (n := 0) (by decide +kernel) ?_
      exact x_zret C (Or.inl rfl) ⟨Nat.zero_le _, Nat.zero_le _⟩ (by decide +kernel)
    · skip
      refine x_iconst C (n := 1) (by decide +kernel) ?_
      refine x_goto C (tgt := 18) (off := 4) (by decide) (by decide +kernel) ?_
      exact x_zret C (Or.inr rfl) ⟨Nat.zero_le _, Nat.zero_le _⟩ (by decide +kernel)
theorem p_J0_isLatin1_aae02 (N : Nat) (σ : St) (this : Nat) : Pu σ (f_J0_isLatin1_aae02 N σ this) := by
  unfold f_J0_isLatin1_aae02
  refine pu_if ?_ ?_
  · skip
    exact pu_some
  · skip
    refine pu_bind (fun _ => ?_)
    refine pu_ifs ?_ ?_
    · skip
      exact pu_some
    · skip
      exact pu_some

def rm_J0_coder_7d493 : Room := { frames := 0, cells := 0, slots := 0, locals := 0 }
def f_J0_coder_7d493 (N : Nat) (σ : St) (this : Nat) : Option (St × Int) :=
 (if wr 1 = 0 then rB σ 1 else Option.bind (stC this) fun c_1 =>
 rB σ c_1)
set_option maxRecDepth 100000 in
set_option maxHeartbeats 4000000 in
theorem c_J0_coder_7d493 (l : Launch) (D : va_G) (ca : Nat → ClassId) (ra : Nat → Nat) (N : Nat) (σ : St) (this : Nat) : Ctr l (D, ca, ra, shx) false yJ0_coder_7d493 cJ0_coder_7d493 1 (some .byte) rm_J0_coder_7d493 σ [ao this] (f_J0_coder_7d493 N σ this) := by
  refine ctr_of (by decide) (Nat.le_of_ble_eq_true rfl) (fun z C => ?_)
  show X z 0 0 σ 0 [(0, ao this)] [] _
  unfold f_J0_coder_7d493
  refine x_getCS C sf_RJ0_38 (by decide +kernel) ?_
  refine x_if_eq C (tgt := 13) (off := 10) (by decide) (by decide +kernel) (fun h2 => ?_) (fun h2 => ?_)
  · skip
    refine x_iconst C (n := 1) (by decide +kernel) ?_
    exact x_rB C ⟨Nat.zero_le _, Nat.zero_le _⟩ (by decide +kernel)
  · skip
    refine x_aload_nO C 0 (i := 0) (k0 := 0) rfl rfl (by decide +kernel) ?_
    refine x_strC C sf_RJ0_15 (by decide +kernel) (fun c_1 => ?_)
    refine x_goto C (tgt := 14) (off := 4) (by decide) (by decide +kernel) ?_
    exact x_rB C ⟨Nat.zero_le _, Nat.zero_le _⟩ (by decide +kernel)
theorem p_J0_coder_7d493 (N : Nat) (σ : St) (this : Nat) : Pu σ (f_J0_coder_7d493 N σ this) := by
  unfold f_J0_coder_7d493
  refine pu_if ?_ ?_
  · skip
    exact pu_rB
  · skip
    refine pu_bind (fun _ => ?_)
    exact pu_rB

def rm_J0_length_8abf5 : Room := { frames := 1, cells := 0, slots := 0, locals := 20 }
def f_J0_length_8abf5 (N : Nat) (σ : St) (this : Nat) : Option (St × Int) :=
 Option.bind (stV this) fun w_1 =>
 Option.bind (stL w_1) fun n2 =>
 Option.bind (rcvO this (f_J0_coder_7d493 N σ this)) fun q3 =>
 some (σ, (shrZ n2 q3.2))
set_option maxRecDepth 100000 in
set_option maxHeartbeats 4000000 in
theorem c_J0_length_8abf5 (l : Launch) (D : va_G) (ca : Nat → ClassId) (ra : Nat → Nat) (N : Nat) (σ : St) (this : Nat) : Ctr l (D, ca, ra, shx) false yJ0_length_8abf5 cJ0_length_8abf5 1 (some .int) rm_J0_length_8abf5 σ [ao this] (f_J0_length_8abf5 N σ this) := by
  refine ctr_of (by decide) (Nat.le_of_ble_eq_true rfl) (fun z C => ?_)
  show X z 0 0 σ 0 [(0, ao this)] [] _
  unfold f_J0_length_8abf5
  refine x_aload_nO C 0 (i := 0) (k0 := 0) rfl rfl (by decide +kernel) ?_
  refine x_strV C sf_RJ0_9 (by decide +kernel) (fun w_1 => ?_)
  refine x_alenO C (by decide +kernel) (fun n2 => ?_)
  refine x_aload_nO C 0 (i := 0) (k0 := 0) rfl rfl (by decide +kernel) ?_
  refine x_callVO C (c_J0_coder_7d493 l D ca ra N σ this) (p_J0_coder_7d493 N σ this) mt_J0_coder_7d493 mv_J0_coder_7d493 rfl ml_RJ0_335 rfl (fun h => Bool.noConfusion h) ⟨Nat.le_of_ble_eq_true rfl, Nat.le_of_ble_eq_true rfl⟩ (Nat.le_of_ble_eq_true rfl) 0 0 ⟨rfl, rfl⟩ ⟨Nat.zero_le _, Nat.zero_le _⟩ (by decide +kernel) _ rfl (fun q3 => [ai q3.2, ai n2]) (fun _ => rfl) (fun q3 => ?_)
  refine x_ishr C (by decide +kernel) ?_
  exact x_iret C ⟨Nat.zero_le _, Nat.zero_le _⟩ (by decide +kernel)
theorem p_J0_length_8abf5 (N : Nat) (σ : St) (this : Nat) : Pu σ (f_J0_length_8abf5 N σ this) := by
  unfold f_J0_length_8abf5
  refine pu_bind (fun _ => ?_)
  refine pu_bind (fun _ => ?_)
  refine pu_bind (fun _ => ?_)
  exact pu_some

def rm_J1_canEncode_9a6ad : Room := { frames := 0, cells := 0, slots := 0, locals := 0 }
def f_J1_canEncode_9a6ad (N : Nat) (σ : St) (p0 : Int) : Option (St × Int) :=
 (if wr p0 < 0 then some (σ, 0) else (if wr 255 < wr p0 then some (σ, 0) else some (σ, 1)))
set_option maxRecDepth 100000 in
set_option maxHeartbeats 4000000 in
theorem c_J1_canEncode_9a6ad (l : Launch) (D : va_G) (ca : Nat → ClassId) (ra : Nat → Nat) (N : Nat) (σ : St) (p0 : Int) : Ctr l (D, ca, ra, shx) false yJ1_canEncode_9a6ad cJ1_canEncode_9a6ad 1 (some .boolean) rm_J1_canEncode_9a6ad σ [ai p0] (f_J1_canEncode_9a6ad N σ p0) := by
  refine ctr_of (by decide) (Nat.le_of_ble_eq_true rfl) (fun z C => ?_)
  show X z 0 0 σ 0 [(0, ai p0)] [] _
  unfold f_J1_canEncode_9a6ad
  refine x_iload_n C 0 (i := 0) (k0 := 0) rfl rfl (by decide +kernel) ?_
  refine x_if_lt C (tgt := 15) (off := 14) (by decide) (by decide +kernel) (fun h2 => ?_) (fun h2 => ?_)
  · skip
    refine x_iconst C (n := 0) (by decide +kernel) ?_
    exact x_zret C (Or.inl rfl) ⟨Nat.zero_le _, Nat.zero_le _⟩ (by decide +kernel)
  · skip
    refine x_iload_n C 0 (i := 0) (k0 := 0) rfl rfl (by decide +kernel) ?_
    refine x_sipush C (n := 255) (by decide +kernel) (by decide +kernel) ?_
    refine x_ic_gt C (tgt := 15) (off := 7) (by decide) (by decide +kernel) (fun h1 => ?_) (fun h1 => ?_)
    · skip
      refine x_iconst C (n := 0) (by decide +kernel) ?_
      exact x_zret C (Or.inl rfl) ⟨Nat.zero_le _, Nat.zero_le _⟩ (by decide +kernel)
    · skip
      refine x_iconst C (n := 1) (by decide +kernel) ?_
      refine x_goto C (tgt := 16) (off := 4) (by decide) (by decide +kernel) ?_
      exact x_zret C (Or.inr rfl) ⟨Nat.zero_le _, Nat.zero_le _⟩ (by decide +kernel)
theorem p_J1_canEncode_9a6ad (N : Nat) (σ : St) (p0 : Int) : Pu σ (f_J1_canEncode_9a6ad N σ p0) := by
  unfold f_J1_canEncode_9a6ad
  refine pu_if ?_ ?_
  · skip
    exact pu_some
  · skip
    refine pu_if ?_ ?_
    · skip
      exact pu_some
    · skip
      exact pu_some

def L_J1_indexOfChar_4cfef_7 (N : Nat) (σ : St) (p0 : Nat) (p3 : Int) (x1 : Int) : Int → Option (St × Int) := fixN N fun b7_2 t2 =>
 (if wr t2 < wr p3 then Option.bind (stB p0 t2) fun b4 =>
 (if wr b4 = wr x1 then some (σ, t2) else Lt (t2 + 1) fun x5 =>
 b7_2 x5) else some (σ, (-1)))
def rm_J1_indexOfChar_4cfef : Room := { frames := 0, cells := 0, slots := 0, locals := 0 }
def f_J1_indexOfChar_4cfef (N : Nat) (σ : St) (p0 : Nat) (p1 : Int) (p2 : Int) (p3 : Int) : Option (St × Int) :=
 Lt (i2bZ p1) fun x1 =>
 L_J1_indexOfChar_4cfef_7 N σ p0 p3 x1 p2
set_option maxRecDepth 100000 in
set_option maxHeartbeats 4000000 in
theorem c_J1_indexOfChar_4cfef (l : Launch) (D : va_G) (ca : Nat → ClassId) (ra : Nat → Nat) (N : Nat) (σ : St) (p0 : Nat) (p1 : Int) (p2 : Int) (p3 : Int) : Ctr l (D, ca, ra, shx) false yJ1_indexOfChar_4cfef cJ1_indexOfChar_4cfef 6 (some .int) rm_J1_indexOfChar_4cfef σ [ao p0, ai p1, ai p2, ai p3] (f_J1_indexOfChar_4cfef N σ p0 p1 p2 p3) := by
  refine ctr_of (by decide) (Nat.le_of_ble_eq_true rfl) (fun z C => ?_)
  show X z 0 0 σ 0 [(0, ao p0), (1, ai p1), (2, ai p2), (3, ai p3)] [] _
  unfold f_J1_indexOfChar_4cfef
  refine x_iload_n C 1 (i := 1) (k0 := 1) rfl rfl (by decide +kernel) ?_
  refine x_i2b C (by decide +kernel) ?_
  refine x_istoreL C (i := 4) (Nat.le_of_ble_eq_true rfl) (by decide +kernel) (lv2 := fun x1 => [(4, ai x1), (0, ao p0), (1, ai p1), (2, ai p2), (3, ai p3)]) (fun _ => rfl) (fun x1 => ?_)
  refine x_iload_n C 3 (i := 2) (k0 := 2) rfl rfl (by decide +kernel) ?_
  refine x_istore C (i := 5) (Nat.le_of_ble_eq_true rfl) (by decide +kernel) (lv2 := [(5, ai p2), (4, ai x1), (0, ao p0), (1, ai p1), (2, ai p2), (3, ai p3)]) rfl ?_
  refine x_sub [2, 5, 1, 0] (lv2 := [(0, ao p0), (3, ai p3), (4, ai x1), (5, ai p2)]) rfl ?_
  -- LOOP L_J1_indexOfChar_4cfef_7 hb7_2
  refine x_loop (T := Int) (fun t => σ) (fun t => [(0, ao p0), (3, ai p3), (4, ai x1), (5, ai t)]) p2 rfl (fun b7_2 hb7_2 t2 => ?_)
  show X z 0 0 σ 7 [(0, ao p0), (3, ai p3), (4, ai x1), (5, ai t2)] [] _
  refine x_iload C 3 (i := 5) rfl (by decide +kernel) ?_
  refine x_iload_n C 1 (i := 3) (k0 := 3) rfl rfl (by decide +kernel) ?_
  refine x_ic_ge C (tgt := 31) (off := 21) (by decide) (by decide +kernel) (fun h7 => ?_) (fun h7 => ?_)
  · skip
    refine x_iconst C (n := (-1)) (by decide +kernel) ?_
    exact x_iret C ⟨Nat.zero_le _, Nat.zero_le _⟩ (by decide +kernel)
  · skip
    refine x_aload_nO C 0 (i := 0) (k0 := 0) rfl rfl (by decide +kernel) ?_
    refine x_iload C 3 (i := 5) rfl (by decide +kernel) ?_
    refine x_baldO C (by decide +kernel) (fun b4 => ?_)
    refine x_iload C 2 (i := 4) rfl (by decide +kernel) ?_
    refine x_ic_ne C (tgt := 25) (off := 6) (by decide) (by decide +kernel) (fun h6 => ?_) (fun h6 => ?_)
    · skip
      refine x_iinc C 3 (i := 5) (n := 1) (Nat.le_of_ble_eq_true rfl) rfl (by decide +kernel) (lv2 := fun x5 => [(5, ai x5), (0, ao p0), (3, ai p3), (4, ai x1)]) (fun _ => rfl) (fun x5 => ?_)
      refine x_goto C (tgt := 7) (off := (-21)) (by decide) (by decide +kernel) ?_
      refine x_sub [1, 2, 3, 0] (lv2 := [(0, ao p0), (3, ai p3), (4, ai x1), (5, ai x5)]) rfl ?_
      exact hb7_2 x5
    · skip
      refine x_iload C 3 (i := 5) rfl (by decide +kernel) ?_
      exact x_iret C ⟨Nat.zero_le _, Nat.zero_le _⟩ (by decide +kernel)
theorem p_J1_indexOfChar_4cfef (N : Nat) (σ : St) (p0 : Nat) (p1 : Int) (p2 : Int) (p3 : Int) : Pu σ (f_J1_indexOfChar_4cfef N σ p0 p1 p2 p3) := by
  unfold f_J1_indexOfChar_4cfef
  refine pu_Lt (fun _ => ?_)
  unfold L_J1_indexOfChar_4cfef_7
  refine pu_fix (fun _ hb7_2 _ => ?_) _
  refine pu_ifs ?_ ?_
  · skip
    exact pu_some
  · skip
    refine pu_bind (fun _ => ?_)
    refine pu_ifs ?_ ?_
    · skip
      refine pu_Lt (fun _ => ?_)
      exact hb7_2 _
    · skip
      exact pu_some

def rm_J1_indexOf_4cfef : Room := { frames := 1, cells := 0, slots := 0, locals := 25 }
def f_J1_indexOf_4cfef (N : Nat) (σ : St) (p0 : Nat) (p1 : Int) (p2 : Int) (p3 : Int) : Option (St × Int) :=
 Option.bind (f_J1_canEncode_9a6ad N σ p1) fun q1 =>
 (if wr q1.2 = 0 then some (σ, (-1)) else Lt (mxZ p2 0) fun x2 =>
 Option.bind (stL p0) fun n3 =>
 Lt (mnZ p3 n3) fun x4 =>
 (if wr x2 < wr x4 then Option.bind (f_J1_indexOfChar_4cfef N σ p0 p1 x2 x4) fun q5 =>
 some (σ, q5.2) else some (σ, (-1))))
set_option maxRecDepth 100000 in
set_option maxHeartbeats 4000000 in
theorem c_J1_indexOf_4cfef (l : Launch) (D : va_G) (ca : Nat → ClassId) (ra : Nat → Nat) (N : Nat) (σ : St) (p0 : Nat) (p1 : Int) (p2 : Int) (p3 : Int) : Ctr l (D, ca, ra, shx) false yJ1_indexOf_4cfef cJ1_indexOf_4cfef 4 (some .int) rm_J1_indexOf_4cfef σ [ao p0, ai p1, ai p2, ai p3] (f_J1_indexOf_4cfef N σ p0 p1 p2 p3) := by
  refine ctr_of (by decide) (Nat.le_of_ble_eq_true rfl) (fun z C => ?_)
  show X z 0 0 σ 0 [(0, ao p0), (1, ai p1), (2, ai p2), (3, ai p3)] [] _
  unfold f_J1_indexOf_4cfef
  refine x_iload_n C 1 (i := 1) (k0 := 1) rfl rfl (by decide +kernel) ?_
  refine x_callSp C (c_J1_canEncode_9a6ad l D ca ra N σ p1) (p_J1_canEncode_9a6ad N σ p1) mt_J1_canEncode_9a6ad ms_J1_canEncode_9a6ad ml_RJ1_88 rfl (fun h => Bool.noConfusion h) ⟨Nat.le_of_ble_eq_true rfl, Nat.le_of_ble_eq_true rfl⟩ (Nat.le_of_ble_eq_true rfl) 0 0 ⟨rfl, rfl⟩ ⟨Nat.zero_le _, Nat.zero_le _⟩ (by decide +kernel) _ rfl (fun q1 => [ai q1.2]) (fun _ => rfl) (fun q1 => ?_)
  refine x_if_ne C (tgt := 9) (off := 5) (by decide) (by decide +kernel) (fun h7 => ?_) (fun h7 => ?_)
  · skip
    refine x_iload_n C 2 (i := 2) (k0 := 2) rfl rfl (by decide +kernel) ?_
    refine x_iconst C (n := 0) (by decide +kernel) ?_
    refine x_max C mth_max ml_RJ1_92 ⟨Nat.le_of_ble_eq_true rfl, Nat.le_of_ble_eq_true rfl⟩ ⟨Nat.zero_le _, Nat.zero_le _⟩ (by decide +kernel) ?_
    refine x_istore_nL C (i := 2) (k0 := 2) rfl (Nat.le_of_ble_eq_true rfl) (by decide +kernel) (lv2 := fun x2 => [(2, ai x2), (0, ao p0), (1, ai p1), (3, ai p3)]) (fun _ => rfl) (fun x2 => ?_)
    refine x_iload_n C 3 (i := 3) (k0 := 3) rfl rfl (by decide +kernel) ?_
    refine x_aload_nO C 1 (i := 0) (k0 := 0) rfl rfl (by decide +kernel) ?_
    refine x_alenO C (by decide +kernel) (fun n3 => ?_)
    refine x_min C mth_min ml_RJ1_38 ⟨Nat.le_of_ble_eq_true rfl, Nat.le_of_ble_eq_true rfl⟩ ⟨Nat.zero_le _, Nat.zero_le _⟩ (by decide +kernel) ?_
    show X z 0 0 σ 21 [(2, ai x2), (0, ao p0), (1, ai p1), (3, ai p3)] [ai (mnZ p3 n3)] _
    refine x_istore_nL C (i := 3) (k0 := 3) rfl (Nat.le_of_ble_eq_true rfl) (by decide +kernel) (lv2 := fun x4 => [(3, ai x4), (2, ai x2), (0, ao p0), (1, ai p1)]) (fun _ => rfl) (fun x4 => ?_)
    refine x_iload_n C 1 (i := 2) (k0 := 2) rfl rfl (by decide +kernel) ?_
    refine x_iload_n C 0 (i := 3) (k0 := 3) rfl rfl (by decide +kernel) ?_
    refine x_ic_lt C (tgt := 29) (off := 5) (by decide) (by decide +kernel) (fun h6 => ?_) (fun h6 => ?_)
    · skip
      refine x_aload_nO C 2 (i := 0) (k0 := 0) rfl rfl (by decide +kernel) ?_
      refine x_iload_n C 3 (i := 1) (k0 := 1) rfl rfl (by decide +kernel) ?_
      refine x_iload_n C 1 (i := 2) (k0 := 2) rfl rfl (by decide +kernel) ?_
      refine x_iload_n C 0 (i := 3) (k0 := 3) rfl rfl (by decide +kernel) ?_
      refine x_callSp C (c_J1_indexOfChar_4cfef l D ca ra N σ p0 p1 x2 x4) (p_J1_indexOfChar_4cfef N σ p0 p1 x2 x4) mt_J1_indexOfChar_4cfef ms_J1_indexOfChar_4cfef ml_RJ1_95 rfl (fun h => Bool.noConfusion h) ⟨Nat.le_of_ble_eq_true rfl, Nat.le_of_ble_eq_true rfl⟩ (Nat.le_of_ble_eq_true rfl) 0 0 ⟨rfl, rfl⟩ ⟨Nat.zero_le _, Nat.zero_le _⟩ (by decide +kernel) _ rfl (fun q5 => [ai q5.2]) (fun _ => rfl) (fun q5 => ?_)
      exact x_iret C ⟨Nat.zero_le _, Nat.zero_le _⟩ (by decide +kernel)
    · skip
      refine x_iconst C (n := (-1)) (by decide +kernel) ?_
      exact x_iret C ⟨Nat.zero_le _, Nat.zero_le _⟩ (by decide +kernel)
  · skip
    refine x_iconst C (n := (-1)) (by decide +kernel) ?_
    exact x_iret C ⟨Nat.zero_le _, Nat.zero_le _⟩ (by decide +kernel)
theorem p_J1_indexOf_4cfef (N : Nat) (σ : St) (p0 : Nat) (p1 : Int) (p2 : Int) (p3 : Int) : Pu σ (f_J1_indexOf_4cfef N σ p0 p1 p2 p3) := by
  unfold f_J1_indexOf_4cfef
  refine pu_bind (fun _ => ?_)
  refine pu_ifs ?_ ?_
  · skip
    refine pu_Lt (fun _ => ?_)
    refine pu_bind (fun _ => ?_)
    refine pu_Lt (fun _ => ?_)
    refine pu_if ?_ ?_
    · skip
      refine pu_bind (fun _ => ?_)
      exact pu_some
    · skip
      exact pu_some
  · skip
    exact pu_some

def rm_J0_indexOf_7cf53 : Room := { frames := 2, cells := 0, slots := 0, locals := 48 }
def f_J0_indexOf_7cf53 (N : Nat) (σ : St) (this : Nat) (p0 : Int) (p1 : Int) : Option (St × Int) :=
 Option.bind (rcvO this (f_J0_isLatin1_aae02 N σ this)) fun q1 =>
 (if wr q1.2 = 0 then none else Option.bind (stV this) fun w_2 =>
 Option.bind (rcvO this (f_J0_length_8abf5 N σ this)) fun q3 =>
 Option.bind (f_J1_indexOf_4cfef N σ w_2 p0 p1 q3.2) fun q4 =>
 some (σ, q4.2))
set_option maxRecDepth 100000 in
set_option maxHeartbeats 4000000 in
theorem c_J0_indexOf_7cf53 (l : Launch) (D : va_G) (ca : Nat → ClassId) (ra : Nat → Nat) (N : Nat) (σ : St) (this : Nat) (p0 : Int) (p1 : Int) : Ctr l (D, ca, ra, shx) false yJ0_indexOf_7cf53 cJ0_indexOf_7cf53 3 (some .int) rm_J0_indexOf_7cf53 σ [ao this, ai p0, ai p1] (f_J0_indexOf_7cf53 N σ this p0 p1) := by
  refine ctr_of (by decide) (Nat.le_of_ble_eq_true rfl) (fun z C => ?_)
  show X z 0 0 σ 0 [(0, ao this), (1, ai p0), (2, ai p1)] [] _
  unfold f_J0_indexOf_7cf53
  refine x_aload_nO C 0 (i := 0) (k0 := 0) rfl rfl (by decide +kernel) ?_
  refine x_callVO C (c_J0_isLatin1_aae02 l D ca ra N σ this) (p_J0_isLatin1_aae02 N σ this) mt_J0_isLatin1_aae02 mv_J0_isLatin1_aae02 rfl ml_RJ0_492 rfl (fun h => Bool.noConfusion h) ⟨Nat.le_of_ble_eq_true rfl, Nat.le_of_ble_eq_true rfl⟩ (Nat.le_of_ble_eq_true rfl) 0 0 ⟨rfl, rfl⟩ ⟨Nat.zero_le _, Nat.zero_le _⟩ (by decide +kernel) _ rfl (fun q1 => [ai q1.2]) (fun _ => rfl) (fun q1 => ?_)
  refine x_if_eq C (tgt := 23) (off := 19) (by decide) (by decide +kernel) (fun h5 => ?_) (fun h5 => ?_)
  · skip
    exact x_no
  · skip
    refine x_aload_nO C 0 (i := 0) (k0 := 0) rfl rfl (by decide +kernel) ?_
    refine x_strV C sf_RJ0_9 (by decide +kernel) (fun w_2 => ?_)
    refine x_iload_n C 1 (i := 1) (k0 := 1) rfl rfl (by decide +kernel) ?_
    refine x_iload_n C 2 (i := 2) (k0 := 2) rfl rfl (by decide +kernel) ?_
    refine x_aload_nO C 0 (i := 0) (k0 := 0) rfl rfl (by decide +kernel) ?_
    refine x_callVO C (c_J0_length_8abf5 l D ca ra N σ this) (p_J0_length_8abf5 N σ this) mt_J0_length_8abf5 mv_J0_length_8abf5 rfl ml_RJ0_505 rfl (fun h => Bool.noConfusion h) ⟨Nat.le_of_ble_eq_true rfl, Nat.le_of_ble_eq_true rfl⟩ (Nat.le_of_ble_eq_true rfl) 0 0 ⟨rfl, rfl⟩ ⟨Nat.zero_le _, Nat.zero_le _⟩ (by decide +kernel) _ rfl (fun q3 => [ai q3.2, ai p1, ai p0, ao w_2]) (fun _ => rfl) (fun q3 => ?_)
    refine x_callSp C (c_J1_indexOf_4cfef l D ca ra N σ w_2 p0 p1 q3.2) (p_J1_indexOf_4cfef N σ w_2 p0 p1 q3.2) mt_J1_indexOf_4cfef ms_J1_indexOf_4cfef ml_RJ0_637 rfl (fun h => Bool.noConfusion h) ⟨Nat.le_of_ble_eq_true rfl, Nat.le_of_ble_eq_true rfl⟩ (Nat.le_of_ble_eq_true rfl) 0 0 ⟨rfl, rfl⟩ ⟨Nat.zero_le _, Nat.zero_le _⟩ (by decide +kernel) _ rfl (fun q4 => [ai q4.2]) (fun _ => rfl) (fun q4 => ?_)
    refine x_goto C (tgt := 36) (off := 16) (by decide) (by decide +kernel) ?_
    exact x_iret C ⟨Nat.zero_le _, Nat.zero_le _⟩ (by decide +kernel)
theorem p_J0_indexOf_7cf53 (N : Nat) (σ : St) (this : Nat) (p0 : Int) (p1 : Int) : Pu σ (f_J0_indexOf_7cf53 N σ this p0 p1) := by
  unfold f_J0_indexOf_7cf53
  refine pu_bind (fun _ => ?_)
  refine pu_if ?_ ?_
  · skip
    exact pu_none
  · skip
    refine pu_bind (fun _ => ?_)
    refine pu_bind (fun _ => ?_)
    refine pu_bind (fun _ => ?_)
    exact pu_some

def rm_J0_indexOf_0f7a4 : Room := { frames := 3, cells := 0, slots := 0, locals := 70 }
def f_J0_indexOf_0f7a4 (N : Nat) (σ : St) (this : Nat) (p0 : Int) : Option (St × Int) :=
 Option.bind (rcvO this (f_J0_indexOf_7cf53 N σ this p0 0)) fun q1 =>
 some (σ, q1.2)
set_option maxRecDepth 100000 in
set_option maxHeartbeats 4000000 in
theorem c_J0_indexOf_0f7a4 (l : Launch) (D : va_G) (ca : Nat → ClassId) (ra : Nat → Nat) (N : Nat) (σ : St) (this : Nat) (p0 : Int) : Ctr l (D, ca, ra, shx) false yJ0_indexOf_0f7a4 cJ0_indexOf_0f7a4 2 (some .int) rm_J0_indexOf_0f7a4 σ [ao this, ai p0] (f_J0_indexOf_0f7a4 N σ this p0) := by
  refine ctr_of (by decide) (Nat.le_of_ble_eq_true rfl) (fun z C => ?_)
  show X z 0 0 σ 0 [(0, ao this), (1, ai p0)] [] _
  unfold f_J0_indexOf_0f7a4
  refine x_aload_nO C 0 (i := 0) (k0 := 0) rfl rfl (by decide +kernel) ?_
  refine x_iload_n C 1 (i := 1) (k0 := 1) rfl rfl (by decide +kernel) ?_
  refine x_iconst C (n := 0) (by decide +kernel) ?_
  refine x_callVO C (c_J0_indexOf_7cf53 l D ca ra N σ this p0 0) (p_J0_indexOf_7cf53 N σ this p0 0) mt_J0_indexOf_7cf53 mv_J0_indexOf_7cf53 rfl ml_RJ0_633 rfl (fun h => Bool.noConfusion h) ⟨Nat.le_of_ble_eq_true rfl, Nat.le_of_ble_eq_true rfl⟩ (Nat.le_of_ble_eq_true rfl) 0 0 ⟨rfl, rfl⟩ ⟨Nat.zero_le _, Nat.zero_le _⟩ (by decide +kernel) _ rfl (fun q1 => [ai q1.2]) (fun _ => rfl) (fun q1 => ?_)
  exact x_iret C ⟨Nat.zero_le _, Nat.zero_le _⟩ (by decide +kernel)
theorem p_J0_indexOf_0f7a4 (N : Nat) (σ : St) (this : Nat) (p0 : Int) : Pu σ (f_J0_indexOf_0f7a4 N σ this p0) := by
  unfold f_J0_indexOf_0f7a4
  refine pu_bind (fun _ => ?_)
  exact pu_some

def L_X6_split_9 (N : Nat) (this : Nat) (J105_4 : (St → Option (St × Int))) : (St × Int × Int) → Option (St × Int) := fixN N fun b9_6 t6 =>
 (if wr t6.2.2 < wr 1300 then Option.bind (gI shx t6.1 6 this 2) fun length_8 =>
 (if wr t6.2.1 < wr length_8 then Option.bind (rcv shx t6.1 6 this (f_X6_byteAt N t6.1 this t6.2.1)) fun q9 =>
 Option.bind (f_X6_isLetter N t6.1 q9.2) fun q10 =>
 Jn (fun t11 : St × Int => Lt (t6.2.2 + 1) fun x12 =>
 b9_6 (t11.1, t11.2, x12)) fun J99_12 =>
 (if wr q10.2 = 0 then Option.bind (f_X6_isDigit N t6.1 q9.2) fun q14 =>
 (if wr q14.2 = 0 then Jn (fun t15 : St => Lt (t6.2.1 + 1) fun x16 =>
 J99_12 (t15, x16)) fun J96_16 =>
 (if wr q9.2 = wr 32 then J96_16 t6.1 else (if wr q9.2 = wr 10 then J96_16 t6.1 else Option.bind (rcvO 2 (f_J0_indexOf_0f7a4 N t6.1 2 (i2cZ q9.2))) fun q18 =>
 Jn (fun t19 : Int => Option.bind (rcv shx t6.1 6 this (f_X6_putToken N t6.1 this t19 t6.2.1 0)) fun q20 =>
 J96_16 q20.1) fun J91_20 =>
 (if wr q18.2 < 0 then J91_20 103 else J91_20 q9.2))) else Option.bind (rcv shx t6.1 6 this (f_X6_splitNumber N t6.1 this t6.2.1)) fun q25 =>
 J99_12 (q25.1, q25.2)) else Option.bind (rcv shx t6.1 6 this (f_X6_splitWord N t6.1 this t6.2.1)) fun q27 =>
 J99_12 (q27.1, q27.2)) else J105_4 t6.1) else J105_4 t6.1)
def rm_X6_split : Room := { frames := 4, cells := 0, slots := 0, locals := 91 }
def f_X6_split (N : Nat) (σ : St) (this : Nat) : Option (St × Int) :=
 Option.bind (pI shx σ 6 this 3 0) fun σ1 =>
 Jn (fun t2 : St => Option.bind (gI shx t2 6 this 2) fun length_3 =>
 Option.bind (rcv shx t2 6 this (f_X6_putToken N t2 this 102 length_3 0)) fun q4 =>
 some (q4.1, 0)) fun J105_4 =>
 L_X6_split_9 N this J105_4 (σ1, 0, 0)
set_option maxRecDepth 100000 in
set_option maxHeartbeats 4000000 in
theorem c_X6_split (l : Launch) (D : va_G) (ca : Nat → ClassId) (ra : Nat → Nat) (N : Nat) (σ : St) (this : Nat) : Ctr l (D, ca, ra, shx) false yX6_split cX6_split 4 none rm_X6_split σ [ar this] (f_X6_split N σ this) := by
  refine ctr_of (by decide) (Nat.le_of_ble_eq_true rfl) (fun z C => ?_)
  show X z 0 0 σ 0 [(0, ar this)] [] _
  unfold f_X6_split
  refine x_iconst C (n := 0) (by decide +kernel) ?_
  refine x_istore_n C (i := 1) (k0 := 1) rfl (Nat.le_of_ble_eq_true rfl) (by decide +kernel) (lv2 := [(1, ai 0), (0, ar this)]) rfl ?_
  refine x_aload_n C 1 (i := 0) (k0 := 0) rfl rfl (by decide +kernel) ?_
  refine x_iconst C (n := 0) (by decide +kernel) ?_
  refine x_pI C fl_RX6_55 rfl (fun q h => by cases h; rfl) (by decide +kernel) (fun σ1 => ?_)
  refine x_iconst C (n := 0) (by decide +kernel) ?_
  refine x_istore_n C (i := 2) (k0 := 2) rfl (Nat.le_of_ble_eq_true rfl) (by decide +kernel) (lv2 := [(2, ai 0), (1, ai 0), (0, ar this)]) rfl ?_
  refine x_join (T := St) (fun t => t) 105 (fun t => [(0, ar this)]) (fun t => []) (fun t2 => ?_) (fun J105_4 hJ105_4 => ?_)
  · show X z 0 0 t2 105 [(0, ar this)] [] _
    refine x_aload_n C 0 (i := 0) (k0 := 0) rfl rfl (by decide +kernel) ?_
    refine x_bipush C (n := 102) (by decide +kernel) (by decide +kernel) ?_
    refine x_aload_n C 0 (i := 0) (k0 := 0) rfl rfl (by decide +kernel) ?_
    refine x_gI C fl_RX6_40 (fun _ _ _ => rfl) (by decide +kernel) (fun length_3 => ?_)
    refine x_lconst C (n := 0) (v := 0) (by decide +kernel) (by decide +kernel) ?_
    refine x_callV C (ci := 6) (c_X6_putToken l D ca ra N t2 this 102 length_3 0) mt_X6_putToken mv_X6_putToken rfl ml_RX6_130 rfl (fun h => Bool.noConfusion h) ⟨Nat.le_of_ble_eq_true rfl, Nat.le_of_ble_eq_true rfl⟩ (Nat.le_of_ble_eq_true rfl) 0 0 ⟨rfl, rfl⟩ ⟨Nat.zero_le _, Nat.zero_le _⟩ (by decide +kernel) _ rfl (fun q4 => []) (fun _ => rfl) (fun q4 => ?_)
    exact x_vret C ⟨Nat.zero_le _, Nat.zero_le _⟩ (by decide +kernel)
  · skip
    refine x_sub [2, 1, 0] (lv2 := [(0, ar this), (1, ai 0), (2, ai 0)]) rfl ?_
    -- LOOP L_X6_split_9 hb9_6
    refine x_loop (T := St × Int × Int) (fun t => t.1) (fun t => [(0, ar this), (1, ai t.2.1), (2, ai t.2.2)]) (σ1, 0, 0) rfl (fun b9_6 hb9_6 t6 => ?_)
    show X z 0 0 t6.1 9 [(0, ar this), (1, ai t6.2.1), (2, ai t6.2.2)] [] _
    refine x_iload_n C 2 (i := 2) (k0 := 2) rfl rfl (by decide +kernel) ?_
    refine x_sipush C (n := 1300) (by decide +kernel) (by decide +kernel) ?_
    refine x_ic_ge C (tgt := 105) (off := 92) (by decide) (by decide +kernel) (fun h30 => ?_) (fun h30 => ?_)
    · skip
      refine x_sub [0] (lv2 := [(0, ar this)]) rfl ?_
      exact hJ105_4 t6.1
    · skip
      refine x_iload_n C 1 (i := 1) (k0 := 1) rfl rfl (by decide +kernel) ?_
      refine x_aload_n C 0 (i := 0) (k0 := 0) rfl rfl (by decide +kernel) ?_
      refine x_gI C fl_RX6_40 (fun _ _ _ => rfl) (by decide +kernel) (fun length_8 => ?_)
      refine x_ic_ge C (tgt := 105) (off := 84) (by decide) (by decide +kernel) (fun h29 => ?_) (fun h29 => ?_)
      · skip
        refine x_sub [0] (lv2 := [(0, ar this)]) rfl ?_
        exact hJ105_4 t6.1
      · skip
        refine x_aload_n C 0 (i := 0) (k0 := 0) rfl rfl (by decide +kernel) ?_
        refine x_iload_n C 1 (i := 1) (k0 := 1) rfl rfl (by decide +kernel) ?_
        refine x_callVp C (ci := 6) (c_X6_byteAt l D ca ra N t6.1 this t6.2.1) (p_X6_byteAt N t6.1 this t6.2.1) mt_X6_byteAt mv_X6_byteAt rfl ml_RX6_108 rfl (fun h => Bool.noConfusion h) ⟨Nat.le_of_ble_eq_true rfl, Nat.le_of_ble_eq_true rfl⟩ (Nat.le_of_ble_eq_true rfl) 0 0 ⟨rfl, rfl⟩ ⟨Nat.zero_le _, Nat.zero_le _⟩ (by decide +kernel) _ rfl (fun q9 => [ai q9.2]) (fun _ => rfl) (fun q9 => ?_)
        refine x_istore_n C (i := 3) (k0 := 3) rfl (Nat.le_of_ble_eq_true rfl) (by decide +kernel) (lv2 := [(3, ai q9.2), (0, ar this), (1, ai t6.2.1), (2, ai t6.2.2)]) rfl ?_
        refine x_iload_n C 0 (i := 3) (k0 := 3) rfl rfl (by decide +kernel) ?_
        refine x_callSp C (c_X6_isLetter l D ca ra N t6.1 q9.2) (p_X6_isLetter N t6.1 q9.2) mt_X6_isLetter ms_X6_isLetter ml_RX6_112 rfl (fun h => Bool.noConfusion h) ⟨Nat.le_of_ble_eq_true rfl, Nat.le_of_ble_eq_true rfl⟩ (Nat.le_of_ble_eq_true rfl) 0 0 ⟨rfl, rfl⟩ ⟨Nat.zero_le _, Nat.zero_le _⟩ (by decide +kernel) _ rfl (fun q10 => [ai q10.2]) (fun _ => rfl) (fun q10 => ?_)
        refine x_join (T := St × Int) (fun t => t.1) 99 (fun t => [(0, ar this), (1, ai t.2), (2, ai t6.2.2)]) (fun t => []) (fun t11 => ?_) (fun J99_12 hJ99_12 => ?_)
        · show X z 0 0 t11.1 99 [(0, ar this), (1, ai t11.2), (2, ai t6.2.2)] [] _
          refine x_iinc C 2 (i := 2) (n := 1) (Nat.le_of_ble_eq_true rfl) rfl (by decide +kernel) (lv2 := fun x12 => [(2, ai x12), (0, ar this), (1, ai t11.2)]) (fun _ => rfl) (fun x12 => ?_)
          refine x_goto C (tgt := 9) (off := (-93)) (by decide) (by decide +kernel) ?_
          refine x_sub [1, 2, 0] (lv2 := [(0, ar this), (1, ai t11.2), (2, ai x12)]) rfl ?_
          exact hb9_6 (t11.1, t11.2, x12)
        · skip
          refine x_if_eq C (tgt := 46) (off := 12) (by decide) (by decide +kernel) (fun h28 => ?_) (fun h28 => ?_)
          · skip
            refine x_iload_n C 0 (i := 3) (k0 := 3) rfl rfl (by decide +kernel) ?_
            refine x_callSp C (c_X6_isDigit l D ca ra N t6.1 q9.2) (p_X6_isDigit N t6.1 q9.2) mt_X6_isDigit ms_X6_isDigit ml_RX6_119 rfl (fun h => Bool.noConfusion h) ⟨Nat.le_of_ble_eq_true rfl, Nat.le_of_ble_eq_true rfl⟩ (Nat.le_of_ble_eq_true rfl) 0 0 ⟨rfl, rfl⟩ ⟨Nat.zero_le _, Nat.zero_le _⟩ (by decide +kernel) _ rfl (fun q14 => [ai q14.2]) (fun _ => rfl) (fun q14 => ?_)
            refine x_if_eq C (tgt := 62) (off := 12) (by decide) (by decide +kernel) (fun h26 => ?_) (fun h26 => ?_)
            · skip
              refine x_iload_n C 0 (i := 3) (k0 := 3) rfl rfl (by decide +kernel) ?_
              refine x_bipush C (n := 32) (by decide +kernel) (by decide +kernel) ?_
              refine x_join (T := St) (fun t => t) 96 (fun t => [(0, ar this), (1, ai t6.2.1), (2, ai t6.2.2)]) (fun t => []) (fun t15 => ?_) (fun J96_16 hJ96_16 => ?_)
              · show X z 0 0 t15 96 [(0, ar this), (1, ai t6.2.1), (2, ai t6.2.2)] [] _
                refine x_iinc C 1 (i := 1) (n := 1) (Nat.le_of_ble_eq_true rfl) rfl (by decide +kernel) (lv2 := fun x16 => [(1, ai x16), (0, ar this), (2, ai t6.2.2)]) (fun _ => rfl) (fun x16 => ?_)
                refine x_sub [1, 0, 2] (lv2 := [(0, ar this), (1, ai x16), (2, ai t6.2.2)]) rfl ?_
                exact hJ99_12 (t15, x16)
              · skip
                refine x_ic_eq C (tgt := 96) (off := 31) (by decide) (by decide +kernel) (fun h24 => ?_) (fun h24 => ?_)
                · skip
                  refine x_sub [1, 2, 3] (lv2 := [(0, ar this), (1, ai t6.2.1), (2, ai t6.2.2)]) rfl ?_
                  exact hJ96_16 t6.1
                · skip
                  refine x_iload_n C 0 (i := 3) (k0 := 3) rfl rfl (by decide +kernel) ?_
                  refine x_bipush C (n := 10) (by decide +kernel) (by decide +kernel) ?_
                  refine x_ic_eq C (tgt := 96) (off := 25) (by decide) (by decide +kernel) (fun h23 => ?_) (fun h23 => ?_)
                  · skip
                    refine x_sub [1, 2, 3] (lv2 := [(0, ar this), (1, ai t6.2.1), (2, ai t6.2.2)]) rfl ?_
                    exact hJ96_16 t6.1
                  · skip
                    refine x_aload_n C 1 (i := 0) (k0 := 0) rfl rfl (by decide +kernel) ?_
                    refine x_ldcS C (index := 125) (i := 2) (by decide) rfl (by decide +kernel) ?_
                    refine x_iload_n C 0 (i := 3) (k0 := 3) rfl rfl (by decide +kernel) ?_
                    refine x_i2c C (by decide +kernel) ?_
                    refine x_callVO C (c_J0_indexOf_0f7a4 l D ca ra N t6.1 2 (i2cZ q9.2)) (p_J0_indexOf_0f7a4 N t6.1 2 (i2cZ q9.2)) mt_J0_indexOf_0f7a4 mv_J0_indexOf_0f7a4 rfl ml_RX6_127 rfl (fun h => Bool.noConfusion h) ⟨Nat.le_of_ble_eq_true rfl, Nat.le_of_ble_eq_true rfl⟩ (Nat.le_of_ble_eq_true rfl) 0 0 ⟨rfl, rfl⟩ ⟨Nat.zero_le _, Nat.zero_le _⟩ (by decide +kernel) _ rfl (fun q18 => [ai q18.2, ar this]) (fun _ => rfl) (fun q18 => ?_)
                    refine x_join (T := Int) (fun t => t6.1) 91 (fun t => [(0, ar this), (1, ai t6.2.1), (2, ai t6.2.2)]) (fun t => [ai t, ar this]) (fun t19 => ?_) (fun J91_20 hJ91_20 => ?_)
                    · show X z 0 0 t6.1 91 [(0, ar this), (1, ai t6.2.1), (2, ai t6.2.2)] [ai t19, ar this] _
                      refine x_iload_n C 1 (i := 1) (k0 := 1) rfl rfl (by decide +kernel) ?_
                      refine x_lconst C (n := 0) (v := 0) (by decide +kernel) (by decide +kernel) ?_
                      refine x_callV C (ci := 6) (c_X6_putToken l D ca ra N t6.1 this t19 t6.2.1 0) mt_X6_putToken mv_X6_putToken rfl ml_RX6_130 rfl (fun h => Bool.noConfusion h) ⟨Nat.le_of_ble_eq_true rfl, Nat.le_of_ble_eq_true rfl⟩ (Nat.le_of_ble_eq_true rfl) 0 0 ⟨rfl, rfl⟩ ⟨Nat.zero_le _, Nat.zero_le _⟩ (by decide +kernel) _ rfl (fun q20 => []) (fun _ => rfl) (fun q20 => ?_)
                      exact hJ96_16 q20.1
                    · skip
                      refine x_if_ge C (tgt := 90) (off := 8) (by decide) (by decide +kernel) (fun h22 => ?_) (fun h22 => ?_)
                      · skip
                        refine x_iload_n C 0 (i := 3) (k0 := 3) rfl rfl (by decide +kernel) ?_
                        refine x_sub [1, 2, 3] (lv2 := [(0, ar this), (1, ai t6.2.1), (2, ai t6.2.2)]) rfl ?_
                        exact hJ91_20 q9.2
                      · skip
                        refine x_bipush C (n := 103) (by decide +kernel) (by decide +kernel) ?_
                        refine x_goto C (tgt := 91) (off := 4) (by decide) (by decide +kernel) ?_
                        refine x_sub [1, 2, 3] (lv2 := [(0, ar this), (1, ai t6.2.1), (2, ai t6.2.2)]) rfl ?_
                        exact hJ91_20 103
            · skip
              refine x_aload_n C 1 (i := 0) (k0 := 0) rfl rfl (by decide +kernel) ?_
              refine x_iload_n C 2 (i := 1) (k0 := 1) rfl rfl (by decide +kernel) ?_
              refine x_callV C (ci := 6) (c_X6_splitNumber l D ca ra N t6.1 this t6.2.1) mt_X6_splitNumber mv_X6_splitNumber rfl ml_RX6_122 rfl (fun h => Bool.noConfusion h) ⟨Nat.le_of_ble_eq_true rfl, Nat.le_of_ble_eq_true rfl⟩ (Nat.le_of_ble_eq_true rfl) 0 0 ⟨rfl, rfl⟩ ⟨Nat.zero_le _, Nat.zero_le _⟩ (by decide +kernel) _ rfl (fun q25 => [ai q25.2]) (fun _ => rfl) (fun q25 => ?_)
              refine x_istore_n C (i := 1) (k0 := 1) rfl (Nat.le_of_ble_eq_true rfl) (by decide +kernel) (lv2 := [(1, ai q25.2), (3, ai q9.2), (0, ar this), (2, ai t6.2.2)]) rfl ?_
              refine x_goto C (tgt := 99) (off := 40) (by decide) (by decide +kernel) ?_
              refine x_sub [2, 0, 3] (lv2 := [(0, ar this), (1, ai q25.2), (2, ai t6.2.2)]) rfl ?_
              exact hJ99_12 (q25.1, q25.2)
          · skip
            refine x_aload_n C 1 (i := 0) (k0 := 0) rfl rfl (by decide +kernel) ?_
            refine x_iload_n C 2 (i := 1) (k0 := 1) rfl rfl (by decide +kernel) ?_
            refine x_callV C (ci := 6) (c_X6_splitWord l D ca ra N t6.1 this t6.2.1) mt_X6_splitWord mv_X6_splitWord rfl ml_RX6_116 rfl (fun h => Bool.noConfusion h) ⟨Nat.le_of_ble_eq_true rfl, Nat.le_of_ble_eq_true rfl⟩ (Nat.le_of_ble_eq_true rfl) 0 0 ⟨rfl, rfl⟩ ⟨Nat.zero_le _, Nat.zero_le _⟩ (by decide +kernel) _ rfl (fun q27 => [ai q27.2]) (fun _ => rfl) (fun q27 => ?_)
            refine x_istore_n C (i := 1) (k0 := 1) rfl (Nat.le_of_ble_eq_true rfl) (by decide +kernel) (lv2 := [(1, ai q27.2), (3, ai q9.2), (0, ar this), (2, ai t6.2.2)]) rfl ?_
            refine x_goto C (tgt := 99) (off := 56) (by decide) (by decide +kernel) ?_
            refine x_sub [2, 0, 3] (lv2 := [(0, ar this), (1, ai q27.2), (2, ai t6.2.2)]) rfl ?_
            exact hJ99_12 (q27.1, q27.2)

def rm_J3_checkIndex_8e157 : Room := { frames := 0, cells := 0, slots := 0, locals := 0 }
def f_J3_checkIndex_8e157 (N : Nat) (σ : St) (p0 : Int) (p1 : Int) : Option (St × Int) :=
 (if wr p0 < 0 then none else (if wr p0 < wr p1 then some (σ, p0) else none))
set_option maxRecDepth 100000 in
set_option maxHeartbeats 4000000 in
theorem c_J3_checkIndex_8e157 (l : Launch) (D : va_G) (ca : Nat → ClassId) (ra : Nat → Nat) (N : Nat) (σ : St) (p0 : Int) (p1 : Int) (fmt : AV) (hfmt : fmt = ar 0 ∨ fmt = ao 21) : Ctr l (D, ca, ra, shx) false yJ3_checkIndex_8e157 cJ3_checkIndex_8e157 3 (some .int) rm_J3_checkIndex_8e157 σ [ai p0, ai p1, fmt] (f_J3_checkIndex_8e157 N σ p0 p1) := by
  refine ctr_of (by decide) (by rcases hfmt with rfl | rfl <;> exact Nat.le_of_ble_eq_true rfl) (fun z C => ?_)
  show X z 0 0 σ 0 [(0, ai p0), (1, ai p1), (2, fmt)] [] _
  unfold f_J3_checkIndex_8e157
  refine x_iload_n C 0 (i := 0) (k0 := 0) rfl rfl (by decide +kernel) ?_
  refine x_if_lt C (tgt := 9) (off := 8) (by decide) (by decide +kernel) (fun h1 => ?_) (fun h1 => ?_)
  · exact x_no
  · refine x_iload_n C 0 (i := 0) (k0 := 0) rfl rfl (by decide +kernel) ?_
    refine x_iload_n C 1 (i := 1) (k0 := 1) rfl rfl (by decide +kernel) ?_
    refine x_ic_lt C (tgt := 16) (off := 10) (by decide) (by decide +kernel) (fun h2 => ?_) (fun h2 => ?_)
    · refine x_iload_n C 0 (i := 0) (k0 := 0) rfl rfl (by decide +kernel) ?_
      exact x_iret C ⟨Nat.zero_le _, Nat.zero_le _⟩ (by decide +kernel)
    · exact x_no
theorem p_J3_checkIndex_8e157 (N : Nat) (σ : St) (p0 : Int) (p1 : Int) : Pu σ (f_J3_checkIndex_8e157 N σ p0 p1) := by
  unfold f_J3_checkIndex_8e157
  refine pu_if ?_ ?_
  · exact pu_none
  · refine pu_if ?_ ?_
    · exact pu_some
    · exact pu_none

def rm_J0_checkIndex_df160 : Room := { frames := 1, cells := 0, slots := 0, locals := 22 }
def f_J0_checkIndex_df160 (N : Nat) (σ : St) (p0 : Int) (p1 : Int) : Option (St × Int) :=
 Option.bind (f_J3_checkIndex_8e157 N σ p0 p1) fun q1 =>
 some (σ, 0)
set_option maxRecDepth 100000 in
set_option maxHeartbeats 4000000 in
theorem c_J0_checkIndex_df160 (l : Launch) (D : va_G) (ca : Nat → ClassId) (ra : Nat → Nat) (N : Nat) (σ : St) (p0 : Int) (p1 : Int) : Ctr l (D, ca, ra, shx) false yJ0_checkIndex_df160 cJ0_checkIndex_df160 2 none rm_J0_checkIndex_df160 σ [ai p0, ai p1] (f_J0_checkIndex_df160 N σ p0 p1) := by
  refine ctr_of (by decide) (Nat.le_of_ble_eq_true rfl) (fun z C => ?_)
  show X z 0 0 σ 0 [(0, ai p0), (1, ai p1)] [] _
  unfold f_J0_checkIndex_df160
  refine x_iload_n C 0 (i := 0) (k0 := 0) rfl rfl (by decide +kernel) ?_
  refine x_iload_n C 1 (i := 1) (k0 := 1) rfl rfl (by decide +kernel) ?_
  refine x_getFmt C sf_RJ0_1053 (List.forall_mem_cons.mpr ⟨rfl, (List.forall_mem_cons.mpr ⟨rfl, (List.forall_mem_nil _)⟩)⟩) (List.forall_mem_cons.mpr ⟨rfl, (List.forall_mem_cons.mpr ⟨rfl, (List.forall_mem_nil _)⟩)⟩) (by decide +kernel) (fun z ra C fmt hfmt => ?_)
  refine x_callSp C (c_J3_checkIndex_8e157 l D ca ra N σ p0 p1 fmt hfmt) (p_J3_checkIndex_8e157 N σ p0 p1) mt_J3_checkIndex_8e157 ms_J3_checkIndex_8e157 ml_RJ0_1059 rfl (fun h => Bool.noConfusion h) ⟨Nat.le_of_ble_eq_true rfl, Nat.le_of_ble_eq_true rfl⟩ (Nat.le_of_ble_eq_true rfl) 0 0 ⟨rfl, rfl⟩ ⟨Nat.zero_le _, Nat.zero_le _⟩ (by decide +kernel) _ rfl (fun q1 => [ai q1.2]) (fun _ => rfl) (fun q1 => ?_)
  refine x_pop C rfl (by decide +kernel) ?_
  exact x_vret C ⟨Nat.zero_le _, Nat.zero_le _⟩ (by decide +kernel)
theorem p_J0_checkIndex_df160 (N : Nat) (σ : St) (p0 : Int) (p1 : Int) : Pu σ (f_J0_checkIndex_df160 N σ p0 p1) := by
  unfold f_J0_checkIndex_df160
  refine pu_bind (fun _ => ?_)
  exact pu_some

def rm_J1_charAt_3b067 : Room := { frames := 2, cells := 0, slots := 0, locals := 43 }
def f_J1_charAt_3b067 (N : Nat) (σ : St) (p0 : Nat) (p1 : Int) : Option (St × Int) :=
 Option.bind (stL p0) fun n1 =>
 Option.bind (f_J0_checkIndex_df160 N σ p1 n1) fun q2 =>
 Option.bind (stB p0 p1) fun b3 =>
 rC σ (i2cZ (andZ b3 255))
set_option maxRecDepth 100000 in
set_option maxHeartbeats 4000000 in
theorem c_J1_charAt_3b067 (l : Launch) (D : va_G) (ca : Nat → ClassId) (ra : Nat → Nat) (N : Nat) (σ : St) (p0 : Nat) (p1 : Int) : Ctr l (D, ca, ra, shx) false yJ1_charAt_3b067 cJ1_charAt_3b067 2 (some .char) rm_J1_charAt_3b067 σ [ao p0, ai p1] (f_J1_charAt_3b067 N σ p0 p1) := by
  refine ctr_of (by decide) (Nat.le_of_ble_eq_true rfl) (fun z C => ?_)
  show X z 0 0 σ 0 [(0, ao p0), (1, ai p1)] [] _
  unfold f_J1_charAt_3b067
  refine x_iload_n C 1 (i := 1) (k0 := 1) rfl rfl (by decide +kernel) ?_
  refine x_aload_nO C 0 (i := 0) (k0 := 0) rfl rfl (by decide +kernel) ?_
  refine x_alenO C (by decide +kernel) (fun n1 => ?_)
  refine x_callSp C (c_J0_checkIndex_df160 l D ca ra N σ p1 n1) (p_J0_checkIndex_df160 N σ p1 n1) mt_J0_checkIndex_df160 ms_J0_checkIndex_df160 ml_RJ1_9 rfl (fun h => Bool.noConfusion h) ⟨Nat.le_of_ble_eq_true rfl, Nat.le_of_ble_eq_true rfl⟩ (Nat.le_of_ble_eq_true rfl) 0 0 ⟨rfl, rfl⟩ ⟨Nat.zero_le _, Nat.zero_le _⟩ (by decide +kernel) _ rfl (fun q2 => []) (fun _ => rfl) (fun q2 => ?_)
  refine x_aload_nO C 0 (i := 0) (k0 := 0) rfl rfl (by decide +kernel) ?_
  refine x_iload_n C 1 (i := 1) (k0 := 1) rfl rfl (by decide +kernel) ?_
  refine x_baldO C (by decide +kernel) (fun b3 => ?_)
  refine x_sipush C (n := 255) (by decide +kernel) (by decide +kernel) ?_
  show X z 0 0 σ 12 [(0, ao p0), (1, ai p1)] [ai 255, ai b3] _
  refine x_iand C (by decide +kernel) ?_
  refine x_i2c C (by decide +kernel) ?_
  exact x_rC C ⟨Nat.zero_le _, Nat.zero_le _⟩ (by decide +kernel)
theorem p_J1_charAt_3b067 (N : Nat) (σ : St) (p0 : Nat) (p1 : Int) : Pu σ (f_J1_charAt_3b067 N σ p0 p1) := by
  unfold f_J1_charAt_3b067
  refine pu_bind (fun _ => ?_)
  refine pu_bind (fun _ => ?_)
  refine pu_bind (fun _ => ?_)
  exact pu_rC

def rm_J0_charAt_5068e : Room := { frames := 3, cells := 0, slots := 0, locals := 64 }
def f_J0_charAt_5068e (N : Nat) (σ : St) (this : Nat) (p0 : Int) : Option (St × Int) :=
 Option.bind (rcvO this (f_J0_isLatin1_aae02 N σ this)) fun q1 =>
 (if wr q1.2 = 0 then none else Option.bind (stV this) fun w_2 =>
 Option.bind (f_J1_charAt_3b067 N σ w_2 p0) fun q3 =>
 rC σ q3.2)
set_option maxRecDepth 100000 in
set_option maxHeartbeats 4000000 in
theorem c_J0_charAt_5068e (l : Launch) (D : va_G) (ca : Nat → ClassId) (ra : Nat → Nat) (N : Nat) (σ : St) (this : Nat) (p0 : Int) : Ctr l (D, ca, ra, shx) false yJ0_charAt_5068e cJ0_charAt_5068e 2 (some .char) rm_J0_charAt_5068e σ [ao this, ai p0] (f_J0_charAt_5068e N σ this p0) := by
  refine ctr_of (by decide) (Nat.le_of_ble_eq_true rfl) (fun z C => ?_)
  show X z 0 0 σ 0 [(0, ao this), (1, ai p0)] [] _
  unfold f_J0_charAt_5068e
  refine x_aload_nO C 0 (i := 0) (k0 := 0) rfl rfl (by decide +kernel) ?_
  refine x_callVO C (c_J0_isLatin1_aae02 l D ca ra N σ this) (p_J0_isLatin1_aae02 N σ this) mt_J0_isLatin1_aae02 mv_J0_isLatin1_aae02 rfl ml_RJ0_492 rfl (fun h => Bool.noConfusion h) ⟨Nat.le_of_ble_eq_true rfl, Nat.le_of_ble_eq_true rfl⟩ (Nat.le_of_ble_eq_true rfl) 0 0 ⟨rfl, rfl⟩ ⟨Nat.zero_le _, Nat.zero_le _⟩ (by decide +kernel) _ rfl (fun q1 => [ai q1.2]) (fun _ => rfl) (fun q1 => ?_)
  refine x_if_eq C (tgt := 16) (off := 12) (by decide) (by decide +kernel) (fun h4 => ?_) (fun h4 => ?_)
  · skip
    exact x_no
  · skip
    refine x_aload_nO C 0 (i := 0) (k0 := 0) rfl rfl (by decide +kernel) ?_
    refine x_strV C sf_RJ0_9 (by decide +kernel) (fun w_2 => ?_)
    refine x_iload_n C 1 (i := 1) (k0 := 1) rfl rfl (by decide +kernel) ?_
    refine x_callSp C (c_J1_charAt_3b067 l D ca ra N σ w_2 p0) (p_J1_charAt_3b067 N σ w_2 p0) mt_J1_charAt_3b067 ms_J1_charAt_3b067 ml_RJ0_495 rfl (fun h => Bool.noConfusion h) ⟨Nat.le_of_ble_eq_true rfl, Nat.le_of_ble_eq_true rfl⟩ (Nat.le_of_ble_eq_true rfl) 0 0 ⟨rfl, rfl⟩ ⟨Nat.zero_le _, Nat.zero_le _⟩ (by decide +kernel) _ rfl (fun q3 => [ai q3.2]) (fun _ => rfl) (fun q3 => ?_)
    exact x_rC C ⟨Nat.zero_le _, Nat.zero_le _⟩ (by decide +kernel)
theorem p_J0_charAt_5068e (N : Nat) (σ : St) (this : Nat) (p0 : Int) : Pu σ (f_J0_charAt_5068e N σ this p0) := by
  unfold f_J0_charAt_5068e
  refine pu_bind (fun _ => ?_)
  refine pu_if ?_ ?_
  · skip
    exact pu_none
  · skip
    refine pu_bind (fun _ => ?_)
    refine pu_bind (fun _ => ?_)
    exact pu_rC

def L_X6_putOwnWords_8 (N : Nat) (this : Nat) (p0 : Nat) : (St × Int × Int × Int) → Option (St × Int) := fixN N fun b8_1 t1 =>
 Option.bind (rcvO p0 (f_J0_length_8abf5 N t1.1 p0)) fun q3 =>
 (if wr t1.2.2.2 < wr q3.2 then (if wr t1.2.1 < wr 34 then Option.bind (rcvO p0 (f_J0_charAt_5068e N t1.1 p0 t1.2.2.2)) fun q4 =>
 Jn (fun t5 : St × Int × Int => Lt (t1.2.2.2 + 1) fun x6 =>
 b8_1 (t5.1, t5.2.1, t5.2.2, x6)) fun J64_6 =>
 (if wr q4.2 = wr 32 then Option.bind (gR shx t1.1 6 this 0) fun ownWords_9 =>
 Option.bind (sI shx t1.1 2 ownWords_9 t1.2.1 t1.2.2.1) fun σ10 =>
 Lt (t1.2.1 + 1) fun x11 =>
 J64_6 (σ10, x11, 0) else Option.bind (f_X6_withLetter N t1.1 t1.2.2.1 q4.2) fun q8 =>
 J64_6 (t1.1, t1.2.1, q8.2)) else some (t1.1, 0)) else some (t1.1, 0))
def rm_X6_putOwnWords : Room := { frames := 4, cells := 0, slots := 0, locals := 85 }
def f_X6_putOwnWords (N : Nat) (σ : St) (this : Nat) (p0 : Nat) (p1 : Int) : Option (St × Int) :=
 L_X6_putOwnWords_8 N this p0 (σ, p1, 0, 0)
set_option maxRecDepth 100000 in
set_option maxHeartbeats 4000000 in
theorem c_X6_putOwnWords (l : Launch) (D : va_G) (ca : Nat → ClassId) (ra : Nat → Nat) (N : Nat) (σ : St) (this : Nat) (p0 : Nat) (p1 : Int) : Ctr l (D, ca, ra, shx) false yX6_putOwnWords cX6_putOwnWords 8 none rm_X6_putOwnWords σ [ar this, ao p0, ai p1] (f_X6_putOwnWords N σ this p0 p1) := by
  refine ctr_of (by decide) (Nat.le_of_ble_eq_true rfl) (fun z C => ?_)
  show X z 0 0 σ 0 [(0, ar this), (1, ao p0), (2, ai p1)] [] _
  unfold f_X6_putOwnWords
  refine x_iload_n C 2 (i := 2) (k0 := 2) rfl rfl (by decide +kernel) ?_
  refine x_istore_n C (i := 3) (k0 := 3) rfl (Nat.le_of_ble_eq_true rfl) (by decide +kernel) (lv2 := [(3, ai p1), (0, ar this), (1, ao p0), (2, ai p1)]) rfl ?_
  refine x_lconst C (n := 0) (v := 0) (by decide +kernel) (by decide +kernel) ?_
  refine x_lstore C (i := 4) (Nat.le_of_ble_eq_true rfl) (by decide +kernel) (lv2 := [(4, al 0), (3, ai p1), (0, ar this), (1, ao p0), (2, ai p1)]) rfl ?_
  refine x_iconst C (n := 0) (by decide +kernel) ?_
  refine x_istore C (i := 6) (Nat.le_of_ble_eq_true rfl) (by decide +kernel) (lv2 := [(6, ai 0), (4, al 0), (3, ai p1), (0, ar this), (1, ao p0), (2, ai p1)]) rfl ?_
  refine x_sub [3, 4, 2, 1, 0] (lv2 := [(0, ar this), (1, ao p0), (3, ai p1), (4, al 0), (6, ai 0)]) rfl ?_
  -- LOOP L_X6_putOwnWords_8 hb8_1
  refine x_loop (T := St × Int × Int × Int) (fun t => t.1) (fun t => [(0, ar this), (1, ao p0), (3, ai t.2.1), (4, al t.2.2.1), (6, ai t.2.2.2)]) (σ, p1, 0, 0) rfl (fun b8_1 hb8_1 t1 => ?_)
  show X z 0 0 t1.1 8 [(0, ar this), (1, ao p0), (3, ai t1.2.1), (4, al t1.2.2.1), (6, ai t1.2.2.2)] [] _
  refine x_iload C 4 (i := 6) rfl (by decide +kernel) ?_
  refine x_aload_nO C 1 (i := 1) (k0 := 1) rfl rfl (by decide +kernel) ?_
  refine x_callVO C (c_J0_length_8abf5 l D ca ra N t1.1 p0) (p_J0_length_8abf5 N t1.1 p0) mt_J0_length_8abf5 mv_J0_length_8abf5 rfl ml_RX6_95 rfl (fun h => Bool.noConfusion h) ⟨Nat.le_of_ble_eq_true rfl, Nat.le_of_ble_eq_true rfl⟩ (Nat.le_of_ble_eq_true rfl) 0 0 ⟨rfl, rfl⟩ ⟨Nat.zero_le _, Nat.zero_le _⟩ (by decide +kernel) _ rfl (fun q3 => [ai q3.2, ai t1.2.2.2]) (fun _ => rfl) (fun q3 => ?_)
  refine x_ic_ge C (tgt := 70) (off := 56) (by decide) (by decide +kernel) (fun h14 => ?_) (fun h14 => ?_)
  · skip
    exact x_vret C ⟨Nat.zero_le _, Nat.zero_le _⟩ (by decide +kernel)
  · skip
    refine x_iload_n C 2 (i := 3) (k0 := 3) rfl rfl (by decide +kernel) ?_
    refine x_bipush C (n := 34) (by decide +kernel) (by decide +kernel) ?_
    refine x_ic_ge C (tgt := 70) (off := 50) (by decide) (by decide +kernel) (fun h13 => ?_) (fun h13 => ?_)
    · skip
      exact x_vret C ⟨Nat.zero_le _, Nat.zero_le _⟩ (by decide +kernel)
    · skip
      refine x_aload_nO C 1 (i := 1) (k0 := 1) rfl rfl (by decide +kernel) ?_
      refine x_iload C 4 (i := 6) rfl (by decide +kernel) ?_
      refine x_callVO C (c_J0_charAt_5068e l D ca ra N t1.1 p0 t1.2.2.2) (p_J0_charAt_5068e N t1.1 p0 t1.2.2.2) mt_J0_charAt_5068e mv_J0_charAt_5068e rfl ml_RX6_100 rfl (fun h => Bool.noConfusion h) ⟨Nat.le_of_ble_eq_true rfl, Nat.le_of_ble_eq_true rfl⟩ (Nat.le_of_ble_eq_true rfl) 0 0 ⟨rfl, rfl⟩ ⟨Nat.zero_le _, Nat.zero_le _⟩ (by decide +kernel) _ rfl (fun q4 => [ai q4.2]) (fun _ => rfl) (fun q4 => ?_)
      refine x_istore C (i := 7) (Nat.le_of_ble_eq_true rfl) (by decide +kernel) (lv2 := [(7, ai q4.2), (0, ar this), (1, ao p0), (3, ai t1.2.1), (4, al t1.2.2.1), (6, ai t1.2.2.2)]) rfl ?_
      refine x_iload C 0 (i := 7) rfl (by decide +kernel) ?_
      refine x_bipush C (n := 32) (by decide +kernel) (by decide +kernel) ?_
      refine x_join (T := St × Int × Int) (fun t => t.1) 64 (fun t => [(0, ar this), (1, ao p0), (3, ai t.2.1), (4, al t.2.2), (6, ai t1.2.2.2)]) (fun t => []) (fun t5 => ?_) (fun J64_6 hJ64_6 => ?_)
      · show X z 0 0 t5.1 64 [(0, ar this), (1, ao p0), (3, ai t5.2.1), (4, al t5.2.2), (6, ai t1.2.2.2)] [] _
        refine x_iinc C 4 (i := 6) (n := 1) (Nat.le_of_ble_eq_true rfl) rfl (by decide +kernel) (lv2 := fun x6 => [(6, ai x6), (0, ar this), (1, ao p0), (3, ai t5.2.1), (4, al t5.2.2)]) (fun _ => rfl) (fun x6 => ?_)
        refine x_goto C (tgt := 8) (off := (-59)) (by decide) (by decide +kernel) ?_
        refine x_sub [1, 2, 3, 4, 0] (lv2 := [(0, ar this), (1, ao p0), (3, ai t5.2.1), (4, al t5.2.2), (6, ai x6)]) rfl ?_
        exact hb8_1 (t5.1, t5.2.1, t5.2.2, x6)
      · skip
        refine x_ic_ne C (tgt := 55) (off := 20) (by decide) (by decide +kernel) (fun h12 => ?_) (fun h12 => ?_)
        · skip
          refine x_lload C 4 (i := 4) rfl (by decide +kernel) ?_
          refine x_iload C 0 (i := 7) rfl (by decide +kernel) ?_
          refine x_callSp C (c_X6_withLetter l D ca ra N t1.1 t1.2.2.1 q4.2) (p_X6_withLetter N t1.1 t1.2.2.1 q4.2) mt_X6_withLetter ms_X6_withLetter ml_RX6_104 rfl (fun h => Bool.noConfusion h) ⟨Nat.le_of_ble_eq_true rfl, Nat.le_of_ble_eq_true rfl⟩ (Nat.le_of_ble_eq_true rfl) 0 0 ⟨rfl, rfl⟩ ⟨Nat.zero_le _, Nat.zero_le _⟩ (by decide +kernel) _ rfl (fun q8 => [al q8.2]) (fun _ => rfl) (fun q8 => ?_)
          refine x_lstore C (i := 4) (Nat.le_of_ble_eq_true rfl) (by decide +kernel) (lv2 := [(4, al q8.2), (7, ai q4.2), (0, ar this), (1, ao p0), (3, ai t1.2.1), (6, ai t1.2.2.2)]) rfl ?_
          refine x_sub [2, 3, 4, 0, 5] (lv2 := [(0, ar this), (1, ao p0), (3, ai t1.2.1), (4, al q8.2), (6, ai t1.2.2.2)]) rfl ?_
          exact hJ64_6 (t1.1, t1.2.1, q8.2)
        · skip
          refine x_aload_n C 1 (i := 0) (k0 := 0) rfl rfl (by decide +kernel) ?_
          refine x_gR C fl_RX6_11 (fun _ _ _ => rfl) (by decide +kernel) (fun ownWords_9 => ?_)
          refine x_iload_n C 3 (i := 3) (k0 := 3) rfl rfl (by decide +kernel) ?_
          refine x_lload C 4 (i := 4) rfl (by decide +kernel) ?_
          refine x_astL C (by decide +kernel) (fun σ10 => ?_)
          refine x_iinc C 3 (i := 3) (n := 1) (Nat.le_of_ble_eq_true rfl) rfl (by decide +kernel) (lv2 := fun x11 => [(3, ai x11), (7, ai q4.2), (0, ar this), (1, ao p0), (4, al t1.2.2.1), (6, ai t1.2.2.2)]) (fun _ => rfl) (fun x11 => ?_)
          refine x_lconst C (n := 0) (v := 0) (by decide +kernel) (by decide +kernel) ?_
          refine x_lstore C (i := 4) (Nat.le_of_ble_eq_true rfl) (by decide +kernel) (lv2 := [(4, al 0), (3, ai x11), (7, ai q4.2), (0, ar this), (1, ao p0), (6, ai t1.2.2.2)]) rfl ?_
          show X z 0 0 σ10 52 [(4, al 0), (3, ai x11), (7, ai q4.2), (0, ar this), (1, ao p0), (6, ai t1.2.2.2)] [] _
          refine x_goto C (tgt := 64) (off := 12) (by decide) (by decide +kernel) ?_
          refine x_sub [3, 4, 1, 0, 5] (lv2 := [(0, ar this), (1, ao p0), (3, ai x11), (4, al 0), (6, ai t1.2.2.2)]) rfl ?_
          exact hJ64_6 (σ10, x11, 0)

def rm_X6_begin : Room := { frames := 5, cells := 0, slots := 0, locals := 114 }
def f_X6_begin (N : Nat) (σ : St) (this : Nat) : Option (St × Int) :=
 Option.bind (pI shx σ 6 this 12 0) fun σ1 =>
 Option.bind (pI shx σ1 6 this 13 (-1)) fun σ2 =>
 Option.bind (rcv shx σ2 6 this (f_X6_split N σ2 this)) fun q3 =>
 Option.bind (pI shx q3.1 6 this 7 (-1)) fun σ4 =>
 Option.bind (rcv shx σ4 6 this (f_X6_advance N σ4 this)) fun q5 =>
 some (q5.1, 0)
set_option maxRecDepth 100000 in
set_option maxHeartbeats 4000000 in
theorem c_X6_begin (l : Launch) (D : va_G) (ca : Nat → ClassId) (ra : Nat → Nat) (N : Nat) (σ : St) (this : Nat) : Ctr l (D, ca, ra, shx) false yX6_begin cX6_begin 1 none rm_X6_begin σ [ar this] (f_X6_begin N σ this) := by
  refine ctr_of (by decide) (Nat.le_of_ble_eq_true rfl) (fun z C => ?_)
  show X z 0 0 σ 0 [(0, ar this)] [] _
  unfold f_X6_begin
  refine x_aload_n C 0 (i := 0) (k0 := 0) rfl rfl (by decide +kernel) ?_
  refine x_iconst C (n := 0) (by decide +kernel) ?_
  refine x_pI C fl_RX6_43 rfl (fun q h => by cases h; rfl) (by decide +kernel) (fun σ1 => ?_)
  refine x_aload_n C 0 (i := 0) (k0 := 0) rfl rfl (by decide +kernel) ?_
  refine x_iconst C (n := (-1)) (by decide +kernel) ?_
  refine x_pI C fl_RX6_28 rfl (fun q h => by cases h; rfl) (by decide +kernel) (fun σ2 => ?_)
  refine x_aload_n C 0 (i := 0) (k0 := 0) rfl rfl (by decide +kernel) ?_
  refine x_callV C (ci := 6) (c_X6_split l D ca ra N σ2 this) mt_X6_split mv_X6_split rfl ml_RX6_46 rfl (fun h => Bool.noConfusion h) ⟨Nat.le_of_ble_eq_true rfl, Nat.le_of_ble_eq_true rfl⟩ (Nat.le_of_ble_eq_true rfl) 0 0 ⟨rfl, rfl⟩ ⟨Nat.zero_le _, Nat.zero_le _⟩ (by decide +kernel) _ rfl (fun q3 => []) (fun _ => rfl) (fun q3 => ?_)
  show X z 0 0 q3.1 14 [(0, ar this)] [] _
  refine x_aload_n C 0 (i := 0) (k0 := 0) rfl rfl (by decide +kernel) ?_
  refine x_iconst C (n := (-1)) (by decide +kernel) ?_
  refine x_pI C fl_RX6_49 rfl (fun q h => by cases h; rfl) (by decide +kernel) (fun σ4 => ?_)
  refine x_aload_n C 0 (i := 0) (k0 := 0) rfl rfl (by decide +kernel) ?_
  refine x_callV C (ci := 6) (c_X6_advance l D ca ra N σ4 this) mt_X6_advance mv_X6_advance rfl ml_RX6_52 rfl (fun h => Bool.noConfusion h) ⟨Nat.le_of_ble_eq_true rfl, Nat.le_of_ble_eq_true rfl⟩ (Nat.le_of_ble_eq_true rfl) 0 0 ⟨rfl, rfl⟩ ⟨Nat.zero_le _, Nat.zero_le _⟩ (by decide +kernel) _ rfl (fun q5 => []) (fun _ => rfl) (fun q5 => ?_)
  exact x_vret C ⟨Nat.zero_le _, Nat.zero_le _⟩ (by decide +kernel)

def L_X3_read_13 (N : Nat) (this : Nat) (p0 : Nat) (J57_5 : (St → Option (St × Int))) : St → Option (St × Int) := fixN N fun b13_7 t7 =>
 Option.bind (gI shx t7 3 this 0) fun lines_9 =>
 (if wr lines_9 < wr 1300 then Option.bind (rcv shx t7 6 p0 (f_X6_sound N t7 p0)) fun q10 =>
 (if wr q10.2 = 0 then J57_5 t7 else Option.bind (gI shx t7 6 p0 8) fun kind_11 =>
 (if wr kind_11 = wr 102 then J57_5 t7 else Option.bind (rcv shx t7 3 this (f_X3_readLine N t7 this p0)) fun q12 =>
 Option.bind (gI shx q12.1 3 this 0) fun lines_13 =>
 Option.bind (pI shx q12.1 3 this 0 (lines_13 + 1)) fun σ14 =>
 b13_7 σ14)) else J57_5 t7)
def rm_X3_read : Room := { frames := 6, cells := 0, slots := 0, locals := 134 }
def f_X3_read (N : Nat) (σ : St) (this : Nat) (p0 : Nat) : Option (St × Int) :=
 Option.bind (rcv shx σ 3 this (f_X3_clear N σ this)) fun q1 =>
 Option.bind (rcv shx q1.1 6 p0 (f_X6_begin N q1.1 p0)) fun q2 =>
 Option.bind (pI shx q2.1 3 this 0 0) fun σ3 =>
 Jn (fun t4 : St => Option.bind (rcv shx t4 6 p0 (f_X6_sound N t4 p0)) fun q5 =>
 rZ t4 q5.2) fun J57_5 =>
 L_X3_read_13 N this p0 J57_5 σ3
set_option maxRecDepth 100000 in
set_option maxHeartbeats 4000000 in
theorem c_X3_read (l : Launch) (D : va_G) (ca : Nat → ClassId) (ra : Nat → Nat) (N : Nat) (σ : St) (this : Nat) (p0 : Nat) : Ctr l (D, ca, ra, shx) false yX3_read cX3_read 2 (some .boolean) rm_X3_read σ [ar this, ar p0] (f_X3_read N σ this p0) := by
  refine ctr_of (by decide) (Nat.le_of_ble_eq_true rfl) (fun z C => ?_)
  show X z 0 0 σ 0 [(0, ar this), (1, ar p0)] [] _
  unfold f_X3_read
  refine x_aload_n C 0 (i := 0) (k0 := 0) rfl rfl (by decide +kernel) ?_
  refine x_callV C (ci := 3) (c_X3_clear l D ca ra N σ this) mt_X3_clear mv_X3_clear rfl ml_RX3_55 rfl (fun h => Bool.noConfusion h) ⟨Nat.le_of_ble_eq_true rfl, Nat.le_of_ble_eq_true rfl⟩ (Nat.le_of_ble_eq_true rfl) 0 0 ⟨rfl, rfl⟩ ⟨Nat.zero_le _, Nat.zero_le _⟩ (by decide +kernel) _ rfl (fun q1 => []) (fun _ => rfl) (fun q1 => ?_)
  refine x_aload_n C 1 (i := 1) (k0 := 1) rfl rfl (by decide +kernel) ?_
  refine x_callV C (ci := 6) (c_X6_begin l D ca ra N q1.1 p0) mt_X6_begin mv_X6_begin rfl ml_RX3_58 rfl (fun h => Bool.noConfusion h) ⟨Nat.le_of_ble_eq_true rfl, Nat.le_of_ble_eq_true rfl⟩ (Nat.le_of_ble_eq_true rfl) 0 0 ⟨rfl, rfl⟩ ⟨Nat.zero_le _, Nat.zero_le _⟩ (by decide +kernel) _ rfl (fun q2 => []) (fun _ => rfl) (fun q2 => ?_)
  refine x_aload_n C 0 (i := 0) (k0 := 0) rfl rfl (by decide +kernel) ?_
  refine x_iconst C (n := 0) (by decide +kernel) ?_
  refine x_pI C fl_RX3_63 rfl (fun q h => by cases h; rfl) (by decide +kernel) (fun σ3 => ?_)
  refine x_join (T := St) (fun t => t) 57 (fun t => [(1, ar p0)]) (fun t => []) (fun t4 => ?_) (fun J57_5 hJ57_5 => ?_)
  · show X z 0 0 t4 57 [(1, ar p0)] [] _
    refine x_aload_n C 0 (i := 1) (k0 := 1) rfl rfl (by decide +kernel) ?_
    refine x_callVp C (ci := 6) (c_X6_sound l D ca ra N t4 p0) (p_X6_sound N t4 p0) mt_X6_sound mv_X6_sound rfl ml_RX3_67 rfl (fun h => Bool.noConfusion h) ⟨Nat.le_of_ble_eq_true rfl, Nat.le_of_ble_eq_true rfl⟩ (Nat.le_of_ble_eq_true rfl) 0 0 ⟨rfl, rfl⟩ ⟨Nat.zero_le _, Nat.zero_le _⟩ (by decide +kernel) _ rfl (fun q5 => [ai q5.2]) (fun _ => rfl) (fun q5 => ?_)
    exact x_rZ C ⟨Nat.zero_le _, Nat.zero_le _⟩ (by decide +kernel)
  · skip
    -- LOOP L_X3_read_13 hb13_7
    refine x_loop (T := St) (fun t => t) (fun t => [(0, ar this), (1, ar p0)]) σ3 rfl (fun b13_7 hb13_7 t7 => ?_)
    show X z 0 0 t7 13 [(0, ar this), (1, ar p0)] [] _
    refine x_aload_n C 0 (i := 0) (k0 := 0) rfl rfl (by decide +kernel) ?_
    refine x_gI C fl_RX3_63 (fun _ _ _ => rfl) (by decide +kernel) (fun lines_9 => ?_)
    refine x_sipush C (n := 1300) (by decide +kernel) (by decide +kernel) ?_
    refine x_ic_ge C (tgt := 57) (off := 37) (by decide) (by decide +kernel) (fun h17 => ?_) (fun h17 => ?_)
    · skip
      refine x_sub [1] (lv2 := [(1, ar p0)]) rfl ?_
      exact hJ57_5 t7
    · skip
      refine x_aload_n C 1 (i := 1) (k0 := 1) rfl rfl (by decide +kernel) ?_
      refine x_callVp C (ci := 6) (c_X6_sound l D ca ra N t7 p0) (p_X6_sound N t7 p0) mt_X6_sound mv_X6_sound rfl ml_RX3_67 rfl (fun h => Bool.noConfusion h) ⟨Nat.le_of_ble_eq_true rfl, Nat.le_of_ble_eq_true rfl⟩ (Nat.le_of_ble_eq_true rfl) 0 0 ⟨rfl, rfl⟩ ⟨Nat.zero_le _, Nat.zero_le _⟩ (by decide +kernel) _ rfl (fun q10 => [ai q10.2]) (fun _ => rfl) (fun q10 => ?_)
      refine x_if_eq C (tgt := 57) (off := 30) (by decide) (by decide +kernel) (fun h16 => ?_) (fun h16 => ?_)
      · skip
        refine x_sub [1] (lv2 := [(1, ar p0)]) rfl ?_
        exact hJ57_5 t7
      · skip
        refine x_aload_n C 1 (i := 1) (k0 := 1) rfl rfl (by decide +kernel) ?_
        refine x_gI C fl_RX3_71 (fun _ _ _ => rfl) (by decide +kernel) (fun kind_11 => ?_)
        refine x_bipush C (n := 102) (by decide +kernel) (by decide +kernel) ?_
        refine x_ic_eq C (tgt := 57) (off := 21) (by decide) (by decide +kernel) (fun h15 => ?_) (fun h15 => ?_)
        · skip
          refine x_sub [1] (lv2 := [(1, ar p0)]) rfl ?_
          exact hJ57_5 t7
        · skip
          refine x_aload_n C 0 (i := 0) (k0 := 0) rfl rfl (by decide +kernel) ?_
          refine x_aload_n C 1 (i := 1) (k0 := 1) rfl rfl (by decide +kernel) ?_
          refine x_callV C (ci := 3) (c_X3_readLine l D ca ra N t7 this p0) mt_X3_readLine mv_X3_readLine rfl ml_RX3_74 rfl (fun h => Bool.noConfusion h) ⟨Nat.le_of_ble_eq_true rfl, Nat.le_of_ble_eq_true rfl⟩ (Nat.le_of_ble_eq_true rfl) 0 0 ⟨rfl, rfl⟩ ⟨Nat.zero_le _, Nat.zero_le _⟩ (by decide +kernel) _ rfl (fun q12 => []) (fun _ => rfl) (fun q12 => ?_)
          refine x_aload_n C 0 (i := 0) (k0 := 0) rfl rfl (by decide +kernel) ?_
          refine x_dup C rfl (by decide +kernel) ?_
          refine x_gI C fl_RX3_63 (fun _ _ _ => rfl) (by decide +kernel) (fun lines_13 => ?_)
          refine x_iconst C (n := 1) (by decide +kernel) ?_
          refine x_iadd C (by decide +kernel) ?_
          show X z 0 0 q12.1 51 [(0, ar this), (1, ar p0)] [ai (lines_13 + 1), ar this] _
          refine x_pI C fl_RX3_63 rfl (fun q h => by cases h; rfl) (by decide +kernel) (fun σ14 => ?_)
          refine x_goto C (tgt := 13) (off := (-41)) (by decide) (by decide +kernel) ?_
          exact hb13_7 σ14
