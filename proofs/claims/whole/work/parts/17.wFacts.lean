def rm_X1_forget : Room := { frames := 0, cells := 0, slots := 0, locals := 0 }
def f_X1_forget (N : Nat) (σ : St) (this : Nat) : Option (St × Int) :=
 Option.bind (pI shx σ 1 this 0 0) fun σ1 =>
 some (σ1, 0)
set_option maxRecDepth 100000 in
set_option maxHeartbeats 4000000 in
theorem c_X1_forget (l : Launch) (D : va_G) (ca : Nat → ClassId) (ra : Nat → Nat) (N : Nat) (σ : St) (this : Nat) : Ctr l (D, ca, ra, shx) false yX1_forget cX1_forget 1 none rm_X1_forget σ [ar this] (f_X1_forget N σ this) := by
  refine ctr_of (by decide) (Nat.le_of_ble_eq_true rfl) (fun z C => ?_)
  show X z 0 0 σ 0 [(0, ar this)] [] _
  unfold f_X1_forget
  refine x_aload_n C 0 (i := 0) (k0 := 0) rfl rfl (by decide +kernel) ?_
  refine x_iconst C (n := 0) (by decide +kernel) ?_
  refine x_pI C fl_RX1_32 rfl (fun q h => by cases h; rfl) (by decide +kernel) (fun σ1 => ?_)
  exact x_vret C ⟨Nat.zero_le _, Nat.zero_le _⟩ (by decide +kernel)

def rm_X1_tell : Room := { frames := 0, cells := 0, slots := 0, locals := 0 }
def f_X1_tell (N : Nat) (σ : St) (this : Nat) (p0 : Int) (p1 : Int) (p2 : Int) : Option (St × Int) :=
 Option.bind (gI shx σ 1 this 0) fun count_1 =>
 (if wr count_1 < wr 200 then Option.bind (gR shx σ 1 this 2) fun kind_2 =>
 Option.bind (gI shx σ 1 this 0) fun count_3 =>
 Option.bind (sI shx σ 1 kind_2 count_3 p0) fun σ4 =>
 Option.bind (gR shx σ4 1 this 3) fun month_5 =>
 Option.bind (gI shx σ4 1 this 0) fun count_6 =>
 Option.bind (sI shx σ4 1 month_5 count_6 p1) fun σ7 =>
 Option.bind (gR shx σ7 1 this 4) fun value_8 =>
 Option.bind (gI shx σ7 1 this 0) fun count_9 =>
 Option.bind (sI shx σ7 1 value_8 count_9 p2) fun σ10 =>
 Option.bind (gR shx σ10 1 this 5) fun told_11 =>
 Option.bind (gI shx σ10 1 this 0) fun count_12 =>
 Option.bind (gI shx σ10 1 this 1) fun time_13 =>
 Option.bind (sI shx σ10 1 told_11 count_12 time_13) fun σ14 =>
 Option.bind (gR shx σ14 1 this 6) fun untold_15 =>
 Option.bind (gI shx σ14 1 this 0) fun count_16 =>
 Option.bind (sI shx σ14 1 untold_15 count_16 (-1)) fun σ17 =>
 Option.bind (gI shx σ17 1 this 0) fun count_18 =>
 Option.bind (pI shx σ17 1 this 0 (count_18 + 1)) fun σ19 =>
 Option.bind (gI shx σ19 1 this 0) fun count_20 =>
 some (σ19, (count_20 - 1)) else some (σ, (-1)))
set_option maxRecDepth 100000 in
set_option maxHeartbeats 4000000 in
theorem c_X1_tell (l : Launch) (D : va_G) (ca : Nat → ClassId) (ra : Nat → Nat) (N : Nat) (σ : St) (this : Nat) (p0 : Int) (p1 : Int) (p2 : Int) : Ctr l (D, ca, ra, shx) false yX1_tell cX1_tell 4 (some .int) rm_X1_tell σ [ar this, ai p0, ai p1, ai p2] (f_X1_tell N σ this p0 p1 p2) := by
  refine ctr_of (by decide) (Nat.le_of_ble_eq_true rfl) (fun z C => ?_)
  show X z 0 0 σ 0 [(0, ar this), (1, ai p0), (2, ai p1), (3, ai p2)] [] _
  unfold f_X1_tell
  refine x_aload_n C 0 (i := 0) (k0 := 0) rfl rfl (by decide +kernel) ?_
  refine x_gI C fl_RX1_32 (fun _ _ _ => rfl) (by decide +kernel) (fun count_1 => ?_)
  refine x_sipush C (n := 200) (by decide +kernel) (by decide +kernel) ?_
  refine x_ic_lt C (tgt := 12) (off := 5) (by decide) (by decide +kernel) (fun h21 => ?_) (fun h21 => ?_)
  · skip
    refine x_aload_n C 0 (i := 0) (k0 := 0) rfl rfl (by decide +kernel) ?_
    refine x_gR C fl_RX1_11 (fun _ _ _ => rfl) (by decide +kernel) (fun kind_2 => ?_)
    refine x_aload_n C 0 (i := 0) (k0 := 0) rfl rfl (by decide +kernel) ?_
    refine x_gI C fl_RX1_32 (fun _ _ _ => rfl) (by decide +kernel) (fun count_3 => ?_)
    refine x_iload_n C 1 (i := 1) (k0 := 1) rfl rfl (by decide +kernel) ?_
    refine x_astI C (by decide +kernel) (fun σ4 => ?_)
    refine x_aload_n C 0 (i := 0) (k0 := 0) rfl rfl (by decide +kernel) ?_
    refine x_gR C fl_RX1_15 (fun _ _ _ => rfl) (by decide +kernel) (fun month_5 => ?_)
    show X z 0 0 σ4 26 [(0, ar this), (1, ai p0), (2, ai p1), (3, ai p2)] [ar month_5] _
    refine x_aload_n C 0 (i := 0) (k0 := 0) rfl rfl (by decide +kernel) ?_
    refine x_gI C fl_RX1_32 (fun _ _ _ => rfl) (by decide +kernel) (fun count_6 => ?_)
    refine x_iload_n C 2 (i := 2) (k0 := 2) rfl rfl (by decide +kernel) ?_
    refine x_astI C (by decide +kernel) (fun σ7 => ?_)
    refine x_aload_n C 0 (i := 0) (k0 := 0) rfl rfl (by decide +kernel) ?_
    refine x_gR C fl_RX1_18 (fun _ _ _ => rfl) (by decide +kernel) (fun value_8 => ?_)
    refine x_aload_n C 0 (i := 0) (k0 := 0) rfl rfl (by decide +kernel) ?_
    refine x_gI C fl_RX1_32 (fun _ _ _ => rfl) (by decide +kernel) (fun count_9 => ?_)
    show X z 0 0 σ7 40 [(0, ar this), (1, ai p0), (2, ai p1), (3, ai p2)] [ai count_9, ar value_8] _
    refine x_iload_n C 3 (i := 3) (k0 := 3) rfl rfl (by decide +kernel) ?_
    refine x_astI C (by decide +kernel) (fun σ10 => ?_)
    refine x_aload_n C 0 (i := 0) (k0 := 0) rfl rfl (by decide +kernel) ?_
    refine x_gR C fl_RX1_21 (fun _ _ _ => rfl) (by decide +kernel) (fun told_11 => ?_)
    refine x_aload_n C 0 (i := 0) (k0 := 0) rfl rfl (by decide +kernel) ?_
    refine x_gI C fl_RX1_32 (fun _ _ _ => rfl) (by decide +kernel) (fun count_12 => ?_)
    refine x_aload_n C 0 (i := 0) (k0 := 0) rfl rfl (by decide +kernel) ?_
    refine x_gI C fl_RX1_36 (fun _ _ _ => rfl) (by decide +kernel) (fun time_13 => ?_)
    show X z 0 0 σ10 54 [(0, ar this), (1, ai p0), (2, ai p1), (3, ai p2)] [ai time_13, ai count_12, ar told_11] _
    refine x_astI C (by decide +kernel) (fun σ14 => ?_)
    refine x_aload_n C 0 (i := 0) (k0 := 0) rfl rfl (by decide +kernel) ?_
    refine x_gR C fl_RX1_24 (fun _ _ _ => rfl) (by decide +kernel) (fun untold_15 => ?_)
    refine x_aload_n C 0 (i := 0) (k0 := 0) rfl rfl (by decide +kernel) ?_
    refine x_gI C fl_RX1_32 (fun _ _ _ => rfl) (by decide +kernel) (fun count_16 => ?_)
    refine x_iconst C (n := (-1)) (by decide +kernel) ?_
    refine x_astI C (by decide +kernel) (fun σ17 => ?_)
    refine x_aload_n C 0 (i := 0) (k0 := 0) rfl rfl (by decide +kernel) ?_
    show X z 0 0 σ17 66 [(0, ar this), (1, ai p0), (2, ai p1), (3, ai p2)] [ar this] _
    refine x_dup C rfl (by decide +kernel) ?_
    refine x_gI C fl_RX1_32 (fun _ _ _ => rfl) (by decide +kernel) (fun count_18 => ?_)
    refine x_iconst C (n := 1) (by decide +kernel) ?_
    refine x_iadd C (by decide +kernel) ?_
    refine x_pI C fl_RX1_32 rfl (fun q h => by cases h; rfl) (by decide +kernel) (fun σ19 => ?_)
    refine x_aload_n C 0 (i := 0) (k0 := 0) rfl rfl (by decide +kernel) ?_
    refine x_gI C fl_RX1_32 (fun _ _ _ => rfl) (by decide +kernel) (fun count_20 => ?_)
    refine x_iconst C (n := 1) (by decide +kernel) ?_
    show X z 0 0 σ19 80 [(0, ar this), (1, ai p0), (2, ai p1), (3, ai p2)] [ai 1, ai count_20] _
    refine x_isub C (by decide +kernel) ?_
    exact x_iret C ⟨Nat.zero_le _, Nat.zero_le _⟩ (by decide +kernel)
  · skip
    refine x_iconst C (n := (-1)) (by decide +kernel) ?_
    exact x_iret C ⟨Nat.zero_le _, Nat.zero_le _⟩ (by decide +kernel)

def rm_X1_takeBack : Room := { frames := 1, cells := 0, slots := 0, locals := 22 }
def f_X1_takeBack (N : Nat) (σ : St) (this : Nat) (p0 : Int) : Option (St × Int) :=
 Option.bind (gI shx σ 1 this 0) fun count_1 =>
 Option.bind (f_X11_within N σ p0 0 (count_1 - 1)) fun q2 =>
 (if wr q2.2 = 0 then some (σ, 0) else Option.bind (gR shx σ 1 this 6) fun untold_3 =>
 Option.bind (aI shx σ 1 untold_3 p0) fun a4 =>
 (if wr a4 = wr (-1) then Option.bind (gR shx σ 1 this 6) fun untold_5 =>
 Option.bind (gI shx σ 1 this 1) fun time_6 =>
 Option.bind (sI shx σ 1 untold_5 p0 time_6) fun σ7 =>
 some (σ7, 1) else some (σ, 0)))
set_option maxRecDepth 100000 in
set_option maxHeartbeats 4000000 in
theorem c_X1_takeBack (l : Launch) (D : va_G) (ca : Nat → ClassId) (ra : Nat → Nat) (N : Nat) (σ : St) (this : Nat) (p0 : Int) : Ctr l (D, ca, ra, shx) false yX1_takeBack cX1_takeBack 2 (some .boolean) rm_X1_takeBack σ [ar this, ai p0] (f_X1_takeBack N σ this p0) := by
  refine ctr_of (by decide) (Nat.le_of_ble_eq_true rfl) (fun z C => ?_)
  show X z 0 0 σ 0 [(0, ar this), (1, ai p0)] [] _
  unfold f_X1_takeBack
  refine x_iload_n C 1 (i := 1) (k0 := 1) rfl rfl (by decide +kernel) ?_
  refine x_iconst C (n := 0) (by decide +kernel) ?_
  refine x_aload_n C 0 (i := 0) (k0 := 0) rfl rfl (by decide +kernel) ?_
  refine x_gI C fl_RX1_32 (fun _ _ _ => rfl) (by decide +kernel) (fun count_1 => ?_)
  refine x_iconst C (n := 1) (by decide +kernel) ?_
  refine x_isub C (by decide +kernel) ?_
  refine x_callSNp C (c_X11_within l D ca ra N σ p0 0 (count_1 - 1)) (p_X11_within N σ p0 0 (count_1 - 1)) mt_X11_within ms_X11_within (List.mem_of_getElem? (i := 13) rfl) rfl (fun h => Bool.noConfusion h) ⟨Nat.le_of_ble_eq_true rfl, Nat.le_of_ble_eq_true rfl⟩ (Nat.le_of_ble_eq_true rfl) 0 0 ⟨rfl, rfl⟩ ⟨Nat.zero_le _, Nat.zero_le _⟩ (by decide +kernel) _ rfl (fun q2 => [ai q2.2]) (fun _ => rfl) (fun q2 => ?_)
  refine x_if_eq C (tgt := 24) (off := 13) (by decide) (by decide +kernel) (fun h9 => ?_) (fun h9 => ?_)
  · skip
    refine x_iconst C (n := 0) (by decide +kernel) ?_
    exact x_zret C (Or.inl rfl) ⟨Nat.zero_le _, Nat.zero_le _⟩ (by decide +kernel)
  · skip
    refine x_aload_n C 0 (i := 0) (k0 := 0) rfl rfl (by decide +kernel) ?_
    refine x_gR C fl_RX1_24 (fun _ _ _ => rfl) (by decide +kernel) (fun untold_3 => ?_)
    refine x_iload_n C 1 (i := 1) (k0 := 1) rfl rfl (by decide +kernel) ?_
    refine x_aldI C (by decide +kernel) (fun a4 => ?_)
    refine x_iconst C (n := (-1)) (by decide +kernel) ?_
    refine x_ic_eq C (tgt := 26) (off := 5) (by decide) (by decide +kernel) (fun h8 => ?_) (fun h8 => ?_)
    · skip
      refine x_aload_n C 0 (i := 0) (k0 := 0) rfl rfl (by decide +kernel) ?_
      refine x_gR C fl_RX1_24 (fun _ _ _ => rfl) (by decide +kernel) (fun untold_5 => ?_)
      refine x_iload_n C 1 (i := 1) (k0 := 1) rfl rfl (by decide +kernel) ?_
      refine x_aload_n C 0 (i := 0) (k0 := 0) rfl rfl (by decide +kernel) ?_
      refine x_gI C fl_RX1_36 (fun _ _ _ => rfl) (by decide +kernel) (fun time_6 => ?_)
      refine x_astI C (by decide +kernel) (fun σ7 => ?_)
      refine x_iconst C (n := 1) (by decide +kernel) ?_
      exact x_zret C (Or.inr rfl) ⟨Nat.zero_le _, Nat.zero_le _⟩ (by decide +kernel)
    · skip
      refine x_iconst C (n := 0) (by decide +kernel) ?_
      exact x_zret C (Or.inl rfl) ⟨Nat.zero_le _, Nat.zero_le _⟩ (by decide +kernel)

def rm_X1_letPass : Room := { frames := 1, cells := 0, slots := 0, locals := 22 }
def f_X1_letPass (N : Nat) (σ : St) (this : Nat) (p0 : Int) : Option (St × Int) :=
 Option.bind (f_X11_within N σ p0 0 1000) fun q1 =>
 (if wr q1.2 = 0 then some (σ, (-1)) else Option.bind (gI shx σ 1 this 1) fun time_2 =>
 (if wr 100000 < wr (time_2 + p0) then some (σ, (-1)) else Option.bind (gI shx σ 1 this 1) fun time_3 =>
 Option.bind (pI shx σ 1 this 1 (time_3 + p0)) fun σ4 =>
 Option.bind (gI shx σ4 1 this 1) fun time_5 =>
 some (σ4, time_5)))
set_option maxRecDepth 100000 in
set_option maxHeartbeats 4000000 in
theorem c_X1_letPass (l : Launch) (D : va_G) (ca : Nat → ClassId) (ra : Nat → Nat) (N : Nat) (σ : St) (this : Nat) (p0 : Int) : Ctr l (D, ca, ra, shx) false yX1_letPass cX1_letPass 2 (some .int) rm_X1_letPass σ [ar this, ai p0] (f_X1_letPass N σ this p0) := by
  refine ctr_of (by decide) (Nat.le_of_ble_eq_true rfl) (fun z C => ?_)
  show X z 0 0 σ 0 [(0, ar this), (1, ai p0)] [] _
  unfold f_X1_letPass
  refine x_iload_n C 1 (i := 1) (k0 := 1) rfl rfl (by decide +kernel) ?_
  refine x_iconst C (n := 0) (by decide +kernel) ?_
  refine x_sipush C (n := 1000) (by decide +kernel) (by decide +kernel) ?_
  refine x_callSNp C (c_X11_within l D ca ra N σ p0 0 1000) (p_X11_within N σ p0 0 1000) mt_X11_within ms_X11_within (List.mem_of_getElem? (i := 13) rfl) rfl (fun h => Bool.noConfusion h) ⟨Nat.le_of_ble_eq_true rfl, Nat.le_of_ble_eq_true rfl⟩ (Nat.le_of_ble_eq_true rfl) 0 0 ⟨rfl, rfl⟩ ⟨Nat.zero_le _, Nat.zero_le _⟩ (by decide +kernel) _ rfl (fun q1 => [ai q1.2]) (fun _ => rfl) (fun q1 => ?_)
  refine x_if_eq C (tgt := 22) (off := 14) (by decide) (by decide +kernel) (fun h7 => ?_) (fun h7 => ?_)
  · skip
    refine x_iconst C (n := (-1)) (by decide +kernel) ?_
    exact x_iret C ⟨Nat.zero_le _, Nat.zero_le _⟩ (by decide +kernel)
  · skip
    refine x_aload_n C 0 (i := 0) (k0 := 0) rfl rfl (by decide +kernel) ?_
    refine x_gI C fl_RX1_36 (fun _ _ _ => rfl) (by decide +kernel) (fun time_2 => ?_)
    refine x_iload_n C 1 (i := 1) (k0 := 1) rfl rfl (by decide +kernel) ?_
    refine x_iadd C (by decide +kernel) ?_
    refine x_ldc C (n := 100000) (v := 100000) kc_RX1_43 (by decide +kernel) (by decide +kernel) ?_
    refine x_ic_le C (tgt := 24) (off := 5) (by decide) (by decide +kernel) (fun h6 => ?_) (fun h6 => ?_)
    · skip
      refine x_aload_n C 0 (i := 0) (k0 := 0) rfl rfl (by decide +kernel) ?_
      refine x_dup C rfl (by decide +kernel) ?_
      refine x_gI C fl_RX1_36 (fun _ _ _ => rfl) (by decide +kernel) (fun time_3 => ?_)
      refine x_iload_n C 1 (i := 1) (k0 := 1) rfl rfl (by decide +kernel) ?_
      refine x_iadd C (by decide +kernel) ?_
      refine x_pI C fl_RX1_36 rfl (fun q h => by cases h; rfl) (by decide +kernel) (fun σ4 => ?_)
      refine x_aload_n C 0 (i := 0) (k0 := 0) rfl rfl (by decide +kernel) ?_
      refine x_gI C fl_RX1_36 (fun _ _ _ => rfl) (by decide +kernel) (fun time_5 => ?_)
      show X z 0 0 σ4 38 [(0, ar this), (1, ai p0)] [ai time_5] _
      exact x_iret C ⟨Nat.zero_le _, Nat.zero_le _⟩ (by decide +kernel)
    · skip
      refine x_iconst C (n := (-1)) (by decide +kernel) ?_
      exact x_iret C ⟨Nat.zero_le _, Nat.zero_le _⟩ (by decide +kernel)

def rm_X1_counts : Room := { frames := 1, cells := 0, slots := 0, locals := 22 }
def f_X1_counts (N : Nat) (σ : St) (this : Nat) (p0 : Int) (p1 : Int) : Option (St × Int) :=
 Option.bind (gI shx σ 1 this 0) fun count_1 =>
 Option.bind (f_X11_within N σ p0 0 (count_1 - 1)) fun q2 =>
 (if wr q2.2 = 0 then some (σ, 0) else Option.bind (gR shx σ 1 this 5) fun told_3 =>
 Option.bind (aI shx σ 1 told_3 p0) fun a4 =>
 (if wr p1 < wr a4 then some (σ, 0) else Option.bind (gR shx σ 1 this 6) fun untold_5 =>
 Option.bind (aI shx σ 1 untold_5 p0) fun a6 =>
 (if wr a6 = wr (-1) then some (σ, 1) else Option.bind (gR shx σ 1 this 6) fun untold_7 =>
 Option.bind (aI shx σ 1 untold_7 p0) fun a8 =>
 (if wr p1 < wr a8 then some (σ, 1) else some (σ, 0)))))
set_option maxRecDepth 100000 in
set_option maxHeartbeats 4000000 in
theorem c_X1_counts (l : Launch) (D : va_G) (ca : Nat → ClassId) (ra : Nat → Nat) (N : Nat) (σ : St) (this : Nat) (p0 : Int) (p1 : Int) : Ctr l (D, ca, ra, shx) false yX1_counts cX1_counts 3 (some .boolean) rm_X1_counts σ [ar this, ai p0, ai p1] (f_X1_counts N σ this p0 p1) := by
  refine ctr_of (by decide) (Nat.le_of_ble_eq_true rfl) (fun z C => ?_)
  show X z 0 0 σ 0 [(0, ar this), (1, ai p0), (2, ai p1)] [] _
  unfold f_X1_counts
  refine x_iload_n C 1 (i := 1) (k0 := 1) rfl rfl (by decide +kernel) ?_
  refine x_iconst C (n := 0) (by decide +kernel) ?_
  refine x_aload_n C 0 (i := 0) (k0 := 0) rfl rfl (by decide +kernel) ?_
  refine x_gI C fl_RX1_32 (fun _ _ _ => rfl) (by decide +kernel) (fun count_1 => ?_)
  refine x_iconst C (n := 1) (by decide +kernel) ?_
  refine x_isub C (by decide +kernel) ?_
  refine x_callSNp C (c_X11_within l D ca ra N σ p0 0 (count_1 - 1)) (p_X11_within N σ p0 0 (count_1 - 1)) mt_X11_within ms_X11_within (List.mem_of_getElem? (i := 13) rfl) rfl (fun h => Bool.noConfusion h) ⟨Nat.le_of_ble_eq_true rfl, Nat.le_of_ble_eq_true rfl⟩ (Nat.le_of_ble_eq_true rfl) 0 0 ⟨rfl, rfl⟩ ⟨Nat.zero_le _, Nat.zero_le _⟩ (by decide +kernel) _ rfl (fun q2 => [ai q2.2]) (fun _ => rfl) (fun q2 => ?_)
  refine x_if_ne C (tgt := 16) (off := 5) (by decide) (by decide +kernel) (fun h12 => ?_) (fun h12 => ?_)
  · skip
    refine x_aload_n C 0 (i := 0) (k0 := 0) rfl rfl (by decide +kernel) ?_
    refine x_gR C fl_RX1_21 (fun _ _ _ => rfl) (by decide +kernel) (fun told_3 => ?_)
    refine x_iload_n C 1 (i := 1) (k0 := 1) rfl rfl (by decide +kernel) ?_
    refine x_aldI C (by decide +kernel) (fun a4 => ?_)
    refine x_iload_n C 2 (i := 2) (k0 := 2) rfl rfl (by decide +kernel) ?_
    refine x_ic_gt C (tgt := 50) (off := 27) (by decide) (by decide +kernel) (fun h11 => ?_) (fun h11 => ?_)
    · skip
      refine x_iconst C (n := 0) (by decide +kernel) ?_
      exact x_zret C (Or.inl rfl) ⟨Nat.zero_le _, Nat.zero_le _⟩ (by decide +kernel)
    · skip
      refine x_aload_n C 0 (i := 0) (k0 := 0) rfl rfl (by decide +kernel) ?_
      refine x_gR C fl_RX1_24 (fun _ _ _ => rfl) (by decide +kernel) (fun untold_5 => ?_)
      refine x_iload_n C 1 (i := 1) (k0 := 1) rfl rfl (by decide +kernel) ?_
      refine x_aldI C (by decide +kernel) (fun a6 => ?_)
      refine x_iconst C (n := (-1)) (by decide +kernel) ?_
      refine x_ic_eq C (tgt := 46) (off := 13) (by decide) (by decide +kernel) (fun h10 => ?_) (fun h10 => ?_)
      · skip
        refine x_iconst C (n := 1) (by decide +kernel) ?_
        refine x_goto C (tgt := 51) (off := 4) (by decide) (by decide +kernel) ?_
        exact x_zret C (Or.inr rfl) ⟨Nat.zero_le _, Nat.zero_le _⟩ (by decide +kernel)
      · skip
        refine x_aload_n C 0 (i := 0) (k0 := 0) rfl rfl (by decide +kernel) ?_
        refine x_gR C fl_RX1_24 (fun _ _ _ => rfl) (by decide +kernel) (fun untold_7 => ?_)
        refine x_iload_n C 1 (i := 1) (k0 := 1) rfl rfl (by decide +kernel) ?_
        refine x_aldI C (by decide +kernel) (fun a8 => ?_)
        refine x_iload_n C 2 (i := 2) (k0 := 2) rfl rfl (by decide +kernel) ?_
        refine x_ic_le C (tgt := 50) (off := 7) (by decide) (by decide +kernel) (fun h9 => ?_) (fun h9 => ?_)
        · skip
          refine x_iconst C (n := 0) (by decide +kernel) ?_
          exact x_zret C (Or.inl rfl) ⟨Nat.zero_le _, Nat.zero_le _⟩ (by decide +kernel)
        · skip
          refine x_iconst C (n := 1) (by decide +kernel) ?_
          refine x_goto C (tgt := 51) (off := 4) (by decide) (by decide +kernel) ?_
          exact x_zret C (Or.inr rfl) ⟨Nat.zero_le _, Nat.zero_le _⟩ (by decide +kernel)
  · skip
    refine x_iconst C (n := 0) (by decide +kernel) ?_
    exact x_zret C (Or.inl rfl) ⟨Nat.zero_le _, Nat.zero_le _⟩ (by decide +kernel)
theorem p_X1_counts (N : Nat) (σ : St) (this : Nat) (p0 : Int) (p1 : Int) : Pu σ (f_X1_counts N σ this p0 p1) := by
  unfold f_X1_counts
  refine pu_bind (fun _ => ?_)
  refine pu_bind (fun _ => ?_)
  refine pu_ifs ?_ ?_
  · skip
    refine pu_bind (fun _ => ?_)
    refine pu_bind (fun _ => ?_)
    refine pu_if ?_ ?_
    · skip
      exact pu_some
    · skip
      refine pu_bind (fun _ => ?_)
      refine pu_bind (fun _ => ?_)
      refine pu_if ?_ ?_
      · skip
        exact pu_some
      · skip
        refine pu_bind (fun _ => ?_)
        refine pu_bind (fun _ => ?_)
        refine pu_ifs ?_ ?_
        · skip
          exact pu_some
        · skip
          exact pu_some
  · skip
    exact pu_some

def rm_X1_moveBy : Room := { frames := 1, cells := 0, slots := 0, locals := 22 }
def f_X1_moveBy (N : Nat) (σ : St) (this : Nat) (p0 : Int) (p1 : Int) : Option (St × Int) :=
 Option.bind (f_X11_within N σ p0 0 11) fun q1 =>
 (if wr q1.2 = 0 then some (σ, 0) else Option.bind (gR shx σ 1 this 7) fun months_2 =>
 Option.bind (aI shx σ 1 months_2 p0) fun a3 =>
 Jn (fun t4 : Unit => Option.bind (gR shx σ 1 this 7) fun months_5 =>
 Option.bind (sI shx σ 1 months_5 p0 p1) fun σ6 =>
 some (σ6, 0)) fun J30_6 =>
 (if wr a3 = wr (-1) then J30_6 () else Option.bind (gR shx σ 1 this 7) fun months_8 =>
 Option.bind (aI shx σ 1 months_8 p0) fun a9 =>
 (if wr p1 < wr a9 then J30_6 () else some (σ, 0))))
set_option maxRecDepth 100000 in
set_option maxHeartbeats 4000000 in
theorem c_X1_moveBy (l : Launch) (D : va_G) (ca : Nat → ClassId) (ra : Nat → Nat) (N : Nat) (σ : St) (this : Nat) (p0 : Int) (p1 : Int) : Ctr l (D, ca, ra, shx) false yX1_moveBy cX1_moveBy 3 none rm_X1_moveBy σ [ar this, ai p0, ai p1] (f_X1_moveBy N σ this p0 p1) := by
  refine ctr_of (by decide) (Nat.le_of_ble_eq_true rfl) (fun z C => ?_)
  show X z 0 0 σ 0 [(0, ar this), (1, ai p0), (2, ai p1)] [] _
  unfold f_X1_moveBy
  refine x_iload_n C 1 (i := 1) (k0 := 1) rfl rfl (by decide +kernel) ?_
  refine x_iconst C (n := 0) (by decide +kernel) ?_
  refine x_bipush C (n := 11) (by decide +kernel) (by decide +kernel) ?_
  refine x_callSNp C (c_X11_within l D ca ra N σ p0 0 11) (p_X11_within N σ p0 0 11) mt_X11_within ms_X11_within (List.mem_of_getElem? (i := 13) rfl) rfl (fun h => Bool.noConfusion h) ⟨Nat.le_of_ble_eq_true rfl, Nat.le_of_ble_eq_true rfl⟩ (Nat.le_of_ble_eq_true rfl) 0 0 ⟨rfl, rfl⟩ ⟨Nat.zero_le _, Nat.zero_le _⟩ (by decide +kernel) _ rfl (fun q1 => [ai q1.2]) (fun _ => rfl) (fun q1 => ?_)
  refine x_if_eq C (tgt := 37) (off := 30) (by decide) (by decide +kernel) (fun h12 => ?_) (fun h12 => ?_)
  · skip
    exact x_vret C ⟨Nat.zero_le _, Nat.zero_le _⟩ (by decide +kernel)
  · skip
    refine x_aload_n C 0 (i := 0) (k0 := 0) rfl rfl (by decide +kernel) ?_
    refine x_gR C fl_RX1_29 (fun _ _ _ => rfl) (by decide +kernel) (fun months_2 => ?_)
    refine x_iload_n C 1 (i := 1) (k0 := 1) rfl rfl (by decide +kernel) ?_
    refine x_aldI C (by decide +kernel) (fun a3 => ?_)
    refine x_iconst C (n := (-1)) (by decide +kernel) ?_
    refine x_join (T := Unit) (fun t => σ) 30 (fun t => [(0, ar this), (1, ai p0), (2, ai p1)]) (fun t => []) (fun t4 => ?_) (fun J30_6 hJ30_6 => ?_)
    · show X z 0 0 σ 30 [(0, ar this), (1, ai p0), (2, ai p1)] [] _
      refine x_aload_n C 0 (i := 0) (k0 := 0) rfl rfl (by decide +kernel) ?_
      refine x_gR C fl_RX1_29 (fun _ _ _ => rfl) (by decide +kernel) (fun months_5 => ?_)
      refine x_iload_n C 1 (i := 1) (k0 := 1) rfl rfl (by decide +kernel) ?_
      refine x_iload_n C 2 (i := 2) (k0 := 2) rfl rfl (by decide +kernel) ?_
      refine x_astI C (by decide +kernel) (fun σ6 => ?_)
      exact x_vret C ⟨Nat.zero_le _, Nat.zero_le _⟩ (by decide +kernel)
    · skip
      refine x_ic_eq C (tgt := 30) (off := 13) (by decide) (by decide +kernel) (fun h11 => ?_) (fun h11 => ?_)
      · skip
        exact hJ30_6 ()
      · skip
        refine x_iload_n C 2 (i := 2) (k0 := 2) rfl rfl (by decide +kernel) ?_
        refine x_aload_n C 0 (i := 0) (k0 := 0) rfl rfl (by decide +kernel) ?_
        refine x_gR C fl_RX1_29 (fun _ _ _ => rfl) (by decide +kernel) (fun months_8 => ?_)
        refine x_iload_n C 1 (i := 1) (k0 := 1) rfl rfl (by decide +kernel) ?_
        refine x_aldI C (by decide +kernel) (fun a9 => ?_)
        refine x_ic_ge C (tgt := 37) (off := 10) (by decide) (by decide +kernel) (fun h10 => ?_) (fun h10 => ?_)
        · skip
          exact x_vret C ⟨Nat.zero_le _, Nat.zero_le _⟩ (by decide +kernel)
        · skip
          exact hJ30_6 ()

def rm_X1_monthOf : Room := { frames := 1, cells := 0, slots := 0, locals := 22 }
def f_X1_monthOf (N : Nat) (σ : St) (this : Nat) (p0 : Int) : Option (St × Int) :=
 Option.bind (f_X11_within N σ p0 0 11) fun q1 =>
 (if wr q1.2 = 0 then some (σ, (-1)) else Option.bind (gR shx σ 1 this 7) fun months_2 =>
 Option.bind (aI shx σ 1 months_2 p0) fun a3 =>
 some (σ, a3))
set_option maxRecDepth 100000 in
set_option maxHeartbeats 4000000 in
theorem c_X1_monthOf (l : Launch) (D : va_G) (ca : Nat → ClassId) (ra : Nat → Nat) (N : Nat) (σ : St) (this : Nat) (p0 : Int) : Ctr l (D, ca, ra, shx) false yX1_monthOf cX1_monthOf 2 (some .int) rm_X1_monthOf σ [ar this, ai p0] (f_X1_monthOf N σ this p0) := by
  refine ctr_of (by decide) (Nat.le_of_ble_eq_true rfl) (fun z C => ?_)
  show X z 0 0 σ 0 [(0, ar this), (1, ai p0)] [] _
  unfold f_X1_monthOf
  refine x_iload_n C 1 (i := 1) (k0 := 1) rfl rfl (by decide +kernel) ?_
  refine x_iconst C (n := 0) (by decide +kernel) ?_
  refine x_bipush C (n := 11) (by decide +kernel) (by decide +kernel) ?_
  refine x_callSNp C (c_X11_within l D ca ra N σ p0 0 11) (p_X11_within N σ p0 0 11) mt_X11_within ms_X11_within (List.mem_of_getElem? (i := 13) rfl) rfl (fun h => Bool.noConfusion h) ⟨Nat.le_of_ble_eq_true rfl, Nat.le_of_ble_eq_true rfl⟩ (Nat.le_of_ble_eq_true rfl) 0 0 ⟨rfl, rfl⟩ ⟨Nat.zero_le _, Nat.zero_le _⟩ (by decide +kernel) _ rfl (fun q1 => [ai q1.2]) (fun _ => rfl) (fun q1 => ?_)
  refine x_if_eq C (tgt := 19) (off := 12) (by decide) (by decide +kernel) (fun h4 => ?_) (fun h4 => ?_)
  · skip
    refine x_iconst C (n := (-1)) (by decide +kernel) ?_
    exact x_iret C ⟨Nat.zero_le _, Nat.zero_le _⟩ (by decide +kernel)
  · skip
    refine x_aload_n C 0 (i := 0) (k0 := 0) rfl rfl (by decide +kernel) ?_
    refine x_gR C fl_RX1_29 (fun _ _ _ => rfl) (by decide +kernel) (fun months_2 => ?_)
    refine x_iload_n C 1 (i := 1) (k0 := 1) rfl rfl (by decide +kernel) ?_
    refine x_aldI C (by decide +kernel) (fun a3 => ?_)
    refine x_goto C (tgt := 20) (off := 4) (by decide) (by decide +kernel) ?_
    exact x_iret C ⟨Nat.zero_le _, Nat.zero_le _⟩ (by decide +kernel)
theorem p_X1_monthOf (N : Nat) (σ : St) (this : Nat) (p0 : Int) : Pu σ (f_X1_monthOf N σ this p0) := by
  unfold f_X1_monthOf
  refine pu_bind (fun _ => ?_)
  refine pu_if ?_ ?_
  · skip
    exact pu_some
  · skip
    refine pu_bind (fun _ => ?_)
    refine pu_bind (fun _ => ?_)
    exact pu_some

def L_X1_moveOthers_2 (N : Nat) (this : Nat) (p0 : Nat) : (St × Int) → Option (St × Int) := fixN N fun b2_1 t1 =>
 Option.bind (gI shx t1.1 3 p0 11) fun moves_3 =>
 (if wr t1.2 < wr moves_3 then Option.bind (gR shx t1.1 3 p0 12) fun mover_4 =>
 Option.bind (aI shx t1.1 1 mover_4 t1.2) fun a5 =>
 Option.bind (rcv shx t1.1 1 this (f_X1_monthOf N t1.1 this a5)) fun q6 =>
 Jn (fun t7 : St => Lt (t1.2 + 1) fun x8 =>
 b2_1 (t7, x8)) fun J44_8 =>
 (if wr q6.2 = wr (-1) then J44_8 t1.1 else Option.bind (gR shx t1.1 3 p0 13) fun moved_10 =>
 Option.bind (aI shx t1.1 1 moved_10 t1.2) fun a11 =>
 Option.bind (gR shx t1.1 3 p0 14) fun after_12 =>
 Option.bind (aI shx t1.1 1 after_12 t1.2) fun a13 =>
 Option.bind (rcv shx t1.1 1 this (f_X1_moveBy N t1.1 this a11 (q6.2 + a13))) fun q14 =>
 J44_8 q14.1) else some (t1.1, 0))
def rm_X1_moveOthers : Room := { frames := 2, cells := 0, slots := 0, locals := 44 }
def f_X1_moveOthers (N : Nat) (σ : St) (this : Nat) (p0 : Nat) : Option (St × Int) :=
 L_X1_moveOthers_2 N this p0 (σ, 0)
set_option maxRecDepth 100000 in
set_option maxHeartbeats 4000000 in
theorem c_X1_moveOthers (l : Launch) (D : va_G) (ca : Nat → ClassId) (ra : Nat → Nat) (N : Nat) (σ : St) (this : Nat) (p0 : Nat) : Ctr l (D, ca, ra, shx) false yX1_moveOthers cX1_moveOthers 4 none rm_X1_moveOthers σ [ar this, ar p0] (f_X1_moveOthers N σ this p0) := by
  refine ctr_of (by decide) (Nat.le_of_ble_eq_true rfl) (fun z C => ?_)
  show X z 0 0 σ 0 [(0, ar this), (1, ar p0)] [] _
  unfold f_X1_moveOthers
  refine x_iconst C (n := 0) (by decide +kernel) ?_
  refine x_istore_n C (i := 2) (k0 := 2) rfl (Nat.le_of_ble_eq_true rfl) (by decide +kernel) (lv2 := [(2, ai 0), (0, ar this), (1, ar p0)]) rfl ?_
  refine x_sub [1, 2, 0] (lv2 := [(0, ar this), (1, ar p0), (2, ai 0)]) rfl ?_
  -- LOOP L_X1_moveOthers_2 hb2_1
  refine x_loop (T := St × Int) (fun t => t.1) (fun t => [(0, ar this), (1, ar p0), (2, ai t.2)]) (σ, 0) rfl (fun b2_1 hb2_1 t1 => ?_)
  show X z 0 0 t1.1 2 [(0, ar this), (1, ar p0), (2, ai t1.2)] [] _
  refine x_iload_n C 2 (i := 2) (k0 := 2) rfl rfl (by decide +kernel) ?_
  refine x_aload_n C 1 (i := 1) (k0 := 1) rfl rfl (by decide +kernel) ?_
  refine x_gI C fl_RX1_89 (fun _ _ _ => rfl) (by decide +kernel) (fun moves_3 => ?_)
  refine x_ic_ge C (tgt := 50) (off := 43) (by decide) (by decide +kernel) (fun h16 => ?_) (fun h16 => ?_)
  · skip
    exact x_vret C ⟨Nat.zero_le _, Nat.zero_le _⟩ (by decide +kernel)
  · skip
    refine x_aload_n C 0 (i := 0) (k0 := 0) rfl rfl (by decide +kernel) ?_
    refine x_aload_n C 1 (i := 1) (k0 := 1) rfl rfl (by decide +kernel) ?_
    refine x_gR C fl_RX1_92 (fun _ _ _ => rfl) (by decide +kernel) (fun mover_4 => ?_)
    refine x_iload_n C 2 (i := 2) (k0 := 2) rfl rfl (by decide +kernel) ?_
    refine x_aldI C (by decide +kernel) (fun a5 => ?_)
    refine x_callVp C (ci := 1) (c_X1_monthOf l D ca ra N t1.1 this a5) (p_X1_monthOf N t1.1 this a5) mt_X1_monthOf mv_X1_monthOf rfl ml_RX1_95 rfl (fun h => Bool.noConfusion h) ⟨Nat.le_of_ble_eq_true rfl, Nat.le_of_ble_eq_true rfl⟩ (Nat.le_of_ble_eq_true rfl) 0 0 ⟨rfl, rfl⟩ ⟨Nat.zero_le _, Nat.zero_le _⟩ (by decide +kernel) _ rfl (fun q6 => [ai q6.2]) (fun _ => rfl) (fun q6 => ?_)
    refine x_istore_n C (i := 3) (k0 := 3) rfl (Nat.le_of_ble_eq_true rfl) (by decide +kernel) (lv2 := [(3, ai q6.2), (0, ar this), (1, ar p0), (2, ai t1.2)]) rfl ?_
    refine x_iload_n C 0 (i := 3) (k0 := 3) rfl rfl (by decide +kernel) ?_
    show X z 0 0 t1.1 22 [(3, ai q6.2), (0, ar this), (1, ar p0), (2, ai t1.2)] [ai q6.2] _
    refine x_iconst C (n := (-1)) (by decide +kernel) ?_
    refine x_join (T := St) (fun t => t) 44 (fun t => [(0, ar this), (1, ar p0), (2, ai t1.2)]) (fun t => []) (fun t7 => ?_) (fun J44_8 hJ44_8 => ?_)
    · show X z 0 0 t7 44 [(0, ar this), (1, ar p0), (2, ai t1.2)] [] _
      refine x_iinc C 2 (i := 2) (n := 1) (Nat.le_of_ble_eq_true rfl) rfl (by decide +kernel) (lv2 := fun x8 => [(2, ai x8), (0, ar this), (1, ar p0)]) (fun _ => rfl) (fun x8 => ?_)
      refine x_goto C (tgt := 2) (off := (-45)) (by decide) (by decide +kernel) ?_
      refine x_sub [1, 2, 0] (lv2 := [(0, ar this), (1, ar p0), (2, ai x8)]) rfl ?_
      exact hb2_1 (t7, x8)
    · skip
      refine x_ic_eq C (tgt := 44) (off := 21) (by decide) (by decide +kernel) (fun h15 => ?_) (fun h15 => ?_)
      · skip
        refine x_sub [1, 2, 3] (lv2 := [(0, ar this), (1, ar p0), (2, ai t1.2)]) rfl ?_
        exact hJ44_8 t1.1
      · skip
        refine x_aload_n C 1 (i := 0) (k0 := 0) rfl rfl (by decide +kernel) ?_
        refine x_aload_n C 2 (i := 1) (k0 := 1) rfl rfl (by decide +kernel) ?_
        refine x_gR C fl_RX1_99 (fun _ _ _ => rfl) (by decide +kernel) (fun moved_10 => ?_)
        refine x_iload_n C 3 (i := 2) (k0 := 2) rfl rfl (by decide +kernel) ?_
        refine x_aldI C (by decide +kernel) (fun a11 => ?_)
        refine x_iload_n C 0 (i := 3) (k0 := 3) rfl rfl (by decide +kernel) ?_
        refine x_aload_n C 2 (i := 1) (k0 := 1) rfl rfl (by decide +kernel) ?_
        refine x_gR C fl_RX1_102 (fun _ _ _ => rfl) (by decide +kernel) (fun after_12 => ?_)
        show X z 0 0 t1.1 38 [(3, ai q6.2), (0, ar this), (1, ar p0), (2, ai t1.2)] [ar after_12, ai q6.2, ai a11, ar this] _
        refine x_iload_n C 3 (i := 2) (k0 := 2) rfl rfl (by decide +kernel) ?_
        refine x_aldI C (by decide +kernel) (fun a13 => ?_)
        refine x_iadd C (by decide +kernel) ?_
        refine x_callV C (ci := 1) (c_X1_moveBy l D ca ra N t1.1 this a11 (q6.2 + a13)) mt_X1_moveBy mv_X1_moveBy rfl ml_RX1_54 rfl (fun h => Bool.noConfusion h) ⟨Nat.le_of_ble_eq_true rfl, Nat.le_of_ble_eq_true rfl⟩ (Nat.le_of_ble_eq_true rfl) 0 0 ⟨rfl, rfl⟩ ⟨Nat.zero_le _, Nat.zero_le _⟩ (by decide +kernel) _ rfl (fun q14 => []) (fun _ => rfl) (fun q14 => ?_)
        refine x_sub [1, 2, 3] (lv2 := [(0, ar this), (1, ar p0), (2, ai t1.2)]) rfl ?_
        exact hJ44_8 q14.1

def L_X1_findMonths_60 (N : Nat) (this : Nat) (p0 : Nat) : (St × Int) → Option (St × Int) := fixN N fun b60_4 t4 =>
 Option.bind (gI shx t4.1 3 p0 1) fun parts_6 =>
 (if wr t4.2 < wr parts_6 then Option.bind (rcv shx t4.1 1 this (f_X1_moveOthers N t4.1 this p0)) fun q7 =>
 Lt (t4.2 + 1) fun x8 =>
 b60_4 (q7.1, x8) else some (t4.1, 0))
def L_X1_findMonths_10 (N : Nat) (this : Nat) (p1 : Int) (J58_9 : (St → Option (St × Int))) : (St × Int) → Option (St × Int) := fixN N fun b10_11 t11 =>
 Option.bind (gI shx t11.1 1 this 0) fun count_13 =>
 (if wr t11.2 < wr count_13 then Option.bind (gR shx t11.1 1 this 2) fun kind_14 =>
 Option.bind (aI shx t11.1 1 kind_14 t11.2) fun a15 =>
 Jn (fun t16 : St => Lt (t11.2 + 1) fun x17 =>
 b10_11 (t16, x17)) fun J52_17 =>
 (if wr a15 = 0 then Option.bind (rcv shx t11.1 1 this (f_X1_counts N t11.1 this t11.2 p1)) fun q19 =>
 (if wr q19.2 = 0 then J52_17 t11.1 else Option.bind (gR shx t11.1 1 this 4) fun value_20 =>
 Option.bind (aI shx t11.1 1 value_20 t11.2) fun a21 =>
 Option.bind (gR shx t11.1 1 this 3) fun month_22 =>
 Option.bind (aI shx t11.1 1 month_22 t11.2) fun a23 =>
 Option.bind (rcv shx t11.1 1 this (f_X1_moveBy N t11.1 this a21 a23)) fun q24 =>
 J52_17 q24.1) else J52_17 t11.1) else J58_9 t11.1)
def rm_X1_findMonths : Room := { frames := 3, cells := 0, slots := 0, locals := 67 }
def f_X1_findMonths (N : Nat) (σ : St) (this : Nat) (p0 : Nat) (p1 : Int) : Option (St × Int) :=
 Option.bind (gR shx σ 1 this 7) fun months_1 =>
 Option.bind (f_J7_fill_53178 N σ months_1 (-1)) fun q2 =>
 Jn (fun t3 : St => L_X1_findMonths_60 N this p0 (t3, 0)) fun J58_9 =>
 L_X1_findMonths_10 N this p1 J58_9 (q2.1, 0)
set_option maxRecDepth 100000 in
set_option maxHeartbeats 4000000 in
theorem c_X1_findMonths (l : Launch) (D : va_G) (ca : Nat → ClassId) (ra : Nat → Nat) (N : Nat) (σ : St) (this : Nat) (p0 : Nat) (p1 : Int) : Ctr l (D, ca, ra, shx) false yX1_findMonths cX1_findMonths 4 none rm_X1_findMonths σ [ar this, ar p0, ai p1] (f_X1_findMonths N σ this p0 p1) := by
  refine ctr_of (by decide) (Nat.le_of_ble_eq_true rfl) (fun z C => ?_)
  show X z 0 0 σ 0 [(0, ar this), (1, ar p0), (2, ai p1)] [] _
  unfold f_X1_findMonths
  refine x_aload_n C 0 (i := 0) (k0 := 0) rfl rfl (by decide +kernel) ?_
  refine x_gR C fl_RX1_29 (fun _ _ _ => rfl) (by decide +kernel) (fun months_1 => ?_)
  refine x_iconst C (n := (-1)) (by decide +kernel) ?_
  refine x_callS C (c_J7_fill_53178 l D ca ra N σ months_1 (-1)) mt_J7_fill_53178 ms_J7_fill_53178 ml_RX1_44 rfl (fun h => Bool.noConfusion h) ⟨Nat.le_of_ble_eq_true rfl, Nat.le_of_ble_eq_true rfl⟩ (Nat.le_of_ble_eq_true rfl) 0 0 ⟨rfl, rfl⟩ ⟨Nat.zero_le _, Nat.zero_le _⟩ (by decide +kernel) _ rfl (fun q2 => []) (fun _ => rfl) (fun q2 => ?_)
  refine x_iconst C (n := 0) (by decide +kernel) ?_
  refine x_istore_n C (i := 3) (k0 := 3) rfl (Nat.le_of_ble_eq_true rfl) (by decide +kernel) (lv2 := [(3, ai 0), (0, ar this), (1, ar p0), (2, ai p1)]) rfl ?_
  refine x_join (T := St) (fun t => t) 58 (fun t => [(0, ar this), (1, ar p0)]) (fun t => []) (fun t3 => ?_) (fun J58_9 hJ58_9 => ?_)
  · show X z 0 0 t3 58 [(0, ar this), (1, ar p0)] [] _
    refine x_iconst C (n := 0) (by decide +kernel) ?_
    refine x_istore_n C (i := 3) (k0 := 3) rfl (Nat.le_of_ble_eq_true rfl) (by decide +kernel) (lv2 := [(3, ai 0), (0, ar this), (1, ar p0)]) rfl ?_
    refine x_sub [1, 2, 0] (lv2 := [(0, ar this), (1, ar p0), (3, ai 0)]) rfl ?_
    -- LOOP L_X1_findMonths_60 hb60_4
    refine x_loop (T := St × Int) (fun t => t.1) (fun t => [(0, ar this), (1, ar p0), (3, ai t.2)]) (t3, 0) rfl (fun b60_4 hb60_4 t4 => ?_)
    show X z 0 0 t4.1 60 [(0, ar this), (1, ar p0), (3, ai t4.2)] [] _
    refine x_iload_n C 2 (i := 3) (k0 := 3) rfl rfl (by decide +kernel) ?_
    refine x_aload_n C 1 (i := 1) (k0 := 1) rfl rfl (by decide +kernel) ?_
    refine x_gI C fl_RX1_58 (fun _ _ _ => rfl) (by decide +kernel) (fun parts_6 => ?_)
    refine x_ic_ge C (tgt := 79) (off := 14) (by decide) (by decide +kernel) (fun h9 => ?_) (fun h9 => ?_)
    · skip
      exact x_vret C ⟨Nat.zero_le _, Nat.zero_le _⟩ (by decide +kernel)
    · skip
      refine x_aload_n C 0 (i := 0) (k0 := 0) rfl rfl (by decide +kernel) ?_
      refine x_aload_n C 1 (i := 1) (k0 := 1) rfl rfl (by decide +kernel) ?_
      refine x_callV C (ci := 1) (c_X1_moveOthers l D ca ra N t4.1 this p0) mt_X1_moveOthers mv_X1_moveOthers rfl ml_RX1_61 rfl (fun h => Bool.noConfusion h) ⟨Nat.le_of_ble_eq_true rfl, Nat.le_of_ble_eq_true rfl⟩ (Nat.le_of_ble_eq_true rfl) 0 0 ⟨rfl, rfl⟩ ⟨Nat.zero_le _, Nat.zero_le _⟩ (by decide +kernel) _ rfl (fun q7 => []) (fun _ => rfl) (fun q7 => ?_)
      refine x_iinc C 2 (i := 3) (n := 1) (Nat.le_of_ble_eq_true rfl) rfl (by decide +kernel) (lv2 := fun x8 => [(3, ai x8), (0, ar this), (1, ar p0)]) (fun _ => rfl) (fun x8 => ?_)
      refine x_goto C (tgt := 60) (off := (-16)) (by decide) (by decide +kernel) ?_
      refine x_sub [1, 2, 0] (lv2 := [(0, ar this), (1, ar p0), (3, ai x8)]) rfl ?_
      exact hb60_4 (q7.1, x8)
  · skip
    refine x_sub [1, 2, 3, 0] (lv2 := [(0, ar this), (1, ar p0), (2, ai p1), (3, ai 0)]) rfl ?_
    -- LOOP L_X1_findMonths_10 hb10_11
    refine x_loop (T := St × Int) (fun t => t.1) (fun t => [(0, ar this), (1, ar p0), (2, ai p1), (3, ai t.2)]) (q2.1, 0) rfl (fun b10_11 hb10_11 t11 => ?_)
    show X z 0 0 t11.1 10 [(0, ar this), (1, ar p0), (2, ai p1), (3, ai t11.2)] [] _
    refine x_iload_n C 3 (i := 3) (k0 := 3) rfl rfl (by decide +kernel) ?_
    refine x_aload_n C 0 (i := 0) (k0 := 0) rfl rfl (by decide +kernel) ?_
    refine x_gI C fl_RX1_32 (fun _ _ _ => rfl) (by decide +kernel) (fun count_13 => ?_)
    refine x_ic_ge C (tgt := 58) (off := 43) (by decide) (by decide +kernel) (fun h27 => ?_) (fun h27 => ?_)
    · skip
      refine x_sub [0, 1] (lv2 := [(0, ar this), (1, ar p0)]) rfl ?_
      exact hJ58_9 t11.1
    · skip
      refine x_aload_n C 0 (i := 0) (k0 := 0) rfl rfl (by decide +kernel) ?_
      refine x_gR C fl_RX1_11 (fun _ _ _ => rfl) (by decide +kernel) (fun kind_14 => ?_)
      refine x_iload_n C 3 (i := 3) (k0 := 3) rfl rfl (by decide +kernel) ?_
      refine x_aldI C (by decide +kernel) (fun a15 => ?_)
      refine x_join (T := St) (fun t => t) 52 (fun t => [(0, ar this), (1, ar p0), (2, ai p1), (3, ai t11.2)]) (fun t => []) (fun t16 => ?_) (fun J52_17 hJ52_17 => ?_)
      · show X z 0 0 t16 52 [(0, ar this), (1, ar p0), (2, ai p1), (3, ai t11.2)] [] _
        refine x_iinc C 3 (i := 3) (n := 1) (Nat.le_of_ble_eq_true rfl) rfl (by decide +kernel) (lv2 := fun x17 => [(3, ai x17), (0, ar this), (1, ar p0), (2, ai p1)]) (fun _ => rfl) (fun x17 => ?_)
        refine x_goto C (tgt := 10) (off := (-45)) (by decide) (by decide +kernel) ?_
        refine x_sub [1, 2, 3, 0] (lv2 := [(0, ar this), (1, ar p0), (2, ai p1), (3, ai x17)]) rfl ?_
        exact hb10_11 (t16, x17)
      · skip
        refine x_if_ne C (tgt := 52) (off := 28) (by decide) (by decide +kernel) (fun h26 => ?_) (fun h26 => ?_)
        · skip
          exact hJ52_17 t11.1
        · skip
          refine x_aload_n C 0 (i := 0) (k0 := 0) rfl rfl (by decide +kernel) ?_
          refine x_iload_n C 3 (i := 3) (k0 := 3) rfl rfl (by decide +kernel) ?_
          refine x_iload_n C 2 (i := 2) (k0 := 2) rfl rfl (by decide +kernel) ?_
          refine x_callVp C (ci := 1) (c_X1_counts l D ca ra N t11.1 this t11.2 p1) (p_X1_counts N t11.1 this t11.2 p1) mt_X1_counts mv_X1_counts rfl ml_RX1_50 rfl (fun h => Bool.noConfusion h) ⟨Nat.le_of_ble_eq_true rfl, Nat.le_of_ble_eq_true rfl⟩ (Nat.le_of_ble_eq_true rfl) 0 0 ⟨rfl, rfl⟩ ⟨Nat.zero_le _, Nat.zero_le _⟩ (by decide +kernel) _ rfl (fun q19 => [ai q19.2]) (fun _ => rfl) (fun q19 => ?_)
          refine x_if_eq C (tgt := 52) (off := 19) (by decide) (by decide +kernel) (fun h25 => ?_) (fun h25 => ?_)
          · skip
            exact hJ52_17 t11.1
          · skip
            refine x_aload_n C 0 (i := 0) (k0 := 0) rfl rfl (by decide +kernel) ?_
            refine x_aload_n C 0 (i := 0) (k0 := 0) rfl rfl (by decide +kernel) ?_
            refine x_gR C fl_RX1_18 (fun _ _ _ => rfl) (by decide +kernel) (fun value_20 => ?_)
            refine x_iload_n C 3 (i := 3) (k0 := 3) rfl rfl (by decide +kernel) ?_
            refine x_aldI C (by decide +kernel) (fun a21 => ?_)
            refine x_aload_n C 0 (i := 0) (k0 := 0) rfl rfl (by decide +kernel) ?_
            refine x_gR C fl_RX1_15 (fun _ _ _ => rfl) (by decide +kernel) (fun month_22 => ?_)
            refine x_iload_n C 3 (i := 3) (k0 := 3) rfl rfl (by decide +kernel) ?_
            show X z 0 0 t11.1 48 [(0, ar this), (1, ar p0), (2, ai p1), (3, ai t11.2)] [ai t11.2, ar month_22, ai a21, ar this] _
            refine x_aldI C (by decide +kernel) (fun a23 => ?_)
            refine x_callV C (ci := 1) (c_X1_moveBy l D ca ra N t11.1 this a21 a23) mt_X1_moveBy mv_X1_moveBy rfl ml_RX1_54 rfl (fun h => Bool.noConfusion h) ⟨Nat.le_of_ble_eq_true rfl, Nat.le_of_ble_eq_true rfl⟩ (Nat.le_of_ble_eq_true rfl) 0 0 ⟨rfl, rfl⟩ ⟨Nat.zero_le _, Nat.zero_le _⟩ (by decide +kernel) _ rfl (fun q24 => []) (fun _ => rfl) (fun q24 => ?_)
            exact hJ52_17 q24.1

def L_X1_spent_6 (N : Nat) (σ : St) (this : Nat) (p0 : Nat) (p1 : Int) (p2 : Int) : (Int × Int) → Option (St × Int) := fixN N fun b6_1 t1 =>
 Option.bind (gI shx σ 3 p0 1) fun parts_3 =>
 (if wr t1.2 < wr parts_3 then Option.bind (gR shx σ 1 this 7) fun months_4 =>
 Option.bind (aI shx σ 1 months_4 t1.2) fun a5 =>
 Jn (fun t6 : Int => Lt (t1.2 + 1) fun x7 =>
 b6_1 (t6, x7)) fun J53_7 =>
 (if wr a5 = wr (-1) then J53_7 t1.1 else Option.bind (gR shx σ 1 this 7) fun months_9 =>
 Option.bind (aI shx σ 1 months_9 t1.2) fun a10 =>
 Option.bind (f_X11_within N σ a10 p1 p2) fun q11 =>
 (if wr q11.2 = 0 then J53_7 t1.1 else Option.bind (gR shx σ 3 p0 6) fun costs_12 =>
 Option.bind (aI shx σ 1 costs_12 t1.2) fun a13 =>
 Lt (t1.1 + a13) fun x14 =>
 J53_7 x14)) else some (σ, t1.1))
def rm_X1_spent : Room := { frames := 1, cells := 0, slots := 0, locals := 22 }
def f_X1_spent (N : Nat) (σ : St) (this : Nat) (p0 : Nat) (p1 : Int) (p2 : Int) : Option (St × Int) :=
 L_X1_spent_6 N σ this p0 p1 p2 (0, 0)
set_option maxRecDepth 100000 in
set_option maxHeartbeats 4000000 in
theorem c_X1_spent (l : Launch) (D : va_G) (ca : Nat → ClassId) (ra : Nat → Nat) (N : Nat) (σ : St) (this : Nat) (p0 : Nat) (p1 : Int) (p2 : Int) : Ctr l (D, ca, ra, shx) false yX1_spent cX1_spent 6 (some .int) rm_X1_spent σ [ar this, ar p0, ai p1, ai p2] (f_X1_spent N σ this p0 p1 p2) := by
  refine ctr_of (by decide) (Nat.le_of_ble_eq_true rfl) (fun z C => ?_)
  show X z 0 0 σ 0 [(0, ar this), (1, ar p0), (2, ai p1), (3, ai p2)] [] _
  unfold f_X1_spent
  refine x_iconst C (n := 0) (by decide +kernel) ?_
  refine x_istore C (i := 4) (Nat.le_of_ble_eq_true rfl) (by decide +kernel) (lv2 := [(4, ai 0), (0, ar this), (1, ar p0), (2, ai p1), (3, ai p2)]) rfl ?_
  refine x_iconst C (n := 0) (by decide +kernel) ?_
  refine x_istore C (i := 5) (Nat.le_of_ble_eq_true rfl) (by decide +kernel) (lv2 := [(5, ai 0), (4, ai 0), (0, ar this), (1, ar p0), (2, ai p1), (3, ai p2)]) rfl ?_
  refine x_sub [2, 3, 4, 5, 1, 0] (lv2 := [(0, ar this), (1, ar p0), (2, ai p1), (3, ai p2), (4, ai 0), (5, ai 0)]) rfl ?_
  -- LOOP L_X1_spent_6 hb6_1
  refine x_loop (T := Int × Int) (fun t => σ) (fun t => [(0, ar this), (1, ar p0), (2, ai p1), (3, ai p2), (4, ai t.1), (5, ai t.2)]) (0, 0) rfl (fun b6_1 hb6_1 t1 => ?_)
  show X z 0 0 σ 6 [(0, ar this), (1, ar p0), (2, ai p1), (3, ai p2), (4, ai t1.1), (5, ai t1.2)] [] _
  refine x_iload C 5 (i := 5) rfl (by decide +kernel) ?_
  refine x_aload_n C 1 (i := 1) (k0 := 1) rfl rfl (by decide +kernel) ?_
  refine x_gI C fl_RX1_58 (fun _ _ _ => rfl) (by decide +kernel) (fun parts_3 => ?_)
  refine x_ic_ge C (tgt := 59) (off := 47) (by decide) (by decide +kernel) (fun h17 => ?_) (fun h17 => ?_)
  · skip
    refine x_iload C 4 (i := 4) rfl (by decide +kernel) ?_
    exact x_iret C ⟨Nat.zero_le _, Nat.zero_le _⟩ (by decide +kernel)
  · skip
    refine x_aload_n C 0 (i := 0) (k0 := 0) rfl rfl (by decide +kernel) ?_
    refine x_gR C fl_RX1_29 (fun _ _ _ => rfl) (by decide +kernel) (fun months_4 => ?_)
    refine x_iload C 5 (i := 5) rfl (by decide +kernel) ?_
    refine x_aldI C (by decide +kernel) (fun a5 => ?_)
    refine x_iconst C (n := (-1)) (by decide +kernel) ?_
    refine x_join (T := Int) (fun t => σ) 53 (fun t => [(0, ar this), (1, ar p0), (2, ai p1), (3, ai p2), (4, ai t), (5, ai t1.2)]) (fun t => []) (fun t6 => ?_) (fun J53_7 hJ53_7 => ?_)
    · show X z 0 0 σ 53 [(0, ar this), (1, ar p0), (2, ai p1), (3, ai p2), (4, ai t6), (5, ai t1.2)] [] _
      refine x_iinc C 5 (i := 5) (n := 1) (Nat.le_of_ble_eq_true rfl) rfl (by decide +kernel) (lv2 := fun x7 => [(5, ai x7), (0, ar this), (1, ar p0), (2, ai p1), (3, ai p2), (4, ai t6)]) (fun _ => rfl) (fun x7 => ?_)
      refine x_goto C (tgt := 6) (off := (-50)) (by decide) (by decide +kernel) ?_
      refine x_sub [1, 2, 3, 4, 5, 0] (lv2 := [(0, ar this), (1, ar p0), (2, ai p1), (3, ai p2), (4, ai t6), (5, ai x7)]) rfl ?_
      exact hb6_1 (t6, x7)
    · skip
      refine x_ic_eq C (tgt := 53) (off := 30) (by decide) (by decide +kernel) (fun h16 => ?_) (fun h16 => ?_)
      · skip
        exact hJ53_7 t1.1
      · skip
        refine x_aload_n C 0 (i := 0) (k0 := 0) rfl rfl (by decide +kernel) ?_
        refine x_gR C fl_RX1_29 (fun _ _ _ => rfl) (by decide +kernel) (fun months_9 => ?_)
        refine x_iload C 5 (i := 5) rfl (by decide +kernel) ?_
        refine x_aldI C (by decide +kernel) (fun a10 => ?_)
        refine x_iload_n C 2 (i := 2) (k0 := 2) rfl rfl (by decide +kernel) ?_
        refine x_iload_n C 3 (i := 3) (k0 := 3) rfl rfl (by decide +kernel) ?_
        refine x_callSNp C (c_X11_within l D ca ra N σ a10 p1 p2) (p_X11_within N σ a10 p1 p2) mt_X11_within ms_X11_within (List.mem_of_getElem? (i := 13) rfl) rfl (fun h => Bool.noConfusion h) ⟨Nat.le_of_ble_eq_true rfl, Nat.le_of_ble_eq_true rfl⟩ (Nat.le_of_ble_eq_true rfl) 0 0 ⟨rfl, rfl⟩ ⟨Nat.zero_le _, Nat.zero_le _⟩ (by decide +kernel) _ rfl (fun q11 => [ai q11.2]) (fun _ => rfl) (fun q11 => ?_)
        refine x_if_eq C (tgt := 53) (off := 15) (by decide) (by decide +kernel) (fun h15 => ?_) (fun h15 => ?_)
        · skip
          exact hJ53_7 t1.1
        · skip
          refine x_iload C 4 (i := 4) rfl (by decide +kernel) ?_
          refine x_aload_n C 1 (i := 1) (k0 := 1) rfl rfl (by decide +kernel) ?_
          refine x_gR C fl_RX1_65 (fun _ _ _ => rfl) (by decide +kernel) (fun costs_12 => ?_)
          refine x_iload C 5 (i := 5) rfl (by decide +kernel) ?_
          refine x_aldI C (by decide +kernel) (fun a13 => ?_)
          refine x_iadd C (by decide +kernel) ?_
          refine x_istoreL C (i := 4) (Nat.le_of_ble_eq_true rfl) (by decide +kernel) (lv2 := fun x14 => [(4, ai x14), (0, ar this), (1, ar p0), (2, ai p1), (3, ai p2), (5, ai t1.2)]) (fun _ => rfl) (fun x14 => ?_)
          refine x_sub [1, 2, 3, 4, 0, 5] (lv2 := [(0, ar this), (1, ar p0), (2, ai p1), (3, ai p2), (4, ai x14), (5, ai t1.2)]) rfl ?_
          exact hJ53_7 x14
theorem p_X1_spent (N : Nat) (σ : St) (this : Nat) (p0 : Nat) (p1 : Int) (p2 : Int) : Pu σ (f_X1_spent N σ this p0 p1 p2) := by
  unfold f_X1_spent
  unfold L_X1_spent_6
  refine pu_fix (fun _ hb6_1 _ => ?_) _
  refine pu_bind (fun _ => ?_)
  refine pu_ifs ?_ ?_
  · skip
    exact pu_some
  · skip
    refine pu_bind (fun _ => ?_)
    refine pu_bind (fun _ => ?_)
    refine pu_Jn (fun _ => ?_) (fun _ hJ53_7 => ?_)
    · skip
      refine pu_Lt (fun _ => ?_)
      exact hb6_1 _
    · skip
      refine pu_if ?_ ?_
      · skip
        exact hJ53_7 _
      · skip
        refine pu_bind (fun _ => ?_)
        refine pu_bind (fun _ => ?_)
        refine pu_bind (fun _ => ?_)
        refine pu_if ?_ ?_
        · skip
          exact hJ53_7 _
        · skip
          refine pu_bind (fun _ => ?_)
          refine pu_bind (fun _ => ?_)
          refine pu_Lt (fun _ => ?_)
          exact hJ53_7 _

def rm_X1_paidByFirst : Room := { frames := 3, cells := 0, slots := 0, locals := 68 }
def f_X1_paidByFirst (N : Nat) (σ : St) (this : Nat) (p0 : Nat) (p1 : Int) (p2 : Nat) : Option (St × Int) :=
 Option.bind (gR shx σ 3 p0 6) fun costs_1 =>
 Option.bind (aI shx σ 1 costs_1 p1) fun a2 =>
 Option.bind (gR shx σ 3 p0 3) fun maker_3 =>
 Option.bind (aI shx σ 1 maker_3 p1) fun a4 =>
 Option.bind (rcv shx σ 7 p2 (f_X7_ask N σ p2 23 a4)) fun q5 =>
 Option.bind (rcv shx q5.1 7 p2 (f_X7_ask N q5.1 p2 24 a2)) fun q6 =>
 Option.bind (gR shx q6.1 1 this 7) fun months_7 =>
 Option.bind (aI shx q6.1 1 months_7 p1) fun a8 =>
 Option.bind (rcv shx q6.1 7 p2 (f_X7_ask N q6.1 p2 25 a8)) fun q9 =>
 Option.bind (rcv shx q9.1 7 p2 (f_X7_valueOf N q9.1 p2 0)) fun q10 =>
 Lt (mxZ 0 (mnZ 100 q10.2)) fun x11 =>
 some (q10.1, (Int.tdiv (wr (a2 * x11)) 100))
set_option maxRecDepth 100000 in
set_option maxHeartbeats 4000000 in
theorem c_X1_paidByFirst (l : Launch) (D : va_G) (ca : Nat → ClassId) (ra : Nat → Nat) (N : Nat) (σ : St) (this : Nat) (p0 : Nat) (p1 : Int) (p2 : Nat) : Ctr l (D, ca, ra, shx) false yX1_paidByFirst cX1_paidByFirst 6 (some .int) rm_X1_paidByFirst σ [ar this, ar p0, ai p1, ar p2] (f_X1_paidByFirst N σ this p0 p1 p2) := by
  refine ctr_of (by decide) (Nat.le_of_ble_eq_true rfl) (fun z C => ?_)
  show X z 0 0 σ 0 [(0, ar this), (1, ar p0), (2, ai p1), (3, ar p2)] [] _
  unfold f_X1_paidByFirst
  refine x_aload_n C 1 (i := 1) (k0 := 1) rfl rfl (by decide +kernel) ?_
  refine x_gR C fl_RX1_65 (fun _ _ _ => rfl) (by decide +kernel) (fun costs_1 => ?_)
  refine x_iload_n C 2 (i := 2) (k0 := 2) rfl rfl (by decide +kernel) ?_
  refine x_aldI C (by decide +kernel) (fun a2 => ?_)
  refine x_istore C (i := 4) (Nat.le_of_ble_eq_true rfl) (by decide +kernel) (lv2 := [(4, ai a2), (0, ar this), (1, ar p0), (2, ai p1), (3, ar p2)]) rfl ?_
  refine x_aload_n C 4 (i := 3) (k0 := 3) rfl rfl (by decide +kernel) ?_
  refine x_bipush C (n := 23) (by decide +kernel) (by decide +kernel) ?_
  refine x_aload_n C 2 (i := 1) (k0 := 1) rfl rfl (by decide +kernel) ?_
  show X z 0 0 σ 12 [(4, ai a2), (0, ar this), (1, ar p0), (2, ai p1), (3, ar p2)] [ar p0, ai 23, ar p2] _
  refine x_gR C fl_RX1_107 (fun _ _ _ => rfl) (by decide +kernel) (fun maker_3 => ?_)
  refine x_iload_n C 3 (i := 2) (k0 := 2) rfl rfl (by decide +kernel) ?_
  refine x_aldI C (by decide +kernel) (fun a4 => ?_)
  refine x_callV C (ci := 7) (c_X7_ask l D ca ra N σ p2 23 a4) mt_X7_ask mv_X7_ask rfl ml_RX1_110 rfl (fun h => Bool.noConfusion h) ⟨Nat.le_of_ble_eq_true rfl, Nat.le_of_ble_eq_true rfl⟩ (Nat.le_of_ble_eq_true rfl) 0 0 ⟨rfl, rfl⟩ ⟨Nat.zero_le _, Nat.zero_le _⟩ (by decide +kernel) _ rfl (fun q5 => []) (fun _ => rfl) (fun q5 => ?_)
  refine x_aload_n C 4 (i := 3) (k0 := 3) rfl rfl (by decide +kernel) ?_
  refine x_bipush C (n := 24) (by decide +kernel) (by decide +kernel) ?_
  refine x_iload C 0 (i := 4) rfl (by decide +kernel) ?_
  refine x_callV C (ci := 7) (c_X7_ask l D ca ra N q5.1 p2 24 a2) mt_X7_ask mv_X7_ask rfl ml_RX1_110 rfl (fun h => Bool.noConfusion h) ⟨Nat.le_of_ble_eq_true rfl, Nat.le_of_ble_eq_true rfl⟩ (Nat.le_of_ble_eq_true rfl) 0 0 ⟨rfl, rfl⟩ ⟨Nat.zero_le _, Nat.zero_le _⟩ (by decide +kernel) _ rfl (fun q6 => []) (fun _ => rfl) (fun q6 => ?_)
  show X z 0 0 q6.1 28 [(4, ai a2), (0, ar this), (1, ar p0), (2, ai p1), (3, ar p2)] [] _
  refine x_aload_n C 4 (i := 3) (k0 := 3) rfl rfl (by decide +kernel) ?_
  refine x_bipush C (n := 25) (by decide +kernel) (by decide +kernel) ?_
  refine x_aload_n C 1 (i := 0) (k0 := 0) rfl rfl (by decide +kernel) ?_
  refine x_gR C fl_RX1_29 (fun _ _ _ => rfl) (by decide +kernel) (fun months_7 => ?_)
  refine x_iload_n C 3 (i := 2) (k0 := 2) rfl rfl (by decide +kernel) ?_
  refine x_aldI C (by decide +kernel) (fun a8 => ?_)
  refine x_callV C (ci := 7) (c_X7_ask l D ca ra N q6.1 p2 25 a8) mt_X7_ask mv_X7_ask rfl ml_RX1_110 rfl (fun h => Bool.noConfusion h) ⟨Nat.le_of_ble_eq_true rfl, Nat.le_of_ble_eq_true rfl⟩ (Nat.le_of_ble_eq_true rfl) 0 0 ⟨rfl, rfl⟩ ⟨Nat.zero_le _, Nat.zero_le _⟩ (by decide +kernel) _ rfl (fun q9 => []) (fun _ => rfl) (fun q9 => ?_)
  refine x_iconst C (n := 0) (by decide +kernel) ?_
  show X z 0 0 q9.1 41 [(4, ai a2), (0, ar this), (1, ar p0), (2, ai p1), (3, ar p2)] [ai 0] _
  refine x_bipush C (n := 100) (by decide +kernel) (by decide +kernel) ?_
  refine x_aload_n C 4 (i := 3) (k0 := 3) rfl rfl (by decide +kernel) ?_
  refine x_iconst C (n := 0) (by decide +kernel) ?_
  refine x_callV C (ci := 7) (c_X7_valueOf l D ca ra N q9.1 p2 0) mt_X7_valueOf mv_X7_valueOf rfl ml_RX1_115 rfl (fun h => Bool.noConfusion h) ⟨Nat.le_of_ble_eq_true rfl, Nat.le_of_ble_eq_true rfl⟩ (Nat.le_of_ble_eq_true rfl) 0 0 ⟨rfl, rfl⟩ ⟨Nat.zero_le _, Nat.zero_le _⟩ (by decide +kernel) _ rfl (fun q10 => [ai q10.2, ai 100, ai 0]) (fun _ => rfl) (fun q10 => ?_)
  refine x_min C mth_min ml_RX1_84 ⟨Nat.le_of_ble_eq_true rfl, Nat.le_of_ble_eq_true rfl⟩ ⟨Nat.zero_le _, Nat.zero_le _⟩ (by decide +kernel) ?_
  refine x_max C mth_max ml_RX1_118 ⟨Nat.le_of_ble_eq_true rfl, Nat.le_of_ble_eq_true rfl⟩ ⟨Nat.zero_le _, Nat.zero_le _⟩ (by decide +kernel) ?_
  refine x_istoreL C (i := 5) (Nat.le_of_ble_eq_true rfl) (by decide +kernel) (lv2 := fun x11 => [(5, ai x11), (4, ai a2), (0, ar this), (1, ar p0), (2, ai p1), (3, ar p2)]) (fun _ => rfl) (fun x11 => ?_)
  refine x_iload C 1 (i := 4) rfl (by decide +kernel) ?_
  show X z 0 0 q10.1 58 [(5, ai x11), (4, ai a2), (0, ar this), (1, ar p0), (2, ai p1), (3, ar p2)] [ai a2] _
  refine x_iload C 0 (i := 5) rfl (by decide +kernel) ?_
  refine x_imul C (by decide +kernel) ?_
  refine x_bipush C (n := 100) (by decide +kernel) (by decide +kernel) ?_
  refine x_idivC C (by decide) (by decide) (by decide +kernel) ?_
  exact x_iret C ⟨Nat.zero_le _, Nat.zero_le _⟩ (by decide +kernel)

def L_X1_paidBy_6 (N : Nat) (this : Nat) (p0 : Int) (p1 : Nat) (p2 : Nat) : (St × Int × Int) → Option (St × Int) := fixN N fun b6_1 t1 =>
 Option.bind (gI shx t1.1 3 p1 1) fun parts_3 =>
 (if wr t1.2.2 < wr parts_3 then Option.bind (gR shx t1.1 1 this 7) fun months_4 =>
 Option.bind (aI shx t1.1 1 months_4 t1.2.2) fun a5 =>
 Jn (fun t6 : St × Int => Lt (t1.2.2 + 1) fun x7 =>
 b6_1 (t6.1, t6.2, x7)) fun J60_7 =>
 (if wr a5 = wr (-1) then J60_7 (t1.1, t1.2.1) else Option.bind (rcv shx t1.1 1 this (f_X1_paidByFirst N t1.1 this p1 t1.2.2 p2)) fun q9 =>
 Jn (fun t10 : Int => Lt (t1.2.1 + t10) fun x11 =>
 J60_7 (q9.1, x11)) fun J57_11 =>
 (if wr p0 = 0 then J57_11 q9.2 else Option.bind (gR shx q9.1 3 p1 6) fun costs_13 =>
 Option.bind (aI shx q9.1 1 costs_13 t1.2.2) fun a14 =>
 J57_11 (a14 - q9.2))) else some (t1.1, t1.2.1))
def rm_X1_paidBy : Room := { frames := 4, cells := 0, slots := 0, locals := 93 }
def f_X1_paidBy (N : Nat) (σ : St) (this : Nat) (p0 : Int) (p1 : Nat) (p2 : Nat) : Option (St × Int) :=
 L_X1_paidBy_6 N this p0 p1 p2 (σ, 0, 0)
set_option maxRecDepth 100000 in
set_option maxHeartbeats 4000000 in
theorem c_X1_paidBy (l : Launch) (D : va_G) (ca : Nat → ClassId) (ra : Nat → Nat) (N : Nat) (σ : St) (this : Nat) (p0 : Int) (p1 : Nat) (p2 : Nat) : Ctr l (D, ca, ra, shx) false yX1_paidBy cX1_paidBy 7 (some .int) rm_X1_paidBy σ [ar this, ai p0, ar p1, ar p2] (f_X1_paidBy N σ this p0 p1 p2) := by
  refine ctr_of (by decide) (Nat.le_of_ble_eq_true rfl) (fun z C => ?_)
  show X z 0 0 σ 0 [(0, ar this), (1, ai p0), (2, ar p1), (3, ar p2)] [] _
  unfold f_X1_paidBy
  refine x_iconst C (n := 0) (by decide +kernel) ?_
  refine x_istore C (i := 4) (Nat.le_of_ble_eq_true rfl) (by decide +kernel) (lv2 := [(4, ai 0), (0, ar this), (1, ai p0), (2, ar p1), (3, ar p2)]) rfl ?_
  refine x_iconst C (n := 0) (by decide +kernel) ?_
  refine x_istore C (i := 5) (Nat.le_of_ble_eq_true rfl) (by decide +kernel) (lv2 := [(5, ai 0), (4, ai 0), (0, ar this), (1, ai p0), (2, ar p1), (3, ar p2)]) rfl ?_
  refine x_sub [2, 3, 4, 5, 1, 0] (lv2 := [(0, ar this), (1, ai p0), (2, ar p1), (3, ar p2), (4, ai 0), (5, ai 0)]) rfl ?_
  -- LOOP L_X1_paidBy_6 hb6_1
  refine x_loop (T := St × Int × Int) (fun t => t.1) (fun t => [(0, ar this), (1, ai p0), (2, ar p1), (3, ar p2), (4, ai t.2.1), (5, ai t.2.2)]) (σ, 0, 0) rfl (fun b6_1 hb6_1 t1 => ?_)
  show X z 0 0 t1.1 6 [(0, ar this), (1, ai p0), (2, ar p1), (3, ar p2), (4, ai t1.2.1), (5, ai t1.2.2)] [] _
  refine x_iload C 5 (i := 5) rfl (by decide +kernel) ?_
  refine x_aload_n C 2 (i := 2) (k0 := 2) rfl rfl (by decide +kernel) ?_
  refine x_gI C fl_RX1_58 (fun _ _ _ => rfl) (by decide +kernel) (fun parts_3 => ?_)
  refine x_ic_ge C (tgt := 66) (off := 54) (by decide) (by decide +kernel) (fun h17 => ?_) (fun h17 => ?_)
  · skip
    refine x_iload C 4 (i := 4) rfl (by decide +kernel) ?_
    exact x_iret C ⟨Nat.zero_le _, Nat.zero_le _⟩ (by decide +kernel)
  · skip
    refine x_aload_n C 0 (i := 0) (k0 := 0) rfl rfl (by decide +kernel) ?_
    refine x_gR C fl_RX1_29 (fun _ _ _ => rfl) (by decide +kernel) (fun months_4 => ?_)
    refine x_iload C 5 (i := 5) rfl (by decide +kernel) ?_
    refine x_aldI C (by decide +kernel) (fun a5 => ?_)
    refine x_iconst C (n := (-1)) (by decide +kernel) ?_
    refine x_join (T := St × Int) (fun t => t.1) 60 (fun t => [(0, ar this), (1, ai p0), (2, ar p1), (3, ar p2), (4, ai t.2), (5, ai t1.2.2)]) (fun t => []) (fun t6 => ?_) (fun J60_7 hJ60_7 => ?_)
    · show X z 0 0 t6.1 60 [(0, ar this), (1, ai p0), (2, ar p1), (3, ar p2), (4, ai t6.2), (5, ai t1.2.2)] [] _
      refine x_iinc C 5 (i := 5) (n := 1) (Nat.le_of_ble_eq_true rfl) rfl (by decide +kernel) (lv2 := fun x7 => [(5, ai x7), (0, ar this), (1, ai p0), (2, ar p1), (3, ar p2), (4, ai t6.2)]) (fun _ => rfl) (fun x7 => ?_)
      refine x_goto C (tgt := 6) (off := (-57)) (by decide) (by decide +kernel) ?_
      refine x_sub [1, 2, 3, 4, 5, 0] (lv2 := [(0, ar this), (1, ai p0), (2, ar p1), (3, ar p2), (4, ai t6.2), (5, ai x7)]) rfl ?_
      exact hb6_1 (t6.1, t6.2, x7)
    · skip
      refine x_ic_eq C (tgt := 60) (off := 37) (by decide) (by decide +kernel) (fun h16 => ?_) (fun h16 => ?_)
      · skip
        exact hJ60_7 (t1.1, t1.2.1)
      · skip
        refine x_aload_n C 0 (i := 0) (k0 := 0) rfl rfl (by decide +kernel) ?_
        refine x_aload_n C 2 (i := 2) (k0 := 2) rfl rfl (by decide +kernel) ?_
        refine x_iload C 5 (i := 5) rfl (by decide +kernel) ?_
        refine x_aload_n C 3 (i := 3) (k0 := 3) rfl rfl (by decide +kernel) ?_
        refine x_callV C (ci := 1) (c_X1_paidByFirst l D ca ra N t1.1 this p1 t1.2.2 p2) mt_X1_paidByFirst mv_X1_paidByFirst rfl ml_RX1_68 rfl (fun h => Bool.noConfusion h) ⟨Nat.le_of_ble_eq_true rfl, Nat.le_of_ble_eq_true rfl⟩ (Nat.le_of_ble_eq_true rfl) 0 0 ⟨rfl, rfl⟩ ⟨Nat.zero_le _, Nat.zero_le _⟩ (by decide +kernel) _ rfl (fun q9 => [ai q9.2]) (fun _ => rfl) (fun q9 => ?_)
        refine x_istore C (i := 6) (Nat.le_of_ble_eq_true rfl) (by decide +kernel) (lv2 := [(6, ai q9.2), (0, ar this), (1, ai p0), (2, ar p1), (3, ar p2), (4, ai t1.2.1), (5, ai t1.2.2)]) rfl ?_
        refine x_iload C 5 (i := 4) rfl (by decide +kernel) ?_
        refine x_iload_n C 2 (i := 1) (k0 := 1) rfl rfl (by decide +kernel) ?_
        show X z 0 0 q9.1 39 [(6, ai q9.2), (0, ar this), (1, ai p0), (2, ar p1), (3, ar p2), (4, ai t1.2.1), (5, ai t1.2.2)] [ai p0, ai t1.2.1] _
        refine x_join (T := Int) (fun t => q9.1) 57 (fun t => [(0, ar this), (1, ai p0), (2, ar p1), (3, ar p2), (5, ai t1.2.2)]) (fun t => [ai t, ai t1.2.1]) (fun t10 => ?_) (fun J57_11 hJ57_11 => ?_)
        · show X z 0 0 q9.1 57 [(0, ar this), (1, ai p0), (2, ar p1), (3, ar p2), (5, ai t1.2.2)] [ai t10, ai t1.2.1] _
          refine x_iadd C (by decide +kernel) ?_
          refine x_istoreL C (i := 4) (Nat.le_of_ble_eq_true rfl) (by decide +kernel) (lv2 := fun x11 => [(4, ai x11), (0, ar this), (1, ai p0), (2, ar p1), (3, ar p2), (5, ai t1.2.2)]) (fun _ => rfl) (fun x11 => ?_)
          refine x_sub [1, 2, 3, 4, 0, 5] (lv2 := [(0, ar this), (1, ai p0), (2, ar p1), (3, ar p2), (4, ai x11), (5, ai t1.2.2)]) rfl ?_
          exact hJ60_7 (q9.1, x11)
        · skip
          refine x_if_ne C (tgt := 47) (off := 8) (by decide) (by decide +kernel) (fun h15 => ?_) (fun h15 => ?_)
          · skip
            refine x_aload_n C 3 (i := 2) (k0 := 2) rfl rfl (by decide +kernel) ?_
            refine x_gR C fl_RX1_65 (fun _ _ _ => rfl) (by decide +kernel) (fun costs_13 => ?_)
            refine x_iload C 6 (i := 5) rfl (by decide +kernel) ?_
            refine x_aldI C (by decide +kernel) (fun a14 => ?_)
            refine x_iload C 0 (i := 6) rfl (by decide +kernel) ?_
            refine x_isub C (by decide +kernel) ?_
            refine x_sub [1, 2, 3, 4, 6] (lv2 := [(0, ar this), (1, ai p0), (2, ar p1), (3, ar p2), (5, ai t1.2.2)]) rfl ?_
            exact hJ57_11 (a14 - q9.2)
          · skip
            refine x_iload C 0 (i := 6) rfl (by decide +kernel) ?_
            refine x_goto C (tgt := 57) (off := 13) (by decide) (by decide +kernel) ?_
            refine x_sub [1, 2, 3, 4, 6] (lv2 := [(0, ar this), (1, ai p0), (2, ar p1), (3, ar p2), (5, ai t1.2.2)]) rfl ?_
            exact hJ57_11 q9.2

def L_X1_estimateAt_5 (N : Nat) (σ : St) (this : Nat) (p0 : Int) (p1 : Int) (J88_4 : (Int → Option (St × Int))) : (Int × Int) → Option (St × Int) := fixN N fun b5_6 t6 =>
 Option.bind (gI shx σ 1 this 0) fun count_8 =>
 (if wr t6.2 < wr count_8 then Option.bind (gR shx σ 1 this 2) fun kind_9 =>
 Option.bind (aI shx σ 1 kind_9 t6.2) fun a10 =>
 Jn (fun t11 : Int => Jn (fun t12 : Int => Lt (t6.2 + 1) fun x13 =>
 b5_6 (t12, x13)) fun J82_13 =>
 (if wr t11 = 0 then J82_13 t6.1 else Jn (fun t15 : Unit => J82_13 t6.2) fun J79_15 =>
 (if wr t6.1 = wr (-1) then J79_15 () else Option.bind (gR shx σ 1 this 3) fun month_17 =>
 Option.bind (aI shx σ 1 month_17 t6.2) fun a18 =>
 Option.bind (gR shx σ 1 this 3) fun month_19 =>
 Option.bind (aI shx σ 1 month_19 t6.1) fun a20 =>
 (if wr a18 < wr a20 then J82_13 t6.1 else J79_15 ())))) fun J51_23 =>
 Jn (fun t25 : Unit => J51_23 0) fun J50_25 =>
 (if wr a10 = wr 1 then Option.bind (gR shx σ 1 this 3) fun month_27 =>
 Option.bind (aI shx σ 1 month_27 t6.2) fun a28 =>
 (if wr p0 < wr a28 then J50_25 () else Option.bind (rcv shx σ 1 this (f_X1_counts N σ this t6.2 p1)) fun q29 =>
 (if wr q29.2 = 0 then J50_25 () else J51_23 1)) else J50_25 ()) else J88_4 t6.1)
def rm_X1_estimateAt : Room := { frames := 2, cells := 0, slots := 0, locals := 44 }
def f_X1_estimateAt (N : Nat) (σ : St) (this : Nat) (p0 : Int) (p1 : Int) : Option (St × Int) :=
 Jn (fun t1 : Int => (if wr t1 = wr (-1) then some (σ, (-1)) else Option.bind (gR shx σ 1 this 4) fun value_2 =>
 Option.bind (aI shx σ 1 value_2 t1) fun a3 =>
 some (σ, a3))) fun J88_4 =>
 L_X1_estimateAt_5 N σ this p0 p1 J88_4 ((-1), 0)
set_option maxRecDepth 100000 in
set_option maxHeartbeats 4000000 in
theorem c_X1_estimateAt (l : Launch) (D : va_G) (ca : Nat → ClassId) (ra : Nat → Nat) (N : Nat) (σ : St) (this : Nat) (p0 : Int) (p1 : Int) : Ctr l (D, ca, ra, shx) false yX1_estimateAt cX1_estimateAt 6 (some .int) rm_X1_estimateAt σ [ar this, ai p0, ai p1] (f_X1_estimateAt N σ this p0 p1) := by
  refine ctr_of (by decide) (Nat.le_of_ble_eq_true rfl) (fun z C => ?_)
  show X z 0 0 σ 0 [(0, ar this), (1, ai p0), (2, ai p1)] [] _
  unfold f_X1_estimateAt
  refine x_iconst C (n := (-1)) (by decide +kernel) ?_
  refine x_istore_n C (i := 3) (k0 := 3) rfl (Nat.le_of_ble_eq_true rfl) (by decide +kernel) (lv2 := [(3, ai (-1)), (0, ar this), (1, ai p0), (2, ai p1)]) rfl ?_
  refine x_iconst C (n := 0) (by decide +kernel) ?_
  refine x_istore C (i := 4) (Nat.le_of_ble_eq_true rfl) (by decide +kernel) (lv2 := [(4, ai 0), (3, ai (-1)), (0, ar this), (1, ai p0), (2, ai p1)]) rfl ?_
  refine x_join (T := Int) (fun t => σ) 88 (fun t => [(0, ar this), (3, ai t)]) (fun t => []) (fun t1 => ?_) (fun J88_4 hJ88_4 => ?_)
  · show X z 0 0 σ 88 [(0, ar this), (3, ai t1)] [] _
    refine x_iload_n C 1 (i := 3) (k0 := 3) rfl rfl (by decide +kernel) ?_
    refine x_iconst C (n := (-1)) (by decide +kernel) ?_
    refine x_ic_ne C (tgt := 97) (off := 7) (by decide) (by decide +kernel) (fun h4 => ?_) (fun h4 => ?_)
    · skip
      refine x_aload_n C 0 (i := 0) (k0 := 0) rfl rfl (by decide +kernel) ?_
      refine x_gR C fl_RX1_18 (fun _ _ _ => rfl) (by decide +kernel) (fun value_2 => ?_)
      refine x_iload_n C 1 (i := 3) (k0 := 3) rfl rfl (by decide +kernel) ?_
      refine x_aldI C (by decide +kernel) (fun a3 => ?_)
      exact x_iret C ⟨Nat.zero_le _, Nat.zero_le _⟩ (by decide +kernel)
    · skip
      refine x_iconst C (n := (-1)) (by decide +kernel) ?_
      refine x_goto C (tgt := 103) (off := 9) (by decide) (by decide +kernel) ?_
      exact x_iret C ⟨Nat.zero_le _, Nat.zero_le _⟩ (by decide +kernel)
  · skip
    refine x_sub [2, 3, 4, 1, 0] (lv2 := [(0, ar this), (1, ai p0), (2, ai p1), (3, ai (-1)), (4, ai 0)]) rfl ?_
    -- LOOP L_X1_estimateAt_5 hb5_6
    refine x_loop (T := Int × Int) (fun t => σ) (fun t => [(0, ar this), (1, ai p0), (2, ai p1), (3, ai t.1), (4, ai t.2)]) ((-1), 0) rfl (fun b5_6 hb5_6 t6 => ?_)
    show X z 0 0 σ 5 [(0, ar this), (1, ai p0), (2, ai p1), (3, ai t6.1), (4, ai t6.2)] [] _
    refine x_iload C 4 (i := 4) rfl (by decide +kernel) ?_
    refine x_aload_n C 0 (i := 0) (k0 := 0) rfl rfl (by decide +kernel) ?_
    refine x_gI C fl_RX1_32 (fun _ _ _ => rfl) (by decide +kernel) (fun count_8 => ?_)
    refine x_ic_ge C (tgt := 88) (off := 77) (by decide) (by decide +kernel) (fun h33 => ?_) (fun h33 => ?_)
    · skip
      refine x_sub [0, 3] (lv2 := [(0, ar this), (3, ai t6.1)]) rfl ?_
      exact hJ88_4 t6.1
    · skip
      refine x_aload_n C 0 (i := 0) (k0 := 0) rfl rfl (by decide +kernel) ?_
      refine x_gR C fl_RX1_11 (fun _ _ _ => rfl) (by decide +kernel) (fun kind_9 => ?_)
      refine x_iload C 4 (i := 4) rfl (by decide +kernel) ?_
      refine x_aldI C (by decide +kernel) (fun a10 => ?_)
      refine x_iconst C (n := 1) (by decide +kernel) ?_
      refine x_join (T := Int) (fun t => σ) 51 (fun t => [(0, ar this), (1, ai p0), (2, ai p1), (3, ai t6.1), (4, ai t6.2)]) (fun t => [ai t]) (fun t11 => ?_) (fun J51_23 hJ51_23 => ?_)
      · show X z 0 0 σ 51 [(0, ar this), (1, ai p0), (2, ai p1), (3, ai t6.1), (4, ai t6.2)] [ai t11] _
        refine x_istore C (i := 5) (Nat.le_of_ble_eq_true rfl) (by decide +kernel) (lv2 := [(5, ai t11), (0, ar this), (1, ai p0), (2, ai p1), (3, ai t6.1), (4, ai t6.2)]) rfl ?_
        refine x_iload C 0 (i := 5) rfl (by decide +kernel) ?_
        refine x_join (T := Int) (fun t => σ) 82 (fun t => [(0, ar this), (1, ai p0), (2, ai p1), (3, ai t), (4, ai t6.2)]) (fun t => []) (fun t12 => ?_) (fun J82_13 hJ82_13 => ?_)
        · show X z 0 0 σ 82 [(0, ar this), (1, ai p0), (2, ai p1), (3, ai t12), (4, ai t6.2)] [] _
          refine x_iinc C 4 (i := 4) (n := 1) (Nat.le_of_ble_eq_true rfl) rfl (by decide +kernel) (lv2 := fun x13 => [(4, ai x13), (0, ar this), (1, ai p0), (2, ai p1), (3, ai t12)]) (fun _ => rfl) (fun x13 => ?_)
          refine x_goto C (tgt := 5) (off := (-80)) (by decide) (by decide +kernel) ?_
          refine x_sub [1, 2, 3, 4, 0] (lv2 := [(0, ar this), (1, ai p0), (2, ai p1), (3, ai t12), (4, ai x13)]) rfl ?_
          exact hb5_6 (t12, x13)
        · skip
          refine x_if_eq C (tgt := 82) (off := 27) (by decide) (by decide +kernel) (fun h23 => ?_) (fun h23 => ?_)
          · skip
            refine x_sub [1, 2, 3, 4, 5] (lv2 := [(0, ar this), (1, ai p0), (2, ai p1), (3, ai t6.1), (4, ai t6.2)]) rfl ?_
            exact hJ82_13 t6.1
          · skip
            refine x_iload_n C 4 (i := 3) (k0 := 3) rfl rfl (by decide +kernel) ?_
            refine x_iconst C (n := (-1)) (by decide +kernel) ?_
            refine x_join (T := Unit) (fun t => σ) 79 (fun t => [(0, ar this), (1, ai p0), (2, ai p1), (4, ai t6.2)]) (fun t => []) (fun t15 => ?_) (fun J79_15 hJ79_15 => ?_)
            · show X z 0 0 σ 79 [(0, ar this), (1, ai p0), (2, ai p1), (4, ai t6.2)] [] _
              refine x_iload C 3 (i := 4) rfl (by decide +kernel) ?_
              refine x_istore_n C (i := 3) (k0 := 3) rfl (Nat.le_of_ble_eq_true rfl) (by decide +kernel) (lv2 := [(3, ai t6.2), (0, ar this), (1, ai p0), (2, ai p1), (4, ai t6.2)]) rfl ?_
              refine x_sub [1, 2, 3, 0, 4] (lv2 := [(0, ar this), (1, ai p0), (2, ai p1), (3, ai t6.2), (4, ai t6.2)]) rfl ?_
              exact hJ82_13 t6.2
            · skip
              refine x_ic_eq C (tgt := 79) (off := 19) (by decide) (by decide +kernel) (fun h22 => ?_) (fun h22 => ?_)
              · skip
                refine x_sub [1, 2, 3, 5] (lv2 := [(0, ar this), (1, ai p0), (2, ai p1), (4, ai t6.2)]) rfl ?_
                exact hJ79_15 ()
              · skip
                refine x_aload_n C 1 (i := 0) (k0 := 0) rfl rfl (by decide +kernel) ?_
                refine x_gR C fl_RX1_15 (fun _ _ _ => rfl) (by decide +kernel) (fun month_17 => ?_)
                refine x_iload C 5 (i := 4) rfl (by decide +kernel) ?_
                refine x_aldI C (by decide +kernel) (fun a18 => ?_)
                refine x_aload_n C 1 (i := 0) (k0 := 0) rfl rfl (by decide +kernel) ?_
                refine x_gR C fl_RX1_15 (fun _ _ _ => rfl) (by decide +kernel) (fun month_19 => ?_)
                refine x_iload_n C 4 (i := 3) (k0 := 3) rfl rfl (by decide +kernel) ?_
                refine x_aldI C (by decide +kernel) (fun a20 => ?_)
                show X z 0 0 σ 76 [(5, ai t11), (0, ar this), (1, ai p0), (2, ai p1), (3, ai t6.1), (4, ai t6.2)] [ai a20, ai a18] _
                refine x_ic_lt C (tgt := 82) (off := 6) (by decide) (by decide +kernel) (fun h21 => ?_) (fun h21 => ?_)
                · skip
                  refine x_sub [1, 2, 3, 4, 5] (lv2 := [(0, ar this), (1, ai p0), (2, ai p1), (3, ai t6.1), (4, ai t6.2)]) rfl ?_
                  exact hJ82_13 t6.1
                · skip
                  refine x_sub [1, 2, 3, 5] (lv2 := [(0, ar this), (1, ai p0), (2, ai p1), (4, ai t6.2)]) rfl ?_
                  exact hJ79_15 ()
      · skip
        refine x_join (T := Unit) (fun t => σ) 50 (fun t => [(0, ar this), (1, ai p0), (2, ai p1), (3, ai t6.1), (4, ai t6.2)]) (fun t => []) (fun t25 => ?_) (fun J50_25 hJ50_25 => ?_)
        · show X z 0 0 σ 50 [(0, ar this), (1, ai p0), (2, ai p1), (3, ai t6.1), (4, ai t6.2)] [] _
          refine x_iconst C (n := 0) (by decide +kernel) ?_
          exact hJ51_23 0
        · skip
          refine x_ic_ne C (tgt := 50) (off := 28) (by decide) (by decide +kernel) (fun h32 => ?_) (fun h32 => ?_)
          · skip
            exact hJ50_25 ()
          · skip
            refine x_aload_n C 0 (i := 0) (k0 := 0) rfl rfl (by decide +kernel) ?_
            refine x_gR C fl_RX1_15 (fun _ _ _ => rfl) (by decide +kernel) (fun month_27 => ?_)
            refine x_iload C 4 (i := 4) rfl (by decide +kernel) ?_
            refine x_aldI C (by decide +kernel) (fun a28 => ?_)
            refine x_iload_n C 1 (i := 1) (k0 := 1) rfl rfl (by decide +kernel) ?_
            refine x_ic_gt C (tgt := 50) (off := 17) (by decide) (by decide +kernel) (fun h31 => ?_) (fun h31 => ?_)
            · skip
              exact hJ50_25 ()
            · skip
              refine x_aload_n C 0 (i := 0) (k0 := 0) rfl rfl (by decide +kernel) ?_
              refine x_iload C 4 (i := 4) rfl (by decide +kernel) ?_
              refine x_iload_n C 2 (i := 2) (k0 := 2) rfl rfl (by decide +kernel) ?_
              refine x_callVp C (ci := 1) (c_X1_counts l D ca ra N σ this t6.2 p1) (p_X1_counts N σ this t6.2 p1) mt_X1_counts mv_X1_counts rfl ml_RX1_50 rfl (fun h => Bool.noConfusion h) ⟨Nat.le_of_ble_eq_true rfl, Nat.le_of_ble_eq_true rfl⟩ (Nat.le_of_ble_eq_true rfl) 0 0 ⟨rfl, rfl⟩ ⟨Nat.zero_le _, Nat.zero_le _⟩ (by decide +kernel) _ rfl (fun q29 => [ai q29.2]) (fun _ => rfl) (fun q29 => ?_)
              refine x_if_eq C (tgt := 50) (off := 7) (by decide) (by decide +kernel) (fun h30 => ?_) (fun h30 => ?_)
              · skip
                exact hJ50_25 ()
              · skip
                refine x_iconst C (n := 1) (by decide +kernel) ?_
                refine x_goto C (tgt := 51) (off := 4) (by decide) (by decide +kernel) ?_
                exact hJ51_23 1
theorem p_X1_estimateAt (N : Nat) (σ : St) (this : Nat) (p0 : Int) (p1 : Int) : Pu σ (f_X1_estimateAt N σ this p0 p1) := by
  unfold f_X1_estimateAt
  refine pu_Jn (fun _ => ?_) (fun _ hJ88_4 => ?_)
  · skip
    refine pu_ifs ?_ ?_
    · skip
      refine pu_bind (fun _ => ?_)
      refine pu_bind (fun _ => ?_)
      exact pu_some
    · skip
      exact pu_some
  · skip
    unfold L_X1_estimateAt_5
    refine pu_fix (fun _ hb5_6 _ => ?_) _
    refine pu_bind (fun _ => ?_)
    refine pu_ifs ?_ ?_
    · skip
      exact hJ88_4 _
    · skip
      refine pu_bind (fun _ => ?_)
      refine pu_bind (fun _ => ?_)
      refine pu_Jn (fun _ => ?_) (fun _ hJ51_23 => ?_)
      · skip
        refine pu_Jn (fun _ => ?_) (fun _ hJ82_13 => ?_)
        · skip
          refine pu_Lt (fun _ => ?_)
          exact hb5_6 _
        · skip
          refine pu_if ?_ ?_
          · skip
            exact hJ82_13 _
          · skip
            refine pu_Jn (fun _ => ?_) (fun _ hJ79_15 => ?_)
            · skip
              exact hJ82_13 _
            · skip
              refine pu_if ?_ ?_
              · skip
                exact hJ79_15 _
              · skip
                refine pu_bind (fun _ => ?_)
                refine pu_bind (fun _ => ?_)
                refine pu_bind (fun _ => ?_)
                refine pu_bind (fun _ => ?_)
                refine pu_if ?_ ?_
                · skip
                  exact hJ82_13 _
                · skip
                  exact hJ79_15 _
      · skip
        refine pu_Jn (fun _ => ?_) (fun _ hJ50_25 => ?_)
        · skip
          exact hJ51_23 _
        · skip
          refine pu_ifs ?_ ?_
          · skip
            exact hJ50_25 _
          · skip
            refine pu_bind (fun _ => ?_)
            refine pu_bind (fun _ => ?_)
            refine pu_if ?_ ?_
            · skip
              exact hJ50_25 _
            · skip
              refine pu_bind (fun _ => ?_)
              refine pu_if ?_ ?_
              · skip
                exact hJ50_25 _
              · skip
                exact hJ51_23 _

def rm_X1_overrun : Room := { frames := 4, cells := 0, slots := 0, locals := 90 }
def f_X1_overrun (N : Nat) (σ : St) (this : Nat) (p0 : Nat) (p1 : Int) (p2 : Int) : Option (St × Int) :=
 Option.bind (rcv shx σ 1 this (f_X1_findMonths N σ this p0 p2)) fun q1 =>
 Option.bind (rcv shx q1.1 1 this (f_X1_estimateAt N q1.1 this p1 p2)) fun q2 =>
 (if 0 < wr q2.2 then Option.bind (rcv shx q1.1 1 this (f_X1_spent N q1.1 this p0 0 p1)) fun q3 =>
 Option.bind (dvO (q3.2 * 10) q2.2) fun d4 =>
 some (q1.1, (mnZ 99 d4)) else some (q1.1, 99))
set_option maxRecDepth 100000 in
set_option maxHeartbeats 4000000 in
theorem c_X1_overrun (l : Launch) (D : va_G) (ca : Nat → ClassId) (ra : Nat → Nat) (N : Nat) (σ : St) (this : Nat) (p0 : Nat) (p1 : Int) (p2 : Int) : Ctr l (D, ca, ra, shx) false yX1_overrun cX1_overrun 5 (some .int) rm_X1_overrun σ [ar this, ar p0, ai p1, ai p2] (f_X1_overrun N σ this p0 p1 p2) := by
  refine ctr_of (by decide) (Nat.le_of_ble_eq_true rfl) (fun z C => ?_)
  show X z 0 0 σ 0 [(0, ar this), (1, ar p0), (2, ai p1), (3, ai p2)] [] _
  unfold f_X1_overrun
  refine x_aload_n C 0 (i := 0) (k0 := 0) rfl rfl (by decide +kernel) ?_
  refine x_aload_n C 1 (i := 1) (k0 := 1) rfl rfl (by decide +kernel) ?_
  refine x_iload_n C 3 (i := 3) (k0 := 3) rfl rfl (by decide +kernel) ?_
  refine x_callV C (ci := 1) (c_X1_findMonths l D ca ra N σ this p0 p2) mt_X1_findMonths mv_X1_findMonths rfl ml_RX1_72 rfl (fun h => Bool.noConfusion h) ⟨Nat.le_of_ble_eq_true rfl, Nat.le_of_ble_eq_true rfl⟩ (Nat.le_of_ble_eq_true rfl) 0 0 ⟨rfl, rfl⟩ ⟨Nat.zero_le _, Nat.zero_le _⟩ (by decide +kernel) _ rfl (fun q1 => []) (fun _ => rfl) (fun q1 => ?_)
  refine x_aload_n C 0 (i := 0) (k0 := 0) rfl rfl (by decide +kernel) ?_
  refine x_iload_n C 2 (i := 2) (k0 := 2) rfl rfl (by decide +kernel) ?_
  refine x_iload_n C 3 (i := 3) (k0 := 3) rfl rfl (by decide +kernel) ?_
  refine x_callVp C (ci := 1) (c_X1_estimateAt l D ca ra N q1.1 this p1 p2) (p_X1_estimateAt N q1.1 this p1 p2) mt_X1_estimateAt mv_X1_estimateAt rfl ml_RX1_76 rfl (fun h => Bool.noConfusion h) ⟨Nat.le_of_ble_eq_true rfl, Nat.le_of_ble_eq_true rfl⟩ (Nat.le_of_ble_eq_true rfl) 0 0 ⟨rfl, rfl⟩ ⟨Nat.zero_le _, Nat.zero_le _⟩ (by decide +kernel) _ rfl (fun q2 => [ai q2.2]) (fun _ => rfl) (fun q2 => ?_)
  show X z 0 0 q1.1 12 [(0, ar this), (1, ar p0), (2, ai p1), (3, ai p2)] [ai q2.2] _
  refine x_istore C (i := 4) (Nat.le_of_ble_eq_true rfl) (by decide +kernel) (lv2 := [(4, ai q2.2), (0, ar this), (1, ar p0), (2, ai p1), (3, ai p2)]) rfl ?_
  refine x_iload C 0 (i := 4) rfl (by decide +kernel) ?_
  refine x_if_gt C (tgt := 22) (off := 6) (by decide) (by decide +kernel) (fun h5 => ?_) (fun h5 => ?_)
  · skip
    refine x_bipush C (n := 99) (by decide +kernel) (by decide +kernel) ?_
    refine x_aload_n C 1 (i := 0) (k0 := 0) rfl rfl (by decide +kernel) ?_
    refine x_aload_n C 2 (i := 1) (k0 := 1) rfl rfl (by decide +kernel) ?_
    refine x_iconst C (n := 0) (by decide +kernel) ?_
    refine x_iload_n C 3 (i := 2) (k0 := 2) rfl rfl (by decide +kernel) ?_
    refine x_callVp C (ci := 1) (c_X1_spent l D ca ra N q1.1 this p0 0 p1) (p_X1_spent N q1.1 this p0 0 p1) mt_X1_spent mv_X1_spent rfl ml_RX1_80 rfl (fun h => Bool.noConfusion h) ⟨Nat.le_of_ble_eq_true rfl, Nat.le_of_ble_eq_true rfl⟩ (Nat.le_of_ble_eq_true rfl) 0 0 ⟨rfl, rfl⟩ ⟨Nat.zero_le _, Nat.zero_le _⟩ (by decide +kernel) _ rfl (fun q3 => [ai q3.2, ai 99]) (fun _ => rfl) (fun q3 => ?_)
    refine x_bipush C (n := 10) (by decide +kernel) (by decide +kernel) ?_
    refine x_imul C (by decide +kernel) ?_
    show X z 0 0 q1.1 34 [(4, ai q2.2), (0, ar this), (1, ar p0), (2, ai p1), (3, ai p2)] [ai (q3.2 * 10), ai 99] _
    refine x_iload C 0 (i := 4) rfl (by decide +kernel) ?_
    refine x_idiv C (by decide +kernel) (fun d4 => ?_)
    refine x_min C mth_min ml_RX1_84 ⟨Nat.le_of_ble_eq_true rfl, Nat.le_of_ble_eq_true rfl⟩ ⟨Nat.zero_le _, Nat.zero_le _⟩ (by decide +kernel) ?_
    exact x_iret C ⟨Nat.zero_le _, Nat.zero_le _⟩ (by decide +kernel)
  · skip
    refine x_bipush C (n := 99) (by decide +kernel) (by decide +kernel) ?_
    exact x_iret C ⟨Nat.zero_le _, Nat.zero_le _⟩ (by decide +kernel)

def L_X1_shownBy_5 (N : Nat) (σ : St) (this : Nat) (p0 : Int) (p1 : Int) : (Int × Int) → Option (St × Int) := fixN N fun b5_1 t1 =>
 Option.bind (gI shx σ 1 this 0) fun count_3 =>
 (if wr t1.2 < wr count_3 then Option.bind (gR shx σ 1 this 2) fun kind_4 =>
 Option.bind (aI shx σ 1 kind_4 t1.2) fun a5 =>
 Jn (fun t6 : Int => Lt (t1.2 + 1) fun x7 =>
 b5_1 (t6, x7)) fun J56_7 =>
 (if wr a5 = wr 2 then Option.bind (gR shx σ 1 this 3) fun month_9 =>
 Option.bind (aI shx σ 1 month_9 t1.2) fun a10 =>
 (if wr p0 < wr a10 then J56_7 t1.1 else Option.bind (rcv shx σ 1 this (f_X1_counts N σ this t1.2 p1)) fun q11 =>
 (if wr q11.2 = 0 then J56_7 t1.1 else Option.bind (gR shx σ 1 this 4) fun value_12 =>
 Option.bind (aI shx σ 1 value_12 t1.2) fun a13 =>
 Lt (orZ t1.1 a13) fun x14 =>
 J56_7 x14)) else J56_7 t1.1) else some (σ, t1.1))
def rm_X1_shownBy : Room := { frames := 2, cells := 0, slots := 0, locals := 44 }
def f_X1_shownBy (N : Nat) (σ : St) (this : Nat) (p0 : Int) (p1 : Int) : Option (St × Int) :=
 L_X1_shownBy_5 N σ this p0 p1 (0, 0)
set_option maxRecDepth 100000 in
set_option maxHeartbeats 4000000 in
theorem c_X1_shownBy (l : Launch) (D : va_G) (ca : Nat → ClassId) (ra : Nat → Nat) (N : Nat) (σ : St) (this : Nat) (p0 : Int) (p1 : Int) : Ctr l (D, ca, ra, shx) false yX1_shownBy cX1_shownBy 5 (some .int) rm_X1_shownBy σ [ar this, ai p0, ai p1] (f_X1_shownBy N σ this p0 p1) := by
  refine ctr_of (by decide) (Nat.le_of_ble_eq_true rfl) (fun z C => ?_)
  show X z 0 0 σ 0 [(0, ar this), (1, ai p0), (2, ai p1)] [] _
  unfold f_X1_shownBy
  refine x_iconst C (n := 0) (by decide +kernel) ?_
  refine x_istore_n C (i := 3) (k0 := 3) rfl (Nat.le_of_ble_eq_true rfl) (by decide +kernel) (lv2 := [(3, ai 0), (0, ar this), (1, ai p0), (2, ai p1)]) rfl ?_
  refine x_iconst C (n := 0) (by decide +kernel) ?_
  refine x_istore C (i := 4) (Nat.le_of_ble_eq_true rfl) (by decide +kernel) (lv2 := [(4, ai 0), (3, ai 0), (0, ar this), (1, ai p0), (2, ai p1)]) rfl ?_
  refine x_sub [2, 3, 4, 1, 0] (lv2 := [(0, ar this), (1, ai p0), (2, ai p1), (3, ai 0), (4, ai 0)]) rfl ?_
  -- LOOP L_X1_shownBy_5 hb5_1
  refine x_loop (T := Int × Int) (fun t => σ) (fun t => [(0, ar this), (1, ai p0), (2, ai p1), (3, ai t.1), (4, ai t.2)]) (0, 0) rfl (fun b5_1 hb5_1 t1 => ?_)
  show X z 0 0 σ 5 [(0, ar this), (1, ai p0), (2, ai p1), (3, ai t1.1), (4, ai t1.2)] [] _
  refine x_iload C 4 (i := 4) rfl (by decide +kernel) ?_
  refine x_aload_n C 0 (i := 0) (k0 := 0) rfl rfl (by decide +kernel) ?_
  refine x_gI C fl_RX1_32 (fun _ _ _ => rfl) (by decide +kernel) (fun count_3 => ?_)
  refine x_ic_ge C (tgt := 62) (off := 51) (by decide) (by decide +kernel) (fun h18 => ?_) (fun h18 => ?_)
  · skip
    refine x_iload_n C 3 (i := 3) (k0 := 3) rfl rfl (by decide +kernel) ?_
    exact x_iret C ⟨Nat.zero_le _, Nat.zero_le _⟩ (by decide +kernel)
  · skip
    refine x_aload_n C 0 (i := 0) (k0 := 0) rfl rfl (by decide +kernel) ?_
    refine x_gR C fl_RX1_11 (fun _ _ _ => rfl) (by decide +kernel) (fun kind_4 => ?_)
    refine x_iload C 4 (i := 4) rfl (by decide +kernel) ?_
    refine x_aldI C (by decide +kernel) (fun a5 => ?_)
    refine x_iconst C (n := 2) (by decide +kernel) ?_
    refine x_join (T := Int) (fun t => σ) 56 (fun t => [(0, ar this), (1, ai p0), (2, ai p1), (3, ai t), (4, ai t1.2)]) (fun t => []) (fun t6 => ?_) (fun J56_7 hJ56_7 => ?_)
    · show X z 0 0 σ 56 [(0, ar this), (1, ai p0), (2, ai p1), (3, ai t6), (4, ai t1.2)] [] _
      refine x_iinc C 4 (i := 4) (n := 1) (Nat.le_of_ble_eq_true rfl) rfl (by decide +kernel) (lv2 := fun x7 => [(4, ai x7), (0, ar this), (1, ai p0), (2, ai p1), (3, ai t6)]) (fun _ => rfl) (fun x7 => ?_)
      refine x_goto C (tgt := 5) (off := (-54)) (by decide) (by decide +kernel) ?_
      refine x_sub [1, 2, 3, 4, 0] (lv2 := [(0, ar this), (1, ai p0), (2, ai p1), (3, ai t6), (4, ai x7)]) rfl ?_
      exact hb5_1 (t6, x7)
    · skip
      refine x_ic_ne C (tgt := 56) (off := 34) (by decide) (by decide +kernel) (fun h17 => ?_) (fun h17 => ?_)
      · skip
        exact hJ56_7 t1.1
      · skip
        refine x_aload_n C 0 (i := 0) (k0 := 0) rfl rfl (by decide +kernel) ?_
        refine x_gR C fl_RX1_15 (fun _ _ _ => rfl) (by decide +kernel) (fun month_9 => ?_)
        refine x_iload C 4 (i := 4) rfl (by decide +kernel) ?_
        refine x_aldI C (by decide +kernel) (fun a10 => ?_)
        refine x_iload_n C 1 (i := 1) (k0 := 1) rfl rfl (by decide +kernel) ?_
        refine x_ic_gt C (tgt := 56) (off := 23) (by decide) (by decide +kernel) (fun h16 => ?_) (fun h16 => ?_)
        · skip
          exact hJ56_7 t1.1
        · skip
          refine x_aload_n C 0 (i := 0) (k0 := 0) rfl rfl (by decide +kernel) ?_
          refine x_iload C 4 (i := 4) rfl (by decide +kernel) ?_
          refine x_iload_n C 2 (i := 2) (k0 := 2) rfl rfl (by decide +kernel) ?_
          refine x_callVp C (ci := 1) (c_X1_counts l D ca ra N σ this t1.2 p1) (p_X1_counts N σ this t1.2 p1) mt_X1_counts mv_X1_counts rfl ml_RX1_50 rfl (fun h => Bool.noConfusion h) ⟨Nat.le_of_ble_eq_true rfl, Nat.le_of_ble_eq_true rfl⟩ (Nat.le_of_ble_eq_true rfl) 0 0 ⟨rfl, rfl⟩ ⟨Nat.zero_le _, Nat.zero_le _⟩ (by decide +kernel) _ rfl (fun q11 => [ai q11.2]) (fun _ => rfl) (fun q11 => ?_)
          refine x_if_eq C (tgt := 56) (off := 13) (by decide) (by decide +kernel) (fun h15 => ?_) (fun h15 => ?_)
          · skip
            exact hJ56_7 t1.1
          · skip
            refine x_iload_n C 3 (i := 3) (k0 := 3) rfl rfl (by decide +kernel) ?_
            refine x_aload_n C 0 (i := 0) (k0 := 0) rfl rfl (by decide +kernel) ?_
            refine x_gR C fl_RX1_18 (fun _ _ _ => rfl) (by decide +kernel) (fun value_12 => ?_)
            refine x_iload C 4 (i := 4) rfl (by decide +kernel) ?_
            refine x_aldI C (by decide +kernel) (fun a13 => ?_)
            refine x_ior C (by decide +kernel) ?_
            refine x_istore_nL C (i := 3) (k0 := 3) rfl (Nat.le_of_ble_eq_true rfl) (by decide +kernel) (lv2 := fun x14 => [(3, ai x14), (0, ar this), (1, ai p0), (2, ai p1), (4, ai t1.2)]) (fun _ => rfl) (fun x14 => ?_)
            refine x_sub [1, 2, 3, 0, 4] (lv2 := [(0, ar this), (1, ai p0), (2, ai p1), (3, ai x14), (4, ai t1.2)]) rfl ?_
            exact hJ56_7 x14
theorem p_X1_shownBy (N : Nat) (σ : St) (this : Nat) (p0 : Int) (p1 : Int) : Pu σ (f_X1_shownBy N σ this p0 p1) := by
  unfold f_X1_shownBy
  unfold L_X1_shownBy_5
  refine pu_fix (fun _ hb5_1 _ => ?_) _
  refine pu_bind (fun _ => ?_)
  refine pu_ifs ?_ ?_
  · skip
    exact pu_some
  · skip
    refine pu_bind (fun _ => ?_)
    refine pu_bind (fun _ => ?_)
    refine pu_Jn (fun _ => ?_) (fun _ hJ56_7 => ?_)
    · skip
      refine pu_Lt (fun _ => ?_)
      exact hb5_1 _
    · skip
      refine pu_ifs ?_ ?_
      · skip
        exact hJ56_7 _
      · skip
        refine pu_bind (fun _ => ?_)
        refine pu_bind (fun _ => ?_)
        refine pu_if ?_ ?_
        · skip
          exact hJ56_7 _
        · skip
          refine pu_bind (fun _ => ?_)
          refine pu_if ?_ ?_
          · skip
            exact hJ56_7 _
          · skip
            refine pu_bind (fun _ => ?_)
            refine pu_bind (fun _ => ?_)
            refine pu_Lt (fun _ => ?_)
            exact hJ56_7 _
