/-! facts of the tables: fields, methods, constants -/
theorem ck_RX11_33 : Cond.classLink RX11 33 "FastPlane$Treaty" ∈ TB := tb1 (i := 258) (by decide +kernel) rfl
theorem ck_RX2_27 : Cond.classLink RX2 27 "[[I" ∈ TB := tb1 (i := 344) (by decide +kernel) rfl
theorem ck_RX5_18 : Cond.classLink RX5 18 "[[I" ∈ TB := tb1 (i := 439) (by decide +kernel) rfl
theorem ck_RX9_20 : Cond.classLink RX9 20 "[[I" ∈ TB := tb1 (i := 378) (by decide +kernel) rfl
theorem ml_RX11_39 : Cond.methodLink RX11 39 yX7_init ∈ TB := tb1 (i := 261) (by decide +kernel) rfl
theorem ml_RX11_46 : Cond.methodLink RX11 46 yX8_init ∈ TB := tb1 (i := 296) (by decide +kernel) rfl
theorem ml_RX11_9 : Cond.methodLink RX11 9 yX6_init ∈ TB := tb1 (i := 31) (by decide +kernel) rfl
theorem nk_RX11_16 : NWk RX11 16 3 20 := ⟨_, rfl, rfl, tb1 (i := 148) (by decide +kernel) rfl, tb1 (i := 149) (by decide +kernel) rfl, tb1 (i := 7) (by decide +kernel) rfl, by decide +kernel⟩
theorem nk_RX11_26 : NWk RX11 26 4 4 := ⟨_, rfl, rfl, tb1 (i := 236) (by decide +kernel) rfl, tb1 (i := 237) (by decide +kernel) rfl, tb1 (i := 8) (by decide +kernel) rfl, by decide +kernel⟩
theorem nk_RX11_33 : NWk RX11 33 7 8 := ⟨_, rfl, rfl, tb1 (i := 258) (by decide +kernel) rfl, tb1 (i := 260) (by decide +kernel) rfl, tb1 (i := 9) (by decide +kernel) rfl, by decide +kernel⟩
theorem nk_RX11_44 : NWk RX11 44 8 1 := ⟨_, rfl, rfl, tb1 (i := 294) (by decide +kernel) rfl, tb1 (i := 295) (by decide +kernel) rfl, tb1 (i := 11) (by decide +kernel) rfl, by decide +kernel⟩
theorem nk_RX11_51 : NWk RX11 51 1 8 := ⟨_, rfl, rfl, tb1 (i := 305) (by decide +kernel) rfl, tb1 (i := 306) (by decide +kernel) rfl, tb1 (i := 12) (by decide +kernel) rfl, by decide +kernel⟩
theorem nk_RX11_58 : NWk RX11 58 2 8 := ⟨_, rfl, rfl, tb1 (i := 338) (by decide +kernel) rfl, tb1 (i := 339) (by decide +kernel) rfl, tb1 (i := 13) (by decide +kernel) rfl, by decide +kernel⟩
theorem nk_RX11_65 : NWk RX11 65 9 3 := ⟨_, rfl, rfl, tb1 (i := 372) (by decide +kernel) rfl, tb1 (i := 373) (by decide +kernel) rfl, tb1 (i := 14) (by decide +kernel) rfl, by decide +kernel⟩
theorem nk_RX11_7 : NWk RX11 7 6 14 := ⟨_, rfl, rfl, tb1 (i := 29) (by decide +kernel) rfl, tb1 (i := 30) (by decide +kernel) rfl, tb1 (i := 2) (by decide +kernel) rfl, by decide +kernel⟩
theorem nk_RX11_72 : NWk RX11 72 0 4 := ⟨_, rfl, rfl, tb1 (i := 390) (by decide +kernel) rfl, tb1 (i := 391) (by decide +kernel) rfl, tb1 (i := 15) (by decide +kernel) rfl, by decide +kernel⟩
theorem nk_RX11_79 : NWk RX11 79 10 5 := ⟨_, rfl, rfl, tb1 (i := 410) (by decide +kernel) rfl, tb1 (i := 411) (by decide +kernel) rfl, tb1 (i := 16) (by decide +kernel) rfl, by decide +kernel⟩
theorem nk_RX11_86 : NWk RX11 86 5 7 := ⟨_, rfl, rfl, tb1 (i := 433) (by decide +kernel) rfl, tb1 (i := 434) (by decide +kernel) rfl, tb1 (i := 17) (by decide +kernel) rfl, by decide +kernel⟩
theorem oi_RX11_1 : OIk RX11 1 := ⟨tb1 (i := 26) (by decide +kernel) rfl, tb1 (i := 27) (by decide +kernel) rfl, tb1 (i := 28) (by decide +kernel) rfl⟩
theorem oi_RX2_7 : OIk RX2 7 := ⟨tb1 (i := 343) (by decide +kernel) rfl, tb1 (i := 27) (by decide +kernel) rfl, tb1 (i := 28) (by decide +kernel) rfl⟩
theorem oi_RX5_5 : OIk RX5 5 := ⟨tb1 (i := 438) (by decide +kernel) rfl, tb1 (i := 27) (by decide +kernel) rfl, tb1 (i := 28) (by decide +kernel) rfl⟩
theorem oi_RX9_3 : OIk RX9 3 := ⟨tb1 (i := 377) (by decide +kernel) rfl, tb1 (i := 27) (by decide +kernel) rfl, tb1 (i := 28) (by decide +kernel) rfl⟩
theorem mt_X0_init : MtB yX0_init cX0_init 1 none 0 := ⟨tb1 (i := 394) (by decide +kernel) rfl, tb1 (i := 15) (by decide +kernel) rfl, ⟨by decide, by decide⟩, by decide +kernel⟩
theorem mi_X0_init : Cond.instanceMethod yX0_init ∈ TB ∧ yX0_init.name = "<init>" := ⟨tb1 (i := 393) (by decide +kernel) rfl, rfl⟩
theorem mt_X10_init : MtB yX10_init cX10_init 1 none 0 := ⟨tb1 (i := 414) (by decide +kernel) rfl, tb1 (i := 16) (by decide +kernel) rfl, ⟨by decide, by decide⟩, by decide +kernel⟩
theorem mi_X10_init : Cond.instanceMethod yX10_init ∈ TB ∧ yX10_init.name = "<init>" := ⟨tb1 (i := 413) (by decide +kernel) rfl, rfl⟩
theorem mt_X1_init : MtB yX1_init cX1_init 1 none 0 := ⟨tb1 (i := 309) (by decide +kernel) rfl, tb1 (i := 12) (by decide +kernel) rfl, ⟨by decide, by decide⟩, by decide +kernel⟩
theorem mi_X1_init : Cond.instanceMethod yX1_init ∈ TB ∧ yX1_init.name = "<init>" := ⟨tb1 (i := 308) (by decide +kernel) rfl, rfl⟩
theorem mt_X2_init : MtB yX2_init cX2_init 1 none 0 := ⟨tb1 (i := 342) (by decide +kernel) rfl, tb1 (i := 13) (by decide +kernel) rfl, ⟨by decide, by decide⟩, by decide +kernel⟩
theorem mi_X2_init : Cond.instanceMethod yX2_init ∈ TB ∧ yX2_init.name = "<init>" := ⟨tb1 (i := 341) (by decide +kernel) rfl, rfl⟩
theorem mt_X3_init : MtB yX3_init cX3_init 1 none 0 := ⟨tb1 (i := 152) (by decide +kernel) rfl, tb1 (i := 7) (by decide +kernel) rfl, ⟨by decide, by decide⟩, by decide +kernel⟩
theorem mi_X3_init : Cond.instanceMethod yX3_init ∈ TB ∧ yX3_init.name = "<init>" := ⟨tb1 (i := 151) (by decide +kernel) rfl, rfl⟩
theorem mt_X4_init : MtB yX4_init cX4_init 1 none 0 := ⟨tb1 (i := 240) (by decide +kernel) rfl, tb1 (i := 8) (by decide +kernel) rfl, ⟨by decide, by decide⟩, by decide +kernel⟩
theorem mi_X4_init : Cond.instanceMethod yX4_init ∈ TB ∧ yX4_init.name = "<init>" := ⟨tb1 (i := 239) (by decide +kernel) rfl, rfl⟩
theorem mt_X5_init : MtB yX5_init cX5_init 1 none 0 := ⟨tb1 (i := 437) (by decide +kernel) rfl, tb1 (i := 17) (by decide +kernel) rfl, ⟨by decide, by decide⟩, by decide +kernel⟩
theorem mi_X5_init : Cond.instanceMethod yX5_init ∈ TB ∧ yX5_init.name = "<init>" := ⟨tb1 (i := 436) (by decide +kernel) rfl, rfl⟩
theorem mt_X6_init : MtB yX6_init cX6_init 1 none 0 := ⟨tb1 (i := 33) (by decide +kernel) rfl, tb1 (i := 2) (by decide +kernel) rfl, ⟨by decide, by decide⟩, by decide +kernel⟩
theorem mi_X6_init : Cond.instanceMethod yX6_init ∈ TB ∧ yX6_init.name = "<init>" := ⟨tb1 (i := 32) (by decide +kernel) rfl, rfl⟩
theorem mt_X7_init : MtB yX7_init cX7_init 1 none 0 := ⟨tb1 (i := 263) (by decide +kernel) rfl, tb1 (i := 9) (by decide +kernel) rfl, ⟨by decide, by decide⟩, by decide +kernel⟩
theorem mi_X7_init : Cond.instanceMethod yX7_init ∈ TB ∧ yX7_init.name = "<init>" := ⟨tb1 (i := 262) (by decide +kernel) rfl, rfl⟩
theorem mt_X8_init : MtB yX8_init cX8_init 1 none 0 := ⟨tb1 (i := 298) (by decide +kernel) rfl, tb1 (i := 11) (by decide +kernel) rfl, ⟨by decide, by decide⟩, by decide +kernel⟩
theorem mi_X8_init : Cond.instanceMethod yX8_init ∈ TB ∧ yX8_init.name = "<init>" := ⟨tb1 (i := 297) (by decide +kernel) rfl, rfl⟩
theorem mt_X9_init : MtB yX9_init cX9_init 1 none 0 := ⟨tb1 (i := 376) (by decide +kernel) rfl, tb1 (i := 14) (by decide +kernel) rfl, ⟨by decide, by decide⟩, by decide +kernel⟩
theorem mi_X9_init : Cond.instanceMethod yX9_init ∈ TB ∧ yX9_init.name = "<init>" := ⟨tb1 (i := 375) (by decide +kernel) rfl, rfl⟩
def rm_X2_init : Room := { frames := 1, cells := 18, slots := 3624, locals := 20 }
def f_X2_init (N : Nat) (σ : St) (this : Nat) : Option (St × Int) :=
 (if this = 0 then none else Option.bind (pI shx σ 2 this 1 2) fun σ1 =>
 Option.bind (pI shx σ1 2 this 2 (-1)) fun σ2 =>
 Option.bind (nwC shx σ2 (1, 12)) fun σ3 =>
 Option.bind (pR shx σ3 2 this 3 σ3.1) fun σ4 =>
 Option.bind (nwC shx σ4 (1, 12)) fun σ5 =>
 Option.bind (pR shx σ5 2 this 4 σ5.1) fun σ6 =>
 Option.bind (nwM shx σ6 13 256) fun σ7 =>
 Option.bind (pR shx σ7 2 this 5 (σ6.1 + 1)) fun σ8 =>
 Option.bind (nwC shx σ8 (1, 256)) fun σ9 =>
 Option.bind (pR shx σ9 2 this 6 σ9.1) fun σ10 =>
 Option.bind (nwC shx σ10 (1, 3)) fun σ11 =>
 Option.bind (pR shx σ11 2 this 7 σ11.1) fun σ12 =>
 some (σ12, 0))
set_option maxRecDepth 100000 in
set_option maxHeartbeats 4000000 in
theorem c_X2_init (l : Launch) (D : va_G) (ca : Nat → ClassId) (ra : Nat → Nat) (N : Nat) (σ : St) (this : Nat) : CtrN l (D, ca, ra, shx) yX2_init cX2_init 1 none rm_X2_init σ [ar this] (f_X2_init N σ this) := by
  refine ctrN_of (by decide) (Nat.le_of_ble_eq_true rfl) (fun z C O => ?_)
  show X z 0 0 σ 0 [(0, ar this)] [] _
  unfold f_X2_init
  refine x_split (fun h0 => ?_) (fun h0 => ?_)
  · exact x_no
  refine x_aload_n C 0 (i := 0) (k0 := 0) rfl rfl (by decide +kernel) ?_
  refine x_objInit C oi_RX2_7 h0 ⟨Nat.le_of_ble_eq_true rfl, Nat.le_of_ble_eq_true rfl⟩ (by decide +kernel) ?_
  refine x_aload_n C 0 (i := 0) (k0 := 0) rfl rfl (by decide +kernel) ?_
  refine x_iconst C (n := 2) (by decide +kernel) ?_
  refine x_pI C fl_RX2_13 rfl (fun q h => by cases h; rfl) (by decide +kernel) (fun σ1 => ?_)
  refine x_aload_n C 0 (i := 0) (k0 := 0) rfl rfl (by decide +kernel) ?_
  refine x_iconst C (n := (-1)) (by decide +kernel) ?_
  refine x_pI C fl_RX2_17 rfl (fun q h => by cases h; rfl) (by decide +kernel) (fun σ2 => ?_)
  show X z 0 0 σ2 14 [(0, ar this)] [] _
  refine x_aload_n C 0 (i := 0) (k0 := 0) rfl rfl (by decide +kernel) ?_
  refine x_bipush C (n := 12) (by decide +kernel) (by decide +kernel) ?_
  refine x_newarr C (t := 1) (N := 12) (at9 := .int) (by decide) ac_int rfl (Nat.le_of_ble_eq_true rfl) 1 12 ⟨rfl, rfl⟩ ⟨Nat.le_of_ble_eq_true rfl, Nat.le_of_ble_eq_true rfl⟩ (by decide +kernel) (fun σ3 => ?_)
  refine x_pR C fl_RX2_20 (Or.inr ⟨_, rfl⟩) (Or.inr ⟨rfl, fun q h => by cases h; exact ⟨rfl, rfl⟩⟩) (by decide +kernel) (fun σ4 => ?_)
  refine x_aload_n C 0 (i := 0) (k0 := 0) rfl rfl (by decide +kernel) ?_
  refine x_bipush C (n := 12) (by decide +kernel) (by decide +kernel) ?_
  refine x_newarr C (t := 1) (N := 12) (at9 := .int) (by decide) ac_int rfl (Nat.le_of_ble_eq_true rfl) 2 24 ⟨rfl, rfl⟩ ⟨Nat.le_of_ble_eq_true rfl, Nat.le_of_ble_eq_true rfl⟩ (by decide +kernel) (fun σ5 => ?_)
  refine x_pR C fl_RX2_24 (Or.inr ⟨_, rfl⟩) (Or.inr ⟨rfl, fun q h => by cases h; exact ⟨rfl, rfl⟩⟩) (by decide +kernel) (fun σ6 => ?_)
  show X z 2 24 σ6 30 [(0, ar this)] [] _
  refine x_aload_n C 0 (i := 0) (k0 := 0) rfl rfl (by decide +kernel) ?_
  refine x_bipush C (n := 13) (by decide +kernel) (by decide +kernel) ?_
  refine x_sipush C (n := 256) (by decide +kernel) (by decide +kernel) ?_
  refine x_mna C O (N := 13) (K := 256) ck_RX2_27 ac_int rfl rfl (Nat.le_of_ble_eq_true rfl) (Nat.le_of_ble_eq_true rfl) 16 3365 ⟨rfl, rfl⟩ ⟨Nat.le_of_ble_eq_true rfl, Nat.le_of_ble_eq_true rfl⟩ (by decide +kernel) (fun σ7 => ?_)
  refine x_pR C fl_RX2_29 (Or.inr ⟨_, rfl⟩) (Or.inr ⟨rfl, fun q h => by cases h; exact ⟨rfl, rfl⟩⟩) (by decide +kernel) (fun σ8 => ?_)
  refine x_aload_n C 0 (i := 0) (k0 := 0) rfl rfl (by decide +kernel) ?_
  refine x_sipush C (n := 256) (by decide +kernel) (by decide +kernel) ?_
  refine x_newarr C (t := 1) (N := 256) (at9 := .int) (by decide) ac_int rfl (Nat.le_of_ble_eq_true rfl) 17 3621 ⟨rfl, rfl⟩ ⟨Nat.le_of_ble_eq_true rfl, Nat.le_of_ble_eq_true rfl⟩ (by decide +kernel) (fun σ9 => ?_)
  show X z 17 3621 σ9 49 [(0, ar this)] [ar σ9.1, ar this] _
  refine x_pR C fl_RX2_32 (Or.inr ⟨_, rfl⟩) (Or.inr ⟨rfl, fun q h => by cases h; exact ⟨rfl, rfl⟩⟩) (by decide +kernel) (fun σ10 => ?_)
  refine x_aload_n C 0 (i := 0) (k0 := 0) rfl rfl (by decide +kernel) ?_
  refine x_iconst C (n := 3) (by decide +kernel) ?_
  refine x_newarr C (t := 1) (N := 3) (at9 := .int) (by decide) ac_int rfl (Nat.le_of_ble_eq_true rfl) 18 3624 ⟨rfl, rfl⟩ ⟨Nat.le_of_ble_eq_true rfl, Nat.le_of_ble_eq_true rfl⟩ (by decide +kernel) (fun σ11 => ?_)
  refine x_pR C fl_RX2_35 (Or.inr ⟨_, rfl⟩) (Or.inr ⟨rfl, fun q h => by cases h; exact ⟨rfl, rfl⟩⟩) (by decide +kernel) (fun σ12 => ?_)
  exact x_vret C ⟨Nat.le_of_ble_eq_true rfl, Nat.le_of_ble_eq_true rfl⟩ (by decide +kernel)

def rm_X9_init : Room := { frames := 1, cells := 7, slots := 276, locals := 20 }
def f_X9_init (N : Nat) (σ : St) (this : Nat) : Option (St × Int) :=
 (if this = 0 then none else Option.bind (nwC shx σ (3, 8)) fun σ1 =>
 Option.bind (pR shx σ1 9 this 0 σ1.1) fun σ2 =>
 Option.bind (nwC shx σ2 (3, 8)) fun σ3 =>
 Option.bind (pR shx σ3 9 this 1 σ3.1) fun σ4 =>
 Option.bind (nwM shx σ4 4 64) fun σ5 =>
 Option.bind (pR shx σ5 9 this 2 (σ4.1 + 1)) fun σ6 =>
 some (σ6, 0))
set_option maxRecDepth 100000 in
set_option maxHeartbeats 4000000 in
theorem c_X9_init (l : Launch) (D : va_G) (ca : Nat → ClassId) (ra : Nat → Nat) (N : Nat) (σ : St) (this : Nat) : CtrN l (D, ca, ra, shx) yX9_init cX9_init 1 none rm_X9_init σ [ar this] (f_X9_init N σ this) := by
  refine ctrN_of (by decide) (Nat.le_of_ble_eq_true rfl) (fun z C O => ?_)
  show X z 0 0 σ 0 [(0, ar this)] [] _
  unfold f_X9_init
  refine x_split (fun h0 => ?_) (fun h0 => ?_)
  · exact x_no
  refine x_aload_n C 0 (i := 0) (k0 := 0) rfl rfl (by decide +kernel) ?_
  refine x_objInit C oi_RX9_3 h0 ⟨Nat.le_of_ble_eq_true rfl, Nat.le_of_ble_eq_true rfl⟩ (by decide +kernel) ?_
  refine x_aload_n C 0 (i := 0) (k0 := 0) rfl rfl (by decide +kernel) ?_
  refine x_bipush C (n := 8) (by decide +kernel) (by decide +kernel) ?_
  refine x_newarr C (t := 3) (N := 8) (at9 := .boolean) (by decide) ac_boolean rfl (Nat.le_of_ble_eq_true rfl) 1 8 ⟨rfl, rfl⟩ ⟨Nat.le_of_ble_eq_true rfl, Nat.le_of_ble_eq_true rfl⟩ (by decide +kernel) (fun σ1 => ?_)
  refine x_pR C fl_RX9_11 (Or.inr ⟨_, rfl⟩) (Or.inr ⟨rfl, fun q h => by cases h; exact ⟨rfl, rfl⟩⟩) (by decide +kernel) (fun σ2 => ?_)
  refine x_aload_n C 0 (i := 0) (k0 := 0) rfl rfl (by decide +kernel) ?_
  refine x_bipush C (n := 8) (by decide +kernel) (by decide +kernel) ?_
  show X z 1 8 σ2 15 [(0, ar this)] [ai 8, ar this] _
  refine x_newarr C (t := 3) (N := 8) (at9 := .boolean) (by decide) ac_boolean rfl (Nat.le_of_ble_eq_true rfl) 2 16 ⟨rfl, rfl⟩ ⟨Nat.le_of_ble_eq_true rfl, Nat.le_of_ble_eq_true rfl⟩ (by decide +kernel) (fun σ3 => ?_)
  refine x_pR C fl_RX9_15 (Or.inr ⟨_, rfl⟩) (Or.inr ⟨rfl, fun q h => by cases h; exact ⟨rfl, rfl⟩⟩) (by decide +kernel) (fun σ4 => ?_)
  refine x_aload_n C 0 (i := 0) (k0 := 0) rfl rfl (by decide +kernel) ?_
  refine x_iconst C (n := 4) (by decide +kernel) ?_
  refine x_bipush C (n := 64) (by decide +kernel) (by decide +kernel) ?_
  refine x_mna C O (N := 4) (K := 64) ck_RX9_20 ac_int rfl rfl (Nat.le_of_ble_eq_true rfl) (Nat.le_of_ble_eq_true rfl) 7 276 ⟨rfl, rfl⟩ ⟨Nat.le_of_ble_eq_true rfl, Nat.le_of_ble_eq_true rfl⟩ (by decide +kernel) (fun σ5 => ?_)
  refine x_pR C fl_RX9_22 (Or.inr ⟨_, rfl⟩) (Or.inr ⟨rfl, fun q h => by cases h; exact ⟨rfl, rfl⟩⟩) (by decide +kernel) (fun σ6 => ?_)
  exact x_vret C ⟨Nat.le_of_ble_eq_true rfl, Nat.le_of_ble_eq_true rfl⟩ (by decide +kernel)

def rm_X5_init : Room := { frames := 1, cells := 5, slots := 2188, locals := 20 }
def f_X5_init (N : Nat) (σ : St) (this : Nat) : Option (St × Int) :=
 (if this = 0 then none else Option.bind (nwC shx σ (1, 8)) fun σ1 =>
 Option.bind (pR shx σ1 5 this 4 σ1.1) fun σ2 =>
 Option.bind (nwC shx σ2 (1, 8)) fun σ3 =>
 Option.bind (pR shx σ3 5 this 5 σ3.1) fun σ4 =>
 Option.bind (nwM shx σ4 2 1085) fun σ5 =>
 Option.bind (pR shx σ5 5 this 6 (σ4.1 + 1)) fun σ6 =>
 some (σ6, 0))
set_option maxRecDepth 100000 in
set_option maxHeartbeats 4000000 in
theorem c_X5_init (l : Launch) (D : va_G) (ca : Nat → ClassId) (ra : Nat → Nat) (N : Nat) (σ : St) (this : Nat) : CtrN l (D, ca, ra, shx) yX5_init cX5_init 1 none rm_X5_init σ [ar this] (f_X5_init N σ this) := by
  refine ctrN_of (by decide) (Nat.le_of_ble_eq_true rfl) (fun z C O => ?_)
  show X z 0 0 σ 0 [(0, ar this)] [] _
  unfold f_X5_init
  refine x_split (fun h0 => ?_) (fun h0 => ?_)
  · exact x_no
  refine x_aload_n C 0 (i := 0) (k0 := 0) rfl rfl (by decide +kernel) ?_
  refine x_objInit C oi_RX5_5 h0 ⟨Nat.le_of_ble_eq_true rfl, Nat.le_of_ble_eq_true rfl⟩ (by decide +kernel) ?_
  refine x_aload_n C 0 (i := 0) (k0 := 0) rfl rfl (by decide +kernel) ?_
  refine x_bipush C (n := 8) (by decide +kernel) (by decide +kernel) ?_
  refine x_newarr C (t := 1) (N := 8) (at9 := .int) (by decide) ac_int rfl (Nat.le_of_ble_eq_true rfl) 1 8 ⟨rfl, rfl⟩ ⟨Nat.le_of_ble_eq_true rfl, Nat.le_of_ble_eq_true rfl⟩ (by decide +kernel) (fun σ1 => ?_)
  refine x_pR C fl_RX5_11 (Or.inr ⟨_, rfl⟩) (Or.inr ⟨rfl, fun q h => by cases h; exact ⟨rfl, rfl⟩⟩) (by decide +kernel) (fun σ2 => ?_)
  refine x_aload_n C 0 (i := 0) (k0 := 0) rfl rfl (by decide +kernel) ?_
  refine x_bipush C (n := 8) (by decide +kernel) (by decide +kernel) ?_
  show X z 1 8 σ2 15 [(0, ar this)] [ai 8, ar this] _
  refine x_newarr C (t := 1) (N := 8) (at9 := .int) (by decide) ac_int rfl (Nat.le_of_ble_eq_true rfl) 2 16 ⟨rfl, rfl⟩ ⟨Nat.le_of_ble_eq_true rfl, Nat.le_of_ble_eq_true rfl⟩ (by decide +kernel) (fun σ3 => ?_)
  refine x_pR C fl_RX5_15 (Or.inr ⟨_, rfl⟩) (Or.inr ⟨rfl, fun q h => by cases h; exact ⟨rfl, rfl⟩⟩) (by decide +kernel) (fun σ4 => ?_)
  refine x_aload_n C 0 (i := 0) (k0 := 0) rfl rfl (by decide +kernel) ?_
  refine x_iconst C (n := 2) (by decide +kernel) ?_
  refine x_sipush C (n := 1085) (by decide +kernel) (by decide +kernel) ?_
  refine x_mna C O (N := 2) (K := 1085) ck_RX5_18 ac_int rfl rfl (Nat.le_of_ble_eq_true rfl) (Nat.le_of_ble_eq_true rfl) 5 2188 ⟨rfl, rfl⟩ ⟨Nat.le_of_ble_eq_true rfl, Nat.le_of_ble_eq_true rfl⟩ (by decide +kernel) (fun σ5 => ?_)
  refine x_pR C fl_RX5_20 (Or.inr ⟨_, rfl⟩) (Or.inr ⟨rfl, fun q h => by cases h; exact ⟨rfl, rfl⟩⟩) (by decide +kernel) (fun σ6 => ?_)
  exact x_vret C ⟨Nat.le_of_ble_eq_true rfl, Nat.le_of_ble_eq_true rfl⟩ (by decide +kernel)

def rm_X11_init : Room := { frames := 6, cells := 112, slots := 24286, locals := 132 }
def f_X11_init (N : Nat) (σ : St) (this : Nat) : Option (St × Int) :=
 (if this = 0 then none else Option.bind (nwC shx σ (0, 6)) fun σ1 =>
 Option.bind (f_X6_init N σ1 σ1.1) fun q2 =>
 Option.bind (pR shx q2.1 11 this 0 σ1.1) fun σ3 =>
 Option.bind (nwC shx σ3 (0, 3)) fun σ4 =>
 Option.bind (f_X3_init N σ4 σ4.1) fun q5 =>
 Option.bind (pR shx q5.1 11 this 1 σ4.1) fun σ6 =>
 Option.bind (nwC shx σ6 (0, 3)) fun σ7 =>
 Option.bind (f_X3_init N σ7 σ7.1) fun q8 =>
 Option.bind (pR shx q8.1 11 this 2 σ7.1) fun σ9 =>
 Option.bind (nwC shx σ9 (0, 4)) fun σ10 =>
 Option.bind (f_X4_init N σ10 σ10.1) fun q11 =>
 Option.bind (pR shx q11.1 11 this 3 σ10.1) fun σ12 =>
 Option.bind (nwC shx σ12 (5, 3)) fun σ13 =>
 Option.bind (pR shx σ13 11 this 4 σ13.1) fun σ14 =>
 (if wr 0 < wr 3 then Option.bind (gR shx σ14 11 this 4) fun treaties_15 =>
 Option.bind (nwC shx σ14 (0, 7)) fun σ16 =>
 Option.bind (f_X7_init N σ16 σ16.1) fun q17 =>
 Option.bind (sR shx q17.1 5 treaties_15 0 σ16.1) fun σ18 =>
 Lt (0 + 1) fun x19 =>
 (if wr x19 < wr 3 then Option.bind (gR shx σ18 11 this 4) fun treaties_20 =>
 Option.bind (nwC shx σ18 (0, 7)) fun σ21 =>
 Option.bind (f_X7_init N σ21 σ21.1) fun q22 =>
 Option.bind (sR shx q22.1 5 treaties_20 x19 σ21.1) fun σ23 =>
 Lt (x19 + 1) fun x24 =>
 (if wr x24 < wr 3 then Option.bind (gR shx σ23 11 this 4) fun treaties_25 =>
 Option.bind (nwC shx σ23 (0, 7)) fun σ26 =>
 Option.bind (f_X7_init N σ26 σ26.1) fun q27 =>
 Option.bind (sR shx q27.1 5 treaties_25 x24 σ26.1) fun σ28 =>
 Lt (x24 + 1) fun x29 =>
 (if wr x29 < wr 3 then none else Option.bind (nwC shx σ28 (0, 7)) fun σ30 =>
 Option.bind (f_X7_init N σ30 σ30.1) fun q31 =>
 Option.bind (pR shx q31.1 11 this 5 σ30.1) fun σ32 =>
 Option.bind (nwC shx σ32 (0, 8)) fun σ33 =>
 Option.bind (f_X8_init N σ33 σ33.1) fun q34 =>
 Option.bind (pR shx q34.1 11 this 6 σ33.1) fun σ35 =>
 Option.bind (nwC shx σ35 (0, 1)) fun σ36 =>
 Option.bind (f_X1_init N σ36 σ36.1) fun q37 =>
 Option.bind (pR shx q37.1 11 this 7 σ36.1) fun σ38 =>
 Option.bind (nwC shx σ38 (0, 2)) fun σ39 =>
 Option.bind (f_X2_init N σ39 σ39.1) fun q40 =>
 Option.bind (pR shx q40.1 11 this 8 σ39.1) fun σ41 =>
 Option.bind (nwC shx σ41 (0, 9)) fun σ42 =>
 Option.bind (f_X9_init N σ42 σ42.1) fun q43 =>
 Option.bind (pR shx q43.1 11 this 9 σ42.1) fun σ44 =>
 Option.bind (nwC shx σ44 (0, 0)) fun σ45 =>
 Option.bind (f_X0_init N σ45 σ45.1) fun q46 =>
 Option.bind (pR shx q46.1 11 this 10 σ45.1) fun σ47 =>
 Option.bind (nwC shx σ47 (0, 10)) fun σ48 =>
 Option.bind (f_X10_init N σ48 σ48.1) fun q49 =>
 Option.bind (pR shx q49.1 11 this 11 σ48.1) fun σ50 =>
 Option.bind (nwC shx σ50 (0, 5)) fun σ51 =>
 Option.bind (f_X5_init N σ51 σ51.1) fun q52 =>
 Option.bind (pR shx q52.1 11 this 12 σ51.1) fun σ53 =>
 some (σ53, 0)) else none) else none) else none))
set_option maxRecDepth 100000 in
set_option maxHeartbeats 4000000 in
theorem c_X11_init (l : Launch) (D : va_G) (ca : Nat → ClassId) (ra : Nat → Nat) (N : Nat) (σ : St) (this : Nat) : CtrN l (D, ca, ra, shx) yX11_init cX11_init 2 none rm_X11_init σ [ar this] (f_X11_init N σ this) := by
  refine ctrN_of (by decide) (Nat.le_of_ble_eq_true rfl) (fun z C O => ?_)
  show X z 0 0 σ 0 [(0, ar this)] [] _
  unfold f_X11_init
  refine x_split (fun h0 => ?_) (fun h0 => ?_)
  · exact x_no
  refine x_aload_n C 0 (i := 0) (k0 := 0) rfl rfl (by decide +kernel) ?_
  refine x_objInit C oi_RX11_1 h0 ⟨Nat.le_of_ble_eq_true rfl, Nat.le_of_ble_eq_true rfl⟩ (by decide +kernel) ?_
  refine x_aload_n C 0 (i := 0) (k0 := 0) rfl rfl (by decide +kernel) ?_
  refine x_new C nk_RX11_7 1 14 ⟨rfl, rfl⟩ ⟨Nat.le_of_ble_eq_true rfl, Nat.le_of_ble_eq_true rfl⟩ (by decide +kernel) (fun σ1 nσ1 => ?_)
  refine x_dup C rfl (by decide +kernel) ?_
  refine x_callI C O (c_X6_init l D ca ra N σ1 σ1.1) mt_X6_init mi_X6_init ml_RX11_9 nσ1 rfl ⟨Nat.le_of_ble_eq_true rfl, Nat.le_of_ble_eq_true rfl⟩ (Nat.le_of_ble_eq_true rfl) 6 5251 ⟨rfl, rfl⟩ ⟨Nat.le_of_ble_eq_true rfl, Nat.le_of_ble_eq_true rfl⟩ (by decide +kernel) _ rfl (fun q2 => ?_)
  refine x_pR C fl_RX11_10 (Or.inl ⟨_, rfl⟩) (Or.inr ⟨rfl, fun q h => by cases h; exact ⟨rfl, rfl⟩⟩) (by decide +kernel) (fun σ3 => ?_)
  refine x_aload_n C 0 (i := 0) (k0 := 0) rfl rfl (by decide +kernel) ?_
  show X z 6 5251 σ3 16 [(0, ar this)] [ar this] _
  refine x_new C nk_RX11_16 7 5271 ⟨rfl, rfl⟩ ⟨Nat.le_of_ble_eq_true rfl, Nat.le_of_ble_eq_true rfl⟩ (by decide +kernel) (fun σ4 nσ4 => ?_)
  refine x_dup C rfl (by decide +kernel) ?_
  refine x_callIN C O (c_X3_init l D ca ra N σ4 σ4.1) mt_X3_init mi_X3_init (List.mem_of_getElem? (i := 0) rfl) nσ4 rfl ⟨Nat.le_of_ble_eq_true rfl, Nat.le_of_ble_eq_true rfl⟩ (Nat.le_of_ble_eq_true rfl) 21 5497 ⟨rfl, rfl⟩ ⟨Nat.le_of_ble_eq_true rfl, Nat.le_of_ble_eq_true rfl⟩ (by decide +kernel) _ rfl (fun q5 => ?_)
  refine x_pR C fl_RX11_19 (Or.inl ⟨_, rfl⟩) (Or.inl (fun q h => by cases h; rfl)) (by decide +kernel) (fun σ6 => ?_)
  refine x_aload_n C 0 (i := 0) (k0 := 0) rfl rfl (by decide +kernel) ?_
  refine x_new C nk_RX11_16 22 5517 ⟨rfl, rfl⟩ ⟨Nat.le_of_ble_eq_true rfl, Nat.le_of_ble_eq_true rfl⟩ (by decide +kernel) (fun σ7 nσ7 => ?_)
  refine x_dup C rfl (by decide +kernel) ?_
  refine x_callIN C O (c_X3_init l D ca ra N σ7 σ7.1) mt_X3_init mi_X3_init (List.mem_of_getElem? (i := 0) rfl) nσ7 rfl ⟨Nat.le_of_ble_eq_true rfl, Nat.le_of_ble_eq_true rfl⟩ (Nat.le_of_ble_eq_true rfl) 36 5743 ⟨rfl, rfl⟩ ⟨Nat.le_of_ble_eq_true rfl, Nat.le_of_ble_eq_true rfl⟩ (by decide +kernel) _ rfl (fun q8 => ?_)
  show X z 36 5743 q8.1 34 [(0, ar this)] [ar σ7.1, ar this] _
  refine x_pR C fl_RX11_23 (Or.inl ⟨_, rfl⟩) (Or.inl (fun q h => by cases h; rfl)) (by decide +kernel) (fun σ9 => ?_)
  refine x_aload_n C 0 (i := 0) (k0 := 0) rfl rfl (by decide +kernel) ?_
  refine x_new C nk_RX11_26 37 5747 ⟨rfl, rfl⟩ ⟨Nat.le_of_ble_eq_true rfl, Nat.le_of_ble_eq_true rfl⟩ (by decide +kernel) (fun σ10 nσ10 => ?_)
  refine x_dup C rfl (by decide +kernel) ?_
  refine x_callIN C O (c_X4_init l D ca ra N σ10 σ10.1) mt_X4_init mi_X4_init (List.mem_of_getElem? (i := 1) rfl) nσ10 rfl ⟨Nat.le_of_ble_eq_true rfl, Nat.le_of_ble_eq_true rfl⟩ (Nat.le_of_ble_eq_true rfl) 37 5747 ⟨rfl, rfl⟩ ⟨Nat.le_of_ble_eq_true rfl, Nat.le_of_ble_eq_true rfl⟩ (by decide +kernel) _ rfl (fun q11 => ?_)
  refine x_pR C fl_RX11_29 (Or.inl ⟨_, rfl⟩) (Or.inr ⟨rfl, fun q h => by cases h; exact ⟨rfl, rfl⟩⟩) (by decide +kernel) (fun σ12 => ?_)
  refine x_aload_n C 0 (i := 0) (k0 := 0) rfl rfl (by decide +kernel) ?_
  refine x_iconst C (n := 3) (by decide +kernel) ?_
  show X z 37 5747 σ12 50 [(0, ar this)] [ai 3, ar this] _
  refine x_newTr C O (N := 3) ck_RX11_33 rfl (Nat.le_of_ble_eq_true rfl) 38 5750 ⟨rfl, rfl⟩ ⟨Nat.le_of_ble_eq_true rfl, Nat.le_of_ble_eq_true rfl⟩ (by decide +kernel) (fun σ13 => ?_)
  refine x_pR C fl_RX11_35 (Or.inr ⟨_, rfl⟩) (Or.inr ⟨rfl, fun q h => by cases h; exact ⟨rfl, rfl⟩⟩) (by decide +kernel) (fun σ14 => ?_)
  refine x_iconst C (n := 0) (by decide +kernel) ?_
  refine x_istore_n C (i := 1) (k0 := 1) rfl (Nat.le_of_ble_eq_true rfl) (by decide +kernel) (lv2 := [(1, ai 0), (0, ar this)]) rfl ?_
  refine x_iload_n C 0 (i := 1) (k0 := 1) rfl rfl (by decide +kernel) ?_
  refine x_iconst C (n := 3) (by decide +kernel) ?_
  refine x_ic_ge C (tgt := 82) (off := 22) (by decide) (by decide +kernel) (fun h57 => ?_) (fun h57 => ?_)
  · skip
    exact x_no
  · skip
    refine x_aload_n C 1 (i := 0) (k0 := 0) rfl rfl (by decide +kernel) ?_
    refine x_gR C fl_RX11_35 (fun _ _ _ => rfl) (by decide +kernel) (fun treaties_15 => ?_)
    refine x_iload_n C 0 (i := 1) (k0 := 1) rfl rfl (by decide +kernel) ?_
    refine x_new C nk_RX11_33 39 5758 ⟨rfl, rfl⟩ ⟨Nat.le_of_ble_eq_true rfl, Nat.le_of_ble_eq_true rfl⟩ (by decide +kernel) (fun σ16 nσ16 => ?_)
    refine x_dup C rfl (by decide +kernel) ?_
    refine x_callI C O (c_X7_init l D ca ra N σ16 σ16.1) mt_X7_init mi_X7_init ml_RX11_39 nσ16 rfl ⟨Nat.le_of_ble_eq_true rfl, Nat.le_of_ble_eq_true rfl⟩ (Nat.le_of_ble_eq_true rfl) 44 6537 ⟨rfl, rfl⟩ ⟨Nat.le_of_ble_eq_true rfl, Nat.le_of_ble_eq_true rfl⟩ (by decide +kernel) _ rfl (fun q17 => ?_)
    refine x_astR C (by decide +kernel) (fun σ18 => ?_)
    refine x_iinc C 0 (i := 1) (n := 1) (Nat.le_of_ble_eq_true rfl) rfl (by decide +kernel) (lv2 := fun x19 => [(1, ai x19), (0, ar this)]) (fun _ => rfl) (fun x19 => ?_)
    show X z 44 6537 σ18 79 [(1, ai x19), (0, ar this)] [] _
    refine x_goto C (tgt := 58) (off := (-21)) (by decide) (by decide +kernel) ?_
    refine x_iload_n C 0 (i := 1) (k0 := 1) rfl rfl (by decide +kernel) ?_
    refine x_iconst C (n := 3) (by decide +kernel) ?_
    refine x_ic_ge C (tgt := 82) (off := 22) (by decide) (by decide +kernel) (fun h56 => ?_) (fun h56 => ?_)
    · skip
      exact x_no
    · skip
      refine x_aload_n C 1 (i := 0) (k0 := 0) rfl rfl (by decide +kernel) ?_
      refine x_gR C fl_RX11_35 (fun _ _ _ => rfl) (by decide +kernel) (fun treaties_20 => ?_)
      refine x_iload_n C 0 (i := 1) (k0 := 1) rfl rfl (by decide +kernel) ?_
      refine x_new C nk_RX11_33 45 6545 ⟨rfl, rfl⟩ ⟨Nat.le_of_ble_eq_true rfl, Nat.le_of_ble_eq_true rfl⟩ (by decide +kernel) (fun σ21 nσ21 => ?_)
      refine x_dup C rfl (by decide +kernel) ?_
      refine x_callI C O (c_X7_init l D ca ra N σ21 σ21.1) mt_X7_init mi_X7_init ml_RX11_39 nσ21 rfl ⟨Nat.le_of_ble_eq_true rfl, Nat.le_of_ble_eq_true rfl⟩ (Nat.le_of_ble_eq_true rfl) 50 7324 ⟨rfl, rfl⟩ ⟨Nat.le_of_ble_eq_true rfl, Nat.le_of_ble_eq_true rfl⟩ (by decide +kernel) _ rfl (fun q22 => ?_)
      refine x_astR C (by decide +kernel) (fun σ23 => ?_)
      refine x_iinc C 0 (i := 1) (n := 1) (Nat.le_of_ble_eq_true rfl) rfl (by decide +kernel) (lv2 := fun x24 => [(1, ai x24), (0, ar this)]) (fun _ => rfl) (fun x24 => ?_)
      show X z 50 7324 σ23 79 [(1, ai x24), (0, ar this)] [] _
      refine x_goto C (tgt := 58) (off := (-21)) (by decide) (by decide +kernel) ?_
      refine x_iload_n C 0 (i := 1) (k0 := 1) rfl rfl (by decide +kernel) ?_
      refine x_iconst C (n := 3) (by decide +kernel) ?_
      refine x_ic_ge C (tgt := 82) (off := 22) (by decide) (by decide +kernel) (fun h55 => ?_) (fun h55 => ?_)
      · skip
        exact x_no
      · skip
        refine x_aload_n C 1 (i := 0) (k0 := 0) rfl rfl (by decide +kernel) ?_
        refine x_gR C fl_RX11_35 (fun _ _ _ => rfl) (by decide +kernel) (fun treaties_25 => ?_)
        refine x_iload_n C 0 (i := 1) (k0 := 1) rfl rfl (by decide +kernel) ?_
        refine x_new C nk_RX11_33 51 7332 ⟨rfl, rfl⟩ ⟨Nat.le_of_ble_eq_true rfl, Nat.le_of_ble_eq_true rfl⟩ (by decide +kernel) (fun σ26 nσ26 => ?_)
        refine x_dup C rfl (by decide +kernel) ?_
        refine x_callI C O (c_X7_init l D ca ra N σ26 σ26.1) mt_X7_init mi_X7_init ml_RX11_39 nσ26 rfl ⟨Nat.le_of_ble_eq_true rfl, Nat.le_of_ble_eq_true rfl⟩ (Nat.le_of_ble_eq_true rfl) 56 8111 ⟨rfl, rfl⟩ ⟨Nat.le_of_ble_eq_true rfl, Nat.le_of_ble_eq_true rfl⟩ (by decide +kernel) _ rfl (fun q27 => ?_)
        refine x_astR C (by decide +kernel) (fun σ28 => ?_)
        refine x_iinc C 0 (i := 1) (n := 1) (Nat.le_of_ble_eq_true rfl) rfl (by decide +kernel) (lv2 := fun x29 => [(1, ai x29), (0, ar this)]) (fun _ => rfl) (fun x29 => ?_)
        show X z 56 8111 σ28 79 [(1, ai x29), (0, ar this)] [] _
        refine x_goto C (tgt := 58) (off := (-21)) (by decide) (by decide +kernel) ?_
        refine x_iload_n C 0 (i := 1) (k0 := 1) rfl rfl (by decide +kernel) ?_
        refine x_iconst C (n := 3) (by decide +kernel) ?_
        refine x_ic_ge C (tgt := 82) (off := 22) (by decide) (by decide +kernel) (fun h54 => ?_) (fun h54 => ?_)
        · skip
          refine x_aload_n C 1 (i := 0) (k0 := 0) rfl rfl (by decide +kernel) ?_
          refine x_new C nk_RX11_33 57 8119 ⟨rfl, rfl⟩ ⟨Nat.le_of_ble_eq_true rfl, Nat.le_of_ble_eq_true rfl⟩ (by decide +kernel) (fun σ30 nσ30 => ?_)
          refine x_dup C rfl (by decide +kernel) ?_
          refine x_callI C O (c_X7_init l D ca ra N σ30 σ30.1) mt_X7_init mi_X7_init ml_RX11_39 nσ30 rfl ⟨Nat.le_of_ble_eq_true rfl, Nat.le_of_ble_eq_true rfl⟩ (Nat.le_of_ble_eq_true rfl) 62 8898 ⟨rfl, rfl⟩ ⟨Nat.le_of_ble_eq_true rfl, Nat.le_of_ble_eq_true rfl⟩ (by decide +kernel) _ rfl (fun q31 => ?_)
          refine x_pR C fl_RX11_40 (Or.inl ⟨_, rfl⟩) (Or.inl (fun q h => by cases h; rfl)) (by decide +kernel) (fun σ32 => ?_)
          refine x_aload_n C 1 (i := 0) (k0 := 0) rfl rfl (by decide +kernel) ?_
          refine x_new C nk_RX11_44 63 8899 ⟨rfl, rfl⟩ ⟨Nat.le_of_ble_eq_true rfl, Nat.le_of_ble_eq_true rfl⟩ (by decide +kernel) (fun σ33 nσ33 => ?_)
          refine x_dup C rfl (by decide +kernel) ?_
          show X z 63 8899 σ33 98 [(1, ai x29), (0, ar this)] [ar σ33.1, ar σ33.1, ar this] _
          refine x_callI C O (c_X8_init l D ca ra N σ33 σ33.1) mt_X8_init mi_X8_init ml_RX11_46 nσ33 rfl ⟨Nat.le_of_ble_eq_true rfl, Nat.le_of_ble_eq_true rfl⟩ (Nat.le_of_ble_eq_true rfl) 64 8917 ⟨rfl, rfl⟩ ⟨Nat.le_of_ble_eq_true rfl, Nat.le_of_ble_eq_true rfl⟩ (by decide +kernel) _ rfl (fun q34 => ?_)
          refine x_pR C fl_RX11_47 (Or.inl ⟨_, rfl⟩) (Or.inr ⟨rfl, fun q h => by cases h; exact ⟨rfl, rfl⟩⟩) (by decide +kernel) (fun σ35 => ?_)
          refine x_aload_n C 1 (i := 0) (k0 := 0) rfl rfl (by decide +kernel) ?_
          refine x_new C nk_RX11_51 65 8925 ⟨rfl, rfl⟩ ⟨Nat.le_of_ble_eq_true rfl, Nat.le_of_ble_eq_true rfl⟩ (by decide +kernel) (fun σ36 nσ36 => ?_)
          refine x_dup C rfl (by decide +kernel) ?_
          refine x_callIN C O (c_X1_init l D ca ra N σ36 σ36.1) mt_X1_init mi_X1_init (List.mem_of_getElem? (i := 2) rfl) nσ36 rfl ⟨Nat.le_of_ble_eq_true rfl, Nat.le_of_ble_eq_true rfl⟩ (Nat.le_of_ble_eq_true rfl) 71 9937 ⟨rfl, rfl⟩ ⟨Nat.le_of_ble_eq_true rfl, Nat.le_of_ble_eq_true rfl⟩ (by decide +kernel) _ rfl (fun q37 => ?_)
          refine x_pR C fl_RX11_54 (Or.inl ⟨_, rfl⟩) (Or.inr ⟨rfl, fun q h => by cases h; exact ⟨rfl, rfl⟩⟩) (by decide +kernel) (fun σ38 => ?_)
          refine x_aload_n C 1 (i := 0) (k0 := 0) rfl rfl (by decide +kernel) ?_
          show X z 71 9937 σ38 116 [(1, ai x29), (0, ar this)] [ar this] _
          refine x_new C nk_RX11_58 72 9945 ⟨rfl, rfl⟩ ⟨Nat.le_of_ble_eq_true rfl, Nat.le_of_ble_eq_true rfl⟩ (by decide +kernel) (fun σ39 nσ39 => ?_)
          refine x_dup C rfl (by decide +kernel) ?_
          refine x_callIN C O (c_X2_init l D ca ra N σ39 σ39.1) mt_X2_init mi_X2_init (List.mem_of_getElem? (i := 3) rfl) nσ39 rfl ⟨Nat.le_of_ble_eq_true rfl, Nat.le_of_ble_eq_true rfl⟩ (Nat.le_of_ble_eq_true rfl) 90 13569 ⟨rfl, rfl⟩ ⟨Nat.le_of_ble_eq_true rfl, Nat.le_of_ble_eq_true rfl⟩ (by decide +kernel) _ rfl (fun q40 => ?_)
          refine x_pR C fl_RX11_61 (Or.inl ⟨_, rfl⟩) (Or.inr ⟨rfl, fun q h => by cases h; exact ⟨rfl, rfl⟩⟩) (by decide +kernel) (fun σ41 => ?_)
          refine x_aload_n C 1 (i := 0) (k0 := 0) rfl rfl (by decide +kernel) ?_
          refine x_new C nk_RX11_65 91 13572 ⟨rfl, rfl⟩ ⟨Nat.le_of_ble_eq_true rfl, Nat.le_of_ble_eq_true rfl⟩ (by decide +kernel) (fun σ42 nσ42 => ?_)
          refine x_dup C rfl (by decide +kernel) ?_
          refine x_callIN C O (c_X9_init l D ca ra N σ42 σ42.1) mt_X9_init mi_X9_init (List.mem_of_getElem? (i := 4) rfl) nσ42 rfl ⟨Nat.le_of_ble_eq_true rfl, Nat.le_of_ble_eq_true rfl⟩ (Nat.le_of_ble_eq_true rfl) 98 13848 ⟨rfl, rfl⟩ ⟨Nat.le_of_ble_eq_true rfl, Nat.le_of_ble_eq_true rfl⟩ (by decide +kernel) _ rfl (fun q43 => ?_)
          show X z 98 13848 q43.1 134 [(1, ai x29), (0, ar this)] [ar σ42.1, ar this] _
          refine x_pR C fl_RX11_68 (Or.inl ⟨_, rfl⟩) (Or.inr ⟨rfl, fun q h => by cases h; exact ⟨rfl, rfl⟩⟩) (by decide +kernel) (fun σ44 => ?_)
          refine x_aload_n C 1 (i := 0) (k0 := 0) rfl rfl (by decide +kernel) ?_
          refine x_new C nk_RX11_72 99 13852 ⟨rfl, rfl⟩ ⟨Nat.le_of_ble_eq_true rfl, Nat.le_of_ble_eq_true rfl⟩ (by decide +kernel) (fun σ45 nσ45 => ?_)
          refine x_dup C rfl (by decide +kernel) ?_
          refine x_callIN C O (c_X0_init l D ca ra N σ45 σ45.1) mt_X0_init mi_X0_init (List.mem_of_getElem? (i := 5) rfl) nσ45 rfl ⟨Nat.le_of_ble_eq_true rfl, Nat.le_of_ble_eq_true rfl⟩ (Nat.le_of_ble_eq_true rfl) 102 13882 ⟨rfl, rfl⟩ ⟨Nat.le_of_ble_eq_true rfl, Nat.le_of_ble_eq_true rfl⟩ (by decide +kernel) _ rfl (fun q46 => ?_)
          refine x_pR C fl_RX11_75 (Or.inl ⟨_, rfl⟩) (Or.inr ⟨rfl, fun q h => by cases h; exact ⟨rfl, rfl⟩⟩) (by decide +kernel) (fun σ47 => ?_)
          refine x_aload_n C 1 (i := 0) (k0 := 0) rfl rfl (by decide +kernel) ?_
          refine x_new C nk_RX11_79 103 13887 ⟨rfl, rfl⟩ ⟨Nat.le_of_ble_eq_true rfl, Nat.le_of_ble_eq_true rfl⟩ (by decide +kernel) (fun σ48 nσ48 => ?_)
          show X z 103 13887 σ48 152 [(1, ai x29), (0, ar this)] [ar σ48.1, ar this] _
          refine x_dup C rfl (by decide +kernel) ?_
          refine x_callIN C O (c_X10_init l D ca ra N σ48 σ48.1) mt_X10_init mi_X10_init (List.mem_of_getElem? (i := 6) rfl) nσ48 rfl ⟨Nat.le_of_ble_eq_true rfl, Nat.le_of_ble_eq_true rfl⟩ (Nat.le_of_ble_eq_true rfl) 106 22091 ⟨rfl, rfl⟩ ⟨Nat.le_of_ble_eq_true rfl, Nat.le_of_ble_eq_true rfl⟩ (by decide +kernel) _ rfl (fun q49 => ?_)
          refine x_pR C fl_RX11_82 (Or.inl ⟨_, rfl⟩) (Or.inr ⟨rfl, fun q h => by cases h; exact ⟨rfl, rfl⟩⟩) (by decide +kernel) (fun σ50 => ?_)
          refine x_aload_n C 1 (i := 0) (k0 := 0) rfl rfl (by decide +kernel) ?_
          refine x_new C nk_RX11_86 107 22098 ⟨rfl, rfl⟩ ⟨Nat.le_of_ble_eq_true rfl, Nat.le_of_ble_eq_true rfl⟩ (by decide +kernel) (fun σ51 nσ51 => ?_)
          refine x_dup C rfl (by decide +kernel) ?_
          refine x_callIN C O (c_X5_init l D ca ra N σ51 σ51.1) mt_X5_init mi_X5_init (List.mem_of_getElem? (i := 7) rfl) nσ51 rfl ⟨Nat.le_of_ble_eq_true rfl, Nat.le_of_ble_eq_true rfl⟩ (Nat.le_of_ble_eq_true rfl) 112 24286 ⟨rfl, rfl⟩ ⟨Nat.le_of_ble_eq_true rfl, Nat.le_of_ble_eq_true rfl⟩ (by decide +kernel) _ rfl (fun q52 => ?_)
          refine x_pR C fl_RX11_89 (Or.inl ⟨_, rfl⟩) (Or.inr ⟨rfl, fun q h => by cases h; exact ⟨rfl, rfl⟩⟩) (by decide +kernel) (fun σ53 => ?_)
          show X z 112 24286 σ53 170 [(1, ai x29), (0, ar this)] [] _
          exact x_vret C ⟨Nat.le_of_ble_eq_true rfl, Nat.le_of_ble_eq_true rfl⟩ (by decide +kernel)
        · skip
          exact x_no
