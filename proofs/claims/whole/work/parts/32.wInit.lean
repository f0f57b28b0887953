def rm_X6_init : Room := { frames := 5, cells := 5, slots := 5237, locals := 112 }
def f_X6_init (N : Nat) (σ : St) (this : Nat) : Option (St × Int) :=
 (if this = 0 then none else Option.bind (nwC shx σ (2, 34)) fun σ1 =>
 Option.bind (pR shx σ1 6 this 0 σ1.1) fun σ2 =>
 Option.bind (nwC shx σ2 (1, 1300)) fun σ3 =>
 Option.bind (pR shx σ3 6 this 1 σ3.1) fun σ4 =>
 Option.bind (nwC shx σ4 (1, 1301)) fun σ5 =>
 Option.bind (pR shx σ5 6 this 4 σ5.1) fun σ6 =>
 Option.bind (nwC shx σ6 (1, 1301)) fun σ7 =>
 Option.bind (pR shx σ7 6 this 5 σ7.1) fun σ8 =>
 Option.bind (nwC shx σ8 (2, 1301)) fun σ9 =>
 Option.bind (pR shx σ9 6 this 6 σ9.1) fun σ10 =>
 Option.bind (pI shx σ10 6 this 13 (-1)) fun σ11 =>
 Option.bind (rcv shx σ11 6 this (f_X6_putOwnWords N σ11 this 0 0)) fun q12 =>
 Option.bind (rcv shx q12.1 6 this (f_X6_putOwnWords N q12.1 this 1 15)) fun q13 =>
 some (q13.1, 0))
set_option maxRecDepth 100000 in
set_option maxHeartbeats 4000000 in
theorem c_X6_init (l : Launch) (D : va_G) (ca : Nat → ClassId) (ra : Nat → Nat) (N : Nat) (σ : St) (this : Nat) : CtrN l (D, ca, ra, shx) yX6_init cX6_init 1 none rm_X6_init σ [ar this] (f_X6_init N σ this) := by
  refine ctrN_of (by decide) (Nat.le_of_ble_eq_true rfl) (fun z C O => ?_)
  show X z 0 0 σ 0 [(0, ar this)] [] _
  unfold f_X6_init
  refine x_split (fun h0 => ?_) (fun h0 => ?_)
  · exact x_no
  refine x_aload_n C 0 (i := 0) (k0 := 0) rfl rfl (by decide +kernel) ?_
  refine x_objInit C oi_RX6_3 h0 ⟨Nat.le_of_ble_eq_true rfl, Nat.le_of_ble_eq_true rfl⟩ (by decide +kernel) ?_
  refine x_aload_n C 0 (i := 0) (k0 := 0) rfl rfl (by decide +kernel) ?_
  refine x_bipush C (n := 34) (by decide +kernel) (by decide +kernel) ?_
  refine x_newarr C (t := 2) (N := 34) (at9 := .long) (by decide) ac_long rfl (Nat.le_of_ble_eq_true rfl) 1 34 ⟨rfl, rfl⟩ ⟨Nat.le_of_ble_eq_true rfl, Nat.le_of_ble_eq_true rfl⟩ (by decide +kernel) (fun σ1 => ?_)
  refine x_pR C fl_RX6_11 (Or.inr ⟨_, rfl⟩) (Or.inr ⟨rfl, fun q h => by cases h; exact ⟨rfl, rfl⟩⟩) (by decide +kernel) (fun σ2 => ?_)
  refine x_aload_n C 0 (i := 0) (k0 := 0) rfl rfl (by decide +kernel) ?_
  refine x_sipush C (n := 1300) (by decide +kernel) (by decide +kernel) ?_
  show X z 1 34 σ2 16 [(0, ar this)] [ai 1300, ar this] _
  refine x_newarr C (t := 1) (N := 1300) (at9 := .int) (by decide) ac_int rfl (Nat.le_of_ble_eq_true rfl) 2 1334 ⟨rfl, rfl⟩ ⟨Nat.le_of_ble_eq_true rfl, Nat.le_of_ble_eq_true rfl⟩ (by decide +kernel) (fun σ3 => ?_)
  refine x_pR C fl_RX6_15 (Or.inr ⟨_, rfl⟩) (Or.inr ⟨rfl, fun q h => by cases h; exact ⟨rfl, rfl⟩⟩) (by decide +kernel) (fun σ4 => ?_)
  refine x_aload_n C 0 (i := 0) (k0 := 0) rfl rfl (by decide +kernel) ?_
  refine x_sipush C (n := 1301) (by decide +kernel) (by decide +kernel) ?_
  refine x_newarr C (t := 1) (N := 1301) (at9 := .int) (by decide) ac_int rfl (Nat.le_of_ble_eq_true rfl) 3 2635 ⟨rfl, rfl⟩ ⟨Nat.le_of_ble_eq_true rfl, Nat.le_of_ble_eq_true rfl⟩ (by decide +kernel) (fun σ5 => ?_)
  refine x_pR C fl_RX6_19 (Or.inr ⟨_, rfl⟩) (Or.inr ⟨rfl, fun q h => by cases h; exact ⟨rfl, rfl⟩⟩) (by decide +kernel) (fun σ6 => ?_)
  refine x_aload_n C 0 (i := 0) (k0 := 0) rfl rfl (by decide +kernel) ?_
  refine x_sipush C (n := 1301) (by decide +kernel) (by decide +kernel) ?_
  show X z 3 2635 σ6 34 [(0, ar this)] [ai 1301, ar this] _
  refine x_newarr C (t := 1) (N := 1301) (at9 := .int) (by decide) ac_int rfl (Nat.le_of_ble_eq_true rfl) 4 3936 ⟨rfl, rfl⟩ ⟨Nat.le_of_ble_eq_true rfl, Nat.le_of_ble_eq_true rfl⟩ (by decide +kernel) (fun σ7 => ?_)
  refine x_pR C fl_RX6_22 (Or.inr ⟨_, rfl⟩) (Or.inr ⟨rfl, fun q h => by cases h; exact ⟨rfl, rfl⟩⟩) (by decide +kernel) (fun σ8 => ?_)
  refine x_aload_n C 0 (i := 0) (k0 := 0) rfl rfl (by decide +kernel) ?_
  refine x_sipush C (n := 1301) (by decide +kernel) (by decide +kernel) ?_
  refine x_newarr C (t := 2) (N := 1301) (at9 := .long) (by decide) ac_long rfl (Nat.le_of_ble_eq_true rfl) 5 5237 ⟨rfl, rfl⟩ ⟨Nat.le_of_ble_eq_true rfl, Nat.le_of_ble_eq_true rfl⟩ (by decide +kernel) (fun σ9 => ?_)
  refine x_pR C fl_RX6_25 (Or.inr ⟨_, rfl⟩) (Or.inr ⟨rfl, fun q h => by cases h; exact ⟨rfl, rfl⟩⟩) (by decide +kernel) (fun σ10 => ?_)
  refine x_aload_n C 0 (i := 0) (k0 := 0) rfl rfl (by decide +kernel) ?_
  refine x_iconst C (n := (-1)) (by decide +kernel) ?_
  show X z 5 5237 σ10 50 [(0, ar this)] [ai (-1), ar this] _
  refine x_pI C fl_RX6_28 rfl (fun q h => by cases h; rfl) (by decide +kernel) (fun σ11 => ?_)
  refine x_aload_n C 0 (i := 0) (k0 := 0) rfl rfl (by decide +kernel) ?_
  refine x_ldcS C (index := 32) (i := 0) (by decide) rfl (by decide +kernel) ?_
  refine x_iconst C (n := 0) (by decide +kernel) ?_
  refine x_callV C (ci := 6) (c_X6_putOwnWords l D ca ra N σ11 this 0 0) mt_X6_putOwnWords mv_X6_putOwnWords rfl ml_RX6_34 rfl (fun h => Bool.noConfusion h) ⟨Nat.le_of_ble_eq_true rfl, Nat.le_of_ble_eq_true rfl⟩ (Nat.le_of_ble_eq_true rfl) 5 5237 ⟨rfl, rfl⟩ ⟨Nat.le_of_ble_eq_true rfl, Nat.le_of_ble_eq_true rfl⟩ (by decide +kernel) _ rfl (fun q12 => []) (fun _ => rfl) (fun q12 => ?_)
  refine x_aload_n C 0 (i := 0) (k0 := 0) rfl rfl (by decide +kernel) ?_
  refine x_ldcS C (index := 38) (i := 1) (by decide) rfl (by decide +kernel) ?_
  refine x_bipush C (n := 15) (by decide +kernel) (by decide +kernel) ?_
  show X z 5 5237 q12.1 65 [(0, ar this)] [ai 15, ao 1, ar this] _
  refine x_callV C (ci := 6) (c_X6_putOwnWords l D ca ra N q12.1 this 1 15) mt_X6_putOwnWords mv_X6_putOwnWords rfl ml_RX6_34 rfl (fun h => Bool.noConfusion h) ⟨Nat.le_of_ble_eq_true rfl, Nat.le_of_ble_eq_true rfl⟩ (Nat.le_of_ble_eq_true rfl) 5 5237 ⟨rfl, rfl⟩ ⟨Nat.le_of_ble_eq_true rfl, Nat.le_of_ble_eq_true rfl⟩ (by decide +kernel) _ rfl (fun q13 => []) (fun _ => rfl) (fun q13 => ?_)
  exact x_vret C ⟨Nat.le_of_ble_eq_true rfl, Nat.le_of_ble_eq_true rfl⟩ (by decide +kernel)

def rm_X3_init : Room := { frames := 1, cells := 14, slots := 226, locals := 20 }
def f_X3_init (N : Nat) (σ : St) (this : Nat) : Option (St × Int) :=
 (if this = 0 then none else Option.bind (nwC shx σ (2, 12)) fun σ1 =>
 Option.bind (pR shx σ1 3 this 2 σ1.1) fun σ2 =>
 Option.bind (nwC shx σ2 (1, 12)) fun σ3 =>
 Option.bind (pR shx σ3 3 this 3 σ3.1) fun σ4 =>
 Option.bind (nwC shx σ4 (1, 12)) fun σ5 =>
 Option.bind (pR shx σ5 3 this 4 σ5.1) fun σ6 =>
 Option.bind (nwC shx σ6 (1, 12)) fun σ7 =>
 Option.bind (pR shx σ7 3 this 5 σ7.1) fun σ8 =>
 Option.bind (nwC shx σ8 (1, 12)) fun σ9 =>
 Option.bind (pR shx σ9 3 this 6 σ9.1) fun σ10 =>
 Option.bind (nwC shx σ10 (1, 16)) fun σ11 =>
 Option.bind (pR shx σ11 3 this 8 σ11.1) fun σ12 =>
 Option.bind (nwC shx σ12 (1, 16)) fun σ13 =>
 Option.bind (pR shx σ13 3 this 9 σ13.1) fun σ14 =>
 Option.bind (nwC shx σ14 (1, 16)) fun σ15 =>
 Option.bind (pR shx σ15 3 this 10 σ15.1) fun σ16 =>
 Option.bind (nwC shx σ16 (1, 16)) fun σ17 =>
 Option.bind (pR shx σ17 3 this 12 σ17.1) fun σ18 =>
 Option.bind (nwC shx σ18 (1, 16)) fun σ19 =>
 Option.bind (pR shx σ19 3 this 13 σ19.1) fun σ20 =>
 Option.bind (nwC shx σ20 (1, 16)) fun σ21 =>
 Option.bind (pR shx σ21 3 this 14 σ21.1) fun σ22 =>
 Option.bind (nwC shx σ22 (1, 3)) fun σ23 =>
 Option.bind (pR shx σ23 3 this 16 σ23.1) fun σ24 =>
 Option.bind (nwC shx σ24 (1, 3)) fun σ25 =>
 Option.bind (pR shx σ25 3 this 17 σ25.1) fun σ26 =>
 Option.bind (nwC shx σ26 (1, 64)) fun σ27 =>
 Option.bind (pR shx σ27 3 this 19 σ27.1) fun σ28 =>
 some (σ28, 0))
set_option maxRecDepth 100000 in
set_option maxHeartbeats 4000000 in
theorem c_X3_init (l : Launch) (D : va_G) (ca : Nat → ClassId) (ra : Nat → Nat) (N : Nat) (σ : St) (this : Nat) : CtrN l (D, ca, ra, shx) yX3_init cX3_init 1 none rm_X3_init σ [ar this] (f_X3_init N σ this) := by
  refine ctrN_of (by decide) (Nat.le_of_ble_eq_true rfl) (fun z C O => ?_)
  show X z 0 0 σ 0 [(0, ar this)] [] _
  unfold f_X3_init
  refine x_split (fun h0 => ?_) (fun h0 => ?_)
  · exact x_no
  refine x_aload_n C 0 (i := 0) (k0 := 0) rfl rfl (by decide +kernel) ?_
  refine x_objInit C oi_RX3_3 h0 ⟨Nat.le_of_ble_eq_true rfl, Nat.le_of_ble_eq_true rfl⟩ (by decide +kernel) ?_
  refine x_aload_n C 0 (i := 0) (k0 := 0) rfl rfl (by decide +kernel) ?_
  refine x_bipush C (n := 12) (by decide +kernel) (by decide +kernel) ?_
  refine x_newarr C (t := 2) (N := 12) (at9 := .long) (by decide) ac_long rfl (Nat.le_of_ble_eq_true rfl) 1 12 ⟨rfl, rfl⟩ ⟨Nat.le_of_ble_eq_true rfl, Nat.le_of_ble_eq_true rfl⟩ (by decide +kernel) (fun σ1 => ?_)
  refine x_pR C fl_RX3_11 (Or.inr ⟨_, rfl⟩) (Or.inr ⟨rfl, fun q h => by cases h; exact ⟨rfl, rfl⟩⟩) (by decide +kernel) (fun σ2 => ?_)
  refine x_aload_n C 0 (i := 0) (k0 := 0) rfl rfl (by decide +kernel) ?_
  refine x_bipush C (n := 12) (by decide +kernel) (by decide +kernel) ?_
  show X z 1 12 σ2 15 [(0, ar this)] [ai 12, ar this] _
  refine x_newarr C (t := 1) (N := 12) (at9 := .int) (by decide) ac_int rfl (Nat.le_of_ble_eq_true rfl) 2 24 ⟨rfl, rfl⟩ ⟨Nat.le_of_ble_eq_true rfl, Nat.le_of_ble_eq_true rfl⟩ (by decide +kernel) (fun σ3 => ?_)
  refine x_pR C fl_RX3_15 (Or.inr ⟨_, rfl⟩) (Or.inr ⟨rfl, fun q h => by cases h; exact ⟨rfl, rfl⟩⟩) (by decide +kernel) (fun σ4 => ?_)
  refine x_aload_n C 0 (i := 0) (k0 := 0) rfl rfl (by decide +kernel) ?_
  refine x_bipush C (n := 12) (by decide +kernel) (by decide +kernel) ?_
  refine x_newarr C (t := 1) (N := 12) (at9 := .int) (by decide) ac_int rfl (Nat.le_of_ble_eq_true rfl) 3 36 ⟨rfl, rfl⟩ ⟨Nat.le_of_ble_eq_true rfl, Nat.le_of_ble_eq_true rfl⟩ (by decide +kernel) (fun σ5 => ?_)
  refine x_pR C fl_RX3_19 (Or.inr ⟨_, rfl⟩) (Or.inr ⟨rfl, fun q h => by cases h; exact ⟨rfl, rfl⟩⟩) (by decide +kernel) (fun σ6 => ?_)
  refine x_aload_n C 0 (i := 0) (k0 := 0) rfl rfl (by decide +kernel) ?_
  refine x_bipush C (n := 12) (by decide +kernel) (by decide +kernel) ?_
  show X z 3 36 σ6 31 [(0, ar this)] [ai 12, ar this] _
  refine x_newarr C (t := 1) (N := 12) (at9 := .int) (by decide) ac_int rfl (Nat.le_of_ble_eq_true rfl) 4 48 ⟨rfl, rfl⟩ ⟨Nat.le_of_ble_eq_true rfl, Nat.le_of_ble_eq_true rfl⟩ (by decide +kernel) (fun σ7 => ?_)
  refine x_pR C fl_RX3_22 (Or.inr ⟨_, rfl⟩) (Or.inr ⟨rfl, fun q h => by cases h; exact ⟨rfl, rfl⟩⟩) (by decide +kernel) (fun σ8 => ?_)
  refine x_aload_n C 0 (i := 0) (k0 := 0) rfl rfl (by decide +kernel) ?_
  refine x_bipush C (n := 12) (by decide +kernel) (by decide +kernel) ?_
  refine x_newarr C (t := 1) (N := 12) (at9 := .int) (by decide) ac_int rfl (Nat.le_of_ble_eq_true rfl) 5 60 ⟨rfl, rfl⟩ ⟨Nat.le_of_ble_eq_true rfl, Nat.le_of_ble_eq_true rfl⟩ (by decide +kernel) (fun σ9 => ?_)
  refine x_pR C fl_RX3_25 (Or.inr ⟨_, rfl⟩) (Or.inr ⟨rfl, fun q h => by cases h; exact ⟨rfl, rfl⟩⟩) (by decide +kernel) (fun σ10 => ?_)
  refine x_aload_n C 0 (i := 0) (k0 := 0) rfl rfl (by decide +kernel) ?_
  refine x_bipush C (n := 16) (by decide +kernel) (by decide +kernel) ?_
  show X z 5 60 σ10 47 [(0, ar this)] [ai 16, ar this] _
  refine x_newarr C (t := 1) (N := 16) (at9 := .int) (by decide) ac_int rfl (Nat.le_of_ble_eq_true rfl) 6 76 ⟨rfl, rfl⟩ ⟨Nat.le_of_ble_eq_true rfl, Nat.le_of_ble_eq_true rfl⟩ (by decide +kernel) (fun σ11 => ?_)
  refine x_pR C fl_RX3_28 (Or.inr ⟨_, rfl⟩) (Or.inr ⟨rfl, fun q h => by cases h; exact ⟨rfl, rfl⟩⟩) (by decide +kernel) (fun σ12 => ?_)
  refine x_aload_n C 0 (i := 0) (k0 := 0) rfl rfl (by decide +kernel) ?_
  refine x_bipush C (n := 16) (by decide +kernel) (by decide +kernel) ?_
  refine x_newarr C (t := 1) (N := 16) (at9 := .int) (by decide) ac_int rfl (Nat.le_of_ble_eq_true rfl) 7 92 ⟨rfl, rfl⟩ ⟨Nat.le_of_ble_eq_true rfl, Nat.le_of_ble_eq_true rfl⟩ (by decide +kernel) (fun σ13 => ?_)
  refine x_pR C fl_RX3_31 (Or.inr ⟨_, rfl⟩) (Or.inr ⟨rfl, fun q h => by cases h; exact ⟨rfl, rfl⟩⟩) (by decide +kernel) (fun σ14 => ?_)
  refine x_aload_n C 0 (i := 0) (k0 := 0) rfl rfl (by decide +kernel) ?_
  refine x_bipush C (n := 16) (by decide +kernel) (by decide +kernel) ?_
  show X z 7 92 σ14 63 [(0, ar this)] [ai 16, ar this] _
  refine x_newarr C (t := 1) (N := 16) (at9 := .int) (by decide) ac_int rfl (Nat.le_of_ble_eq_true rfl) 8 108 ⟨rfl, rfl⟩ ⟨Nat.le_of_ble_eq_true rfl, Nat.le_of_ble_eq_true rfl⟩ (by decide +kernel) (fun σ15 => ?_)
  refine x_pR C fl_RX3_34 (Or.inr ⟨_, rfl⟩) (Or.inr ⟨rfl, fun q h => by cases h; exact ⟨rfl, rfl⟩⟩) (by decide +kernel) (fun σ16 => ?_)
  refine x_aload_n C 0 (i := 0) (k0 := 0) rfl rfl (by decide +kernel) ?_
  refine x_bipush C (n := 16) (by decide +kernel) (by decide +kernel) ?_
  refine x_newarr C (t := 1) (N := 16) (at9 := .int) (by decide) ac_int rfl (Nat.le_of_ble_eq_true rfl) 9 124 ⟨rfl, rfl⟩ ⟨Nat.le_of_ble_eq_true rfl, Nat.le_of_ble_eq_true rfl⟩ (by decide +kernel) (fun σ17 => ?_)
  refine x_pR C fl_RX3_37 (Or.inr ⟨_, rfl⟩) (Or.inr ⟨rfl, fun q h => by cases h; exact ⟨rfl, rfl⟩⟩) (by decide +kernel) (fun σ18 => ?_)
  refine x_aload_n C 0 (i := 0) (k0 := 0) rfl rfl (by decide +kernel) ?_
  refine x_bipush C (n := 16) (by decide +kernel) (by decide +kernel) ?_
  show X z 9 124 σ18 79 [(0, ar this)] [ai 16, ar this] _
  refine x_newarr C (t := 1) (N := 16) (at9 := .int) (by decide) ac_int rfl (Nat.le_of_ble_eq_true rfl) 10 140 ⟨rfl, rfl⟩ ⟨Nat.le_of_ble_eq_true rfl, Nat.le_of_ble_eq_true rfl⟩ (by decide +kernel) (fun σ19 => ?_)
  refine x_pR C fl_RX3_40 (Or.inr ⟨_, rfl⟩) (Or.inr ⟨rfl, fun q h => by cases h; exact ⟨rfl, rfl⟩⟩) (by decide +kernel) (fun σ20 => ?_)
  refine x_aload_n C 0 (i := 0) (k0 := 0) rfl rfl (by decide +kernel) ?_
  refine x_bipush C (n := 16) (by decide +kernel) (by decide +kernel) ?_
  refine x_newarr C (t := 1) (N := 16) (at9 := .int) (by decide) ac_int rfl (Nat.le_of_ble_eq_true rfl) 11 156 ⟨rfl, rfl⟩ ⟨Nat.le_of_ble_eq_true rfl, Nat.le_of_ble_eq_true rfl⟩ (by decide +kernel) (fun σ21 => ?_)
  refine x_pR C fl_RX3_43 (Or.inr ⟨_, rfl⟩) (Or.inr ⟨rfl, fun q h => by cases h; exact ⟨rfl, rfl⟩⟩) (by decide +kernel) (fun σ22 => ?_)
  refine x_aload_n C 0 (i := 0) (k0 := 0) rfl rfl (by decide +kernel) ?_
  refine x_iconst C (n := 3) (by decide +kernel) ?_
  show X z 11 156 σ22 94 [(0, ar this)] [ai 3, ar this] _
  refine x_newarr C (t := 1) (N := 3) (at9 := .int) (by decide) ac_int rfl (Nat.le_of_ble_eq_true rfl) 12 159 ⟨rfl, rfl⟩ ⟨Nat.le_of_ble_eq_true rfl, Nat.le_of_ble_eq_true rfl⟩ (by decide +kernel) (fun σ23 => ?_)
  refine x_pR C fl_RX3_46 (Or.inr ⟨_, rfl⟩) (Or.inr ⟨rfl, fun q h => by cases h; exact ⟨rfl, rfl⟩⟩) (by decide +kernel) (fun σ24 => ?_)
  refine x_aload_n C 0 (i := 0) (k0 := 0) rfl rfl (by decide +kernel) ?_
  refine x_iconst C (n := 3) (by decide +kernel) ?_
  refine x_newarr C (t := 1) (N := 3) (at9 := .int) (by decide) ac_int rfl (Nat.le_of_ble_eq_true rfl) 13 162 ⟨rfl, rfl⟩ ⟨Nat.le_of_ble_eq_true rfl, Nat.le_of_ble_eq_true rfl⟩ (by decide +kernel) (fun σ25 => ?_)
  refine x_pR C fl_RX3_49 (Or.inr ⟨_, rfl⟩) (Or.inr ⟨rfl, fun q h => by cases h; exact ⟨rfl, rfl⟩⟩) (by decide +kernel) (fun σ26 => ?_)
  refine x_aload_n C 0 (i := 0) (k0 := 0) rfl rfl (by decide +kernel) ?_
  refine x_bipush C (n := 64) (by decide +kernel) (by decide +kernel) ?_
  show X z 13 162 σ26 109 [(0, ar this)] [ai 64, ar this] _
  refine x_newarr C (t := 1) (N := 64) (at9 := .int) (by decide) ac_int rfl (Nat.le_of_ble_eq_true rfl) 14 226 ⟨rfl, rfl⟩ ⟨Nat.le_of_ble_eq_true rfl, Nat.le_of_ble_eq_true rfl⟩ (by decide +kernel) (fun σ27 => ?_)
  refine x_pR C fl_RX3_52 (Or.inr ⟨_, rfl⟩) (Or.inr ⟨rfl, fun q h => by cases h; exact ⟨rfl, rfl⟩⟩) (by decide +kernel) (fun σ28 => ?_)
  exact x_vret C ⟨Nat.le_of_ble_eq_true rfl, Nat.le_of_ble_eq_true rfl⟩ (by decide +kernel)

def rm_X4_init : Room := { frames := 1, cells := 0, slots := 0, locals := 20 }
def f_X4_init (N : Nat) (σ : St) (this : Nat) : Option (St × Int) :=
 (if this = 0 then none else some (σ, 0))
set_option maxRecDepth 100000 in
set_option maxHeartbeats 4000000 in
theorem c_X4_init (l : Launch) (D : va_G) (ca : Nat → ClassId) (ra : Nat → Nat) (N : Nat) (σ : St) (this : Nat) : CtrN l (D, ca, ra, shx) yX4_init cX4_init 1 none rm_X4_init σ [ar this] (f_X4_init N σ this) := by
  refine ctrN_of (by decide) (Nat.le_of_ble_eq_true rfl) (fun z C O => ?_)
  show X z 0 0 σ 0 [(0, ar this)] [] _
  unfold f_X4_init
  refine x_split (fun h0 => ?_) (fun h0 => ?_)
  · exact x_no
  refine x_aload_n C 0 (i := 0) (k0 := 0) rfl rfl (by decide +kernel) ?_
  refine x_objInit C oi_RX4_3 h0 ⟨Nat.le_of_ble_eq_true rfl, Nat.le_of_ble_eq_true rfl⟩ (by decide +kernel) ?_
  exact x_vret C ⟨Nat.le_of_ble_eq_true rfl, Nat.le_of_ble_eq_true rfl⟩ (by decide +kernel)

def rm_X7_init : Room := { frames := 1, cells := 5, slots := 779, locals := 23 }
def f_X7_init (N : Nat) (σ : St) (this : Nat) : Option (St × Int) :=
 (if this = 0 then none else Option.bind (nwC shx σ (1, 700)) fun σ1 =>
 Option.bind (pR shx σ1 7 this 3 σ1.1) fun σ2 =>
 Option.bind (nwC shx σ2 (1, 4)) fun σ3 =>
 Option.bind (pR shx σ3 7 this 4 σ3.1) fun σ4 =>
 Option.bind (nwC shx σ4 (1, 4)) fun σ5 =>
 Option.bind (pR shx σ5 7 this 5 σ5.1) fun σ6 =>
 Option.bind (nwC shx σ6 (1, 60)) fun σ7 =>
 Option.bind (pR shx σ7 7 this 6 σ7.1) fun σ8 =>
 Option.bind (nwC shx σ8 (1, 11)) fun σ9 =>
 Option.bind (pR shx σ9 7 this 7 σ9.1) fun σ10 =>
 Option.bind (gR shx σ10 7 this 4) fun start_11 =>
 Option.bind (f_J7_fill_53178 N σ10 start_11 (-1)) fun q12 =>
 some (q12.1, 0))
set_option maxRecDepth 100000 in
set_option maxHeartbeats 4000000 in
theorem c_X7_init (l : Launch) (D : va_G) (ca : Nat → ClassId) (ra : Nat → Nat) (N : Nat) (σ : St) (this : Nat) : CtrN l (D, ca, ra, shx) yX7_init cX7_init 1 none rm_X7_init σ [ar this] (f_X7_init N σ this) := by
  refine ctrN_of (by decide) (Nat.le_of_ble_eq_true rfl) (fun z C O => ?_)
  show X z 0 0 σ 0 [(0, ar this)] [] _
  unfold f_X7_init
  refine x_split (fun h0 => ?_) (fun h0 => ?_)
  · exact x_no
  refine x_aload_n C 0 (i := 0) (k0 := 0) rfl rfl (by decide +kernel) ?_
  refine x_objInit C oi_RX7_7 h0 ⟨Nat.le_of_ble_eq_true rfl, Nat.le_of_ble_eq_true rfl⟩ (by decide +kernel) ?_
  refine x_aload_n C 0 (i := 0) (k0 := 0) rfl rfl (by decide +kernel) ?_
  refine x_sipush C (n := 700) (by decide +kernel) (by decide +kernel) ?_
  refine x_newarr C (t := 1) (N := 700) (at9 := .int) (by decide) ac_int rfl (Nat.le_of_ble_eq_true rfl) 1 700 ⟨rfl, rfl⟩ ⟨Nat.le_of_ble_eq_true rfl, Nat.le_of_ble_eq_true rfl⟩ (by decide +kernel) (fun σ1 => ?_)
  refine x_pR C fl_RX7_13 (Or.inr ⟨_, rfl⟩) (Or.inr ⟨rfl, fun q h => by cases h; exact ⟨rfl, rfl⟩⟩) (by decide +kernel) (fun σ2 => ?_)
  refine x_aload_n C 0 (i := 0) (k0 := 0) rfl rfl (by decide +kernel) ?_
  refine x_iconst C (n := 4) (by decide +kernel) ?_
  show X z 1 700 σ2 15 [(0, ar this)] [ai 4, ar this] _
  refine x_newarr C (t := 1) (N := 4) (at9 := .int) (by decide) ac_int rfl (Nat.le_of_ble_eq_true rfl) 2 704 ⟨rfl, rfl⟩ ⟨Nat.le_of_ble_eq_true rfl, Nat.le_of_ble_eq_true rfl⟩ (by decide +kernel) (fun σ3 => ?_)
  refine x_pR C fl_RX7_17 (Or.inr ⟨_, rfl⟩) (Or.inr ⟨rfl, fun q h => by cases h; exact ⟨rfl, rfl⟩⟩) (by decide +kernel) (fun σ4 => ?_)
  refine x_aload_n C 0 (i := 0) (k0 := 0) rfl rfl (by decide +kernel) ?_
  refine x_iconst C (n := 4) (by decide +kernel) ?_
  refine x_newarr C (t := 1) (N := 4) (at9 := .int) (by decide) ac_int rfl (Nat.le_of_ble_eq_true rfl) 3 708 ⟨rfl, rfl⟩ ⟨Nat.le_of_ble_eq_true rfl, Nat.le_of_ble_eq_true rfl⟩ (by decide +kernel) (fun σ5 => ?_)
  refine x_pR C fl_RX7_20 (Or.inr ⟨_, rfl⟩) (Or.inr ⟨rfl, fun q h => by cases h; exact ⟨rfl, rfl⟩⟩) (by decide +kernel) (fun σ6 => ?_)
  refine x_aload_n C 0 (i := 0) (k0 := 0) rfl rfl (by decide +kernel) ?_
  refine x_bipush C (n := 60) (by decide +kernel) (by decide +kernel) ?_
  show X z 3 708 σ6 30 [(0, ar this)] [ai 60, ar this] _
  refine x_newarr C (t := 1) (N := 60) (at9 := .int) (by decide) ac_int rfl (Nat.le_of_ble_eq_true rfl) 4 768 ⟨rfl, rfl⟩ ⟨Nat.le_of_ble_eq_true rfl, Nat.le_of_ble_eq_true rfl⟩ (by decide +kernel) (fun σ7 => ?_)
  refine x_pR C fl_RX7_23 (Or.inr ⟨_, rfl⟩) (Or.inr ⟨rfl, fun q h => by cases h; exact ⟨rfl, rfl⟩⟩) (by decide +kernel) (fun σ8 => ?_)
  refine x_aload_n C 0 (i := 0) (k0 := 0) rfl rfl (by decide +kernel) ?_
  refine x_bipush C (n := 11) (by decide +kernel) (by decide +kernel) ?_
  refine x_newarr C (t := 1) (N := 11) (at9 := .int) (by decide) ac_int rfl (Nat.le_of_ble_eq_true rfl) 5 779 ⟨rfl, rfl⟩ ⟨Nat.le_of_ble_eq_true rfl, Nat.le_of_ble_eq_true rfl⟩ (by decide +kernel) (fun σ9 => ?_)
  refine x_pR C fl_RX7_26 (Or.inr ⟨_, rfl⟩) (Or.inr ⟨rfl, fun q h => by cases h; exact ⟨rfl, rfl⟩⟩) (by decide +kernel) (fun σ10 => ?_)
  refine x_aload_n C 0 (i := 0) (k0 := 0) rfl rfl (by decide +kernel) ?_
  refine x_gR C fl_RX7_17 (fun _ _ _ => rfl) (by decide +kernel) (fun start_11 => ?_)
  show X z 5 779 σ10 47 [(0, ar this)] [ar start_11] _
  refine x_iconst C (n := (-1)) (by decide +kernel) ?_
  refine x_callS C (c_J7_fill_53178 l D ca ra N σ10 start_11 (-1)) mt_J7_fill_53178 ms_J7_fill_53178 ml_RX7_29 rfl (fun h => Bool.noConfusion h) ⟨Nat.le_of_ble_eq_true rfl, Nat.le_of_ble_eq_true rfl⟩ (Nat.le_of_ble_eq_true rfl) 5 779 ⟨rfl, rfl⟩ ⟨Nat.le_of_ble_eq_true rfl, Nat.le_of_ble_eq_true rfl⟩ (by decide +kernel) _ rfl (fun q12 => []) (fun _ => rfl) (fun q12 => ?_)
  exact x_vret C ⟨Nat.le_of_ble_eq_true rfl, Nat.le_of_ble_eq_true rfl⟩ (by decide +kernel)

def rm_X8_init : Room := { frames := 1, cells := 1, slots := 18, locals := 23 }
def f_X8_init (N : Nat) (σ : St) (this : Nat) : Option (St × Int) :=
 (if this = 0 then none else Option.bind (nwC shx σ (1, 18)) fun σ1 =>
 Option.bind (pR shx σ1 8 this 0 σ1.1) fun σ2 =>
 Option.bind (gR shx σ2 8 this 0) fun found_3 =>
 Option.bind (f_J7_fill_53178 N σ2 found_3 (-2)) fun q4 =>
 some (q4.1, 0))
set_option maxRecDepth 100000 in
set_option maxHeartbeats 4000000 in
theorem c_X8_init (l : Launch) (D : va_G) (ca : Nat → ClassId) (ra : Nat → Nat) (N : Nat) (σ : St) (this : Nat) : CtrN l (D, ca, ra, shx) yX8_init cX8_init 1 none rm_X8_init σ [ar this] (f_X8_init N σ this) := by
  refine ctrN_of (by decide) (Nat.le_of_ble_eq_true rfl) (fun z C O => ?_)
  show X z 0 0 σ 0 [(0, ar this)] [] _
  unfold f_X8_init
  refine x_split (fun h0 => ?_) (fun h0 => ?_)
  · exact x_no
  refine x_aload_n C 0 (i := 0) (k0 := 0) rfl rfl (by decide +kernel) ?_
  refine x_objInit C oi_RX8_3 h0 ⟨Nat.le_of_ble_eq_true rfl, Nat.le_of_ble_eq_true rfl⟩ (by decide +kernel) ?_
  refine x_aload_n C 0 (i := 0) (k0 := 0) rfl rfl (by decide +kernel) ?_
  refine x_bipush C (n := 18) (by decide +kernel) (by decide +kernel) ?_
  refine x_newarr C (t := 1) (N := 18) (at9 := .int) (by decide) ac_int rfl (Nat.le_of_ble_eq_true rfl) 1 18 ⟨rfl, rfl⟩ ⟨Nat.le_of_ble_eq_true rfl, Nat.le_of_ble_eq_true rfl⟩ (by decide +kernel) (fun σ1 => ?_)
  refine x_pR C fl_RX8_11 (Or.inr ⟨_, rfl⟩) (Or.inr ⟨rfl, fun q h => by cases h; exact ⟨rfl, rfl⟩⟩) (by decide +kernel) (fun σ2 => ?_)
  refine x_aload_n C 0 (i := 0) (k0 := 0) rfl rfl (by decide +kernel) ?_
  refine x_gR C fl_RX8_11 (fun _ _ _ => rfl) (by decide +kernel) (fun found_3 => ?_)
  show X z 1 18 σ2 16 [(0, ar this)] [ar found_3] _
  refine x_bipush C (n := (-2)) (by decide +kernel) (by decide +kernel) ?_
  refine x_callS C (c_J7_fill_53178 l D ca ra N σ2 found_3 (-2)) mt_J7_fill_53178 ms_J7_fill_53178 ml_RX8_15 rfl (fun h => Bool.noConfusion h) ⟨Nat.le_of_ble_eq_true rfl, Nat.le_of_ble_eq_true rfl⟩ (Nat.le_of_ble_eq_true rfl) 1 18 ⟨rfl, rfl⟩ ⟨Nat.le_of_ble_eq_true rfl, Nat.le_of_ble_eq_true rfl⟩ (by decide +kernel) _ rfl (fun q4 => []) (fun _ => rfl) (fun q4 => ?_)
  exact x_vret C ⟨Nat.le_of_ble_eq_true rfl, Nat.le_of_ble_eq_true rfl⟩ (by decide +kernel)

def rm_X1_init : Room := { frames := 1, cells := 6, slots := 1012, locals := 20 }
def f_X1_init (N : Nat) (σ : St) (this : Nat) : Option (St × Int) :=
 (if this = 0 then none else Option.bind (nwC shx σ (1, 200)) fun σ1 =>
 Option.bind (pR shx σ1 1 this 2 σ1.1) fun σ2 =>
 Option.bind (nwC shx σ2 (1, 200)) fun σ3 =>
 Option.bind (pR shx σ3 1 this 3 σ3.1) fun σ4 =>
 Option.bind (nwC shx σ4 (1, 200)) fun σ5 =>
 Option.bind (pR shx σ5 1 this 4 σ5.1) fun σ6 =>
 Option.bind (nwC shx σ6 (1, 200)) fun σ7 =>
 Option.bind (pR shx σ7 1 this 5 σ7.1) fun σ8 =>
 Option.bind (nwC shx σ8 (1, 200)) fun σ9 =>
 Option.bind (pR shx σ9 1 this 6 σ9.1) fun σ10 =>
 Option.bind (nwC shx σ10 (1, 12)) fun σ11 =>
 Option.bind (pR shx σ11 1 this 7 σ11.1) fun σ12 =>
 some (σ12, 0))
set_option maxRecDepth 100000 in
set_option maxHeartbeats 4000000 in
theorem c_X1_init (l : Launch) (D : va_G) (ca : Nat → ClassId) (ra : Nat → Nat) (N : Nat) (σ : St) (this : Nat) : CtrN l (D, ca, ra, shx) yX1_init cX1_init 1 none rm_X1_init σ [ar this] (f_X1_init N σ this) := by
  refine ctrN_of (by decide) (Nat.le_of_ble_eq_true rfl) (fun z C O => ?_)
  show X z 0 0 σ 0 [(0, ar this)] [] _
  unfold f_X1_init
  refine x_split (fun h0 => ?_) (fun h0 => ?_)
  · exact x_no
  refine x_aload_n C 0 (i := 0) (k0 := 0) rfl rfl (by decide +kernel) ?_
  refine x_objInit C oi_RX1_3 h0 ⟨Nat.le_of_ble_eq_true rfl, Nat.le_of_ble_eq_true rfl⟩ (by decide +kernel) ?_
  refine x_aload_n C 0 (i := 0) (k0 := 0) rfl rfl (by decide +kernel) ?_
  refine x_sipush C (n := 200) (by decide +kernel) (by decide +kernel) ?_
  refine x_newarr C (t := 1) (N := 200) (at9 := .int) (by decide) ac_int rfl (Nat.le_of_ble_eq_true rfl) 1 200 ⟨rfl, rfl⟩ ⟨Nat.le_of_ble_eq_true rfl, Nat.le_of_ble_eq_true rfl⟩ (by decide +kernel) (fun σ1 => ?_)
  refine x_pR C fl_RX1_11 (Or.inr ⟨_, rfl⟩) (Or.inr ⟨rfl, fun q h => by cases h; exact ⟨rfl, rfl⟩⟩) (by decide +kernel) (fun σ2 => ?_)
  refine x_aload_n C 0 (i := 0) (k0 := 0) rfl rfl (by decide +kernel) ?_
  refine x_sipush C (n := 200) (by decide +kernel) (by decide +kernel) ?_
  show X z 1 200 σ2 17 [(0, ar this)] [ai 200, ar this] _
  refine x_newarr C (t := 1) (N := 200) (at9 := .int) (by decide) ac_int rfl (Nat.le_of_ble_eq_true rfl) 2 400 ⟨rfl, rfl⟩ ⟨Nat.le_of_ble_eq_true rfl, Nat.le_of_ble_eq_true rfl⟩ (by decide +kernel) (fun σ3 => ?_)
  refine x_pR C fl_RX1_15 (Or.inr ⟨_, rfl⟩) (Or.inr ⟨rfl, fun q h => by cases h; exact ⟨rfl, rfl⟩⟩) (by decide +kernel) (fun σ4 => ?_)
  refine x_aload_n C 0 (i := 0) (k0 := 0) rfl rfl (by decide +kernel) ?_
  refine x_sipush C (n := 200) (by decide +kernel) (by decide +kernel) ?_
  refine x_newarr C (t := 1) (N := 200) (at9 := .int) (by decide) ac_int rfl (Nat.le_of_ble_eq_true rfl) 3 600 ⟨rfl, rfl⟩ ⟨Nat.le_of_ble_eq_true rfl, Nat.le_of_ble_eq_true rfl⟩ (by decide +kernel) (fun σ5 => ?_)
  refine x_pR C fl_RX1_18 (Or.inr ⟨_, rfl⟩) (Or.inr ⟨rfl, fun q h => by cases h; exact ⟨rfl, rfl⟩⟩) (by decide +kernel) (fun σ6 => ?_)
  refine x_aload_n C 0 (i := 0) (k0 := 0) rfl rfl (by decide +kernel) ?_
  refine x_sipush C (n := 200) (by decide +kernel) (by decide +kernel) ?_
  show X z 3 600 σ6 35 [(0, ar this)] [ai 200, ar this] _
  refine x_newarr C (t := 1) (N := 200) (at9 := .int) (by decide) ac_int rfl (Nat.le_of_ble_eq_true rfl) 4 800 ⟨rfl, rfl⟩ ⟨Nat.le_of_ble_eq_true rfl, Nat.le_of_ble_eq_true rfl⟩ (by decide +kernel) (fun σ7 => ?_)
  refine x_pR C fl_RX1_21 (Or.inr ⟨_, rfl⟩) (Or.inr ⟨rfl, fun q h => by cases h; exact ⟨rfl, rfl⟩⟩) (by decide +kernel) (fun σ8 => ?_)
  refine x_aload_n C 0 (i := 0) (k0 := 0) rfl rfl (by decide +kernel) ?_
  refine x_sipush C (n := 200) (by decide +kernel) (by decide +kernel) ?_
  refine x_newarr C (t := 1) (N := 200) (at9 := .int) (by decide) ac_int rfl (Nat.le_of_ble_eq_true rfl) 5 1000 ⟨rfl, rfl⟩ ⟨Nat.le_of_ble_eq_true rfl, Nat.le_of_ble_eq_true rfl⟩ (by decide +kernel) (fun σ9 => ?_)
  refine x_pR C fl_RX1_24 (Or.inr ⟨_, rfl⟩) (Or.inr ⟨rfl, fun q h => by cases h; exact ⟨rfl, rfl⟩⟩) (by decide +kernel) (fun σ10 => ?_)
  refine x_aload_n C 0 (i := 0) (k0 := 0) rfl rfl (by decide +kernel) ?_
  refine x_bipush C (n := 12) (by decide +kernel) (by decide +kernel) ?_
  show X z 5 1000 σ10 52 [(0, ar this)] [ai 12, ar this] _
  refine x_newarr C (t := 1) (N := 12) (at9 := .int) (by decide) ac_int rfl (Nat.le_of_ble_eq_true rfl) 6 1012 ⟨rfl, rfl⟩ ⟨Nat.le_of_ble_eq_true rfl, Nat.le_of_ble_eq_true rfl⟩ (by decide +kernel) (fun σ11 => ?_)
  refine x_pR C fl_RX1_29 (Or.inr ⟨_, rfl⟩) (Or.inr ⟨rfl, fun q h => by cases h; exact ⟨rfl, rfl⟩⟩) (by decide +kernel) (fun σ12 => ?_)
  exact x_vret C ⟨Nat.le_of_ble_eq_true rfl, Nat.le_of_ble_eq_true rfl⟩ (by decide +kernel)

def rm_X0_init : Room := { frames := 1, cells := 3, slots := 30, locals := 20 }
def f_X0_init (N : Nat) (σ : St) (this : Nat) : Option (St × Int) :=
 (if this = 0 then none else Option.bind (nwC shx σ (1, 10)) fun σ1 =>
 Option.bind (pR shx σ1 0 this 1 σ1.1) fun σ2 =>
 Option.bind (nwC shx σ2 (1, 10)) fun σ3 =>
 Option.bind (pR shx σ3 0 this 2 σ3.1) fun σ4 =>
 Option.bind (nwC shx σ4 (1, 10)) fun σ5 =>
 Option.bind (pR shx σ5 0 this 3 σ5.1) fun σ6 =>
 some (σ6, 0))
set_option maxRecDepth 100000 in
set_option maxHeartbeats 4000000 in
theorem c_X0_init (l : Launch) (D : va_G) (ca : Nat → ClassId) (ra : Nat → Nat) (N : Nat) (σ : St) (this : Nat) : CtrN l (D, ca, ra, shx) yX0_init cX0_init 1 none rm_X0_init σ [ar this] (f_X0_init N σ this) := by
  refine ctrN_of (by decide) (Nat.le_of_ble_eq_true rfl) (fun z C O => ?_)
  show X z 0 0 σ 0 [(0, ar this)] [] _
  unfold f_X0_init
  refine x_split (fun h0 => ?_) (fun h0 => ?_)
  · exact x_no
  refine x_aload_n C 0 (i := 0) (k0 := 0) rfl rfl (by decide +kernel) ?_
  refine x_objInit C oi_RX0_3 h0 ⟨Nat.le_of_ble_eq_true rfl, Nat.le_of_ble_eq_true rfl⟩ (by decide +kernel) ?_
  refine x_aload_n C 0 (i := 0) (k0 := 0) rfl rfl (by decide +kernel) ?_
  refine x_bipush C (n := 10) (by decide +kernel) (by decide +kernel) ?_
  refine x_newarr C (t := 1) (N := 10) (at9 := .int) (by decide) ac_int rfl (Nat.le_of_ble_eq_true rfl) 1 10 ⟨rfl, rfl⟩ ⟨Nat.le_of_ble_eq_true rfl, Nat.le_of_ble_eq_true rfl⟩ (by decide +kernel) (fun σ1 => ?_)
  refine x_pR C fl_RX0_11 (Or.inr ⟨_, rfl⟩) (Or.inr ⟨rfl, fun q h => by cases h; exact ⟨rfl, rfl⟩⟩) (by decide +kernel) (fun σ2 => ?_)
  refine x_aload_n C 0 (i := 0) (k0 := 0) rfl rfl (by decide +kernel) ?_
  refine x_bipush C (n := 10) (by decide +kernel) (by decide +kernel) ?_
  show X z 1 10 σ2 15 [(0, ar this)] [ai 10, ar this] _
  refine x_newarr C (t := 1) (N := 10) (at9 := .int) (by decide) ac_int rfl (Nat.le_of_ble_eq_true rfl) 2 20 ⟨rfl, rfl⟩ ⟨Nat.le_of_ble_eq_true rfl, Nat.le_of_ble_eq_true rfl⟩ (by decide +kernel) (fun σ3 => ?_)
  refine x_pR C fl_RX0_15 (Or.inr ⟨_, rfl⟩) (Or.inr ⟨rfl, fun q h => by cases h; exact ⟨rfl, rfl⟩⟩) (by decide +kernel) (fun σ4 => ?_)
  refine x_aload_n C 0 (i := 0) (k0 := 0) rfl rfl (by decide +kernel) ?_
  refine x_bipush C (n := 10) (by decide +kernel) (by decide +kernel) ?_
  refine x_newarr C (t := 1) (N := 10) (at9 := .int) (by decide) ac_int rfl (Nat.le_of_ble_eq_true rfl) 3 30 ⟨rfl, rfl⟩ ⟨Nat.le_of_ble_eq_true rfl, Nat.le_of_ble_eq_true rfl⟩ (by decide +kernel) (fun σ5 => ?_)
  refine x_pR C fl_RX0_18 (Or.inr ⟨_, rfl⟩) (Or.inr ⟨rfl, fun q h => by cases h; exact ⟨rfl, rfl⟩⟩) (by decide +kernel) (fun σ6 => ?_)
  exact x_vret C ⟨Nat.le_of_ble_eq_true rfl, Nat.le_of_ble_eq_true rfl⟩ (by decide +kernel)

def rm_X10_init : Room := { frames := 1, cells := 3, slots := 8204, locals := 20 }
def f_X10_init (N : Nat) (σ : St) (this : Nat) : Option (St × Int) :=
 (if this = 0 then none else Option.bind (pI shx σ 10 this 1 (-1)) fun σ1 =>
 Option.bind (nwC shx σ1 (1, 12)) fun σ2 =>
 Option.bind (pR shx σ2 10 this 2 σ2.1) fun σ3 =>
 Option.bind (nwC shx σ3 (1, 4096)) fun σ4 =>
 Option.bind (pR shx σ4 10 this 3 σ4.1) fun σ5 =>
 Option.bind (nwC shx σ5 (1, 4096)) fun σ6 =>
 Option.bind (pR shx σ6 10 this 4 σ6.1) fun σ7 =>
 some (σ7, 0))
set_option maxRecDepth 100000 in
set_option maxHeartbeats 4000000 in
theorem c_X10_init (l : Launch) (D : va_G) (ca : Nat → ClassId) (ra : Nat → Nat) (N : Nat) (σ : St) (this : Nat) : CtrN l (D, ca, ra, shx) yX10_init cX10_init 1 none rm_X10_init σ [ar this] (f_X10_init N σ this) := by
  refine ctrN_of (by decide) (Nat.le_of_ble_eq_true rfl) (fun z C O => ?_)
  show X z 0 0 σ 0 [(0, ar this)] [] _
  unfold f_X10_init
  refine x_split (fun h0 => ?_) (fun h0 => ?_)
  · exact x_no
  refine x_aload_n C 0 (i := 0) (k0 := 0) rfl rfl (by decide +kernel) ?_
  refine x_objInit C oi_RX10_5 h0 ⟨Nat.le_of_ble_eq_true rfl, Nat.le_of_ble_eq_true rfl⟩ (by decide +kernel) ?_
  refine x_aload_n C 0 (i := 0) (k0 := 0) rfl rfl (by decide +kernel) ?_
  refine x_iconst C (n := (-1)) (by decide +kernel) ?_
  refine x_pI C fl_RX10_11 rfl (fun q h => by cases h; rfl) (by decide +kernel) (fun σ1 => ?_)
  refine x_aload_n C 0 (i := 0) (k0 := 0) rfl rfl (by decide +kernel) ?_
  refine x_bipush C (n := 12) (by decide +kernel) (by decide +kernel) ?_
  refine x_newarr C (t := 1) (N := 12) (at9 := .int) (by decide) ac_int rfl (Nat.le_of_ble_eq_true rfl) 1 12 ⟨rfl, rfl⟩ ⟨Nat.le_of_ble_eq_true rfl, Nat.le_of_ble_eq_true rfl⟩ (by decide +kernel) (fun σ2 => ?_)
  show X z 1 12 σ2 14 [(0, ar this)] [ar σ2.1, ar this] _
  refine x_pR C fl_RX10_17 (Or.inr ⟨_, rfl⟩) (Or.inr ⟨rfl, fun q h => by cases h; exact ⟨rfl, rfl⟩⟩) (by decide +kernel) (fun σ3 => ?_)
  refine x_aload_n C 0 (i := 0) (k0 := 0) rfl rfl (by decide +kernel) ?_
  refine x_sipush C (n := 4096) (by decide +kernel) (by decide +kernel) ?_
  refine x_newarr C (t := 1) (N := 4096) (at9 := .int) (by decide) ac_int rfl (Nat.le_of_ble_eq_true rfl) 2 4108 ⟨rfl, rfl⟩ ⟨Nat.le_of_ble_eq_true rfl, Nat.le_of_ble_eq_true rfl⟩ (by decide +kernel) (fun σ4 => ?_)
  refine x_pR C fl_RX10_21 (Or.inr ⟨_, rfl⟩) (Or.inr ⟨rfl, fun q h => by cases h; exact ⟨rfl, rfl⟩⟩) (by decide +kernel) (fun σ5 => ?_)
  refine x_aload_n C 0 (i := 0) (k0 := 0) rfl rfl (by decide +kernel) ?_
  refine x_sipush C (n := 4096) (by decide +kernel) (by decide +kernel) ?_
  refine x_newarr C (t := 1) (N := 4096) (at9 := .int) (by decide) ac_int rfl (Nat.le_of_ble_eq_true rfl) 3 8204 ⟨rfl, rfl⟩ ⟨Nat.le_of_ble_eq_true rfl, Nat.le_of_ble_eq_true rfl⟩ (by decide +kernel) (fun σ6 => ?_)
  show X z 3 8204 σ6 32 [(0, ar this)] [ar σ6.1, ar this] _
  refine x_pR C fl_RX10_24 (Or.inr ⟨_, rfl⟩) (Or.inr ⟨rfl, fun q h => by cases h; exact ⟨rfl, rfl⟩⟩) (by decide +kernel) (fun σ7 => ?_)
  exact x_vret C ⟨Nat.le_of_ble_eq_true rfl, Nat.le_of_ble_eq_true rfl⟩ (by decide +kernel)

def rm_X12_init : Room := { frames := 1, cells := 50, slots := 372472, locals := 20 }
def f_X12_init (N : Nat) (σ : St) (this : Nat) : Option (St × Int) :=
 (if this = 0 then none else Option.bind (nwC shm σ (4, 1320)) fun σ1 =>
 Option.bind (pR shm σ1 12 this 0 σ1.1) fun σ2 =>
 Option.bind (nwC shm σ2 (4, 1300)) fun σ3 =>
 Option.bind (pR shm σ3 12 this 1 σ3.1) fun σ4 =>
 Option.bind (pI shm σ4 12 this 5 (-1)) fun σ5 =>
 Option.bind (nwC shm σ5 (1, 2)) fun σ6 =>
 Option.bind (pR shm σ6 12 this 11 σ6.1) fun σ7 =>
 Option.bind (nwC shm σ7 (1, 2)) fun σ8 =>
 Option.bind (pR shm σ8 12 this 12 σ8.1) fun σ9 =>
 Option.bind (nwC shm σ9 (1, 2)) fun σ10 =>
 Option.bind (pR shm σ10 12 this 13 σ10.1) fun σ11 =>
 Option.bind (nwC shm σ11 (1, 2)) fun σ12 =>
 Option.bind (pR shm σ12 12 this 14 σ12.1) fun σ13 =>
 Option.bind (nwC shm σ13 (1, 2)) fun σ14 =>
 Option.bind (pR shm σ14 12 this 15 σ14.1) fun σ15 =>
 Option.bind (nwC shm σ15 (1, 24)) fun σ16 =>
 Option.bind (pR shm σ16 12 this 16 σ16.1) fun σ17 =>
 Option.bind (nwC shm σ17 (1, 24)) fun σ18 =>
 Option.bind (pR shm σ18 12 this 17 σ18.1) fun σ19 =>
 Option.bind (nwC shm σ19 (1, 24)) fun σ20 =>
 Option.bind (pR shm σ20 12 this 18 σ20.1) fun σ21 =>
 Option.bind (nwC shm σ21 (1, 24)) fun σ22 =>
 Option.bind (pR shm σ22 12 this 19 σ22.1) fun σ23 =>
 Option.bind (nwC shm σ23 (1, 32)) fun σ24 =>
 Option.bind (pR shm σ24 12 this 20 σ24.1) fun σ25 =>
 Option.bind (nwC shm σ25 (1, 32)) fun σ26 =>
 Option.bind (pR shm σ26 12 this 21 σ26.1) fun σ27 =>
 Option.bind (nwC shm σ27 (1, 32)) fun σ28 =>
 Option.bind (pR shm σ28 12 this 22 σ28.1) fun σ29 =>
 Option.bind (nwC shm σ29 (1, 32)) fun σ30 =>
 Option.bind (pR shm σ30 12 this 23 σ30.1) fun σ31 =>
 Option.bind (nwC shm σ31 (1, 32)) fun σ32 =>
 Option.bind (pR shm σ32 12 this 24 σ32.1) fun σ33 =>
 Option.bind (nwC shm σ33 (1, 32)) fun σ34 =>
 Option.bind (pR shm σ34 12 this 25 σ34.1) fun σ35 =>
 Option.bind (nwC shm σ35 (1, 6)) fun σ36 =>
 Option.bind (pR shm σ36 12 this 26 σ36.1) fun σ37 =>
 Option.bind (nwC shm σ37 (1, 6)) fun σ38 =>
 Option.bind (pR shm σ38 12 this 27 σ38.1) fun σ39 =>
 Option.bind (nwC shm σ39 (1, 128)) fun σ40 =>
 Option.bind (pR shm σ40 12 this 28 σ40.1) fun σ41 =>
 Option.bind (nwC shm σ41 (3, 16)) fun σ42 =>
 Option.bind (pR shm σ42 12 this 29 σ42.1) fun σ43 =>
 Option.bind (nwC shm σ43 (2, 24)) fun σ44 =>
 Option.bind (pR shm σ44 12 this 30 σ44.1) fun σ45 =>
 Option.bind (nwC shm σ45 (1, 4)) fun σ46 =>
 Option.bind (pR shm σ46 12 this 36 σ46.1) fun σ47 =>
 Option.bind (nwC shm σ47 (1, 16)) fun σ48 =>
 Option.bind (pR shm σ48 12 this 37 σ48.1) fun σ49 =>
 Option.bind (nwC shm σ49 (1, 16)) fun σ50 =>
 Option.bind (pR shm σ50 12 this 38 σ50.1) fun σ51 =>
 Option.bind (nwC shm σ51 (1, 2800)) fun σ52 =>
 Option.bind (pR shm σ52 12 this 39 σ52.1) fun σ53 =>
 Option.bind (nwC shm σ53 (1, 2800)) fun σ54 =>
 Option.bind (pR shm σ54 12 this 40 σ54.1) fun σ55 =>
 Option.bind (nwC shm σ55 (1, 80)) fun σ56 =>
 Option.bind (pR shm σ56 12 this 41 σ56.1) fun σ57 =>
 Option.bind (nwC shm σ57 (1, 80)) fun σ58 =>
 Option.bind (pR shm σ58 12 this 42 σ58.1) fun σ59 =>
 Option.bind (nwC shm σ59 (1, 90)) fun σ60 =>
 Option.bind (pR shm σ60 12 this 43 σ60.1) fun σ61 =>
 Option.bind (nwC shm σ61 (3, 16)) fun σ62 =>
 Option.bind (pR shm σ62 12 this 44 σ62.1) fun σ63 =>
 Option.bind (nwC shm σ63 (1, 200)) fun σ64 =>
 Option.bind (pR shm σ64 12 this 61 σ64.1) fun σ65 =>
 Option.bind (nwC shm σ65 (1, 200)) fun σ66 =>
 Option.bind (pR shm σ66 12 this 62 σ66.1) fun σ67 =>
 Option.bind (nwC shm σ67 (1, 200)) fun σ68 =>
 Option.bind (pR shm σ68 12 this 63 σ68.1) fun σ69 =>
 Option.bind (nwC shm σ69 (1, 200)) fun σ70 =>
 Option.bind (pR shm σ70 12 this 64 σ70.1) fun σ71 =>
 Option.bind (nwC shm σ71 (1, 200)) fun σ72 =>
 Option.bind (pR shm σ72 12 this 65 σ72.1) fun σ73 =>
 Option.bind (nwC shm σ73 (1, 12)) fun σ74 =>
 Option.bind (pR shm σ74 12 this 66 σ74.1) fun σ75 =>
 Option.bind (nwC shm σ75 (1, 12)) fun σ76 =>
 Option.bind (pR shm σ76 12 this 69 σ76.1) fun σ77 =>
 Option.bind (nwC shm σ77 (1, 12)) fun σ78 =>
 Option.bind (pR shm σ78 12 this 70 σ78.1) fun σ79 =>
 Option.bind (nwC shm σ79 (1, 53248)) fun σ80 =>
 Option.bind (pR shm σ80 12 this 71 σ80.1) fun σ81 =>
 Option.bind (nwC shm σ81 (1, 3)) fun σ82 =>
 Option.bind (pR shm σ82 12 this 72 σ82.1) fun σ83 =>
 Option.bind (pI shm σ83 12 this 74 2) fun σ84 =>
 Option.bind (nwC shm σ84 (1, 6400)) fun σ85 =>
 Option.bind (pR shm σ85 12 this 77 σ85.1) fun σ86 =>
 Option.bind (nwC shm σ86 (1, 10)) fun σ87 =>
 Option.bind (pR shm σ87 12 this 78 σ87.1) fun σ88 =>
 Option.bind (nwC shm σ88 (1, 10)) fun σ89 =>
 Option.bind (pR shm σ89 12 this 79 σ89.1) fun σ90 =>
 Option.bind (nwC shm σ90 (1, 10)) fun σ91 =>
 Option.bind (pR shm σ91 12 this 80 σ91.1) fun σ92 =>
 Option.bind (nwC shm σ92 (1, 12)) fun σ93 =>
 Option.bind (pR shm σ93 12 this 82 σ93.1) fun σ94 =>
 Option.bind (nwC shm σ94 (1, 12)) fun σ95 =>
 Option.bind (pR shm σ95 12 this 83 σ95.1) fun σ96 =>
 Option.bind (nwC shm σ96 (1, 8)) fun σ97 =>
 Option.bind (pR shm σ97 12 this 88 σ97.1) fun σ98 =>
 Option.bind (nwC shm σ98 (1, 8)) fun σ99 =>
 Option.bind (pR shm σ99 12 this 89 σ99.1) fun σ100 =>
 Option.bind (nwC shm σ100 (3, 302715)) fun σ101 =>
 Option.bind (pR shm σ101 12 this 90 σ101.1) fun σ102 =>
 some (σ102, 0))
set_option maxRecDepth 100000 in
set_option maxHeartbeats 4000000 in
theorem c_X12_init (l : Launch) (D : va_G) (ca : Nat → ClassId) (ra : Nat → Nat) (N : Nat) (σ : St) (this : Nat) : CtrN l (D, ca, ra, shm) yX12_init cX12_init 1 none rm_X12_init σ [ar this] (f_X12_init N σ this) := by
  refine ctrN_of (by decide) (Nat.le_of_ble_eq_true rfl) (fun z C O => ?_)
  show X z 0 0 σ 0 [(0, ar this)] [] _
  unfold f_X12_init
  refine x_split (fun h0 => ?_) (fun h0 => ?_)
  · exact x_no
  refine x_aload_n C 0 (i := 0) (k0 := 0) rfl rfl (by decide +kernel) ?_
  refine x_objInit C oi_RX12_1 h0 ⟨Nat.le_of_ble_eq_true rfl, Nat.le_of_ble_eq_true rfl⟩ (by decide +kernel) ?_
  refine x_aload_n C 0 (i := 0) (k0 := 0) rfl rfl (by decide +kernel) ?_
  refine x_sipush C (n := 1320) (by decide +kernel) (by decide +kernel) ?_
  refine x_newarr C (t := 4) (N := 1320) (at9 := .byte) (by decide) ac_byte rfl (Nat.le_of_ble_eq_true rfl) 1 1320 ⟨rfl, rfl⟩ ⟨Nat.le_of_ble_eq_true rfl, Nat.le_of_ble_eq_true rfl⟩ (by decide +kernel) (fun σ1 => ?_)
  refine x_pR C fl_RX12_7 (Or.inr ⟨_, rfl⟩) (Or.inr ⟨rfl, fun q h => by cases h; exact ⟨rfl, rfl⟩⟩) (by decide +kernel) (fun σ2 => ?_)
  refine x_aload_n C 0 (i := 0) (k0 := 0) rfl rfl (by decide +kernel) ?_
  refine x_sipush C (n := 1300) (by decide +kernel) (by decide +kernel) ?_
  show X z 1 1320 σ2 17 [(0, ar this)] [ai 1300, ar this] _
  refine x_newarr C (t := 4) (N := 1300) (at9 := .byte) (by decide) ac_byte rfl (Nat.le_of_ble_eq_true rfl) 2 2620 ⟨rfl, rfl⟩ ⟨Nat.le_of_ble_eq_true rfl, Nat.le_of_ble_eq_true rfl⟩ (by decide +kernel) (fun σ3 => ?_)
  refine x_pR C fl_RX12_13 (Or.inr ⟨_, rfl⟩) (Or.inr ⟨rfl, fun q h => by cases h; exact ⟨rfl, rfl⟩⟩) (by decide +kernel) (fun σ4 => ?_)
  refine x_aload_n C 0 (i := 0) (k0 := 0) rfl rfl (by decide +kernel) ?_
  refine x_iconst C (n := (-1)) (by decide +kernel) ?_
  refine x_pI C fl_RX12_16 rfl (fun q h => by cases h; rfl) (by decide +kernel) (fun σ5 => ?_)
  refine x_aload_n C 0 (i := 0) (k0 := 0) rfl rfl (by decide +kernel) ?_
  refine x_iconst C (n := 2) (by decide +kernel) ?_
  refine x_newarr C (t := 1) (N := 2) (at9 := .int) (by decide) ac_int rfl (Nat.le_of_ble_eq_true rfl) 3 2622 ⟨rfl, rfl⟩ ⟨Nat.le_of_ble_eq_true rfl, Nat.le_of_ble_eq_true rfl⟩ (by decide +kernel) (fun σ6 => ?_)
  show X z 3 2622 σ6 31 [(0, ar this)] [ar σ6.1, ar this] _
  refine x_pR C fl_RX12_20 (Or.inr ⟨_, rfl⟩) (Or.inr ⟨rfl, fun q h => by cases h; exact ⟨rfl, rfl⟩⟩) (by decide +kernel) (fun σ7 => ?_)
  refine x_aload_n C 0 (i := 0) (k0 := 0) rfl rfl (by decide +kernel) ?_
  refine x_iconst C (n := 2) (by decide +kernel) ?_
  refine x_newarr C (t := 1) (N := 2) (at9 := .int) (by decide) ac_int rfl (Nat.le_of_ble_eq_true rfl) 4 2624 ⟨rfl, rfl⟩ ⟨Nat.le_of_ble_eq_true rfl, Nat.le_of_ble_eq_true rfl⟩ (by decide +kernel) (fun σ8 => ?_)
  refine x_pR C fl_RX12_24 (Or.inr ⟨_, rfl⟩) (Or.inr ⟨rfl, fun q h => by cases h; exact ⟨rfl, rfl⟩⟩) (by decide +kernel) (fun σ9 => ?_)
  refine x_aload_n C 0 (i := 0) (k0 := 0) rfl rfl (by decide +kernel) ?_
  refine x_iconst C (n := 2) (by decide +kernel) ?_
  refine x_newarr C (t := 1) (N := 2) (at9 := .int) (by decide) ac_int rfl (Nat.le_of_ble_eq_true rfl) 5 2626 ⟨rfl, rfl⟩ ⟨Nat.le_of_ble_eq_true rfl, Nat.le_of_ble_eq_true rfl⟩ (by decide +kernel) (fun σ10 => ?_)
  show X z 5 2626 σ10 45 [(0, ar this)] [ar σ10.1, ar this] _
  refine x_pR C fl_RX12_27 (Or.inr ⟨_, rfl⟩) (Or.inr ⟨rfl, fun q h => by cases h; exact ⟨rfl, rfl⟩⟩) (by decide +kernel) (fun σ11 => ?_)
  refine x_aload_n C 0 (i := 0) (k0 := 0) rfl rfl (by decide +kernel) ?_
  refine x_iconst C (n := 2) (by decide +kernel) ?_
  refine x_newarr C (t := 1) (N := 2) (at9 := .int) (by decide) ac_int rfl (Nat.le_of_ble_eq_true rfl) 6 2628 ⟨rfl, rfl⟩ ⟨Nat.le_of_ble_eq_true rfl, Nat.le_of_ble_eq_true rfl⟩ (by decide +kernel) (fun σ12 => ?_)
  refine x_pR C fl_RX12_30 (Or.inr ⟨_, rfl⟩) (Or.inr ⟨rfl, fun q h => by cases h; exact ⟨rfl, rfl⟩⟩) (by decide +kernel) (fun σ13 => ?_)
  refine x_aload_n C 0 (i := 0) (k0 := 0) rfl rfl (by decide +kernel) ?_
  refine x_iconst C (n := 2) (by decide +kernel) ?_
  refine x_newarr C (t := 1) (N := 2) (at9 := .int) (by decide) ac_int rfl (Nat.le_of_ble_eq_true rfl) 7 2630 ⟨rfl, rfl⟩ ⟨Nat.le_of_ble_eq_true rfl, Nat.le_of_ble_eq_true rfl⟩ (by decide +kernel) (fun σ14 => ?_)
  show X z 7 2630 σ14 59 [(0, ar this)] [ar σ14.1, ar this] _
  refine x_pR C fl_RX12_33 (Or.inr ⟨_, rfl⟩) (Or.inr ⟨rfl, fun q h => by cases h; exact ⟨rfl, rfl⟩⟩) (by decide +kernel) (fun σ15 => ?_)
  refine x_aload_n C 0 (i := 0) (k0 := 0) rfl rfl (by decide +kernel) ?_
  refine x_bipush C (n := 24) (by decide +kernel) (by decide +kernel) ?_
  refine x_newarr C (t := 1) (N := 24) (at9 := .int) (by decide) ac_int rfl (Nat.le_of_ble_eq_true rfl) 8 2654 ⟨rfl, rfl⟩ ⟨Nat.le_of_ble_eq_true rfl, Nat.le_of_ble_eq_true rfl⟩ (by decide +kernel) (fun σ16 => ?_)
  refine x_pR C fl_RX12_36 (Or.inr ⟨_, rfl⟩) (Or.inr ⟨rfl, fun q h => by cases h; exact ⟨rfl, rfl⟩⟩) (by decide +kernel) (fun σ17 => ?_)
  refine x_aload_n C 0 (i := 0) (k0 := 0) rfl rfl (by decide +kernel) ?_
  refine x_bipush C (n := 24) (by decide +kernel) (by decide +kernel) ?_
  refine x_newarr C (t := 1) (N := 24) (at9 := .int) (by decide) ac_int rfl (Nat.le_of_ble_eq_true rfl) 9 2678 ⟨rfl, rfl⟩ ⟨Nat.le_of_ble_eq_true rfl, Nat.le_of_ble_eq_true rfl⟩ (by decide +kernel) (fun σ18 => ?_)
  show X z 9 2678 σ18 75 [(0, ar this)] [ar σ18.1, ar this] _
  refine x_pR C fl_RX12_39 (Or.inr ⟨_, rfl⟩) (Or.inr ⟨rfl, fun q h => by cases h; exact ⟨rfl, rfl⟩⟩) (by decide +kernel) (fun σ19 => ?_)
  refine x_aload_n C 0 (i := 0) (k0 := 0) rfl rfl (by decide +kernel) ?_
  refine x_bipush C (n := 24) (by decide +kernel) (by decide +kernel) ?_
  refine x_newarr C (t := 1) (N := 24) (at9 := .int) (by decide) ac_int rfl (Nat.le_of_ble_eq_true rfl) 10 2702 ⟨rfl, rfl⟩ ⟨Nat.le_of_ble_eq_true rfl, Nat.le_of_ble_eq_true rfl⟩ (by decide +kernel) (fun σ20 => ?_)
  refine x_pR C fl_RX12_42 (Or.inr ⟨_, rfl⟩) (Or.inr ⟨rfl, fun q h => by cases h; exact ⟨rfl, rfl⟩⟩) (by decide +kernel) (fun σ21 => ?_)
  refine x_aload_n C 0 (i := 0) (k0 := 0) rfl rfl (by decide +kernel) ?_
  refine x_bipush C (n := 24) (by decide +kernel) (by decide +kernel) ?_
  refine x_newarr C (t := 1) (N := 24) (at9 := .int) (by decide) ac_int rfl (Nat.le_of_ble_eq_true rfl) 11 2726 ⟨rfl, rfl⟩ ⟨Nat.le_of_ble_eq_true rfl, Nat.le_of_ble_eq_true rfl⟩ (by decide +kernel) (fun σ22 => ?_)
  show X z 11 2726 σ22 91 [(0, ar this)] [ar σ22.1, ar this] _
  refine x_pR C fl_RX12_45 (Or.inr ⟨_, rfl⟩) (Or.inr ⟨rfl, fun q h => by cases h; exact ⟨rfl, rfl⟩⟩) (by decide +kernel) (fun σ23 => ?_)
  refine x_aload_n C 0 (i := 0) (k0 := 0) rfl rfl (by decide +kernel) ?_
  refine x_bipush C (n := 32) (by decide +kernel) (by decide +kernel) ?_
  refine x_newarr C (t := 1) (N := 32) (at9 := .int) (by decide) ac_int rfl (Nat.le_of_ble_eq_true rfl) 12 2758 ⟨rfl, rfl⟩ ⟨Nat.le_of_ble_eq_true rfl, Nat.le_of_ble_eq_true rfl⟩ (by decide +kernel) (fun σ24 => ?_)
  refine x_pR C fl_RX12_48 (Or.inr ⟨_, rfl⟩) (Or.inr ⟨rfl, fun q h => by cases h; exact ⟨rfl, rfl⟩⟩) (by decide +kernel) (fun σ25 => ?_)
  refine x_aload_n C 0 (i := 0) (k0 := 0) rfl rfl (by decide +kernel) ?_
  refine x_bipush C (n := 32) (by decide +kernel) (by decide +kernel) ?_
  refine x_newarr C (t := 1) (N := 32) (at9 := .int) (by decide) ac_int rfl (Nat.le_of_ble_eq_true rfl) 13 2790 ⟨rfl, rfl⟩ ⟨Nat.le_of_ble_eq_true rfl, Nat.le_of_ble_eq_true rfl⟩ (by decide +kernel) (fun σ26 => ?_)
  show X z 13 2790 σ26 107 [(0, ar this)] [ar σ26.1, ar this] _
  refine x_pR C fl_RX12_51 (Or.inr ⟨_, rfl⟩) (Or.inr ⟨rfl, fun q h => by cases h; exact ⟨rfl, rfl⟩⟩) (by decide +kernel) (fun σ27 => ?_)
  refine x_aload_n C 0 (i := 0) (k0 := 0) rfl rfl (by decide +kernel) ?_
  refine x_bipush C (n := 32) (by decide +kernel) (by decide +kernel) ?_
  refine x_newarr C (t := 1) (N := 32) (at9 := .int) (by decide) ac_int rfl (Nat.le_of_ble_eq_true rfl) 14 2822 ⟨rfl, rfl⟩ ⟨Nat.le_of_ble_eq_true rfl, Nat.le_of_ble_eq_true rfl⟩ (by decide +kernel) (fun σ28 => ?_)
  refine x_pR C fl_RX12_54 (Or.inr ⟨_, rfl⟩) (Or.inr ⟨rfl, fun q h => by cases h; exact ⟨rfl, rfl⟩⟩) (by decide +kernel) (fun σ29 => ?_)
  refine x_aload_n C 0 (i := 0) (k0 := 0) rfl rfl (by decide +kernel) ?_
  refine x_bipush C (n := 32) (by decide +kernel) (by decide +kernel) ?_
  refine x_newarr C (t := 1) (N := 32) (at9 := .int) (by decide) ac_int rfl (Nat.le_of_ble_eq_true rfl) 15 2854 ⟨rfl, rfl⟩ ⟨Nat.le_of_ble_eq_true rfl, Nat.le_of_ble_eq_true rfl⟩ (by decide +kernel) (fun σ30 => ?_)
  show X z 15 2854 σ30 123 [(0, ar this)] [ar σ30.1, ar this] _
  refine x_pR C fl_RX12_57 (Or.inr ⟨_, rfl⟩) (Or.inr ⟨rfl, fun q h => by cases h; exact ⟨rfl, rfl⟩⟩) (by decide +kernel) (fun σ31 => ?_)
  refine x_aload_n C 0 (i := 0) (k0 := 0) rfl rfl (by decide +kernel) ?_
  refine x_bipush C (n := 32) (by decide +kernel) (by decide +kernel) ?_
  refine x_newarr C (t := 1) (N := 32) (at9 := .int) (by decide) ac_int rfl (Nat.le_of_ble_eq_true rfl) 16 2886 ⟨rfl, rfl⟩ ⟨Nat.le_of_ble_eq_true rfl, Nat.le_of_ble_eq_true rfl⟩ (by decide +kernel) (fun σ32 => ?_)
  refine x_pR C fl_RX12_60 (Or.inr ⟨_, rfl⟩) (Or.inr ⟨rfl, fun q h => by cases h; exact ⟨rfl, rfl⟩⟩) (by decide +kernel) (fun σ33 => ?_)
  refine x_aload_n C 0 (i := 0) (k0 := 0) rfl rfl (by decide +kernel) ?_
  refine x_bipush C (n := 32) (by decide +kernel) (by decide +kernel) ?_
  refine x_newarr C (t := 1) (N := 32) (at9 := .int) (by decide) ac_int rfl (Nat.le_of_ble_eq_true rfl) 17 2918 ⟨rfl, rfl⟩ ⟨Nat.le_of_ble_eq_true rfl, Nat.le_of_ble_eq_true rfl⟩ (by decide +kernel) (fun σ34 => ?_)
  show X z 17 2918 σ34 139 [(0, ar this)] [ar σ34.1, ar this] _
  refine x_pR C fl_RX12_63 (Or.inr ⟨_, rfl⟩) (Or.inr ⟨rfl, fun q h => by cases h; exact ⟨rfl, rfl⟩⟩) (by decide +kernel) (fun σ35 => ?_)
  refine x_aload_n C 0 (i := 0) (k0 := 0) rfl rfl (by decide +kernel) ?_
  refine x_bipush C (n := 6) (by decide +kernel) (by decide +kernel) ?_
  refine x_newarr C (t := 1) (N := 6) (at9 := .int) (by decide) ac_int rfl (Nat.le_of_ble_eq_true rfl) 18 2924 ⟨rfl, rfl⟩ ⟨Nat.le_of_ble_eq_true rfl, Nat.le_of_ble_eq_true rfl⟩ (by decide +kernel) (fun σ36 => ?_)
  refine x_pR C fl_RX12_66 (Or.inr ⟨_, rfl⟩) (Or.inr ⟨rfl, fun q h => by cases h; exact ⟨rfl, rfl⟩⟩) (by decide +kernel) (fun σ37 => ?_)
  refine x_aload_n C 0 (i := 0) (k0 := 0) rfl rfl (by decide +kernel) ?_
  refine x_bipush C (n := 6) (by decide +kernel) (by decide +kernel) ?_
  refine x_newarr C (t := 1) (N := 6) (at9 := .int) (by decide) ac_int rfl (Nat.le_of_ble_eq_true rfl) 19 2930 ⟨rfl, rfl⟩ ⟨Nat.le_of_ble_eq_true rfl, Nat.le_of_ble_eq_true rfl⟩ (by decide +kernel) (fun σ38 => ?_)
  show X z 19 2930 σ38 155 [(0, ar this)] [ar σ38.1, ar this] _
  refine x_pR C fl_RX12_69 (Or.inr ⟨_, rfl⟩) (Or.inr ⟨rfl, fun q h => by cases h; exact ⟨rfl, rfl⟩⟩) (by decide +kernel) (fun σ39 => ?_)
  refine x_aload_n C 0 (i := 0) (k0 := 0) rfl rfl (by decide +kernel) ?_
  refine x_sipush C (n := 128) (by decide +kernel) (by decide +kernel) ?_
  refine x_newarr C (t := 1) (N := 128) (at9 := .int) (by decide) ac_int rfl (Nat.le_of_ble_eq_true rfl) 20 3058 ⟨rfl, rfl⟩ ⟨Nat.le_of_ble_eq_true rfl, Nat.le_of_ble_eq_true rfl⟩ (by decide +kernel) (fun σ40 => ?_)
  refine x_pR C fl_RX12_72 (Or.inr ⟨_, rfl⟩) (Or.inr ⟨rfl, fun q h => by cases h; exact ⟨rfl, rfl⟩⟩) (by decide +kernel) (fun σ41 => ?_)
  refine x_aload_n C 0 (i := 0) (k0 := 0) rfl rfl (by decide +kernel) ?_
  refine x_bipush C (n := 16) (by decide +kernel) (by decide +kernel) ?_
  refine x_newarr C (t := 3) (N := 16) (at9 := .boolean) (by decide) ac_boolean rfl (Nat.le_of_ble_eq_true rfl) 21 3074 ⟨rfl, rfl⟩ ⟨Nat.le_of_ble_eq_true rfl, Nat.le_of_ble_eq_true rfl⟩ (by decide +kernel) (fun σ42 => ?_)
  show X z 21 3074 σ42 172 [(0, ar this)] [ar σ42.1, ar this] _
  refine x_pR C fl_RX12_75 (Or.inr ⟨_, rfl⟩) (Or.inr ⟨rfl, fun q h => by cases h; exact ⟨rfl, rfl⟩⟩) (by decide +kernel) (fun σ43 => ?_)
  refine x_aload_n C 0 (i := 0) (k0 := 0) rfl rfl (by decide +kernel) ?_
  refine x_bipush C (n := 24) (by decide +kernel) (by decide +kernel) ?_
  refine x_newarr C (t := 2) (N := 24) (at9 := .long) (by decide) ac_long rfl (Nat.le_of_ble_eq_true rfl) 22 3098 ⟨rfl, rfl⟩ ⟨Nat.le_of_ble_eq_true rfl, Nat.le_of_ble_eq_true rfl⟩ (by decide +kernel) (fun σ44 => ?_)
  refine x_pR C fl_RX12_79 (Or.inr ⟨_, rfl⟩) (Or.inr ⟨rfl, fun q h => by cases h; exact ⟨rfl, rfl⟩⟩) (by decide +kernel) (fun σ45 => ?_)
  refine x_aload_n C 0 (i := 0) (k0 := 0) rfl rfl (by decide +kernel) ?_
  refine x_iconst C (n := 4) (by decide +kernel) ?_
  refine x_newarr C (t := 1) (N := 4) (at9 := .int) (by decide) ac_int rfl (Nat.le_of_ble_eq_true rfl) 23 3102 ⟨rfl, rfl⟩ ⟨Nat.le_of_ble_eq_true rfl, Nat.le_of_ble_eq_true rfl⟩ (by decide +kernel) (fun σ46 => ?_)
  show X z 23 3102 σ46 187 [(0, ar this)] [ar σ46.1, ar this] _
  refine x_pR C fl_RX12_83 (Or.inr ⟨_, rfl⟩) (Or.inr ⟨rfl, fun q h => by cases h; exact ⟨rfl, rfl⟩⟩) (by decide +kernel) (fun σ47 => ?_)
  refine x_aload_n C 0 (i := 0) (k0 := 0) rfl rfl (by decide +kernel) ?_
  refine x_bipush C (n := 16) (by decide +kernel) (by decide +kernel) ?_
  refine x_newarr C (t := 1) (N := 16) (at9 := .int) (by decide) ac_int rfl (Nat.le_of_ble_eq_true rfl) 24 3118 ⟨rfl, rfl⟩ ⟨Nat.le_of_ble_eq_true rfl, Nat.le_of_ble_eq_true rfl⟩ (by decide +kernel) (fun σ48 => ?_)
  refine x_pR C fl_RX12_86 (Or.inr ⟨_, rfl⟩) (Or.inr ⟨rfl, fun q h => by cases h; exact ⟨rfl, rfl⟩⟩) (by decide +kernel) (fun σ49 => ?_)
  refine x_aload_n C 0 (i := 0) (k0 := 0) rfl rfl (by decide +kernel) ?_
  refine x_bipush C (n := 16) (by decide +kernel) (by decide +kernel) ?_
  refine x_newarr C (t := 1) (N := 16) (at9 := .int) (by decide) ac_int rfl (Nat.le_of_ble_eq_true rfl) 25 3134 ⟨rfl, rfl⟩ ⟨Nat.le_of_ble_eq_true rfl, Nat.le_of_ble_eq_true rfl⟩ (by decide +kernel) (fun σ50 => ?_)
  show X z 25 3134 σ50 203 [(0, ar this)] [ar σ50.1, ar this] _
  refine x_pR C fl_RX12_89 (Or.inr ⟨_, rfl⟩) (Or.inr ⟨rfl, fun q h => by cases h; exact ⟨rfl, rfl⟩⟩) (by decide +kernel) (fun σ51 => ?_)
  refine x_aload_n C 0 (i := 0) (k0 := 0) rfl rfl (by decide +kernel) ?_
  refine x_sipush C (n := 2800) (by decide +kernel) (by decide +kernel) ?_
  refine x_newarr C (t := 1) (N := 2800) (at9 := .int) (by decide) ac_int rfl (Nat.le_of_ble_eq_true rfl) 26 5934 ⟨rfl, rfl⟩ ⟨Nat.le_of_ble_eq_true rfl, Nat.le_of_ble_eq_true rfl⟩ (by decide +kernel) (fun σ52 => ?_)
  refine x_pR C fl_RX12_92 (Or.inr ⟨_, rfl⟩) (Or.inr ⟨rfl, fun q h => by cases h; exact ⟨rfl, rfl⟩⟩) (by decide +kernel) (fun σ53 => ?_)
  refine x_aload_n C 0 (i := 0) (k0 := 0) rfl rfl (by decide +kernel) ?_
  refine x_sipush C (n := 2800) (by decide +kernel) (by decide +kernel) ?_
  refine x_newarr C (t := 1) (N := 2800) (at9 := .int) (by decide) ac_int rfl (Nat.le_of_ble_eq_true rfl) 27 8734 ⟨rfl, rfl⟩ ⟨Nat.le_of_ble_eq_true rfl, Nat.le_of_ble_eq_true rfl⟩ (by decide +kernel) (fun σ54 => ?_)
  show X z 27 8734 σ54 221 [(0, ar this)] [ar σ54.1, ar this] _
  refine x_pR C fl_RX12_95 (Or.inr ⟨_, rfl⟩) (Or.inr ⟨rfl, fun q h => by cases h; exact ⟨rfl, rfl⟩⟩) (by decide +kernel) (fun σ55 => ?_)
  refine x_aload_n C 0 (i := 0) (k0 := 0) rfl rfl (by decide +kernel) ?_
  refine x_bipush C (n := 80) (by decide +kernel) (by decide +kernel) ?_
  refine x_newarr C (t := 1) (N := 80) (at9 := .int) (by decide) ac_int rfl (Nat.le_of_ble_eq_true rfl) 28 8814 ⟨rfl, rfl⟩ ⟨Nat.le_of_ble_eq_true rfl, Nat.le_of_ble_eq_true rfl⟩ (by decide +kernel) (fun σ56 => ?_)
  refine x_pR C fl_RX12_98 (Or.inr ⟨_, rfl⟩) (Or.inr ⟨rfl, fun q h => by cases h; exact ⟨rfl, rfl⟩⟩) (by decide +kernel) (fun σ57 => ?_)
  refine x_aload_n C 0 (i := 0) (k0 := 0) rfl rfl (by decide +kernel) ?_
  refine x_bipush C (n := 80) (by decide +kernel) (by decide +kernel) ?_
  refine x_newarr C (t := 1) (N := 80) (at9 := .int) (by decide) ac_int rfl (Nat.le_of_ble_eq_true rfl) 29 8894 ⟨rfl, rfl⟩ ⟨Nat.le_of_ble_eq_true rfl, Nat.le_of_ble_eq_true rfl⟩ (by decide +kernel) (fun σ58 => ?_)
  show X z 29 8894 σ58 237 [(0, ar this)] [ar σ58.1, ar this] _
  refine x_pR C fl_RX12_101 (Or.inr ⟨_, rfl⟩) (Or.inr ⟨rfl, fun q h => by cases h; exact ⟨rfl, rfl⟩⟩) (by decide +kernel) (fun σ59 => ?_)
  refine x_aload_n C 0 (i := 0) (k0 := 0) rfl rfl (by decide +kernel) ?_
  refine x_bipush C (n := 90) (by decide +kernel) (by decide +kernel) ?_
  refine x_newarr C (t := 1) (N := 90) (at9 := .int) (by decide) ac_int rfl (Nat.le_of_ble_eq_true rfl) 30 8984 ⟨rfl, rfl⟩ ⟨Nat.le_of_ble_eq_true rfl, Nat.le_of_ble_eq_true rfl⟩ (by decide +kernel) (fun σ60 => ?_)
  refine x_pR C fl_RX12_104 (Or.inr ⟨_, rfl⟩) (Or.inr ⟨rfl, fun q h => by cases h; exact ⟨rfl, rfl⟩⟩) (by decide +kernel) (fun σ61 => ?_)
  refine x_aload_n C 0 (i := 0) (k0 := 0) rfl rfl (by decide +kernel) ?_
  refine x_bipush C (n := 16) (by decide +kernel) (by decide +kernel) ?_
  refine x_newarr C (t := 3) (N := 16) (at9 := .boolean) (by decide) ac_boolean rfl (Nat.le_of_ble_eq_true rfl) 31 9000 ⟨rfl, rfl⟩ ⟨Nat.le_of_ble_eq_true rfl, Nat.le_of_ble_eq_true rfl⟩ (by decide +kernel) (fun σ62 => ?_)
  show X z 31 9000 σ62 253 [(0, ar this)] [ar σ62.1, ar this] _
  refine x_pR C fl_RX12_107 (Or.inr ⟨_, rfl⟩) (Or.inr ⟨rfl, fun q h => by cases h; exact ⟨rfl, rfl⟩⟩) (by decide +kernel) (fun σ63 => ?_)
  refine x_aload_n C 0 (i := 0) (k0 := 0) rfl rfl (by decide +kernel) ?_
  refine x_sipush C (n := 200) (by decide +kernel) (by decide +kernel) ?_
  refine x_newarr C (t := 1) (N := 200) (at9 := .int) (by decide) ac_int rfl (Nat.le_of_ble_eq_true rfl) 32 9200 ⟨rfl, rfl⟩ ⟨Nat.le_of_ble_eq_true rfl, Nat.le_of_ble_eq_true rfl⟩ (by decide +kernel) (fun σ64 => ?_)
  refine x_pR C fl_RX12_110 (Or.inr ⟨_, rfl⟩) (Or.inr ⟨rfl, fun q h => by cases h; exact ⟨rfl, rfl⟩⟩) (by decide +kernel) (fun σ65 => ?_)
  refine x_aload_n C 0 (i := 0) (k0 := 0) rfl rfl (by decide +kernel) ?_
  refine x_sipush C (n := 200) (by decide +kernel) (by decide +kernel) ?_
  refine x_newarr C (t := 1) (N := 200) (at9 := .int) (by decide) ac_int rfl (Nat.le_of_ble_eq_true rfl) 33 9400 ⟨rfl, rfl⟩ ⟨Nat.le_of_ble_eq_true rfl, Nat.le_of_ble_eq_true rfl⟩ (by decide +kernel) (fun σ66 => ?_)
  show X z 33 9400 σ66 271 [(0, ar this)] [ar σ66.1, ar this] _
  refine x_pR C fl_RX12_113 (Or.inr ⟨_, rfl⟩) (Or.inr ⟨rfl, fun q h => by cases h; exact ⟨rfl, rfl⟩⟩) (by decide +kernel) (fun σ67 => ?_)
  refine x_aload_n C 0 (i := 0) (k0 := 0) rfl rfl (by decide +kernel) ?_
  refine x_sipush C (n := 200) (by decide +kernel) (by decide +kernel) ?_
  refine x_newarr C (t := 1) (N := 200) (at9 := .int) (by decide) ac_int rfl (Nat.le_of_ble_eq_true rfl) 34 9600 ⟨rfl, rfl⟩ ⟨Nat.le_of_ble_eq_true rfl, Nat.le_of_ble_eq_true rfl⟩ (by decide +kernel) (fun σ68 => ?_)
  refine x_pR C fl_RX12_116 (Or.inr ⟨_, rfl⟩) (Or.inr ⟨rfl, fun q h => by cases h; exact ⟨rfl, rfl⟩⟩) (by decide +kernel) (fun σ69 => ?_)
  refine x_aload_n C 0 (i := 0) (k0 := 0) rfl rfl (by decide +kernel) ?_
  refine x_sipush C (n := 200) (by decide +kernel) (by decide +kernel) ?_
  refine x_newarr C (t := 1) (N := 200) (at9 := .int) (by decide) ac_int rfl (Nat.le_of_ble_eq_true rfl) 35 9800 ⟨rfl, rfl⟩ ⟨Nat.le_of_ble_eq_true rfl, Nat.le_of_ble_eq_true rfl⟩ (by decide +kernel) (fun σ70 => ?_)
  show X z 35 9800 σ70 289 [(0, ar this)] [ar σ70.1, ar this] _
  refine x_pR C fl_RX12_119 (Or.inr ⟨_, rfl⟩) (Or.inr ⟨rfl, fun q h => by cases h; exact ⟨rfl, rfl⟩⟩) (by decide +kernel) (fun σ71 => ?_)
  refine x_aload_n C 0 (i := 0) (k0 := 0) rfl rfl (by decide +kernel) ?_
  refine x_sipush C (n := 200) (by decide +kernel) (by decide +kernel) ?_
  refine x_newarr C (t := 1) (N := 200) (at9 := .int) (by decide) ac_int rfl (Nat.le_of_ble_eq_true rfl) 36 10000 ⟨rfl, rfl⟩ ⟨Nat.le_of_ble_eq_true rfl, Nat.le_of_ble_eq_true rfl⟩ (by decide +kernel) (fun σ72 => ?_)
  refine x_pR C fl_RX12_122 (Or.inr ⟨_, rfl⟩) (Or.inr ⟨rfl, fun q h => by cases h; exact ⟨rfl, rfl⟩⟩) (by decide +kernel) (fun σ73 => ?_)
  refine x_aload_n C 0 (i := 0) (k0 := 0) rfl rfl (by decide +kernel) ?_
  refine x_bipush C (n := 12) (by decide +kernel) (by decide +kernel) ?_
  refine x_newarr C (t := 1) (N := 12) (at9 := .int) (by decide) ac_int rfl (Nat.le_of_ble_eq_true rfl) 37 10012 ⟨rfl, rfl⟩ ⟨Nat.le_of_ble_eq_true rfl, Nat.le_of_ble_eq_true rfl⟩ (by decide +kernel) (fun σ74 => ?_)
  show X z 37 10012 σ74 306 [(0, ar this)] [ar σ74.1, ar this] _
  refine x_pR C fl_RX12_125 (Or.inr ⟨_, rfl⟩) (Or.inr ⟨rfl, fun q h => by cases h; exact ⟨rfl, rfl⟩⟩) (by decide +kernel) (fun σ75 => ?_)
  refine x_aload_n C 0 (i := 0) (k0 := 0) rfl rfl (by decide +kernel) ?_
  refine x_bipush C (n := 12) (by decide +kernel) (by decide +kernel) ?_
  refine x_newarr C (t := 1) (N := 12) (at9 := .int) (by decide) ac_int rfl (Nat.le_of_ble_eq_true rfl) 38 10024 ⟨rfl, rfl⟩ ⟨Nat.le_of_ble_eq_true rfl, Nat.le_of_ble_eq_true rfl⟩ (by decide +kernel) (fun σ76 => ?_)
  refine x_pR C fl_RX12_128 (Or.inr ⟨_, rfl⟩) (Or.inr ⟨rfl, fun q h => by cases h; exact ⟨rfl, rfl⟩⟩) (by decide +kernel) (fun σ77 => ?_)
  refine x_aload_n C 0 (i := 0) (k0 := 0) rfl rfl (by decide +kernel) ?_
  refine x_bipush C (n := 12) (by decide +kernel) (by decide +kernel) ?_
  refine x_newarr C (t := 1) (N := 12) (at9 := .int) (by decide) ac_int rfl (Nat.le_of_ble_eq_true rfl) 39 10036 ⟨rfl, rfl⟩ ⟨Nat.le_of_ble_eq_true rfl, Nat.le_of_ble_eq_true rfl⟩ (by decide +kernel) (fun σ78 => ?_)
  show X z 39 10036 σ78 322 [(0, ar this)] [ar σ78.1, ar this] _
  refine x_pR C fl_RX12_131 (Or.inr ⟨_, rfl⟩) (Or.inr ⟨rfl, fun q h => by cases h; exact ⟨rfl, rfl⟩⟩) (by decide +kernel) (fun σ79 => ?_)
  refine x_aload_n C 0 (i := 0) (k0 := 0) rfl rfl (by decide +kernel) ?_
  refine x_ldc C (n := 53248) (v := 53248) kc_RX12_134 (by decide +kernel) (by decide +kernel) ?_
  refine x_newarr C (t := 1) (N := 53248) (at9 := .int) (by decide) ac_int rfl (Nat.le_of_ble_eq_true rfl) 40 63284 ⟨rfl, rfl⟩ ⟨Nat.le_of_ble_eq_true rfl, Nat.le_of_ble_eq_true rfl⟩ (by decide +kernel) (fun σ80 => ?_)
  refine x_pR C fl_RX12_135 (Or.inr ⟨_, rfl⟩) (Or.inr ⟨rfl, fun q h => by cases h; exact ⟨rfl, rfl⟩⟩) (by decide +kernel) (fun σ81 => ?_)
  refine x_aload_n C 0 (i := 0) (k0 := 0) rfl rfl (by decide +kernel) ?_
  refine x_iconst C (n := 3) (by decide +kernel) ?_
  refine x_newarr C (t := 1) (N := 3) (at9 := .int) (by decide) ac_int rfl (Nat.le_of_ble_eq_true rfl) 41 63287 ⟨rfl, rfl⟩ ⟨Nat.le_of_ble_eq_true rfl, Nat.le_of_ble_eq_true rfl⟩ (by decide +kernel) (fun σ82 => ?_)
  show X z 41 63287 σ82 337 [(0, ar this)] [ar σ82.1, ar this] _
  refine x_pR C fl_RX12_138 (Or.inr ⟨_, rfl⟩) (Or.inr ⟨rfl, fun q h => by cases h; exact ⟨rfl, rfl⟩⟩) (by decide +kernel) (fun σ83 => ?_)
  refine x_aload_n C 0 (i := 0) (k0 := 0) rfl rfl (by decide +kernel) ?_
  refine x_iconst C (n := 2) (by decide +kernel) ?_
  refine x_pI C fl_RX12_141 rfl (fun q h => by cases h; rfl) (by decide +kernel) (fun σ84 => ?_)
  refine x_aload_n C 0 (i := 0) (k0 := 0) rfl rfl (by decide +kernel) ?_
  refine x_sipush C (n := 6400) (by decide +kernel) (by decide +kernel) ?_
  refine x_newarr C (t := 1) (N := 6400) (at9 := .int) (by decide) ac_int rfl (Nat.le_of_ble_eq_true rfl) 42 69687 ⟨rfl, rfl⟩ ⟨Nat.le_of_ble_eq_true rfl, Nat.le_of_ble_eq_true rfl⟩ (by decide +kernel) (fun σ85 => ?_)
  refine x_pR C fl_RX12_144 (Or.inr ⟨_, rfl⟩) (Or.inr ⟨rfl, fun q h => by cases h; exact ⟨rfl, rfl⟩⟩) (by decide +kernel) (fun σ86 => ?_)
  show X z 42 69687 σ86 354 [(0, ar this)] [] _
  refine x_aload_n C 0 (i := 0) (k0 := 0) rfl rfl (by decide +kernel) ?_
  refine x_bipush C (n := 10) (by decide +kernel) (by decide +kernel) ?_
  refine x_newarr C (t := 1) (N := 10) (at9 := .int) (by decide) ac_int rfl (Nat.le_of_ble_eq_true rfl) 43 69697 ⟨rfl, rfl⟩ ⟨Nat.le_of_ble_eq_true rfl, Nat.le_of_ble_eq_true rfl⟩ (by decide +kernel) (fun σ87 => ?_)
  refine x_pR C fl_RX12_147 (Or.inr ⟨_, rfl⟩) (Or.inr ⟨rfl, fun q h => by cases h; exact ⟨rfl, rfl⟩⟩) (by decide +kernel) (fun σ88 => ?_)
  refine x_aload_n C 0 (i := 0) (k0 := 0) rfl rfl (by decide +kernel) ?_
  refine x_bipush C (n := 10) (by decide +kernel) (by decide +kernel) ?_
  refine x_newarr C (t := 1) (N := 10) (at9 := .int) (by decide) ac_int rfl (Nat.le_of_ble_eq_true rfl) 44 69707 ⟨rfl, rfl⟩ ⟨Nat.le_of_ble_eq_true rfl, Nat.le_of_ble_eq_true rfl⟩ (by decide +kernel) (fun σ89 => ?_)
  refine x_pR C fl_RX12_150 (Or.inr ⟨_, rfl⟩) (Or.inr ⟨rfl, fun q h => by cases h; exact ⟨rfl, rfl⟩⟩) (by decide +kernel) (fun σ90 => ?_)
  show X z 44 69707 σ90 370 [(0, ar this)] [] _
  refine x_aload_n C 0 (i := 0) (k0 := 0) rfl rfl (by decide +kernel) ?_
  refine x_bipush C (n := 10) (by decide +kernel) (by decide +kernel) ?_
  refine x_newarr C (t := 1) (N := 10) (at9 := .int) (by decide) ac_int rfl (Nat.le_of_ble_eq_true rfl) 45 69717 ⟨rfl, rfl⟩ ⟨Nat.le_of_ble_eq_true rfl, Nat.le_of_ble_eq_true rfl⟩ (by decide +kernel) (fun σ91 => ?_)
  refine x_pR C fl_RX12_153 (Or.inr ⟨_, rfl⟩) (Or.inr ⟨rfl, fun q h => by cases h; exact ⟨rfl, rfl⟩⟩) (by decide +kernel) (fun σ92 => ?_)
  refine x_aload_n C 0 (i := 0) (k0 := 0) rfl rfl (by decide +kernel) ?_
  refine x_bipush C (n := 12) (by decide +kernel) (by decide +kernel) ?_
  refine x_newarr C (t := 1) (N := 12) (at9 := .int) (by decide) ac_int rfl (Nat.le_of_ble_eq_true rfl) 46 69729 ⟨rfl, rfl⟩ ⟨Nat.le_of_ble_eq_true rfl, Nat.le_of_ble_eq_true rfl⟩ (by decide +kernel) (fun σ93 => ?_)
  refine x_pR C fl_RX12_156 (Or.inr ⟨_, rfl⟩) (Or.inr ⟨rfl, fun q h => by cases h; exact ⟨rfl, rfl⟩⟩) (by decide +kernel) (fun σ94 => ?_)
  show X z 46 69729 σ94 386 [(0, ar this)] [] _
  refine x_aload_n C 0 (i := 0) (k0 := 0) rfl rfl (by decide +kernel) ?_
  refine x_bipush C (n := 12) (by decide +kernel) (by decide +kernel) ?_
  refine x_newarr C (t := 1) (N := 12) (at9 := .int) (by decide) ac_int rfl (Nat.le_of_ble_eq_true rfl) 47 69741 ⟨rfl, rfl⟩ ⟨Nat.le_of_ble_eq_true rfl, Nat.le_of_ble_eq_true rfl⟩ (by decide +kernel) (fun σ95 => ?_)
  refine x_pR C fl_RX12_159 (Or.inr ⟨_, rfl⟩) (Or.inr ⟨rfl, fun q h => by cases h; exact ⟨rfl, rfl⟩⟩) (by decide +kernel) (fun σ96 => ?_)
  refine x_aload_n C 0 (i := 0) (k0 := 0) rfl rfl (by decide +kernel) ?_
  refine x_bipush C (n := 8) (by decide +kernel) (by decide +kernel) ?_
  refine x_newarr C (t := 1) (N := 8) (at9 := .int) (by decide) ac_int rfl (Nat.le_of_ble_eq_true rfl) 48 69749 ⟨rfl, rfl⟩ ⟨Nat.le_of_ble_eq_true rfl, Nat.le_of_ble_eq_true rfl⟩ (by decide +kernel) (fun σ97 => ?_)
  refine x_pR C fl_RX12_162 (Or.inr ⟨_, rfl⟩) (Or.inr ⟨rfl, fun q h => by cases h; exact ⟨rfl, rfl⟩⟩) (by decide +kernel) (fun σ98 => ?_)
  show X z 48 69749 σ98 402 [(0, ar this)] [] _
  refine x_aload_n C 0 (i := 0) (k0 := 0) rfl rfl (by decide +kernel) ?_
  refine x_bipush C (n := 8) (by decide +kernel) (by decide +kernel) ?_
  refine x_newarr C (t := 1) (N := 8) (at9 := .int) (by decide) ac_int rfl (Nat.le_of_ble_eq_true rfl) 49 69757 ⟨rfl, rfl⟩ ⟨Nat.le_of_ble_eq_true rfl, Nat.le_of_ble_eq_true rfl⟩ (by decide +kernel) (fun σ99 => ?_)
  refine x_pR C fl_RX12_165 (Or.inr ⟨_, rfl⟩) (Or.inr ⟨rfl, fun q h => by cases h; exact ⟨rfl, rfl⟩⟩) (by decide +kernel) (fun σ100 => ?_)
  refine x_aload_n C 0 (i := 0) (k0 := 0) rfl rfl (by decide +kernel) ?_
  refine x_ldc C (n := 302715) (v := 302715) kc_RX12_168 (by decide +kernel) (by decide +kernel) ?_
  refine x_newarr C (t := 3) (N := 302715) (at9 := .boolean) (by decide) ac_boolean rfl (Nat.le_of_ble_eq_true rfl) 50 372472 ⟨rfl, rfl⟩ ⟨Nat.le_of_ble_eq_true rfl, Nat.le_of_ble_eq_true rfl⟩ (by decide +kernel) (fun σ101 => ?_)
  refine x_pR C fl_RX12_169 (Or.inr ⟨_, rfl⟩) (Or.inr ⟨rfl, fun q h => by cases h; exact ⟨rfl, rfl⟩⟩) (by decide +kernel) (fun σ102 => ?_)
  show X z 50 372472 σ102 418 [(0, ar this)] [] _
  exact x_vret C ⟨Nat.le_of_ble_eq_true rfl, Nat.le_of_ble_eq_true rfl⟩ (by decide +kernel)
