def rm_X11_within : Room := { frames := 0, cells := 0, slots := 0, locals := 0 }
def f_X11_within (N : Nat) (σ : St) (p0 : Int) (p1 : Int) (p2 : Int) : Option (St × Int) :=
 (if wr p0 < wr p1 then some (σ, 0) else (if wr p2 < wr p0 then some (σ, 0) else some (σ, 1)))
set_option maxRecDepth 100000 in
set_option maxHeartbeats 4000000 in
theorem c_X11_within (l : Launch) (D : va_G) (ca : Nat → ClassId) (ra : Nat → Nat) (N : Nat) (σ : St) (p0 : Int) (p1 : Int) (p2 : Int) : Ctr l (D, ca, ra, shx) false yX11_within cX11_within 3 (some .boolean) rm_X11_within σ [ai p0, ai p1, ai p2] (f_X11_within N σ p0 p1 p2) := by
  refine ctr_of (by decide) (Nat.le_of_ble_eq_true rfl) (fun z C => ?_)
  show X z 0 0 σ 0 [(0, ai p0), (1, ai p1), (2, ai p2)] [] _
  unfold f_X11_within
  refine x_iload_n C 0 (i := 0) (k0 := 0) rfl rfl (by decide +kernel) ?_
  refine x_iload_n C 1 (i := 1) (k0 := 1) rfl rfl (by decide +kernel) ?_
  refine x_ic_lt C (tgt := 14) (off := 12) (by decide) (by decide +kernel) (fun h2 => ?_) (fun h2 => ?_)
  · skip
    refine x_iconst C (n := 0) (by decide +kernel) ?_
    exact x_zret C (Or.inl rfl) ⟨Nat.zero_le _, Nat.zero_le _⟩ (by decide +kernel)
  · skip
    refine x_iload_n C 0 (i := 0) (k0 := 0) rfl rfl (by decide +kernel) ?_
    refine x_iload_n C 2 (i := 2) (k0 := 2) rfl rfl (by decide +kernel) ?_
    refine x_ic_gt C (tgt := 14) (off := 7) (by decide) (by decide +kernel) (fun h1 => ?_) (fun h1 => ?_)
    · skip
      refine x_iconst C (n := 0) (by decide +kernel) ?_
      exact x_zret C (Or.inl rfl) ⟨Nat.zero_le _, Nat.zero_le _⟩ (by decide +kernel)
    · skip
      refine x_iconst C (n := 1) (by decide +kernel) ?_
      refine x_goto C (tgt := 15) (off := 4) (by decide) (by decide +kernel) ?_
      exact x_zret C (Or.inr rfl) ⟨Nat.zero_le _, Nat.zero_le _⟩ (by decide +kernel)
theorem p_X11_within (N : Nat) (σ : St) (p0 : Int) (p1 : Int) (p2 : Int) : Pu σ (f_X11_within N σ p0 p1 p2) := by
  unfold f_X11_within
  refine pu_if ?_ ?_
  · skip
    exact pu_some
  · skip
    refine pu_if ?_ ?_
    · skip
      exact pu_some
    · skip
      exact pu_some

def rm_X11_isTongue : Room := { frames := 1, cells := 0, slots := 0, locals := 22 }
def f_X11_isTongue (N : Nat) (σ : St) (p0 : Int) : Option (St × Int) :=
 Option.bind (f_X11_within N σ p0 0 2) fun q1 =>
 rZ σ q1.2
set_option maxRecDepth 100000 in
set_option maxHeartbeats 4000000 in
theorem c_X11_isTongue (l : Launch) (D : va_G) (ca : Nat → ClassId) (ra : Nat → Nat) (N : Nat) (σ : St) (p0 : Int) : Ctr l (D, ca, ra, shx) false yX11_isTongue cX11_isTongue 1 (some .boolean) rm_X11_isTongue σ [ai p0] (f_X11_isTongue N σ p0) := by
  refine ctr_of (by decide) (Nat.le_of_ble_eq_true rfl) (fun z C => ?_)
  show X z 0 0 σ 0 [(0, ai p0)] [] _
  unfold f_X11_isTongue
  refine x_iload_n C 0 (i := 0) (k0 := 0) rfl rfl (by decide +kernel) ?_
  refine x_iconst C (n := 0) (by decide +kernel) ?_
  refine x_iconst C (n := 2) (by decide +kernel) ?_
  refine x_callSp C (c_X11_within l D ca ra N σ p0 0 2) (p_X11_within N σ p0 0 2) mt_X11_within ms_X11_within ml_RX11_105 rfl (fun h => Bool.noConfusion h) ⟨Nat.le_of_ble_eq_true rfl, Nat.le_of_ble_eq_true rfl⟩ (Nat.le_of_ble_eq_true rfl) 0 0 ⟨rfl, rfl⟩ ⟨Nat.zero_le _, Nat.zero_le _⟩ (by decide +kernel) _ rfl (fun q1 => [ai q1.2]) (fun _ => rfl) (fun q1 => ?_)
  exact x_rZ C ⟨Nat.zero_le _, Nat.zero_le _⟩ (by decide +kernel)
theorem p_X11_isTongue (N : Nat) (σ : St) (p0 : Int) : Pu σ (f_X11_isTongue N σ p0) := by
  unfold f_X11_isTongue
  refine pu_bind (fun _ => ?_)
  exact pu_rZ

def rm_X11_isMonth : Room := { frames := 1, cells := 0, slots := 0, locals := 22 }
def f_X11_isMonth (N : Nat) (σ : St) (p0 : Int) : Option (St × Int) :=
 Option.bind (f_X11_within N σ p0 0 199) fun q1 =>
 rZ σ q1.2
set_option maxRecDepth 100000 in
set_option maxHeartbeats 4000000 in
theorem c_X11_isMonth (l : Launch) (D : va_G) (ca : Nat → ClassId) (ra : Nat → Nat) (N : Nat) (σ : St) (p0 : Int) : Ctr l (D, ca, ra, shx) false yX11_isMonth cX11_isMonth 1 (some .boolean) rm_X11_isMonth σ [ai p0] (f_X11_isMonth N σ p0) := by
  refine ctr_of (by decide) (Nat.le_of_ble_eq_true rfl) (fun z C => ?_)
  show X z 0 0 σ 0 [(0, ai p0)] [] _
  unfold f_X11_isMonth
  refine x_iload_n C 0 (i := 0) (k0 := 0) rfl rfl (by decide +kernel) ?_
  refine x_iconst C (n := 0) (by decide +kernel) ?_
  refine x_sipush C (n := 199) (by decide +kernel) (by decide +kernel) ?_
  refine x_callSp C (c_X11_within l D ca ra N σ p0 0 199) (p_X11_within N σ p0 0 199) mt_X11_within ms_X11_within ml_RX11_105 rfl (fun h => Bool.noConfusion h) ⟨Nat.le_of_ble_eq_true rfl, Nat.le_of_ble_eq_true rfl⟩ (Nat.le_of_ble_eq_true rfl) 0 0 ⟨rfl, rfl⟩ ⟨Nat.zero_le _, Nat.zero_le _⟩ (by decide +kernel) _ rfl (fun q1 => [ai q1.2]) (fun _ => rfl) (fun q1 => ?_)
  exact x_rZ C ⟨Nat.zero_le _, Nat.zero_le _⟩ (by decide +kernel)
theorem p_X11_isMonth (N : Nat) (σ : St) (p0 : Int) : Pu σ (f_X11_isMonth N σ p0) := by
  unfold f_X11_isMonth
  refine pu_bind (fun _ => ?_)
  exact pu_rZ

def rm_X11_isMoney : Room := { frames := 1, cells := 0, slots := 0, locals := 22 }
def f_X11_isMoney (N : Nat) (σ : St) (p0 : Int) : Option (St × Int) :=
 Option.bind (f_X11_within N σ p0 0 30) fun q1 =>
 rZ σ q1.2
set_option maxRecDepth 100000 in
set_option maxHeartbeats 4000000 in
theorem c_X11_isMoney (l : Launch) (D : va_G) (ca : Nat → ClassId) (ra : Nat → Nat) (N : Nat) (σ : St) (p0 : Int) : Ctr l (D, ca, ra, shx) false yX11_isMoney cX11_isMoney 1 (some .boolean) rm_X11_isMoney σ [ai p0] (f_X11_isMoney N σ p0) := by
  refine ctr_of (by decide) (Nat.le_of_ble_eq_true rfl) (fun z C => ?_)
  show X z 0 0 σ 0 [(0, ai p0)] [] _
  unfold f_X11_isMoney
  refine x_iload_n C 0 (i := 0) (k0 := 0) rfl rfl (by decide +kernel) ?_
  refine x_iconst C (n := 0) (by decide +kernel) ?_
  refine x_bipush C (n := 30) (by decide +kernel) (by decide +kernel) ?_
  refine x_callSp C (c_X11_within l D ca ra N σ p0 0 30) (p_X11_within N σ p0 0 30) mt_X11_within ms_X11_within ml_RX11_105 rfl (fun h => Bool.noConfusion h) ⟨Nat.le_of_ble_eq_true rfl, Nat.le_of_ble_eq_true rfl⟩ (Nat.le_of_ble_eq_true rfl) 0 0 ⟨rfl, rfl⟩ ⟨Nat.zero_le _, Nat.zero_le _⟩ (by decide +kernel) _ rfl (fun q1 => [ai q1.2]) (fun _ => rfl) (fun q1 => ?_)
  exact x_rZ C ⟨Nat.zero_le _, Nat.zero_le _⟩ (by decide +kernel)
theorem p_X11_isMoney (N : Nat) (σ : St) (p0 : Int) : Pu σ (f_X11_isMoney N σ p0) := by
  unfold f_X11_isMoney
  refine pu_bind (fun _ => ?_)
  exact pu_rZ

def L_J7_fill_53178_5 (N : Nat) (p0 : Nat) (p1 : Int) (n1 : Int) : (St × Int) → Option (St × Int) := fixN N fun b5_2 t2 =>
 (if wr t2.2 < wr n1 then Option.bind (sI shx t2.1 1 p0 t2.2 p1) fun σ4 =>
 Lt (t2.2 + 1) fun x5 =>
 b5_2 (σ4, x5) else some (t2.1, 0))
def rm_J7_fill_53178 : Room := { frames := 0, cells := 0, slots := 0, locals := 0 }
def f_J7_fill_53178 (N : Nat) (σ : St) (p0 : Nat) (p1 : Int) : Option (St × Int) :=
 Option.bind (aL shx σ p0) fun n1 =>
 L_J7_fill_53178_5 N p0 p1 n1 (σ, 0)
set_option maxRecDepth 100000 in
set_option maxHeartbeats 4000000 in
theorem c_J7_fill_53178 (l : Launch) (D : va_G) (ca : Nat → ClassId) (ra : Nat → Nat) (N : Nat) (σ : St) (p0 : Nat) (p1 : Int) : Ctr l (D, ca, ra, shx) false yJ7_fill_53178 cJ7_fill_53178 4 none rm_J7_fill_53178 σ [ar p0, ai p1] (f_J7_fill_53178 N σ p0 p1) := by
  refine ctr_of (by decide) (Nat.le_of_ble_eq_true rfl) (fun z C => ?_)
  show X z 0 0 σ 0 [(0, ar p0), (1, ai p1)] [] _
  unfold f_J7_fill_53178
  refine x_iconst C (n := 0) (by decide +kernel) ?_
  refine x_istore_n C (i := 2) (k0 := 2) rfl (Nat.le_of_ble_eq_true rfl) (by decide +kernel) (lv2 := [(2, ai 0), (0, ar p0), (1, ai p1)]) rfl ?_
  refine x_aload_n C 1 (i := 0) (k0 := 0) rfl rfl (by decide +kernel) ?_
  refine x_alen C (by decide +kernel) (fun n1 => ?_)
  refine x_istore_n C (i := 3) (k0 := 3) rfl (Nat.le_of_ble_eq_true rfl) (by decide +kernel) (lv2 := [(3, ai n1), (2, ai 0), (0, ar p0), (1, ai p1)]) rfl ?_
  refine x_sub [2, 3, 1, 0] (lv2 := [(0, ar p0), (1, ai p1), (2, ai 0), (3, ai n1)]) rfl ?_
  -- LOOP L_J7_fill_53178_5 hb5_2
  refine x_loop (T := St × Int) (fun t => t.1) (fun t => [(0, ar p0), (1, ai p1), (2, ai t.2), (3, ai n1)]) (σ, 0) rfl (fun b5_2 hb5_2 t2 => ?_)
  show X z 0 0 t2.1 5 [(0, ar p0), (1, ai p1), (2, ai t2.2), (3, ai n1)] [] _
  refine x_iload_n C 2 (i := 2) (k0 := 2) rfl rfl (by decide +kernel) ?_
  refine x_iload_n C 3 (i := 3) (k0 := 3) rfl rfl (by decide +kernel) ?_
  refine x_ic_ge C (tgt := 20) (off := 13) (by decide) (by decide +kernel) (fun h6 => ?_) (fun h6 => ?_)
  · skip
    exact x_vret C ⟨Nat.zero_le _, Nat.zero_le _⟩ (by decide +kernel)
  · skip
    refine x_aload_n C 0 (i := 0) (k0 := 0) rfl rfl (by decide +kernel) ?_
    refine x_iload_n C 2 (i := 2) (k0 := 2) rfl rfl (by decide +kernel) ?_
    refine x_iload_n C 1 (i := 1) (k0 := 1) rfl rfl (by decide +kernel) ?_
    refine x_astI C (by decide +kernel) (fun σ4 => ?_)
    refine x_iinc C 2 (i := 2) (n := 1) (Nat.le_of_ble_eq_true rfl) rfl (by decide +kernel) (lv2 := fun x5 => [(2, ai x5), (0, ar p0), (1, ai p1), (3, ai n1)]) (fun _ => rfl) (fun x5 => ?_)
    refine x_goto C (tgt := 5) (off := (-12)) (by decide) (by decide +kernel) ?_
    refine x_sub [1, 2, 0, 3] (lv2 := [(0, ar p0), (1, ai p1), (2, ai x5), (3, ai n1)]) rfl ?_
    exact hb5_2 (σ4, x5)
