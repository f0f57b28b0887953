def rm_X7_ask : Room := { frames := 1, cells := 0, slots := 0, locals := 22 }
def f_X7_ask (N : Nat) (σ : St) (this : Nat) (p0 : Int) (p1 : Int) : Option (St × Int) :=
 Option.bind (f_X11_within N σ p0 23 33) fun q1 =>
 (if wr q1.2 = 0 then some (σ, 0) else Option.bind (gR shx σ 7 this 7) fun asked_2 =>
 Option.bind (sI shx σ 1 asked_2 (p0 - 23) p1) fun σ3 =>
 some (σ3, 0))
set_option maxRecDepth 100000 in
set_option maxHeartbeats 4000000 in
theorem c_X7_ask (l : Launch) (D : va_G) (ca : Nat → ClassId) (ra : Nat → Nat) (N : Nat) (σ : St) (this : Nat) (p0 : Int) (p1 : Int) : Ctr l (D, ca, ra, shx) false yX7_ask cX7_ask 3 none rm_X7_ask σ [ar this, ai p0, ai p1] (f_X7_ask N σ this p0 p1) := by
  refine ctr_of (by decide) (Nat.le_of_ble_eq_true rfl) (fun z C => ?_)
  show X z 0 0 σ 0 [(0, ar this), (1, ai p0), (2, ai p1)] [] _
  unfold f_X7_ask
  refine x_iload_n C 1 (i := 1) (k0 := 1) rfl rfl (by decide +kernel) ?_
  refine x_bipush C (n := 23) (by decide +kernel) (by decide +kernel) ?_
  refine x_bipush C (n := 33) (by decide +kernel) (by decide +kernel) ?_
  refine x_callSNp C (c_X11_within l D ca ra N σ p0 23 33) (p_X11_within N σ p0 23 33) mt_X11_within ms_X11_within (List.mem_of_getElem? (i := 10) rfl) rfl (fun h => Bool.noConfusion h) ⟨Nat.le_of_ble_eq_true rfl, Nat.le_of_ble_eq_true rfl⟩ (Nat.le_of_ble_eq_true rfl) 0 0 ⟨rfl, rfl⟩ ⟨Nat.zero_le _, Nat.zero_le _⟩ (by decide +kernel) _ rfl (fun q1 => [ai q1.2]) (fun _ => rfl) (fun q1 => ?_)
  refine x_if_eq C (tgt := 21) (off := 13) (by decide) (by decide +kernel) (fun h4 => ?_) (fun h4 => ?_)
  · skip
    exact x_vret C ⟨Nat.zero_le _, Nat.zero_le _⟩ (by decide +kernel)
  · skip
    refine x_aload_n C 0 (i := 0) (k0 := 0) rfl rfl (by decide +kernel) ?_
    refine x_gR C fl_RX7_26 (fun _ _ _ => rfl) (by decide +kernel) (fun asked_2 => ?_)
    refine x_iload_n C 1 (i := 1) (k0 := 1) rfl rfl (by decide +kernel) ?_
    refine x_bipush C (n := 23) (by decide +kernel) (by decide +kernel) ?_
    refine x_isub C (by decide +kernel) ?_
    refine x_iload_n C 2 (i := 2) (k0 := 2) rfl rfl (by decide +kernel) ?_
    refine x_astI C (by decide +kernel) (fun σ3 => ?_)
    exact x_vret C ⟨Nat.zero_le _, Nat.zero_le _⟩ (by decide +kernel)

def rm_X7_isTold : Room := { frames := 1, cells := 0, slots := 0, locals := 22 }
def f_X7_isTold (N : Nat) (σ : St) (this : Nat) (p0 : Int) : Option (St × Int) :=
 Option.bind (f_X11_within N σ p0 0 3) fun q1 =>
 (if wr q1.2 = 0 then some (σ, 0) else Option.bind (gR shx σ 7 this 4) fun start_2 =>
 Option.bind (aI shx σ 1 start_2 p0) fun a3 =>
 (if wr a3 = wr (-1) then some (σ, 0) else some (σ, 1)))
set_option maxRecDepth 100000 in
set_option maxHeartbeats 4000000 in
theorem c_X7_isTold (l : Launch) (D : va_G) (ca : Nat → ClassId) (ra : Nat → Nat) (N : Nat) (σ : St) (this : Nat) (p0 : Int) : Ctr l (D, ca, ra, shx) false yX7_isTold cX7_isTold 2 (some .boolean) rm_X7_isTold σ [ar this, ai p0] (f_X7_isTold N σ this p0) := by
  refine ctr_of (by decide) (Nat.le_of_ble_eq_true rfl) (fun z C => ?_)
  show X z 0 0 σ 0 [(0, ar this), (1, ai p0)] [] _
  unfold f_X7_isTold
  refine x_iload_n C 1 (i := 1) (k0 := 1) rfl rfl (by decide +kernel) ?_
  refine x_iconst C (n := 0) (by decide +kernel) ?_
  refine x_iconst C (n := 3) (by decide +kernel) ?_
  refine x_callSNp C (c_X11_within l D ca ra N σ p0 0 3) (p_X11_within N σ p0 0 3) mt_X11_within ms_X11_within (List.mem_of_getElem? (i := 10) rfl) rfl (fun h => Bool.noConfusion h) ⟨Nat.le_of_ble_eq_true rfl, Nat.le_of_ble_eq_true rfl⟩ (Nat.le_of_ble_eq_true rfl) 0 0 ⟨rfl, rfl⟩ ⟨Nat.zero_le _, Nat.zero_le _⟩ (by decide +kernel) _ rfl (fun q1 => [ai q1.2]) (fun _ => rfl) (fun q1 => ?_)
  refine x_if_eq C (tgt := 23) (off := 17) (by decide) (by decide +kernel) (fun h5 => ?_) (fun h5 => ?_)
  · skip
    refine x_iconst C (n := 0) (by decide +kernel) ?_
    exact x_zret C (Or.inl rfl) ⟨Nat.zero_le _, Nat.zero_le _⟩ (by decide +kernel)
  · skip
    refine x_aload_n C 0 (i := 0) (k0 := 0) rfl rfl (by decide +kernel) ?_
    refine x_gR C fl_RX7_17 (fun _ _ _ => rfl) (by decide +kernel) (fun start_2 => ?_)
    refine x_iload_n C 1 (i := 1) (k0 := 1) rfl rfl (by decide +kernel) ?_
    refine x_aldI C (by decide +kernel) (fun a3 => ?_)
    refine x_iconst C (n := (-1)) (by decide +kernel) ?_
    refine x_ic_eq C (tgt := 23) (off := 7) (by decide) (by decide +kernel) (fun h4 => ?_) (fun h4 => ?_)
    · skip
      refine x_iconst C (n := 0) (by decide +kernel) ?_
      exact x_zret C (Or.inl rfl) ⟨Nat.zero_le _, Nat.zero_le _⟩ (by decide +kernel)
    · skip
      refine x_iconst C (n := 1) (by decide +kernel) ?_
      refine x_goto C (tgt := 24) (off := 4) (by decide) (by decide +kernel) ?_
      exact x_zret C (Or.inr rfl) ⟨Nat.zero_le _, Nat.zero_le _⟩ (by decide +kernel)
theorem p_X7_isTold (N : Nat) (σ : St) (this : Nat) (p0 : Int) : Pu σ (f_X7_isTold N σ this p0) := by
  unfold f_X7_isTold
  refine pu_bind (fun _ => ?_)
  refine pu_if ?_ ?_
  · skip
    exact pu_some
  · skip
    refine pu_bind (fun _ => ?_)
    refine pu_bind (fun _ => ?_)
    refine pu_if ?_ ?_
    · skip
      exact pu_some
    · skip
      exact pu_some

def rm_X7_untold : Room := { frames := 0, cells := 0, slots := 0, locals := 0 }
def f_X7_untold (N : Nat) (σ : St) (p0 : Int) : Option (St × Int) :=
 (if wr p0 = 0 then some (σ, 50) else (if wr p0 = 1 then some (σ, 0) else some (σ, 1)))
set_option maxRecDepth 100000 in
set_option maxHeartbeats 4000000 in
theorem c_X7_untold (l : Launch) (D : va_G) (ca : Nat → ClassId) (ra : Nat → Nat) (N : Nat) (σ : St) (p0 : Int) : Ctr l (D, ca, ra, shx) false yX7_untold cX7_untold 1 (some .int) rm_X7_untold σ [ai p0] (f_X7_untold N σ p0) := by
  refine ctr_of (by decide) (Nat.le_of_ble_eq_true rfl) (fun z C => ?_)
  show X z 0 0 σ 0 [(0, ai p0)] [] _
  unfold f_X7_untold
  refine x_iload_n C 0 (i := 0) (k0 := 0) rfl rfl (by decide +kernel) ?_
  refine x_split (fun h1 => ?_) (fun h1 => ?_)
  · refine x_lsw C (dflt := 32) (ps := #[(0, 27), (1, 30)]) (len := 27) (off := 27) (tgt := 28) (by decide) (by rw [h1]; rfl) (by decide) (by decide +kernel) ?_
    refine x_bipush C (n := 50) (by decide +kernel) (by decide +kernel) ?_
    exact x_iret C ⟨Nat.zero_le _, Nat.zero_le _⟩ (by decide +kernel)
  refine x_split (fun h2 => ?_) (fun h2 => ?_)
  · refine x_lsw C (dflt := 32) (ps := #[(0, 27), (1, 30)]) (len := 27) (off := 30) (tgt := 31) (by decide) (by rw [h2]; rfl) (by decide) (by decide +kernel) ?_
    refine x_iconst C (n := 0) (by decide +kernel) ?_
    exact x_iret C ⟨Nat.zero_le _, Nat.zero_le _⟩ (by decide +kernel)
  refine x_lsw C (dflt := 32) (ps := #[(0, 27), (1, 30)]) (len := 27) (off := 32) (tgt := 33) (by decide) (by simp [Op.lookupswitch.offset, Ne.symm h1, Ne.symm h2]) (by decide) (by decide +kernel) ?_
  refine x_iconst C (n := 1) (by decide +kernel) ?_
  exact x_iret C ⟨Nat.zero_le _, Nat.zero_le _⟩ (by decide +kernel)
theorem p_X7_untold (N : Nat) (σ : St) (p0 : Int) : Pu σ (f_X7_untold N σ p0) := by
  unfold f_X7_untold
  refine pu_if ?_ ?_
  · skip
    exact pu_some
  refine pu_if ?_ ?_
  · skip
    exact pu_some
  exact pu_some

def rm_X7_joined : Room := { frames := 0, cells := 0, slots := 0, locals := 0 }
def f_X7_joined (N : Nat) (σ : St) (p0 : Int) (p1 : Int) (p2 : Int) : Option (St × Int) :=
 (if wr p0 = 20 then (if wr p1 = 0 then some (σ, 0) else (if wr p2 = 0 then some (σ, 0) else some (σ, 1))) else (if wr p0 = 42 then some (σ, (p1 * p2)) else (if wr p0 = 43 then some (σ, (p1 + p2)) else (if wr p0 = 45 then some (σ, (p1 - p2)) else (if wr p0 = 60 then (if wr p1 < wr p2 then some (σ, 1) else some (σ, 0)) else (if wr p0 = 61 then (if wr p1 = wr p2 then some (σ, 1) else some (σ, 0)) else (if wr p0 = 62 then (if wr p2 < wr p1 then some (σ, 1) else some (σ, 0)) else (if wr p1 = 0 then (if wr p2 = 0 then some (σ, 0) else some (σ, 1)) else some (σ, 1)))))))))
set_option maxRecDepth 100000 in
set_option maxHeartbeats 4000000 in
theorem c_X7_joined (l : Launch) (D : va_G) (ca : Nat → ClassId) (ra : Nat → Nat) (N : Nat) (σ : St) (p0 : Int) (p1 : Int) (p2 : Int) : Ctr l (D, ca, ra, shx) false yX7_joined cX7_joined 3 (some .int) rm_X7_joined σ [ai p0, ai p1, ai p2] (f_X7_joined N σ p0 p1 p2) := by
  refine ctr_of (by decide) (Nat.le_of_ble_eq_true rfl) (fun z C => ?_)
  show X z 0 0 σ 0 [(0, ai p0), (1, ai p1), (2, ai p2)] [] _
  unfold f_X7_joined
  refine x_iload_n C 0 (i := 0) (k0 := 0) rfl rfl (by decide +kernel) ?_
  refine x_split (fun h5 => ?_) (fun h5 => ?_)
  · refine x_lsw C (dflt := 126) (ps := #[(20, 112), (42, 108), (43, 100), (45, 104), (60, 67), (61, 89), (62, 78)]) (len := 67) (off := 112) (tgt := 113) (by decide) (by rw [h5]; rfl) (by decide) (by decide +kernel) ?_
    refine x_iload_n C 1 (i := 1) (k0 := 1) rfl rfl (by decide +kernel) ?_
    refine x_if_eq C (tgt := 125) (off := 11) (by decide) (by decide +kernel) (fun h4 => ?_) (fun h4 => ?_)
    · skip
      refine x_iconst C (n := 0) (by decide +kernel) ?_
      exact x_iret C ⟨Nat.zero_le _, Nat.zero_le _⟩ (by decide +kernel)
    · skip
      refine x_iload_n C 2 (i := 2) (k0 := 2) rfl rfl (by decide +kernel) ?_
      refine x_if_eq C (tgt := 125) (off := 7) (by decide) (by decide +kernel) (fun h3 => ?_) (fun h3 => ?_)
      · skip
        refine x_iconst C (n := 0) (by decide +kernel) ?_
        exact x_iret C ⟨Nat.zero_le _, Nat.zero_le _⟩ (by decide +kernel)
      · skip
        refine x_iconst C (n := 1) (by decide +kernel) ?_
        refine x_goto C (tgt := 126) (off := 4) (by decide) (by decide +kernel) ?_
        exact x_iret C ⟨Nat.zero_le _, Nat.zero_le _⟩ (by decide +kernel)
  refine x_split (fun h6 => ?_) (fun h6 => ?_)
  · refine x_lsw C (dflt := 126) (ps := #[(20, 112), (42, 108), (43, 100), (45, 104), (60, 67), (61, 89), (62, 78)]) (len := 67) (off := 108) (tgt := 109) (by decide) (by rw [h6]; rfl) (by decide) (by decide +kernel) ?_
    refine x_iload_n C 1 (i := 1) (k0 := 1) rfl rfl (by decide +kernel) ?_
    refine x_iload_n C 2 (i := 2) (k0 := 2) rfl rfl (by decide +kernel) ?_
    refine x_imul C (by decide +kernel) ?_
    exact x_iret C ⟨Nat.zero_le _, Nat.zero_le _⟩ (by decide +kernel)
  refine x_split (fun h7 => ?_) (fun h7 => ?_)
  · refine x_lsw C (dflt := 126) (ps := #[(20, 112), (42, 108), (43, 100), (45, 104), (60, 67), (61, 89), (62, 78)]) (len := 67) (off := 100) (tgt := 101) (by decide) (by rw [h7]; rfl) (by decide) (by decide +kernel) ?_
    refine x_iload_n C 1 (i := 1) (k0 := 1) rfl rfl (by decide +kernel) ?_
    refine x_iload_n C 2 (i := 2) (k0 := 2) rfl rfl (by decide +kernel) ?_
    refine x_iadd C (by decide +kernel) ?_
    exact x_iret C ⟨Nat.zero_le _, Nat.zero_le _⟩ (by decide +kernel)
  refine x_split (fun h8 => ?_) (fun h8 => ?_)
  · refine x_lsw C (dflt := 126) (ps := #[(20, 112), (42, 108), (43, 100), (45, 104), (60, 67), (61, 89), (62, 78)]) (len := 67) (off := 104) (tgt := 105) (by decide) (by rw [h8]; rfl) (by decide) (by decide +kernel) ?_
    refine x_iload_n C 1 (i := 1) (k0 := 1) rfl rfl (by decide +kernel) ?_
    refine x_iload_n C 2 (i := 2) (k0 := 2) rfl rfl (by decide +kernel) ?_
    refine x_isub C (by decide +kernel) ?_
    exact x_iret C ⟨Nat.zero_le _, Nat.zero_le _⟩ (by decide +kernel)
  refine x_split (fun h10 => ?_) (fun h10 => ?_)
  · refine x_lsw C (dflt := 126) (ps := #[(20, 112), (42, 108), (43, 100), (45, 104), (60, 67), (61, 89), (62, 78)]) (len := 67) (off := 67) (tgt := 68) (by decide) (by rw [h10]; rfl) (by decide) (by decide +kernel) ?_
    refine x_iload_n C 1 (i := 1) (k0 := 1) rfl rfl (by decide +kernel) ?_
    refine x_iload_n C 2 (i := 2) (k0 := 2) rfl rfl (by decide +kernel) ?_
    refine x_ic_ge C (tgt := 77) (off := 7) (by decide) (by decide +kernel) (fun h9 => ?_) (fun h9 => ?_)
    · skip
      refine x_iconst C (n := 0) (by decide +kernel) ?_
      exact x_iret C ⟨Nat.zero_le _, Nat.zero_le _⟩ (by decide +kernel)
    · skip
      refine x_iconst C (n := 1) (by decide +kernel) ?_
      refine x_goto C (tgt := 78) (off := 4) (by decide) (by decide +kernel) ?_
      exact x_iret C ⟨Nat.zero_le _, Nat.zero_le _⟩ (by decide +kernel)
  refine x_split (fun h12 => ?_) (fun h12 => ?_)
  · refine x_lsw C (dflt := 126) (ps := #[(20, 112), (42, 108), (43, 100), (45, 104), (60, 67), (61, 89), (62, 78)]) (len := 67) (off := 89) (tgt := 90) (by decide) (by rw [h12]; rfl) (by decide) (by decide +kernel) ?_
    refine x_iload_n C 1 (i := 1) (k0 := 1) rfl rfl (by decide +kernel) ?_
    refine x_iload_n C 2 (i := 2) (k0 := 2) rfl rfl (by decide +kernel) ?_
    refine x_ic_ne C (tgt := 99) (off := 7) (by decide) (by decide +kernel) (fun h11 => ?_) (fun h11 => ?_)
    · skip
      refine x_iconst C (n := 0) (by decide +kernel) ?_
      exact x_iret C ⟨Nat.zero_le _, Nat.zero_le _⟩ (by decide +kernel)
    · skip
      refine x_iconst C (n := 1) (by decide +kernel) ?_
      refine x_goto C (tgt := 100) (off := 4) (by decide) (by decide +kernel) ?_
      exact x_iret C ⟨Nat.zero_le _, Nat.zero_le _⟩ (by decide +kernel)
  refine x_split (fun h14 => ?_) (fun h14 => ?_)
  · refine x_lsw C (dflt := 126) (ps := #[(20, 112), (42, 108), (43, 100), (45, 104), (60, 67), (61, 89), (62, 78)]) (len := 67) (off := 78) (tgt := 79) (by decide) (by rw [h14]; rfl) (by decide) (by decide +kernel) ?_
    refine x_iload_n C 1 (i := 1) (k0 := 1) rfl rfl (by decide +kernel) ?_
    refine x_iload_n C 2 (i := 2) (k0 := 2) rfl rfl (by decide +kernel) ?_
    refine x_ic_le C (tgt := 88) (off := 7) (by decide) (by decide +kernel) (fun h13 => ?_) (fun h13 => ?_)
    · skip
      refine x_iconst C (n := 0) (by decide +kernel) ?_
      exact x_iret C ⟨Nat.zero_le _, Nat.zero_le _⟩ (by decide +kernel)
    · skip
      refine x_iconst C (n := 1) (by decide +kernel) ?_
      refine x_goto C (tgt := 89) (off := 4) (by decide) (by decide +kernel) ?_
      exact x_iret C ⟨Nat.zero_le _, Nat.zero_le _⟩ (by decide +kernel)
  refine x_lsw C (dflt := 126) (ps := #[(20, 112), (42, 108), (43, 100), (45, 104), (60, 67), (61, 89), (62, 78)]) (len := 67) (off := 126) (tgt := 127) (by decide) (by simp [Op.lookupswitch.offset, Ne.symm h5, Ne.symm h6, Ne.symm h7, Ne.symm h8, Ne.symm h10, Ne.symm h12, Ne.symm h14]) (by decide) (by decide +kernel) ?_
  refine x_iload_n C 1 (i := 1) (k0 := 1) rfl rfl (by decide +kernel) ?_
  refine x_if_ne C (tgt := 135) (off := 7) (by decide) (by decide +kernel) (fun h2 => ?_) (fun h2 => ?_)
  · skip
    refine x_iconst C (n := 1) (by decide +kernel) ?_
    refine x_goto C (tgt := 140) (off := 4) (by decide) (by decide +kernel) ?_
    exact x_iret C ⟨Nat.zero_le _, Nat.zero_le _⟩ (by decide +kernel)
  · skip
    refine x_iload_n C 2 (i := 2) (k0 := 2) rfl rfl (by decide +kernel) ?_
    refine x_if_eq C (tgt := 139) (off := 7) (by decide) (by decide +kernel) (fun h1 => ?_) (fun h1 => ?_)
    · skip
      refine x_iconst C (n := 0) (by decide +kernel) ?_
      exact x_iret C ⟨Nat.zero_le _, Nat.zero_le _⟩ (by decide +kernel)
    · skip
      refine x_iconst C (n := 1) (by decide +kernel) ?_
      refine x_goto C (tgt := 140) (off := 4) (by decide) (by decide +kernel) ?_
      exact x_iret C ⟨Nat.zero_le _, Nat.zero_le _⟩ (by decide +kernel)
theorem p_X7_joined (N : Nat) (σ : St) (p0 : Int) (p1 : Int) (p2 : Int) : Pu σ (f_X7_joined N σ p0 p1 p2) := by
  unfold f_X7_joined
  refine pu_if ?_ ?_
  · skip
    refine pu_if ?_ ?_
    · skip
      exact pu_some
    · skip
      refine pu_if ?_ ?_
      · skip
        exact pu_some
      · skip
        exact pu_some
  refine pu_if ?_ ?_
  · skip
    exact pu_some
  refine pu_if ?_ ?_
  · skip
    exact pu_some
  refine pu_if ?_ ?_
  · skip
    exact pu_some
  refine pu_if ?_ ?_
  · skip
    refine pu_ifs ?_ ?_
    · skip
      exact pu_some
    · skip
      exact pu_some
  refine pu_if ?_ ?_
  · skip
    refine pu_ifs ?_ ?_
    · skip
      exact pu_some
    · skip
      exact pu_some
  refine pu_if ?_ ?_
  · skip
    refine pu_ifs ?_ ?_
    · skip
      exact pu_some
    · skip
      exact pu_some
  refine pu_ifs ?_ ?_
  · skip
    exact pu_some
  · skip
    refine pu_if ?_ ?_
    · skip
      exact pu_some
    · skip
      exact pu_some

def rm_X7_push : Room := { frames := 0, cells := 0, slots := 0, locals := 0 }
def f_X7_push (N : Nat) (σ : St) (this : Nat) (p0 : Int) (p1 : Int) : Option (St × Int) :=
 (if wr p1 < 0 then some (σ, (p1 + 1)) else (if wr p1 < wr 60 then Option.bind (gR shx σ 7 this 6) fun stack_1 =>
 Option.bind (sI shx σ 1 stack_1 p1 p0) fun σ2 =>
 some (σ2, (p1 + 1)) else some (σ, (p1 + 1))))
set_option maxRecDepth 100000 in
set_option maxHeartbeats 4000000 in
theorem c_X7_push (l : Launch) (D : va_G) (ca : Nat → ClassId) (ra : Nat → Nat) (N : Nat) (σ : St) (this : Nat) (p0 : Int) (p1 : Int) : Ctr l (D, ca, ra, shx) false yX7_push cX7_push 3 (some .int) rm_X7_push σ [ar this, ai p0, ai p1] (f_X7_push N σ this p0 p1) := by
  refine ctr_of (by decide) (Nat.le_of_ble_eq_true rfl) (fun z C => ?_)
  show X z 0 0 σ 0 [(0, ar this), (1, ai p0), (2, ai p1)] [] _
  unfold f_X7_push
  refine x_iload_n C 2 (i := 2) (k0 := 2) rfl rfl (by decide +kernel) ?_
  refine x_if_lt C (tgt := 17) (off := 16) (by decide) (by decide +kernel) (fun h4 => ?_) (fun h4 => ?_)
  · skip
    refine x_iload_n C 2 (i := 2) (k0 := 2) rfl rfl (by decide +kernel) ?_
    refine x_iconst C (n := 1) (by decide +kernel) ?_
    refine x_iadd C (by decide +kernel) ?_
    exact x_iret C ⟨Nat.zero_le _, Nat.zero_le _⟩ (by decide +kernel)
  · skip
    refine x_iload_n C 2 (i := 2) (k0 := 2) rfl rfl (by decide +kernel) ?_
    refine x_bipush C (n := 60) (by decide +kernel) (by decide +kernel) ?_
    refine x_ic_ge C (tgt := 17) (off := 10) (by decide) (by decide +kernel) (fun h3 => ?_) (fun h3 => ?_)
    · skip
      refine x_iload_n C 2 (i := 2) (k0 := 2) rfl rfl (by decide +kernel) ?_
      refine x_iconst C (n := 1) (by decide +kernel) ?_
      refine x_iadd C (by decide +kernel) ?_
      exact x_iret C ⟨Nat.zero_le _, Nat.zero_le _⟩ (by decide +kernel)
    · skip
      refine x_aload_n C 0 (i := 0) (k0 := 0) rfl rfl (by decide +kernel) ?_
      refine x_gR C fl_RX7_23 (fun _ _ _ => rfl) (by decide +kernel) (fun stack_1 => ?_)
      refine x_iload_n C 2 (i := 2) (k0 := 2) rfl rfl (by decide +kernel) ?_
      refine x_iload_n C 1 (i := 1) (k0 := 1) rfl rfl (by decide +kernel) ?_
      refine x_astI C (by decide +kernel) (fun σ2 => ?_)
      refine x_iload_n C 2 (i := 2) (k0 := 2) rfl rfl (by decide +kernel) ?_
      refine x_iconst C (n := 1) (by decide +kernel) ?_
      refine x_iadd C (by decide +kernel) ?_
      exact x_iret C ⟨Nat.zero_le _, Nat.zero_le _⟩ (by decide +kernel)

def rm_X7_work : Room := { frames := 1, cells := 0, slots := 0, locals := 22 }
def f_X7_work (N : Nat) (σ : St) (this : Nat) (p0 : Int) (p1 : Int) : Option (St × Int) :=
 Lt ((-1) - p0) fun x1 =>
 (if wr p0 < 0 then Option.bind (f_X11_within N σ x1 23 33) fun q2 =>
 (if wr q2.2 = 0 then Jn (fun t3 : Unit => Option.bind (f_X11_within N σ p1 2 60) fun q4 =>
 (if wr q4.2 = 0 then some (σ, (p1 - 1)) else Option.bind (gR shx σ 7 this 6) fun stack_5 =>
 Option.bind (gR shx σ 7 this 6) fun stack_6 =>
 Option.bind (aI shx σ 1 stack_6 (p1 - 2)) fun a7 =>
 Option.bind (gR shx σ 7 this 6) fun stack_8 =>
 Option.bind (aI shx σ 1 stack_8 (p1 - 1)) fun a9 =>
 Option.bind (f_X7_joined N σ x1 a7 a9) fun q10 =>
 Option.bind (sI shx σ 1 stack_5 (p1 - 2) q10.2) fun σ11 =>
 some (σ11, (p1 - 1)))) fun J83_12 =>
 (if wr x1 = wr 22 then Option.bind (f_X11_within N σ p1 1 60) fun q14 =>
 (if wr q14.2 = 0 then J83_12 () else Option.bind (gR shx σ 7 this 6) fun stack_15 =>
 Option.bind (gR shx σ 7 this 6) fun stack_16 =>
 Option.bind (aI shx σ 1 stack_16 (p1 - 1)) fun a17 =>
 Jn (fun t18 : Int => Option.bind (sI shx σ 1 stack_15 (p1 - 1) t18) fun σ19 =>
 some (σ19, p1)) fun J80_19 =>
 (if wr a17 = 0 then J80_19 1 else J80_19 0)) else J83_12 ()) else Option.bind (gR shx σ 7 this 7) fun asked_24 =>
 Option.bind (aI shx σ 1 asked_24 (x1 - 23)) fun a25 =>
 Option.bind (rcv shx σ 7 this (f_X7_push N σ this a25 p1)) fun q26 =>
 some (q26.1, q26.2)) else Option.bind (rcv shx σ 7 this (f_X7_push N σ this p0 p1)) fun q28 =>
 some (q28.1, q28.2))
set_option maxRecDepth 100000 in
set_option maxHeartbeats 4000000 in
theorem c_X7_work (l : Launch) (D : va_G) (ca : Nat → ClassId) (ra : Nat → Nat) (N : Nat) (σ : St) (this : Nat) (p0 : Int) (p1 : Int) : Ctr l (D, ca, ra, shx) false yX7_work cX7_work 4 (some .int) rm_X7_work σ [ar this, ai p0, ai p1] (f_X7_work N σ this p0 p1) := by
  refine ctr_of (by decide) (Nat.le_of_ble_eq_true rfl) (fun z C => ?_)
  show X z 0 0 σ 0 [(0, ar this), (1, ai p0), (2, ai p1)] [] _
  unfold f_X7_work
  refine x_iconst C (n := (-1)) (by decide +kernel) ?_
  refine x_iload_n C 1 (i := 1) (k0 := 1) rfl rfl (by decide +kernel) ?_
  refine x_isub C (by decide +kernel) ?_
  refine x_istore_nL C (i := 3) (k0 := 3) rfl (Nat.le_of_ble_eq_true rfl) (by decide +kernel) (lv2 := fun x1 => [(3, ai x1), (0, ar this), (1, ai p0), (2, ai p1)]) (fun _ => rfl) (fun x1 => ?_)
  refine x_iload_n C 2 (i := 1) (k0 := 1) rfl rfl (by decide +kernel) ?_
  refine x_if_lt C (tgt := 15) (off := 10) (by decide) (by decide +kernel) (fun h29 => ?_) (fun h29 => ?_)
  · skip
    refine x_iload_n C 0 (i := 3) (k0 := 3) rfl rfl (by decide +kernel) ?_
    refine x_bipush C (n := 23) (by decide +kernel) (by decide +kernel) ?_
    refine x_bipush C (n := 33) (by decide +kernel) (by decide +kernel) ?_
    refine x_callSNp C (c_X11_within l D ca ra N σ x1 23 33) (p_X11_within N σ x1 23 33) mt_X11_within ms_X11_within (List.mem_of_getElem? (i := 10) rfl) rfl (fun h => Bool.noConfusion h) ⟨Nat.le_of_ble_eq_true rfl, Nat.le_of_ble_eq_true rfl⟩ (Nat.le_of_ble_eq_true rfl) 0 0 ⟨rfl, rfl⟩ ⟨Nat.zero_le _, Nat.zero_le _⟩ (by decide +kernel) _ rfl (fun q2 => [ai q2.2]) (fun _ => rfl) (fun q2 => ?_)
    refine x_if_eq C (tgt := 41) (off := 18) (by decide) (by decide +kernel) (fun h27 => ?_) (fun h27 => ?_)
    · skip
      refine x_iload_n C 0 (i := 3) (k0 := 3) rfl rfl (by decide +kernel) ?_
      refine x_bipush C (n := 22) (by decide +kernel) (by decide +kernel) ?_
      refine x_join (T := Unit) (fun t => σ) 83 (fun t => [(0, ar this), (2, ai p1), (3, ai x1)]) (fun t => []) (fun t3 => ?_) (fun J83_12 hJ83_12 => ?_)
      · show X z 0 0 σ 83 [(0, ar this), (2, ai p1), (3, ai x1)] [] _
        refine x_iload_n C 1 (i := 2) (k0 := 2) rfl rfl (by decide +kernel) ?_
        refine x_iconst C (n := 2) (by decide +kernel) ?_
        refine x_bipush C (n := 60) (by decide +kernel) (by decide +kernel) ?_
        refine x_callSNp C (c_X11_within l D ca ra N σ p1 2 60) (p_X11_within N σ p1 2 60) mt_X11_within ms_X11_within (List.mem_of_getElem? (i := 10) rfl) rfl (fun h => Bool.noConfusion h) ⟨Nat.le_of_ble_eq_true rfl, Nat.le_of_ble_eq_true rfl⟩ (Nat.le_of_ble_eq_true rfl) 0 0 ⟨rfl, rfl⟩ ⟨Nat.zero_le _, Nat.zero_le _⟩ (by decide +kernel) _ rfl (fun q4 => [ai q4.2]) (fun _ => rfl) (fun q4 => ?_)
        refine x_if_eq C (tgt := 121) (off := 31) (by decide) (by decide +kernel) (fun h12 => ?_) (fun h12 => ?_)
        · skip
          refine x_iload_n C 1 (i := 2) (k0 := 2) rfl rfl (by decide +kernel) ?_
          refine x_iconst C (n := 1) (by decide +kernel) ?_
          refine x_isub C (by decide +kernel) ?_
          exact x_iret C ⟨Nat.zero_le _, Nat.zero_le _⟩ (by decide +kernel)
        · skip
          refine x_aload_n C 0 (i := 0) (k0 := 0) rfl rfl (by decide +kernel) ?_
          refine x_gR C fl_RX7_23 (fun _ _ _ => rfl) (by decide +kernel) (fun stack_5 => ?_)
          refine x_iload_n C 1 (i := 2) (k0 := 2) rfl rfl (by decide +kernel) ?_
          refine x_iconst C (n := 2) (by decide +kernel) ?_
          refine x_isub C (by decide +kernel) ?_
          refine x_iload_n C 2 (i := 3) (k0 := 3) rfl rfl (by decide +kernel) ?_
          refine x_aload_n C 0 (i := 0) (k0 := 0) rfl rfl (by decide +kernel) ?_
          refine x_gR C fl_RX7_23 (fun _ _ _ => rfl) (by decide +kernel) (fun stack_6 => ?_)
          show X z 0 0 σ 105 [(0, ar this), (2, ai p1), (3, ai x1)] [ar stack_6, ai x1, ai (p1 - 2), ar stack_5] _
          refine x_iload_n C 1 (i := 2) (k0 := 2) rfl rfl (by decide +kernel) ?_
          refine x_iconst C (n := 2) (by decide +kernel) ?_
          refine x_isub C (by decide +kernel) ?_
          refine x_aldI C (by decide +kernel) (fun a7 => ?_)
          refine x_aload_n C 0 (i := 0) (k0 := 0) rfl rfl (by decide +kernel) ?_
          refine x_gR C fl_RX7_23 (fun _ _ _ => rfl) (by decide +kernel) (fun stack_8 => ?_)
          refine x_iload_n C 1 (i := 2) (k0 := 2) rfl rfl (by decide +kernel) ?_
          refine x_iconst C (n := 1) (by decide +kernel) ?_
          show X z 0 0 σ 115 [(0, ar this), (2, ai p1), (3, ai x1)] [ai 1, ai p1, ar stack_8, ai a7, ai x1, ai (p1 - 2), ar stack_5] _
          refine x_isub C (by decide +kernel) ?_
          refine x_aldI C (by decide +kernel) (fun a9 => ?_)
          refine x_callSp C (c_X7_joined l D ca ra N σ x1 a7 a9) (p_X7_joined N σ x1 a7 a9) mt_X7_joined ms_X7_joined ml_RX7_85 rfl (fun h => Bool.noConfusion h) ⟨Nat.le_of_ble_eq_true rfl, Nat.le_of_ble_eq_true rfl⟩ (Nat.le_of_ble_eq_true rfl) 0 0 ⟨rfl, rfl⟩ ⟨Nat.zero_le _, Nat.zero_le _⟩ (by decide +kernel) _ rfl (fun q10 => [ai q10.2, ai (p1 - 2), ar stack_5]) (fun _ => rfl) (fun q10 => ?_)
          refine x_astI C (by decide +kernel) (fun σ11 => ?_)
          refine x_iload_n C 1 (i := 2) (k0 := 2) rfl rfl (by decide +kernel) ?_
          refine x_iconst C (n := 1) (by decide +kernel) ?_
          refine x_isub C (by decide +kernel) ?_
          exact x_iret C ⟨Nat.zero_le _, Nat.zero_le _⟩ (by decide +kernel)
      · skip
        refine x_ic_ne C (tgt := 83) (off := 39) (by decide) (by decide +kernel) (fun h23 => ?_) (fun h23 => ?_)
        · skip
          refine x_sub [1, 3, 0] (lv2 := [(0, ar this), (2, ai p1), (3, ai x1)]) rfl ?_
          exact hJ83_12 ()
        · skip
          refine x_iload_n C 3 (i := 2) (k0 := 2) rfl rfl (by decide +kernel) ?_
          refine x_iconst C (n := 1) (by decide +kernel) ?_
          refine x_bipush C (n := 60) (by decide +kernel) (by decide +kernel) ?_
          refine x_callSNp C (c_X11_within l D ca ra N σ p1 1 60) (p_X11_within N σ p1 1 60) mt_X11_within ms_X11_within (List.mem_of_getElem? (i := 10) rfl) rfl (fun h => Bool.noConfusion h) ⟨Nat.le_of_ble_eq_true rfl, Nat.le_of_ble_eq_true rfl⟩ (Nat.le_of_ble_eq_true rfl) 0 0 ⟨rfl, rfl⟩ ⟨Nat.zero_le _, Nat.zero_le _⟩ (by decide +kernel) _ rfl (fun q14 => [ai q14.2]) (fun _ => rfl) (fun q14 => ?_)
          refine x_if_eq C (tgt := 83) (off := 29) (by decide) (by decide +kernel) (fun h22 => ?_) (fun h22 => ?_)
          · skip
            refine x_sub [1, 3, 0] (lv2 := [(0, ar this), (2, ai p1), (3, ai x1)]) rfl ?_
            exact hJ83_12 ()
          · skip
            refine x_aload_n C 1 (i := 0) (k0 := 0) rfl rfl (by decide +kernel) ?_
            refine x_gR C fl_RX7_23 (fun _ _ _ => rfl) (by decide +kernel) (fun stack_15 => ?_)
            refine x_iload_n C 3 (i := 2) (k0 := 2) rfl rfl (by decide +kernel) ?_
            refine x_iconst C (n := 1) (by decide +kernel) ?_
            refine x_isub C (by decide +kernel) ?_
            refine x_aload_n C 1 (i := 0) (k0 := 0) rfl rfl (by decide +kernel) ?_
            refine x_gR C fl_RX7_23 (fun _ _ _ => rfl) (by decide +kernel) (fun stack_16 => ?_)
            refine x_iload_n C 3 (i := 2) (k0 := 2) rfl rfl (by decide +kernel) ?_
            show X z 0 0 σ 69 [(3, ai x1), (0, ar this), (1, ai p0), (2, ai p1)] [ai p1, ar stack_16, ai (p1 - 1), ar stack_15] _
            refine x_iconst C (n := 1) (by decide +kernel) ?_
            refine x_isub C (by decide +kernel) ?_
            refine x_aldI C (by decide +kernel) (fun a17 => ?_)
            refine x_join (T := Int) (fun t => σ) 80 (fun t => [(2, ai p1)]) (fun t => [ai t, ai (p1 - 1), ar stack_15]) (fun t18 => ?_) (fun J80_19 hJ80_19 => ?_)
            · show X z 0 0 σ 80 [(2, ai p1)] [ai t18, ai (p1 - 1), ar stack_15] _
              refine x_astI C (by decide +kernel) (fun σ19 => ?_)
              refine x_iload_n C 0 (i := 2) (k0 := 2) rfl rfl (by decide +kernel) ?_
              exact x_iret C ⟨Nat.zero_le _, Nat.zero_le _⟩ (by decide +kernel)
            · skip
              refine x_if_ne C (tgt := 79) (off := 7) (by decide) (by decide +kernel) (fun h21 => ?_) (fun h21 => ?_)
              · skip
                refine x_iconst C (n := 0) (by decide +kernel) ?_
                refine x_sub [3] (lv2 := [(2, ai p1)]) rfl ?_
                exact hJ80_19 0
              · skip
                refine x_iconst C (n := 1) (by decide +kernel) ?_
                refine x_goto C (tgt := 80) (off := 4) (by decide) (by decide +kernel) ?_
                refine x_sub [3] (lv2 := [(2, ai p1)]) rfl ?_
                exact hJ80_19 1
    · skip
      refine x_aload_n C 1 (i := 0) (k0 := 0) rfl rfl (by decide +kernel) ?_
      refine x_aload_n C 1 (i := 0) (k0 := 0) rfl rfl (by decide +kernel) ?_
      refine x_gR C fl_RX7_26 (fun _ _ _ => rfl) (by decide +kernel) (fun asked_24 => ?_)
      refine x_iload_n C 0 (i := 3) (k0 := 3) rfl rfl (by decide +kernel) ?_
      refine x_bipush C (n := 23) (by decide +kernel) (by decide +kernel) ?_
      refine x_isub C (by decide +kernel) ?_
      refine x_aldI C (by decide +kernel) (fun a25 => ?_)
      refine x_iload_n C 3 (i := 2) (k0 := 2) rfl rfl (by decide +kernel) ?_
      show X z 0 0 σ 37 [(3, ai x1), (0, ar this), (1, ai p0), (2, ai p1)] [ai p1, ai a25, ar this] _
      refine x_callV C (ci := 7) (c_X7_push l D ca ra N σ this a25 p1) mt_X7_push mv_X7_push rfl ml_RX7_82 rfl (fun h => Bool.noConfusion h) ⟨Nat.le_of_ble_eq_true rfl, Nat.le_of_ble_eq_true rfl⟩ (Nat.le_of_ble_eq_true rfl) 0 0 ⟨rfl, rfl⟩ ⟨Nat.zero_le _, Nat.zero_le _⟩ (by decide +kernel) _ rfl (fun q26 => [ai q26.2]) (fun _ => rfl) (fun q26 => ?_)
      exact x_iret C ⟨Nat.zero_le _, Nat.zero_le _⟩ (by decide +kernel)
  · skip
    refine x_aload_n C 1 (i := 0) (k0 := 0) rfl rfl (by decide +kernel) ?_
    refine x_iload_n C 2 (i := 1) (k0 := 1) rfl rfl (by decide +kernel) ?_
    refine x_iload_n C 3 (i := 2) (k0 := 2) rfl rfl (by decide +kernel) ?_
    refine x_callV C (ci := 7) (c_X7_push l D ca ra N σ this p0 p1) mt_X7_push mv_X7_push rfl ml_RX7_82 rfl (fun h => Bool.noConfusion h) ⟨Nat.le_of_ble_eq_true rfl, Nat.le_of_ble_eq_true rfl⟩ (Nat.le_of_ble_eq_true rfl) 0 0 ⟨rfl, rfl⟩ ⟨Nat.zero_le _, Nat.zero_le _⟩ (by decide +kernel) _ rfl (fun q28 => [ai q28.2]) (fun _ => rfl) (fun q28 => ?_)
    exact x_iret C ⟨Nat.zero_le _, Nat.zero_le _⟩ (by decide +kernel)

def L_X7_valueOf_22 (N : Nat) (this : Nat) (p0 : Int) (J50_7 : (St × Int → Option (St × Int))) : (St × Int × Int) → Option (St × Int) := fixN N fun b22_9 t9 =>
 Option.bind (gR shx t9.1 7 this 5) fun stop_11 =>
 Option.bind (aI shx t9.1 1 stop_11 p0) fun a12 =>
 (if wr t9.2.2 < wr a12 then Option.bind (gR shx t9.1 7 this 3) fun code_13 =>
 Option.bind (aI shx t9.1 1 code_13 t9.2.2) fun a14 =>
 Option.bind (rcv shx t9.1 7 this (f_X7_work N t9.1 this a14 t9.2.1)) fun q15 =>
 Lt (t9.2.2 + 1) fun x16 =>
 b22_9 (q15.1, q15.2, x16) else J50_7 (t9.1, t9.2.1))
def rm_X7_valueOf : Room := { frames := 2, cells := 0, slots := 0, locals := 45 }
def f_X7_valueOf (N : Nat) (σ : St) (this : Nat) (p0 : Int) : Option (St × Int) :=
 Option.bind (rcv shx σ 7 this (f_X7_isTold N σ this p0)) fun q1 =>
 (if wr q1.2 = 0 then Option.bind (f_X7_untold N σ p0) fun q18 =>
 some (σ, q18.2) else Option.bind (gR shx σ 7 this 4) fun start_2 =>
 Option.bind (aI shx σ 1 start_2 p0) fun a3 =>
 Jn (fun t4 : St × Int => (if wr t4.2 = wr 1 then Option.bind (gR shx t4.1 7 this 6) fun stack_5 =>
 Option.bind (aI shx t4.1 1 stack_5 0) fun a6 =>
 some (t4.1, a6) else some (t4.1, 0))) fun J50_7 =>
 L_X7_valueOf_22 N this p0 J50_7 (σ, 0, a3))
set_option maxRecDepth 100000 in
set_option maxHeartbeats 4000000 in
theorem c_X7_valueOf (l : Launch) (D : va_G) (ca : Nat → ClassId) (ra : Nat → Nat) (N : Nat) (σ : St) (this : Nat) (p0 : Int) : Ctr l (D, ca, ra, shx) false yX7_valueOf cX7_valueOf 4 (some .int) rm_X7_valueOf σ [ar this, ai p0] (f_X7_valueOf N σ this p0) := by
  refine ctr_of (by decide) (Nat.le_of_ble_eq_true rfl) (fun z C => ?_)
  show X z 0 0 σ 0 [(0, ar this), (1, ai p0)] [] _
  unfold f_X7_valueOf
  refine x_aload_n C 0 (i := 0) (k0 := 0) rfl rfl (by decide +kernel) ?_
  refine x_iload_n C 1 (i := 1) (k0 := 1) rfl rfl (by decide +kernel) ?_
  refine x_callVp C (ci := 7) (c_X7_isTold l D ca ra N σ this p0) (p_X7_isTold N σ this p0) mt_X7_isTold mv_X7_isTold rfl ml_RX7_63 rfl (fun h => Bool.noConfusion h) ⟨Nat.le_of_ble_eq_true rfl, Nat.le_of_ble_eq_true rfl⟩ (Nat.le_of_ble_eq_true rfl) 0 0 ⟨rfl, rfl⟩ ⟨Nat.zero_le _, Nat.zero_le _⟩ (by decide +kernel) _ rfl (fun q1 => [ai q1.2]) (fun _ => rfl) (fun q1 => ?_)
  refine x_if_ne C (tgt := 13) (off := 8) (by decide) (by decide +kernel) (fun h19 => ?_) (fun h19 => ?_)
  · skip
    refine x_iconst C (n := 0) (by decide +kernel) ?_
    refine x_istore_n C (i := 2) (k0 := 2) rfl (Nat.le_of_ble_eq_true rfl) (by decide +kernel) (lv2 := [(2, ai 0), (0, ar this), (1, ai p0)]) rfl ?_
    refine x_aload_n C 1 (i := 0) (k0 := 0) rfl rfl (by decide +kernel) ?_
    refine x_gR C fl_RX7_17 (fun _ _ _ => rfl) (by decide +kernel) (fun start_2 => ?_)
    refine x_iload_n C 2 (i := 1) (k0 := 1) rfl rfl (by decide +kernel) ?_
    refine x_aldI C (by decide +kernel) (fun a3 => ?_)
    refine x_istore_n C (i := 3) (k0 := 3) rfl (Nat.le_of_ble_eq_true rfl) (by decide +kernel) (lv2 := [(3, ai a3), (2, ai 0), (0, ar this), (1, ai p0)]) rfl ?_
    refine x_join (T := St × Int) (fun t => t.1) 50 (fun t => [(0, ar this), (2, ai t.2)]) (fun t => []) (fun t4 => ?_) (fun J50_7 hJ50_7 => ?_)
    · show X z 0 0 t4.1 50 [(0, ar this), (2, ai t4.2)] [] _
      refine x_iload_n C 1 (i := 2) (k0 := 2) rfl rfl (by decide +kernel) ?_
      refine x_iconst C (n := 1) (by decide +kernel) ?_
      refine x_ic_ne C (tgt := 64) (off := 12) (by decide) (by decide +kernel) (fun h7 => ?_) (fun h7 => ?_)
      · skip
        refine x_iconst C (n := 0) (by decide +kernel) ?_
        exact x_iret C ⟨Nat.zero_le _, Nat.zero_le _⟩ (by decide +kernel)
      · skip
        refine x_aload_n C 0 (i := 0) (k0 := 0) rfl rfl (by decide +kernel) ?_
        refine x_gR C fl_RX7_23 (fun _ _ _ => rfl) (by decide +kernel) (fun stack_5 => ?_)
        refine x_iconst C (n := 0) (by decide +kernel) ?_
        refine x_aldI C (by decide +kernel) (fun a6 => ?_)
        refine x_goto C (tgt := 65) (off := 4) (by decide) (by decide +kernel) ?_
        exact x_iret C ⟨Nat.zero_le _, Nat.zero_le _⟩ (by decide +kernel)
    · skip
      refine x_sub [2, 3, 1, 0] (lv2 := [(0, ar this), (1, ai p0), (2, ai 0), (3, ai a3)]) rfl ?_
      -- LOOP L_X7_valueOf_22 hb22_9
      refine x_loop (T := St × Int × Int) (fun t => t.1) (fun t => [(0, ar this), (1, ai p0), (2, ai t.2.1), (3, ai t.2.2)]) (σ, 0, a3) rfl (fun b22_9 hb22_9 t9 => ?_)
      show X z 0 0 t9.1 22 [(0, ar this), (1, ai p0), (2, ai t9.2.1), (3, ai t9.2.2)] [] _
      refine x_iload_n C 3 (i := 3) (k0 := 3) rfl rfl (by decide +kernel) ?_
      refine x_aload_n C 0 (i := 0) (k0 := 0) rfl rfl (by decide +kernel) ?_
      refine x_gR C fl_RX7_20 (fun _ _ _ => rfl) (by decide +kernel) (fun stop_11 => ?_)
      refine x_iload_n C 1 (i := 1) (k0 := 1) rfl rfl (by decide +kernel) ?_
      refine x_aldI C (by decide +kernel) (fun a12 => ?_)
      refine x_ic_ge C (tgt := 50) (off := 21) (by decide) (by decide +kernel) (fun h17 => ?_) (fun h17 => ?_)
      · skip
        refine x_sub [0, 2] (lv2 := [(0, ar this), (2, ai t9.2.1)]) rfl ?_
        exact hJ50_7 (t9.1, t9.2.1)
      · skip
        refine x_aload_n C 0 (i := 0) (k0 := 0) rfl rfl (by decide +kernel) ?_
        refine x_aload_n C 0 (i := 0) (k0 := 0) rfl rfl (by decide +kernel) ?_
        refine x_gR C fl_RX7_13 (fun _ _ _ => rfl) (by decide +kernel) (fun code_13 => ?_)
        refine x_iload_n C 3 (i := 3) (k0 := 3) rfl rfl (by decide +kernel) ?_
        refine x_aldI C (by decide +kernel) (fun a14 => ?_)
        refine x_iload_n C 2 (i := 2) (k0 := 2) rfl rfl (by decide +kernel) ?_
        refine x_callV C (ci := 7) (c_X7_work l D ca ra N t9.1 this a14 t9.2.1) mt_X7_work mv_X7_work rfl ml_RX7_78 rfl (fun h => Bool.noConfusion h) ⟨Nat.le_of_ble_eq_true rfl, Nat.le_of_ble_eq_true rfl⟩ (Nat.le_of_ble_eq_true rfl) 0 0 ⟨rfl, rfl⟩ ⟨Nat.zero_le _, Nat.zero_le _⟩ (by decide +kernel) _ rfl (fun q15 => [ai q15.2]) (fun _ => rfl) (fun q15 => ?_)
        refine x_istore_n C (i := 2) (k0 := 2) rfl (Nat.le_of_ble_eq_true rfl) (by decide +kernel) (lv2 := [(2, ai q15.2), (0, ar this), (1, ai p0), (3, ai t9.2.2)]) rfl ?_
        show X z 0 0 q15.1 44 [(2, ai q15.2), (0, ar this), (1, ai p0), (3, ai t9.2.2)] [] _
        refine x_iinc C 3 (i := 3) (n := 1) (Nat.le_of_ble_eq_true rfl) rfl (by decide +kernel) (lv2 := fun x16 => [(3, ai x16), (2, ai q15.2), (0, ar this), (1, ai p0)]) (fun _ => rfl) (fun x16 => ?_)
        refine x_goto C (tgt := 22) (off := (-25)) (by decide) (by decide +kernel) ?_
        refine x_sub [2, 3, 1, 0] (lv2 := [(0, ar this), (1, ai p0), (2, ai q15.2), (3, ai x16)]) rfl ?_
        exact hb22_9 (q15.1, q15.2, x16)
  · skip
    refine x_iload_n C 1 (i := 1) (k0 := 1) rfl rfl (by decide +kernel) ?_
    refine x_callSp C (c_X7_untold l D ca ra N σ p0) (p_X7_untold N σ p0) mt_X7_untold ms_X7_untold ml_RX7_75 rfl (fun h => Bool.noConfusion h) ⟨Nat.le_of_ble_eq_true rfl, Nat.le_of_ble_eq_true rfl⟩ (Nat.le_of_ble_eq_true rfl) 0 0 ⟨rfl, rfl⟩ ⟨Nat.zero_le _, Nat.zero_le _⟩ (by decide +kernel) _ rfl (fun q18 => [ai q18.2]) (fun _ => rfl) (fun q18 => ?_)
    exact x_iret C ⟨Nat.zero_le _, Nat.zero_le _⟩ (by decide +kernel)

def rm_X7_levelOf : Room := { frames := 0, cells := 0, slots := 0, locals := 0 }
def f_X7_levelOf (N : Nat) (σ : St) (p0 : Int) : Option (St × Int) :=
 (if wr p0 = 20 then some (σ, 1) else (if wr p0 = 21 then some (σ, 0) else (if wr p0 = 42 then some (σ, 4) else (if wr p0 = 43 then some (σ, 3) else (if wr p0 = 45 then some (σ, 3) else (if wr p0 = 60 then some (σ, 2) else (if wr p0 = 61 then some (σ, 2) else (if wr p0 = 62 then some (σ, 2) else some (σ, (-1))))))))))
set_option maxRecDepth 100000 in
set_option maxHeartbeats 4000000 in
theorem c_X7_levelOf (l : Launch) (D : va_G) (ca : Nat → ClassId) (ra : Nat → Nat) (N : Nat) (σ : St) (p0 : Int) : Ctr l (D, ca, ra, shx) false yX7_levelOf cX7_levelOf 1 (some .int) rm_X7_levelOf σ [ai p0] (f_X7_levelOf N σ p0) := by
  refine ctr_of (by decide) (Nat.le_of_ble_eq_true rfl) (fun z C => ?_)
  show X z 0 0 σ 0 [(0, ai p0)] [] _
  unfold f_X7_levelOf
  refine x_iload_n C 0 (i := 0) (k0 := 0) rfl rfl (by decide +kernel) ?_
  refine x_split (fun h1 => ?_) (fun h1 => ?_)
  · refine x_lsw C (dflt := 85) (ps := #[(20, 77), (21, 75), (42, 83), (43, 81), (45, 81), (60, 79), (61, 79), (62, 79)]) (len := 75) (off := 77) (tgt := 78) (by decide) (by rw [h1]; rfl) (by decide) (by decide +kernel) ?_
    refine x_iconst C (n := 1) (by decide +kernel) ?_
    exact x_iret C ⟨Nat.zero_le _, Nat.zero_le _⟩ (by decide +kernel)
  refine x_split (fun h2 => ?_) (fun h2 => ?_)
  · refine x_lsw C (dflt := 85) (ps := #[(20, 77), (21, 75), (42, 83), (43, 81), (45, 81), (60, 79), (61, 79), (62, 79)]) (len := 75) (off := 75) (tgt := 76) (by decide) (by rw [h2]; rfl) (by decide) (by decide +kernel) ?_
    refine x_iconst C (n := 0) (by decide +kernel) ?_
    exact x_iret C ⟨Nat.zero_le _, Nat.zero_le _⟩ (by decide +kernel)
  refine x_split (fun h3 => ?_) (fun h3 => ?_)
  · refine x_lsw C (dflt := 85) (ps := #[(20, 77), (21, 75), (42, 83), (43, 81), (45, 81), (60, 79), (61, 79), (62, 79)]) (len := 75) (off := 83) (tgt := 84) (by decide) (by rw [h3]; rfl) (by decide) (by decide +kernel) ?_
    refine x_iconst C (n := 4) (by decide +kernel) ?_
    exact x_iret C ⟨Nat.zero_le _, Nat.zero_le _⟩ (by decide +kernel)
  refine x_split (fun h4 => ?_) (fun h4 => ?_)
  · refine x_lsw C (dflt := 85) (ps := #[(20, 77), (21, 75), (42, 83), (43, 81), (45, 81), (60, 79), (61, 79), (62, 79)]) (len := 75) (off := 81) (tgt := 82) (by decide) (by rw [h4]; rfl) (by decide) (by decide +kernel) ?_
    refine x_iconst C (n := 3) (by decide +kernel) ?_
    exact x_iret C ⟨Nat.zero_le _, Nat.zero_le _⟩ (by decide +kernel)
  refine x_split (fun h5 => ?_) (fun h5 => ?_)
  · refine x_lsw C (dflt := 85) (ps := #[(20, 77), (21, 75), (42, 83), (43, 81), (45, 81), (60, 79), (61, 79), (62, 79)]) (len := 75) (off := 81) (tgt := 82) (by decide) (by rw [h5]; rfl) (by decide) (by decide +kernel) ?_
    refine x_iconst C (n := 3) (by decide +kernel) ?_
    exact x_iret C ⟨Nat.zero_le _, Nat.zero_le _⟩ (by decide +kernel)
  refine x_split (fun h6 => ?_) (fun h6 => ?_)
  · refine x_lsw C (dflt := 85) (ps := #[(20, 77), (21, 75), (42, 83), (43, 81), (45, 81), (60, 79), (61, 79), (62, 79)]) (len := 75) (off := 79) (tgt := 80) (by decide) (by rw [h6]; rfl) (by decide) (by decide +kernel) ?_
    refine x_iconst C (n := 2) (by decide +kernel) ?_
    exact x_iret C ⟨Nat.zero_le _, Nat.zero_le _⟩ (by decide +kernel)
  refine x_split (fun h7 => ?_) (fun h7 => ?_)
  · refine x_lsw C (dflt := 85) (ps := #[(20, 77), (21, 75), (42, 83), (43, 81), (45, 81), (60, 79), (61, 79), (62, 79)]) (len := 75) (off := 79) (tgt := 80) (by decide) (by rw [h7]; rfl) (by decide) (by decide +kernel) ?_
    refine x_iconst C (n := 2) (by decide +kernel) ?_
    exact x_iret C ⟨Nat.zero_le _, Nat.zero_le _⟩ (by decide +kernel)
  refine x_split (fun h8 => ?_) (fun h8 => ?_)
  · refine x_lsw C (dflt := 85) (ps := #[(20, 77), (21, 75), (42, 83), (43, 81), (45, 81), (60, 79), (61, 79), (62, 79)]) (len := 75) (off := 79) (tgt := 80) (by decide) (by rw [h8]; rfl) (by decide) (by decide +kernel) ?_
    refine x_iconst C (n := 2) (by decide +kernel) ?_
    exact x_iret C ⟨Nat.zero_le _, Nat.zero_le _⟩ (by decide +kernel)
  refine x_lsw C (dflt := 85) (ps := #[(20, 77), (21, 75), (42, 83), (43, 81), (45, 81), (60, 79), (61, 79), (62, 79)]) (len := 75) (off := 85) (tgt := 86) (by decide) (by simp [Op.lookupswitch.offset, Ne.symm h1, Ne.symm h2, Ne.symm h3, Ne.symm h4, Ne.symm h5, Ne.symm h6, Ne.symm h7, Ne.symm h8]) (by decide) (by decide +kernel) ?_
  refine x_iconst C (n := (-1)) (by decide +kernel) ?_
  exact x_iret C ⟨Nat.zero_le _, Nat.zero_le _⟩ (by decide +kernel)
theorem p_X7_levelOf (N : Nat) (σ : St) (p0 : Int) : Pu σ (f_X7_levelOf N σ p0) := by
  unfold f_X7_levelOf
  refine pu_if ?_ ?_
  · skip
    exact pu_some
  refine pu_if ?_ ?_
  · skip
    exact pu_some
  refine pu_if ?_ ?_
  · skip
    exact pu_some
  refine pu_if ?_ ?_
  · skip
    exact pu_some
  refine pu_if ?_ ?_
  · skip
    exact pu_some
  refine pu_if ?_ ?_
  · skip
    exact pu_some
  refine pu_if ?_ ?_
  · skip
    exact pu_some
  refine pu_if ?_ ?_
  · skip
    exact pu_some
  exact pu_some

def rm_X7_put : Room := { frames := 1, cells := 0, slots := 0, locals := 22 }
def f_X7_put (N : Nat) (σ : St) (this : Nat) (p0 : Int) : Option (St × Int) :=
 Option.bind (gI shx σ 7 this 2) fun length_1 =>
 Option.bind (f_X11_within N σ length_1 0 699) fun q2 =>
 (if wr q2.2 = 0 then some (σ, 0) else Option.bind (gR shx σ 7 this 3) fun code_3 =>
 Option.bind (gI shx σ 7 this 2) fun length_4 =>
 Option.bind (sI shx σ 1 code_3 length_4 p0) fun σ5 =>
 Option.bind (gI shx σ5 7 this 2) fun length_6 =>
 Option.bind (pI shx σ5 7 this 2 (length_6 + 1)) fun σ7 =>
 some (σ7, 0))
set_option maxRecDepth 100000 in
set_option maxHeartbeats 4000000 in
theorem c_X7_put (l : Launch) (D : va_G) (ca : Nat → ClassId) (ra : Nat → Nat) (N : Nat) (σ : St) (this : Nat) (p0 : Int) : Ctr l (D, ca, ra, shx) false yX7_put cX7_put 2 none rm_X7_put σ [ar this, ai p0] (f_X7_put N σ this p0) := by
  refine ctr_of (by decide) (Nat.le_of_ble_eq_true rfl) (fun z C => ?_)
  show X z 0 0 σ 0 [(0, ar this), (1, ai p0)] [] _
  unfold f_X7_put
  refine x_aload_n C 0 (i := 0) (k0 := 0) rfl rfl (by decide +kernel) ?_
  refine x_gI C fl_RX7_39 (fun _ _ _ => rfl) (by decide +kernel) (fun length_1 => ?_)
  refine x_iconst C (n := 0) (by decide +kernel) ?_
  refine x_sipush C (n := 699) (by decide +kernel) (by decide +kernel) ?_
  refine x_callSNp C (c_X11_within l D ca ra N σ length_1 0 699) (p_X11_within N σ length_1 0 699) mt_X11_within ms_X11_within (List.mem_of_getElem? (i := 10) rfl) rfl (fun h => Bool.noConfusion h) ⟨Nat.le_of_ble_eq_true rfl, Nat.le_of_ble_eq_true rfl⟩ (Nat.le_of_ble_eq_true rfl) 0 0 ⟨rfl, rfl⟩ ⟨Nat.zero_le _, Nat.zero_le _⟩ (by decide +kernel) _ rfl (fun q2 => [ai q2.2]) (fun _ => rfl) (fun q2 => ?_)
  refine x_if_eq C (tgt := 34) (off := 23) (by decide) (by decide +kernel) (fun h8 => ?_) (fun h8 => ?_)
  · skip
    exact x_vret C ⟨Nat.zero_le _, Nat.zero_le _⟩ (by decide +kernel)
  · skip
    refine x_aload_n C 0 (i := 0) (k0 := 0) rfl rfl (by decide +kernel) ?_
    refine x_gR C fl_RX7_13 (fun _ _ _ => rfl) (by decide +kernel) (fun code_3 => ?_)
    refine x_aload_n C 0 (i := 0) (k0 := 0) rfl rfl (by decide +kernel) ?_
    refine x_gI C fl_RX7_39 (fun _ _ _ => rfl) (by decide +kernel) (fun length_4 => ?_)
    refine x_iload_n C 1 (i := 1) (k0 := 1) rfl rfl (by decide +kernel) ?_
    refine x_astI C (by decide +kernel) (fun σ5 => ?_)
    refine x_aload_n C 0 (i := 0) (k0 := 0) rfl rfl (by decide +kernel) ?_
    refine x_dup C rfl (by decide +kernel) ?_
    show X z 0 0 σ5 26 [(0, ar this), (1, ai p0)] [ar this, ar this] _
    refine x_gI C fl_RX7_39 (fun _ _ _ => rfl) (by decide +kernel) (fun length_6 => ?_)
    refine x_iconst C (n := 1) (by decide +kernel) ?_
    refine x_iadd C (by decide +kernel) ?_
    refine x_pI C fl_RX7_39 rfl (fun q h => by cases h; rfl) (by decide +kernel) (fun σ7 => ?_)
    exact x_vret C ⟨Nat.zero_le _, Nat.zero_le _⟩ (by decide +kernel)

def rm_X7_mayAsk : Room := { frames := 1, cells := 0, slots := 0, locals := 22 }
def f_X7_mayAsk (N : Nat) (σ : St) (p0 : Int) (p1 : Int) : Option (St × Int) :=
 Jn (fun t1 : Int => (if wr p0 = 0 then (if wr t1 = 0 then (if wr p1 = wr 23 then some (σ, 1) else (if wr p1 = wr 24 then some (σ, 1) else some (σ, 0))) else some (σ, 1)) else (if wr p0 = 1 then (if wr t1 = 0 then (if wr p1 = wr 26 then some (σ, 1) else some (σ, 0)) else some (σ, 1)) else (if wr p0 = 2 then Option.bind (f_X11_within N σ p1 27 29) fun q12 =>
 rZ σ q12.2 else (if wr t1 = 0 then Option.bind (f_X11_within N σ p1 30 33) fun q2 =>
 (if wr q2.2 = 0 then some (σ, 0) else some (σ, 1)) else some (σ, 1)))))) fun J11_13 =>
 (if wr p1 = wr 25 then J11_13 1 else J11_13 0)
set_option maxRecDepth 100000 in
set_option maxHeartbeats 4000000 in
theorem c_X7_mayAsk (l : Launch) (D : va_G) (ca : Nat → ClassId) (ra : Nat → Nat) (N : Nat) (σ : St) (p0 : Int) (p1 : Int) : Ctr l (D, ca, ra, shx) false yX7_mayAsk cX7_mayAsk 3 (some .boolean) rm_X7_mayAsk σ [ai p0, ai p1] (f_X7_mayAsk N σ p0 p1) := by
  refine ctr_of (by decide) (Nat.le_of_ble_eq_true rfl) (fun z C => ?_)
  show X z 0 0 σ 0 [(0, ai p0), (1, ai p1)] [] _
  unfold f_X7_mayAsk
  refine x_iload_n C 1 (i := 1) (k0 := 1) rfl rfl (by decide +kernel) ?_
  refine x_bipush C (n := 25) (by decide +kernel) (by decide +kernel) ?_
  refine x_join (T := Int) (fun t => σ) 11 (fun t => [(0, ai p0), (1, ai p1)]) (fun t => [ai t]) (fun t1 => ?_) (fun J11_13 hJ11_13 => ?_)
  · show X z 0 0 σ 11 [(0, ai p0), (1, ai p1)] [ai t1] _
    refine x_istore_n C (i := 2) (k0 := 2) rfl (Nat.le_of_ble_eq_true rfl) (by decide +kernel) (lv2 := [(2, ai t1), (0, ai p0), (1, ai p1)]) rfl ?_
    refine x_iload_n C 1 (i := 0) (k0 := 0) rfl rfl (by decide +kernel) ?_
    refine x_split (fun h8 => ?_) (fun h8 => ?_)
    · refine x_ts C (dflt := 74) (lo := 0) (hi := 2) (offs := #[27, 49, 65]) (len := 27) (v := 0) (off := 27) (tgt := 40) h8 (by decide) (by decide) rfl (by decide) (by decide +kernel) ?_
      refine x_iload_n C 0 (i := 2) (k0 := 2) rfl rfl (by decide +kernel) ?_
      refine x_if_ne C (tgt := 56) (off := 15) (by decide) (by decide +kernel) (fun h7 => ?_) (fun h7 => ?_)
      · skip
        refine x_iconst C (n := 1) (by decide +kernel) ?_
        refine x_goto C (tgt := 61) (off := 4) (by decide) (by decide +kernel) ?_
        exact x_zret C (Or.inr rfl) ⟨Nat.zero_le _, Nat.zero_le _⟩ (by decide +kernel)
      · skip
        refine x_iload_n C 2 (i := 1) (k0 := 1) rfl rfl (by decide +kernel) ?_
        refine x_bipush C (n := 23) (by decide +kernel) (by decide +kernel) ?_
        refine x_ic_eq C (tgt := 56) (off := 9) (by decide) (by decide +kernel) (fun h6 => ?_) (fun h6 => ?_)
        · skip
          refine x_iconst C (n := 1) (by decide +kernel) ?_
          refine x_goto C (tgt := 61) (off := 4) (by decide) (by decide +kernel) ?_
          exact x_zret C (Or.inr rfl) ⟨Nat.zero_le _, Nat.zero_le _⟩ (by decide +kernel)
        · skip
          refine x_iload_n C 2 (i := 1) (k0 := 1) rfl rfl (by decide +kernel) ?_
          refine x_bipush C (n := 24) (by decide +kernel) (by decide +kernel) ?_
          refine x_ic_ne C (tgt := 60) (off := 7) (by decide) (by decide +kernel) (fun h5 => ?_) (fun h5 => ?_)
          · skip
            refine x_iconst C (n := 0) (by decide +kernel) ?_
            exact x_zret C (Or.inl rfl) ⟨Nat.zero_le _, Nat.zero_le _⟩ (by decide +kernel)
          · skip
            refine x_iconst C (n := 1) (by decide +kernel) ?_
            refine x_goto C (tgt := 61) (off := 4) (by decide) (by decide +kernel) ?_
            exact x_zret C (Or.inr rfl) ⟨Nat.zero_le _, Nat.zero_le _⟩ (by decide +kernel)
    refine x_split (fun h11 => ?_) (fun h11 => ?_)
    · refine x_ts C (dflt := 74) (lo := 0) (hi := 2) (offs := #[27, 49, 65]) (len := 27) (v := 1) (off := 49) (tgt := 62) h11 (by decide) (by decide) rfl (by decide) (by decide +kernel) ?_
      refine x_iload_n C 0 (i := 2) (k0 := 2) rfl rfl (by decide +kernel) ?_
      refine x_if_ne C (tgt := 72) (off := 9) (by decide) (by decide +kernel) (fun h10 => ?_) (fun h10 => ?_)
      · skip
        refine x_iconst C (n := 1) (by decide +kernel) ?_
        refine x_goto C (tgt := 77) (off := 4) (by decide) (by decide +kernel) ?_
        exact x_zret C (Or.inr rfl) ⟨Nat.zero_le _, Nat.zero_le _⟩ (by decide +kernel)
      · skip
        refine x_iload_n C 2 (i := 1) (k0 := 1) rfl rfl (by decide +kernel) ?_
        refine x_bipush C (n := 26) (by decide +kernel) (by decide +kernel) ?_
        refine x_ic_ne C (tgt := 76) (off := 7) (by decide) (by decide +kernel) (fun h9 => ?_) (fun h9 => ?_)
        · skip
          refine x_iconst C (n := 0) (by decide +kernel) ?_
          exact x_zret C (Or.inl rfl) ⟨Nat.zero_le _, Nat.zero_le _⟩ (by decide +kernel)
        · skip
          refine x_iconst C (n := 1) (by decide +kernel) ?_
          refine x_goto C (tgt := 77) (off := 4) (by decide) (by decide +kernel) ?_
          exact x_zret C (Or.inr rfl) ⟨Nat.zero_le _, Nat.zero_le _⟩ (by decide +kernel)
    refine x_split (fun h13 => ?_) (fun h13 => ?_)
    · refine x_ts C (dflt := 74) (lo := 0) (hi := 2) (offs := #[27, 49, 65]) (len := 27) (v := 2) (off := 65) (tgt := 78) h13 (by decide) (by decide) rfl (by decide) (by decide +kernel) ?_
      refine x_iload_n C 2 (i := 1) (k0 := 1) rfl rfl (by decide +kernel) ?_
      refine x_bipush C (n := 27) (by decide +kernel) (by decide +kernel) ?_
      refine x_bipush C (n := 29) (by decide +kernel) (by decide +kernel) ?_
      refine x_callSNp C (c_X11_within l D ca ra N σ p1 27 29) (p_X11_within N σ p1 27 29) mt_X11_within ms_X11_within (List.mem_of_getElem? (i := 10) rfl) rfl (fun h => Bool.noConfusion h) ⟨Nat.le_of_ble_eq_true rfl, Nat.le_of_ble_eq_true rfl⟩ (Nat.le_of_ble_eq_true rfl) 0 0 ⟨rfl, rfl⟩ ⟨Nat.zero_le _, Nat.zero_le _⟩ (by decide +kernel) _ rfl (fun q12 => [ai q12.2]) (fun _ => rfl) (fun q12 => ?_)
      exact x_rZ C ⟨Nat.zero_le _, Nat.zero_le _⟩ (by decide +kernel)
    refine x_tsD C (dflt := 74) (lo := 0) (hi := 2) (offs := #[27, 49, 65]) (len := 27) (tgt := 87) [0, 1, 2] (List.forall_mem_cons.mpr ⟨h8, (List.forall_mem_cons.mpr ⟨h11, (List.forall_mem_cons.mpr ⟨h13, (List.forall_mem_nil _)⟩)⟩)⟩) rfl (by decide +kernel) (by decide) (by decide +kernel) ?_
    refine x_iload_n C 0 (i := 2) (k0 := 2) rfl rfl (by decide +kernel) ?_
    refine x_if_ne C (tgt := 102) (off := 14) (by decide) (by decide +kernel) (fun h4 => ?_) (fun h4 => ?_)
    · skip
      refine x_iconst C (n := 1) (by decide +kernel) ?_
      refine x_goto C (tgt := 107) (off := 4) (by decide) (by decide +kernel) ?_
      exact x_zret C (Or.inr rfl) ⟨Nat.zero_le _, Nat.zero_le _⟩ (by decide +kernel)
    · skip
      refine x_iload_n C 2 (i := 1) (k0 := 1) rfl rfl (by decide +kernel) ?_
      refine x_bipush C (n := 30) (by decide +kernel) (by decide +kernel) ?_
      refine x_bipush C (n := 33) (by decide +kernel) (by decide +kernel) ?_
      refine x_callSNp C (c_X11_within l D ca ra N σ p1 30 33) (p_X11_within N σ p1 30 33) mt_X11_within ms_X11_within (List.mem_of_getElem? (i := 10) rfl) rfl (fun h => Bool.noConfusion h) ⟨Nat.le_of_ble_eq_true rfl, Nat.le_of_ble_eq_true rfl⟩ (Nat.le_of_ble_eq_true rfl) 0 0 ⟨rfl, rfl⟩ ⟨Nat.zero_le _, Nat.zero_le _⟩ (by decide +kernel) _ rfl (fun q2 => [ai q2.2]) (fun _ => rfl) (fun q2 => ?_)
      refine x_if_eq C (tgt := 106) (off := 7) (by decide) (by decide +kernel) (fun h3 => ?_) (fun h3 => ?_)
      · skip
        refine x_iconst C (n := 0) (by decide +kernel) ?_
        exact x_zret C (Or.inl rfl) ⟨Nat.zero_le _, Nat.zero_le _⟩ (by decide +kernel)
      · skip
        refine x_iconst C (n := 1) (by decide +kernel) ?_
        refine x_goto C (tgt := 107) (off := 4) (by decide) (by decide +kernel) ?_
        exact x_zret C (Or.inr rfl) ⟨Nat.zero_le _, Nat.zero_le _⟩ (by decide +kernel)
  · skip
    refine x_ic_ne C (tgt := 10) (off := 7) (by decide) (by decide +kernel) (fun h15 => ?_) (fun h15 => ?_)
    · skip
      refine x_iconst C (n := 0) (by decide +kernel) ?_
      exact hJ11_13 0
    · skip
      refine x_iconst C (n := 1) (by decide +kernel) ?_
      refine x_goto C (tgt := 11) (off := 4) (by decide) (by decide +kernel) ?_
      exact hJ11_13 1
theorem p_X7_mayAsk (N : Nat) (σ : St) (p0 : Int) (p1 : Int) : Pu σ (f_X7_mayAsk N σ p0 p1) := by
  unfold f_X7_mayAsk
  refine pu_Jn (fun _ => ?_) (fun _ hJ11_13 => ?_)
  · skip
    refine pu_if ?_ ?_
    · skip
      refine pu_ifs ?_ ?_
      · skip
        exact pu_some
      · skip
        refine pu_if ?_ ?_
        · skip
          exact pu_some
        · skip
          refine pu_ifs ?_ ?_
          · skip
            exact pu_some
          · skip
            exact pu_some
    refine pu_if ?_ ?_
    · skip
      refine pu_ifs ?_ ?_
      · skip
        exact pu_some
      · skip
        refine pu_ifs ?_ ?_
        · skip
          exact pu_some
        · skip
          exact pu_some
    refine pu_if ?_ ?_
    · skip
      refine pu_bind (fun _ => ?_)
      exact pu_rZ
    refine pu_ifs ?_ ?_
    · skip
      exact pu_some
    · skip
      refine pu_bind (fun _ => ?_)
      refine pu_if ?_ ?_
      · skip
        exact pu_some
      · skip
        exact pu_some
  · skip
    refine pu_ifs ?_ ?_
    · skip
      exact hJ11_13 _
    · skip
      exact hJ11_13 _

def L_X7_asks_17 (N : Nat) (σ : St) (this : Nat) (p0 : Int) (p1 : Int) : Int → Option (St × Int) := fixN N fun b17_4 t4 =>
 Option.bind (gR shx σ 7 this 5) fun stop_6 =>
 Option.bind (aI shx σ 1 stop_6 p0) fun a7 =>
 (if wr t4 < wr a7 then Option.bind (gR shx σ 7 this 3) fun code_8 =>
 Option.bind (aI shx σ 1 code_8 t4) fun a9 =>
 (if wr a9 = wr ((-1) - p1) then some (σ, 1) else Lt (t4 + 1) fun x10 =>
 b17_4 x10) else some (σ, 0))
def rm_X7_asks : Room := { frames := 2, cells := 0, slots := 0, locals := 43 }
def f_X7_asks (N : Nat) (σ : St) (this : Nat) (p0 : Int) (p1 : Int) : Option (St × Int) :=
 Option.bind (rcv shx σ 7 this (f_X7_isTold N σ this p0)) fun q1 =>
 (if wr q1.2 = 0 then some (σ, 0) else Option.bind (gR shx σ 7 this 4) fun start_2 =>
 Option.bind (aI shx σ 1 start_2 p0) fun a3 =>
 L_X7_asks_17 N σ this p0 p1 a3)
set_option maxRecDepth 100000 in
set_option maxHeartbeats 4000000 in
theorem c_X7_asks (l : Launch) (D : va_G) (ca : Nat → ClassId) (ra : Nat → Nat) (N : Nat) (σ : St) (this : Nat) (p0 : Int) (p1 : Int) : Ctr l (D, ca, ra, shx) false yX7_asks cX7_asks 4 (some .boolean) rm_X7_asks σ [ar this, ai p0, ai p1] (f_X7_asks N σ this p0 p1) := by
  refine ctr_of (by decide) (Nat.le_of_ble_eq_true rfl) (fun z C => ?_)
  show X z 0 0 σ 0 [(0, ar this), (1, ai p0), (2, ai p1)] [] _
  unfold f_X7_asks
  refine x_aload_n C 0 (i := 0) (k0 := 0) rfl rfl (by decide +kernel) ?_
  refine x_iload_n C 1 (i := 1) (k0 := 1) rfl rfl (by decide +kernel) ?_
  refine x_callVp C (ci := 7) (c_X7_isTold l D ca ra N σ this p0) (p_X7_isTold N σ this p0) mt_X7_isTold mv_X7_isTold rfl ml_RX7_63 rfl (fun h => Bool.noConfusion h) ⟨Nat.le_of_ble_eq_true rfl, Nat.le_of_ble_eq_true rfl⟩ (Nat.le_of_ble_eq_true rfl) 0 0 ⟨rfl, rfl⟩ ⟨Nat.zero_le _, Nat.zero_le _⟩ (by decide +kernel) _ rfl (fun q1 => [ai q1.2]) (fun _ => rfl) (fun q1 => ?_)
  refine x_if_ne C (tgt := 10) (off := 5) (by decide) (by decide +kernel) (fun h13 => ?_) (fun h13 => ?_)
  · skip
    refine x_aload_n C 0 (i := 0) (k0 := 0) rfl rfl (by decide +kernel) ?_
    refine x_gR C fl_RX7_17 (fun _ _ _ => rfl) (by decide +kernel) (fun start_2 => ?_)
    refine x_iload_n C 1 (i := 1) (k0 := 1) rfl rfl (by decide +kernel) ?_
    refine x_aldI C (by decide +kernel) (fun a3 => ?_)
    refine x_istore_n C (i := 3) (k0 := 3) rfl (Nat.le_of_ble_eq_true rfl) (by decide +kernel) (lv2 := [(3, ai a3), (0, ar this), (1, ai p0), (2, ai p1)]) rfl ?_
    refine x_sub [1, 2, 3, 0] (lv2 := [(0, ar this), (1, ai p0), (2, ai p1), (3, ai a3)]) rfl ?_
    -- LOOP L_X7_asks_17 hb17_4
    refine x_loop (T := Int) (fun t => σ) (fun t => [(0, ar this), (1, ai p0), (2, ai p1), (3, ai t)]) a3 rfl (fun b17_4 hb17_4 t4 => ?_)
    show X z 0 0 σ 17 [(0, ar this), (1, ai p0), (2, ai p1), (3, ai t4)] [] _
    refine x_iload_n C 3 (i := 3) (k0 := 3) rfl rfl (by decide +kernel) ?_
    refine x_aload_n C 0 (i := 0) (k0 := 0) rfl rfl (by decide +kernel) ?_
    refine x_gR C fl_RX7_20 (fun _ _ _ => rfl) (by decide +kernel) (fun stop_6 => ?_)
    refine x_iload_n C 1 (i := 1) (k0 := 1) rfl rfl (by decide +kernel) ?_
    refine x_aldI C (by decide +kernel) (fun a7 => ?_)
    refine x_ic_ge C (tgt := 47) (off := 23) (by decide) (by decide +kernel) (fun h12 => ?_) (fun h12 => ?_)
    · skip
      refine x_iconst C (n := 0) (by decide +kernel) ?_
      exact x_zret C (Or.inl rfl) ⟨Nat.zero_le _, Nat.zero_le _⟩ (by decide +kernel)
    · skip
      refine x_aload_n C 0 (i := 0) (k0 := 0) rfl rfl (by decide +kernel) ?_
      refine x_gR C fl_RX7_13 (fun _ _ _ => rfl) (by decide +kernel) (fun code_8 => ?_)
      refine x_iload_n C 3 (i := 3) (k0 := 3) rfl rfl (by decide +kernel) ?_
      refine x_aldI C (by decide +kernel) (fun a9 => ?_)
      refine x_iconst C (n := (-1)) (by decide +kernel) ?_
      refine x_iload_n C 2 (i := 2) (k0 := 2) rfl rfl (by decide +kernel) ?_
      refine x_isub C (by decide +kernel) ?_
      refine x_ic_ne C (tgt := 41) (off := 5) (by decide) (by decide +kernel) (fun h11 => ?_) (fun h11 => ?_)
      · skip
        refine x_iinc C 3 (i := 3) (n := 1) (Nat.le_of_ble_eq_true rfl) rfl (by decide +kernel) (lv2 := fun x10 => [(3, ai x10), (0, ar this), (1, ai p0), (2, ai p1)]) (fun _ => rfl) (fun x10 => ?_)
        refine x_goto C (tgt := 17) (off := (-27)) (by decide) (by decide +kernel) ?_
        refine x_sub [1, 2, 3, 0] (lv2 := [(0, ar this), (1, ai p0), (2, ai p1), (3, ai x10)]) rfl ?_
        exact hb17_4 x10
      · skip
        refine x_iconst C (n := 1) (by decide +kernel) ?_
        exact x_zret C (Or.inr rfl) ⟨Nat.zero_le _, Nat.zero_le _⟩ (by decide +kernel)
  · skip
    refine x_iconst C (n := 0) (by decide +kernel) ?_
    exact x_zret C (Or.inl rfl) ⟨Nat.zero_le _, Nat.zero_le _⟩ (by decide +kernel)
theorem p_X7_asks (N : Nat) (σ : St) (this : Nat) (p0 : Int) (p1 : Int) : Pu σ (f_X7_asks N σ this p0 p1) := by
  unfold f_X7_asks
  refine pu_bind (fun _ => ?_)
  refine pu_ifs ?_ ?_
  · skip
    refine pu_bind (fun _ => ?_)
    refine pu_bind (fun _ => ?_)
    unfold L_X7_asks_17
    refine pu_fix (fun _ hb17_4 _ => ?_) _
    refine pu_bind (fun _ => ?_)
    refine pu_bind (fun _ => ?_)
    refine pu_ifs ?_ ?_
    · skip
      exact pu_some
    · skip
      refine pu_bind (fun _ => ?_)
      refine pu_bind (fun _ => ?_)
      refine pu_ifs ?_ ?_
      · skip
        refine pu_Lt (fun _ => ?_)
        exact hb17_4 _
      · skip
        exact pu_some
  · skip
    exact pu_some

def rm_X7_mayLeave : Room := { frames := 3, cells := 0, slots := 0, locals := 68 }
def f_X7_mayLeave (N : Nat) (σ : St) (this : Nat) (p0 : Int) (p1 : Int) : Option (St × Int) :=
 Option.bind (rcv shx σ 7 this (f_X7_ask N σ this 25 p0)) fun q1 =>
 Option.bind (rcv shx q1.1 7 this (f_X7_ask N q1.1 this 26 p1)) fun q2 =>
 Option.bind (rcv shx q2.1 7 this (f_X7_valueOf N q2.1 this 1)) fun q3 =>
 (if wr q3.2 = 0 then some (q3.1, 0) else some (q3.1, 1))
set_option maxRecDepth 100000 in
set_option maxHeartbeats 4000000 in
theorem c_X7_mayLeave (l : Launch) (D : va_G) (ca : Nat → ClassId) (ra : Nat → Nat) (N : Nat) (σ : St) (this : Nat) (p0 : Int) (p1 : Int) : Ctr l (D, ca, ra, shx) false yX7_mayLeave cX7_mayLeave 3 (some .boolean) rm_X7_mayLeave σ [ar this, ai p0, ai p1] (f_X7_mayLeave N σ this p0 p1) := by
  refine ctr_of (by decide) (Nat.le_of_ble_eq_true rfl) (fun z C => ?_)
  show X z 0 0 σ 0 [(0, ar this), (1, ai p0), (2, ai p1)] [] _
  unfold f_X7_mayLeave
  refine x_aload_n C 0 (i := 0) (k0 := 0) rfl rfl (by decide +kernel) ?_
  refine x_bipush C (n := 25) (by decide +kernel) (by decide +kernel) ?_
  refine x_iload_n C 1 (i := 1) (k0 := 1) rfl rfl (by decide +kernel) ?_
  refine x_callV C (ci := 7) (c_X7_ask l D ca ra N σ this 25 p0) mt_X7_ask mv_X7_ask rfl ml_RX7_67 rfl (fun h => Bool.noConfusion h) ⟨Nat.le_of_ble_eq_true rfl, Nat.le_of_ble_eq_true rfl⟩ (Nat.le_of_ble_eq_true rfl) 0 0 ⟨rfl, rfl⟩ ⟨Nat.zero_le _, Nat.zero_le _⟩ (by decide +kernel) _ rfl (fun q1 => []) (fun _ => rfl) (fun q1 => ?_)
  refine x_aload_n C 0 (i := 0) (k0 := 0) rfl rfl (by decide +kernel) ?_
  refine x_bipush C (n := 26) (by decide +kernel) (by decide +kernel) ?_
  refine x_iload_n C 2 (i := 2) (k0 := 2) rfl rfl (by decide +kernel) ?_
  refine x_callV C (ci := 7) (c_X7_ask l D ca ra N q1.1 this 26 p1) mt_X7_ask mv_X7_ask rfl ml_RX7_67 rfl (fun h => Bool.noConfusion h) ⟨Nat.le_of_ble_eq_true rfl, Nat.le_of_ble_eq_true rfl⟩ (Nat.le_of_ble_eq_true rfl) 0 0 ⟨rfl, rfl⟩ ⟨Nat.zero_le _, Nat.zero_le _⟩ (by decide +kernel) _ rfl (fun q2 => []) (fun _ => rfl) (fun q2 => ?_)
  show X z 0 0 q2.1 14 [(0, ar this), (1, ai p0), (2, ai p1)] [] _
  refine x_aload_n C 0 (i := 0) (k0 := 0) rfl rfl (by decide +kernel) ?_
  refine x_iconst C (n := 1) (by decide +kernel) ?_
  refine x_callV C (ci := 7) (c_X7_valueOf l D ca ra N q2.1 this 1) mt_X7_valueOf mv_X7_valueOf rfl ml_RX7_71 rfl (fun h => Bool.noConfusion h) ⟨Nat.le_of_ble_eq_true rfl, Nat.le_of_ble_eq_true rfl⟩ (Nat.le_of_ble_eq_true rfl) 0 0 ⟨rfl, rfl⟩ ⟨Nat.zero_le _, Nat.zero_le _⟩ (by decide +kernel) _ rfl (fun q3 => [ai q3.2]) (fun _ => rfl) (fun q3 => ?_)
  refine x_if_eq C (tgt := 26) (off := 7) (by decide) (by decide +kernel) (fun h4 => ?_) (fun h4 => ?_)
  · skip
    refine x_iconst C (n := 0) (by decide +kernel) ?_
    exact x_zret C (Or.inl rfl) ⟨Nat.zero_le _, Nat.zero_le _⟩ (by decide +kernel)
  · skip
    refine x_iconst C (n := 1) (by decide +kernel) ?_
    refine x_goto C (tgt := 27) (off := 4) (by decide) (by decide +kernel) ?_
    exact x_zret C (Or.inr rfl) ⟨Nat.zero_le _, Nat.zero_le _⟩ (by decide +kernel)

def rm_X7_mayFly : Room := { frames := 3, cells := 0, slots := 0, locals := 68 }
def f_X7_mayFly (N : Nat) (σ : St) (this : Nat) (p0 : Int) (p1 : Int) (p2 : Int) : Option (St × Int) :=
 Option.bind (rcv shx σ 7 this (f_X7_ask N σ this 27 p0)) fun q1 =>
 Option.bind (rcv shx q1.1 7 this (f_X7_ask N q1.1 this 28 p1)) fun q2 =>
 Option.bind (rcv shx q2.1 7 this (f_X7_ask N q2.1 this 29 p2)) fun q3 =>
 Option.bind (rcv shx q3.1 7 this (f_X7_valueOf N q3.1 this 2)) fun q4 =>
 (if wr q4.2 = 0 then some (q4.1, 0) else some (q4.1, 1))
set_option maxRecDepth 100000 in
set_option maxHeartbeats 4000000 in
theorem c_X7_mayFly (l : Launch) (D : va_G) (ca : Nat → ClassId) (ra : Nat → Nat) (N : Nat) (σ : St) (this : Nat) (p0 : Int) (p1 : Int) (p2 : Int) : Ctr l (D, ca, ra, shx) false yX7_mayFly cX7_mayFly 4 (some .boolean) rm_X7_mayFly σ [ar this, ai p0, ai p1, ai p2] (f_X7_mayFly N σ this p0 p1 p2) := by
  refine ctr_of (by decide) (Nat.le_of_ble_eq_true rfl) (fun z C => ?_)
  show X z 0 0 σ 0 [(0, ar this), (1, ai p0), (2, ai p1), (3, ai p2)] [] _
  unfold f_X7_mayFly
  refine x_aload_n C 0 (i := 0) (k0 := 0) rfl rfl (by decide +kernel) ?_
  refine x_bipush C (n := 27) (by decide +kernel) (by decide +kernel) ?_
  refine x_iload_n C 1 (i := 1) (k0 := 1) rfl rfl (by decide +kernel) ?_
  refine x_callV C (ci := 7) (c_X7_ask l D ca ra N σ this 27 p0) mt_X7_ask mv_X7_ask rfl ml_RX7_67 rfl (fun h => Bool.noConfusion h) ⟨Nat.le_of_ble_eq_true rfl, Nat.le_of_ble_eq_true rfl⟩ (Nat.le_of_ble_eq_true rfl) 0 0 ⟨rfl, rfl⟩ ⟨Nat.zero_le _, Nat.zero_le _⟩ (by decide +kernel) _ rfl (fun q1 => []) (fun _ => rfl) (fun q1 => ?_)
  refine x_aload_n C 0 (i := 0) (k0 := 0) rfl rfl (by decide +kernel) ?_
  refine x_bipush C (n := 28) (by decide +kernel) (by decide +kernel) ?_
  refine x_iload_n C 2 (i := 2) (k0 := 2) rfl rfl (by decide +kernel) ?_
  refine x_callV C (ci := 7) (c_X7_ask l D ca ra N q1.1 this 28 p1) mt_X7_ask mv_X7_ask rfl ml_RX7_67 rfl (fun h => Bool.noConfusion h) ⟨Nat.le_of_ble_eq_true rfl, Nat.le_of_ble_eq_true rfl⟩ (Nat.le_of_ble_eq_true rfl) 0 0 ⟨rfl, rfl⟩ ⟨Nat.zero_le _, Nat.zero_le _⟩ (by decide +kernel) _ rfl (fun q2 => []) (fun _ => rfl) (fun q2 => ?_)
  show X z 0 0 q2.1 14 [(0, ar this), (1, ai p0), (2, ai p1), (3, ai p2)] [] _
  refine x_aload_n C 0 (i := 0) (k0 := 0) rfl rfl (by decide +kernel) ?_
  refine x_bipush C (n := 29) (by decide +kernel) (by decide +kernel) ?_
  refine x_iload_n C 3 (i := 3) (k0 := 3) rfl rfl (by decide +kernel) ?_
  refine x_callV C (ci := 7) (c_X7_ask l D ca ra N q2.1 this 29 p2) mt_X7_ask mv_X7_ask rfl ml_RX7_67 rfl (fun h => Bool.noConfusion h) ⟨Nat.le_of_ble_eq_true rfl, Nat.le_of_ble_eq_true rfl⟩ (Nat.le_of_ble_eq_true rfl) 0 0 ⟨rfl, rfl⟩ ⟨Nat.zero_le _, Nat.zero_le _⟩ (by decide +kernel) _ rfl (fun q3 => []) (fun _ => rfl) (fun q3 => ?_)
  refine x_aload_n C 0 (i := 0) (k0 := 0) rfl rfl (by decide +kernel) ?_
  refine x_iconst C (n := 2) (by decide +kernel) ?_
  refine x_callV C (ci := 7) (c_X7_valueOf l D ca ra N q3.1 this 2) mt_X7_valueOf mv_X7_valueOf rfl ml_RX7_71 rfl (fun h => Bool.noConfusion h) ⟨Nat.le_of_ble_eq_true rfl, Nat.le_of_ble_eq_true rfl⟩ (Nat.le_of_ble_eq_true rfl) 0 0 ⟨rfl, rfl⟩ ⟨Nat.zero_le _, Nat.zero_le _⟩ (by decide +kernel) _ rfl (fun q4 => [ai q4.2]) (fun _ => rfl) (fun q4 => ?_)
  refine x_if_eq C (tgt := 33) (off := 7) (by decide) (by decide +kernel) (fun h5 => ?_) (fun h5 => ?_)
  · skip
    refine x_iconst C (n := 0) (by decide +kernel) ?_
    exact x_zret C (Or.inl rfl) ⟨Nat.zero_le _, Nat.zero_le _⟩ (by decide +kernel)
  · skip
    refine x_iconst C (n := 1) (by decide +kernel) ?_
    refine x_goto C (tgt := 34) (off := 4) (by decide) (by decide +kernel) ?_
    exact x_zret C (Or.inr rfl) ⟨Nat.zero_le _, Nat.zero_le _⟩ (by decide +kernel)
