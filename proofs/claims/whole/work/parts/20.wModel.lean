def rm_X12_sign : Room := { frames := 0, cells := 0, slots := 0, locals := 0 }
def f_X12_sign (N : Nat) (σ : St) (this : Nat) (p0 : Int) : Option (St × Int) :=
 Option.bind (gI shm σ 12 this 3) fun size_1 =>
 (if wr p0 < wr size_1 then Option.bind (gR shm σ 12 this 1) fun text_2 =>
 Option.bind (aI shm σ 4 text_2 p0) fun a3 =>
 some (σ, (andZ (wb a3) 255)) else some (σ, 0))
set_option maxRecDepth 100000 in
set_option maxHeartbeats 4000000 in
theorem c_X12_sign (l : Launch) (D : va_G) (ca : Nat → ClassId) (ra : Nat → Nat) (N : Nat) (σ : St) (this : Nat) (p0 : Int) : Ctr l (D, ca, ra, shm) false yX12_sign cX12_sign 2 (some .int) rm_X12_sign σ [ar this, ai p0] (f_X12_sign N σ this p0) := by
  refine ctr_of (by decide) (Nat.le_of_ble_eq_true rfl) (fun z C => ?_)
  show X z 0 0 σ 0 [(0, ar this), (1, ai p0)] [] _
  unfold f_X12_sign
  refine x_iload_n C 1 (i := 1) (k0 := 1) rfl rfl (by decide +kernel) ?_
  refine x_aload_n C 0 (i := 0) (k0 := 0) rfl rfl (by decide +kernel) ?_
  refine x_gI C fl_RX12_172 (fun _ _ _ => rfl) (by decide +kernel) (fun size_1 => ?_)
  refine x_ic_ge C (tgt := 21) (off := 16) (by decide) (by decide +kernel) (fun h4 => ?_) (fun h4 => ?_)
  · skip
    refine x_iconst C (n := 0) (by decide +kernel) ?_
    exact x_iret C ⟨Nat.zero_le _, Nat.zero_le _⟩ (by decide +kernel)
  · skip
    refine x_aload_n C 0 (i := 0) (k0 := 0) rfl rfl (by decide +kernel) ?_
    refine x_gR C fl_RX12_13 (fun _ _ _ => rfl) (by decide +kernel) (fun text_2 => ?_)
    refine x_iload_n C 1 (i := 1) (k0 := 1) rfl rfl (by decide +kernel) ?_
    refine x_aldB C (by decide +kernel) (fun a3 => ?_)
    refine x_sipush C (n := 255) (by decide +kernel) (by decide +kernel) ?_
    refine x_iand C (by decide +kernel) ?_
    refine x_goto C (tgt := 22) (off := 4) (by decide) (by decide +kernel) ?_
    exact x_iret C ⟨Nat.zero_le _, Nat.zero_le _⟩ (by decide +kernel)
theorem p_X12_sign (N : Nat) (σ : St) (this : Nat) (p0 : Int) : Pu σ (f_X12_sign N σ this p0) := by
  unfold f_X12_sign
  refine pu_bind (fun _ => ?_)
  refine pu_ifs ?_ ?_
  · skip
    exact pu_some
  · skip
    refine pu_bind (fun _ => ?_)
    refine pu_bind (fun _ => ?_)
    exact pu_some

def rm_X12_isLetter : Room := { frames := 0, cells := 0, slots := 0, locals := 0 }
def f_X12_isLetter (N : Nat) (σ : St) (p0 : Int) : Option (St × Int) :=
 (if wr p0 < wr 97 then some (σ, 0) else (if wr 122 < wr p0 then some (σ, 0) else some (σ, 1)))
set_option maxRecDepth 100000 in
set_option maxHeartbeats 4000000 in
theorem c_X12_isLetter (l : Launch) (D : va_G) (ca : Nat → ClassId) (ra : Nat → Nat) (N : Nat) (σ : St) (p0 : Int) : Ctr l (D, ca, ra, shm) false yX12_isLetter cX12_isLetter 1 (some .boolean) rm_X12_isLetter σ [ai p0] (f_X12_isLetter N σ p0) := by
  refine ctr_of (by decide) (Nat.le_of_ble_eq_true rfl) (fun z C => ?_)
  show X z 0 0 σ 0 [(0, ai p0)] [] _
  unfold f_X12_isLetter
  refine x_iload_n C 0 (i := 0) (k0 := 0) rfl rfl (by decide +kernel) ?_
  refine x_bipush C (n := 97) (by decide +kernel) (by decide +kernel) ?_
  refine x_ic_lt C (tgt := 16) (off := 13) (by decide) (by decide +kernel) (fun h2 => ?_) (fun h2 => ?_)
  · skip
    refine x_iconst C (n := 0) (by decide +kernel) ?_
    exact x_zret C (Or.inl rfl) ⟨Nat.zero_le _, Nat.zero_le _⟩ (by decide +kernel)
  · skip
    refine x_iload_n C 0 (i := 0) (k0 := 0) rfl rfl (by decide +kernel) ?_
    refine x_bipush C (n := 122) (by decide +kernel) (by decide +kernel) ?_
    refine x_ic_gt C (tgt := 16) (off := 7) (by decide) (by decide +kernel) (fun h1 => ?_) (fun h1 => ?_)
    · skip
      refine x_iconst C (n := 0) (by decide +kernel) ?_
      exact x_zret C (Or.inl rfl) ⟨Nat.zero_le _, Nat.zero_le _⟩ (by decide +kernel)
    · skip
      refine x_iconst C (n := 1) (by decide +kernel) ?_
      refine x_goto C (tgt := 17) (off := 4) (by decide) (by decide +kernel) ?_
      exact x_zret C (Or.inr rfl) ⟨Nat.zero_le _, Nat.zero_le _⟩ (by decide +kernel)
theorem p_X12_isLetter (N : Nat) (σ : St) (p0 : Int) : Pu σ (f_X12_isLetter N σ p0) := by
  unfold f_X12_isLetter
  refine pu_if ?_ ?_
  · skip
    exact pu_some
  · skip
    refine pu_if ?_ ?_
    · skip
      exact pu_some
    · skip
      exact pu_some

def rm_X12_isDigit : Room := { frames := 0, cells := 0, slots := 0, locals := 0 }
def f_X12_isDigit (N : Nat) (σ : St) (p0 : Int) : Option (St × Int) :=
 (if wr p0 < wr 48 then some (σ, 0) else (if wr 57 < wr p0 then some (σ, 0) else some (σ, 1)))
set_option maxRecDepth 100000 in
set_option maxHeartbeats 4000000 in
theorem c_X12_isDigit (l : Launch) (D : va_G) (ca : Nat → ClassId) (ra : Nat → Nat) (N : Nat) (σ : St) (p0 : Int) : Ctr l (D, ca, ra, shm) false yX12_isDigit cX12_isDigit 1 (some .boolean) rm_X12_isDigit σ [ai p0] (f_X12_isDigit N σ p0) := by
  refine ctr_of (by decide) (Nat.le_of_ble_eq_true rfl) (fun z C => ?_)
  show X z 0 0 σ 0 [(0, ai p0)] [] _
  unfold f_X12_isDigit
  refine x_iload_n C 0 (i := 0) (k0 := 0) rfl rfl (by decide +kernel) ?_
  refine x_bipush C (n := 48) (by decide +kernel) (by decide +kernel) ?_
  refine x_ic_lt C (tgt := 16) (off := 13) (by decide) (by decide +kernel) (fun h2 => ?_) (fun h2 => ?_)
  · skip
    refine x_iconst C (n := 0) (by decide +kernel) ?_
    exact x_zret C (Or.inl rfl) ⟨Nat.zero_le _, Nat.zero_le _⟩ (by decide +kernel)
  · skip
    refine x_iload_n C 0 (i := 0) (k0 := 0) rfl rfl (by decide +kernel) ?_
    refine x_bipush C (n := 57) (by decide +kernel) (by decide +kernel) ?_
    refine x_ic_gt C (tgt := 16) (off := 7) (by decide) (by decide +kernel) (fun h1 => ?_) (fun h1 => ?_)
    · skip
      refine x_iconst C (n := 0) (by decide +kernel) ?_
      exact x_zret C (Or.inl rfl) ⟨Nat.zero_le _, Nat.zero_le _⟩ (by decide +kernel)
    · skip
      refine x_iconst C (n := 1) (by decide +kernel) ?_
      refine x_goto C (tgt := 17) (off := 4) (by decide) (by decide +kernel) ?_
      exact x_zret C (Or.inr rfl) ⟨Nat.zero_le _, Nat.zero_le _⟩ (by decide +kernel)
theorem p_X12_isDigit (N : Nat) (σ : St) (p0 : Int) : Pu σ (f_X12_isDigit N σ p0) := by
  unfold f_X12_isDigit
  refine pu_if ?_ ?_
  · skip
    exact pu_some
  · skip
    refine pu_if ?_ ?_
    · skip
      exact pu_some
    · skip
      exact pu_some

def rm_X12_fails : Room := { frames := 0, cells := 0, slots := 0, locals := 0 }
def f_X12_fails (N : Nat) (σ : St) (this : Nat) (p0 : Int) (p1 : Int) : Option (St × Int) :=
 Option.bind (gI shm σ 12 this 4) fun faultKind_1 =>
 (if 0 < wr faultKind_1 then some (σ, 0) else Option.bind (pI shm σ 12 this 4 p0) fun σ2 =>
 Option.bind (pI shm σ2 12 this 5 p1) fun σ3 =>
 some (σ3, 0))
set_option maxRecDepth 100000 in
set_option maxHeartbeats 4000000 in
theorem c_X12_fails (l : Launch) (D : va_G) (ca : Nat → ClassId) (ra : Nat → Nat) (N : Nat) (σ : St) (this : Nat) (p0 : Int) (p1 : Int) : Ctr l (D, ca, ra, shm) false yX12_fails cX12_fails 3 none rm_X12_fails σ [ar this, ai p0, ai p1] (f_X12_fails N σ this p0 p1) := by
  refine ctr_of (by decide) (Nat.le_of_ble_eq_true rfl) (fun z C => ?_)
  show X z 0 0 σ 0 [(0, ar this), (1, ai p0), (2, ai p1)] [] _
  unfold f_X12_fails
  refine x_aload_n C 0 (i := 0) (k0 := 0) rfl rfl (by decide +kernel) ?_
  refine x_gI C fl_RX12_175 (fun _ _ _ => rfl) (by decide +kernel) (fun faultKind_1 => ?_)
  refine x_if_le C (tgt := 8) (off := 4) (by decide) (by decide +kernel) (fun h4 => ?_) (fun h4 => ?_)
  · skip
    refine x_aload_n C 0 (i := 0) (k0 := 0) rfl rfl (by decide +kernel) ?_
    refine x_iload_n C 1 (i := 1) (k0 := 1) rfl rfl (by decide +kernel) ?_
    refine x_pI C fl_RX12_175 rfl (fun q h => by cases h; rfl) (by decide +kernel) (fun σ2 => ?_)
    refine x_aload_n C 0 (i := 0) (k0 := 0) rfl rfl (by decide +kernel) ?_
    refine x_iload_n C 2 (i := 2) (k0 := 2) rfl rfl (by decide +kernel) ?_
    refine x_pI C fl_RX12_16 rfl (fun q h => by cases h; rfl) (by decide +kernel) (fun σ3 => ?_)
    exact x_vret C ⟨Nat.zero_le _, Nat.zero_le _⟩ (by decide +kernel)
  · skip
    exact x_vret C ⟨Nat.zero_le _, Nat.zero_le _⟩ (by decide +kernel)

def rm_X12_isGood : Room := { frames := 0, cells := 0, slots := 0, locals := 0 }
def f_X12_isGood (N : Nat) (σ : St) (this : Nat) : Option (St × Int) :=
 Option.bind (gI shm σ 12 this 4) fun faultKind_1 =>
 (if wr faultKind_1 = 0 then some (σ, 1) else some (σ, 0))
set_option maxRecDepth 100000 in
set_option maxHeartbeats 4000000 in
theorem c_X12_isGood (l : Launch) (D : va_G) (ca : Nat → ClassId) (ra : Nat → Nat) (N : Nat) (σ : St) (this : Nat) : Ctr l (D, ca, ra, shm) false yX12_isGood cX12_isGood 1 (some .boolean) rm_X12_isGood σ [ar this] (f_X12_isGood N σ this) := by
  refine ctr_of (by decide) (Nat.le_of_ble_eq_true rfl) (fun z C => ?_)
  show X z 0 0 σ 0 [(0, ar this)] [] _
  unfold f_X12_isGood
  refine x_aload_n C 0 (i := 0) (k0 := 0) rfl rfl (by decide +kernel) ?_
  refine x_gI C fl_RX12_175 (fun _ _ _ => rfl) (by decide +kernel) (fun faultKind_1 => ?_)
  refine x_if_ne C (tgt := 11) (off := 7) (by decide) (by decide +kernel) (fun h2 => ?_) (fun h2 => ?_)
  · skip
    refine x_iconst C (n := 0) (by decide +kernel) ?_
    exact x_zret C (Or.inl rfl) ⟨Nat.zero_le _, Nat.zero_le _⟩ (by decide +kernel)
  · skip
    refine x_iconst C (n := 1) (by decide +kernel) ?_
    refine x_goto C (tgt := 12) (off := 4) (by decide) (by decide +kernel) ?_
    exact x_zret C (Or.inr rfl) ⟨Nat.zero_le _, Nat.zero_le _⟩ (by decide +kernel)
theorem p_X12_isGood (N : Nat) (σ : St) (this : Nat) : Pu σ (f_X12_isGood N σ this) := by
  unfold f_X12_isGood
  refine pu_bind (fun _ => ?_)
  refine pu_ifs ?_ ?_
  · skip
    exact pu_some
  · skip
    exact pu_some

def rm_X12_isKept : Room := { frames := 0, cells := 0, slots := 0, locals := 0 }
def f_X12_isKept (N : Nat) (σ : St) (p0 : Int) : Option (St × Int) :=
 Jn (fun t1 : Int => Jn (fun t2 : Int => (if wr t1 = 0 then (if wr t2 = 0 then (if wl p0 = wl 1818324580 then some (σ, 1) else (if wl p0 = wl 1668248436 then some (σ, 1) else (if wl p0 = wl 470020945000 then some (σ, 1) else (if wl p0 = wl 1870030194 then some (σ, 1) else (if wl p0 = wl 113741193899620 then some (σ, 1) else (if wl p0 = wl 1752135026 then some (σ, 1) else (if wl p0 = wl 495806932324 then some (σ, 1) else (if wl p0 = wl 27419012906970725 then some (σ, 1) else (if wl p0 = wl 495673374574 then some (σ, 1) else (if wl p0 = wl 122545758368371 then some (σ, 1) else (if wl p0 = wl 482955846501 then some (σ, 1) else some (σ, 0)))))))))))) else some (σ, 1)) else some (σ, 1))) fun J195_15 =>
 Jn (fun t17 : Unit => J195_15 1) fun J190_17 =>
 (if wl p0 = wl 24948 then J190_17 () else (if wl p0 = wl 448545973363 then J190_17 () else (if wl p0 = wl 7499639 then J190_17 () else (if wl p0 = wl 495672455781 then J190_17 () else (if wl p0 = wl 465557354085 then J190_17 () else (if wl p0 = wl 6712441 then J190_17 () else (if wl p0 = wl 1801807216 then J190_17 () else (if wl p0 = wl 2003330414 then J190_17 () else (if wl p0 = wl 6385252 then J190_17 () else (if wl p0 = wl 28530 then J190_17 () else (if wl p0 = wl 7237492 then J190_17 () else J195_15 0)))))))))))) fun J101_29 =>
 Jn (fun t31 : Unit => J101_29 1) fun J96_31 =>
 (if wl p0 = wl 1885434484 then J96_31 () else (if wl p0 = wl 25209 then J96_31 () else (if wl p0 = wl 1819242087 then J96_31 () else (if wl p0 = wl 25453 then J96_31 () else (if wl p0 = wl 1768842088 then J96_31 () else (if wl p0 = wl 444301539187 then J96_31 () else (if wl p0 = wl 427071599731 then J96_31 () else (if wl p0 = wl 1785686382 then J96_31 () else (if wl p0 = wl 6775152 then J96_31 () else (if wl p0 = wl 470021465459 then J96_31 () else (if wl p0 = wl 418330731890 then J96_31 () else (if wl p0 = wl 1952542315 then J96_31 () else J101_29 0))))))))))))
set_option maxRecDepth 100000 in
set_option maxHeartbeats 4000000 in
theorem c_X12_isKept (l : Launch) (D : va_G) (ca : Nat → ClassId) (ra : Nat → Nat) (N : Nat) (σ : St) (p0 : Int) : Ctr l (D, ca, ra, shm) false yX12_isKept cX12_isKept 4 (some .boolean) rm_X12_isKept σ [al p0] (f_X12_isKept N σ p0) := by
  refine ctr_of (by decide) (Nat.le_of_ble_eq_true rfl) (fun z C => ?_)
  show X z 0 0 σ 0 [(0, al p0)] [] _
  unfold f_X12_isKept
  refine x_lload_n C 0 (i := 0) (k0 := 0) rfl rfl (by decide +kernel) ?_
  refine x_ldc2 C (n := 1885434484) (v := 1885434484) kl_RX12_178 (by decide +kernel) (by decide +kernel) ?_
  refine x_join (T := Int) (fun t => σ) 101 (fun t => [(0, al p0)]) (fun t => [ai t]) (fun t1 => ?_) (fun J101_29 hJ101_29 => ?_)
  · show X z 0 0 σ 101 [(0, al p0)] [ai t1] _
    refine x_istore_n C (i := 2) (k0 := 2) rfl (Nat.le_of_ble_eq_true rfl) (by decide +kernel) (lv2 := [(2, ai t1), (0, al p0)]) rfl ?_
    refine x_lload_n C 1 (i := 0) (k0 := 0) rfl rfl (by decide +kernel) ?_
    refine x_ldc2 C (n := 24948) (v := 24948) kl_RX12_202 (by decide +kernel) (by decide +kernel) ?_
    refine x_join (T := Int) (fun t => σ) 195 (fun t => [(0, al p0), (2, ai t1)]) (fun t => [ai t]) (fun t2 => ?_) (fun J195_15 hJ195_15 => ?_)
    · show X z 0 0 σ 195 [(0, al p0), (2, ai t1)] [ai t2] _
      refine x_istore_n C (i := 3) (k0 := 3) rfl (Nat.le_of_ble_eq_true rfl) (by decide +kernel) (lv2 := [(3, ai t2), (0, al p0), (2, ai t1)]) rfl ?_
      refine x_iload_n C 2 (i := 2) (k0 := 2) rfl rfl (by decide +kernel) ?_
      refine x_if_ne C (tgt := 292) (off := 95) (by decide) (by decide +kernel) (fun h15 => ?_) (fun h15 => ?_)
      · skip
        refine x_iconst C (n := 1) (by decide +kernel) ?_
        refine x_goto C (tgt := 297) (off := 4) (by decide) (by decide +kernel) ?_
        exact x_zret C (Or.inr rfl) ⟨Nat.zero_le _, Nat.zero_le _⟩ (by decide +kernel)
      · skip
        refine x_iload_n C 0 (i := 3) (k0 := 3) rfl rfl (by decide +kernel) ?_
        refine x_if_ne C (tgt := 292) (off := 91) (by decide) (by decide +kernel) (fun h14 => ?_) (fun h14 => ?_)
        · skip
          refine x_iconst C (n := 1) (by decide +kernel) ?_
          refine x_goto C (tgt := 297) (off := 4) (by decide) (by decide +kernel) ?_
          exact x_zret C (Or.inr rfl) ⟨Nat.zero_le _, Nat.zero_le _⟩ (by decide +kernel)
        · skip
          refine x_lload_n C 1 (i := 0) (k0 := 0) rfl rfl (by decide +kernel) ?_
          refine x_ldc2 C (n := 1818324580) (v := 1818324580) kl_RX12_224 (by decide +kernel) (by decide +kernel) ?_
          refine x_lcmp_eq C (tgt := 292) (off := 83) (by decide) (by decide +kernel) (by decide +kernel) (fun h13 => ?_) (fun h13 => ?_)
          · skip
            refine x_iconst C (n := 1) (by decide +kernel) ?_
            refine x_goto C (tgt := 297) (off := 4) (by decide) (by decide +kernel) ?_
            exact x_zret C (Or.inr rfl) ⟨Nat.zero_le _, Nat.zero_le _⟩ (by decide +kernel)
          · skip
            refine x_lload_n C 1 (i := 0) (k0 := 0) rfl rfl (by decide +kernel) ?_
            refine x_ldc2 C (n := 1668248436) (v := 1668248436) kl_RX12_226 (by decide +kernel) (by decide +kernel) ?_
            refine x_lcmp_eq C (tgt := 292) (off := 75) (by decide) (by decide +kernel) (by decide +kernel) (fun h12 => ?_) (fun h12 => ?_)
            · skip
              refine x_iconst C (n := 1) (by decide +kernel) ?_
              refine x_goto C (tgt := 297) (off := 4) (by decide) (by decide +kernel) ?_
              exact x_zret C (Or.inr rfl) ⟨Nat.zero_le _, Nat.zero_le _⟩ (by decide +kernel)
            · skip
              refine x_lload_n C 1 (i := 0) (k0 := 0) rfl rfl (by decide +kernel) ?_
              refine x_ldc2 C (n := 470020945000) (v := 470020945000) kl_RX12_228 (by decide +kernel) (by decide +kernel) ?_
              refine x_lcmp_eq C (tgt := 292) (off := 67) (by decide) (by decide +kernel) (by decide +kernel) (fun h11 => ?_) (fun h11 => ?_)
              · skip
                refine x_iconst C (n := 1) (by decide +kernel) ?_
                refine x_goto C (tgt := 297) (off := 4) (by decide) (by decide +kernel) ?_
                exact x_zret C (Or.inr rfl) ⟨Nat.zero_le _, Nat.zero_le _⟩ (by decide +kernel)
              · skip
                refine x_lload_n C 1 (i := 0) (k0 := 0) rfl rfl (by decide +kernel) ?_
                refine x_ldc2 C (n := 1870030194) (v := 1870030194) kl_RX12_230 (by decide +kernel) (by decide +kernel) ?_
                refine x_lcmp_eq C (tgt := 292) (off := 59) (by decide) (by decide +kernel) (by decide +kernel) (fun h10 => ?_) (fun h10 => ?_)
                · skip
                  refine x_iconst C (n := 1) (by decide +kernel) ?_
                  refine x_goto C (tgt := 297) (off := 4) (by decide) (by decide +kernel) ?_
                  exact x_zret C (Or.inr rfl) ⟨Nat.zero_le _, Nat.zero_le _⟩ (by decide +kernel)
                · skip
                  refine x_lload_n C 1 (i := 0) (k0 := 0) rfl rfl (by decide +kernel) ?_
                  refine x_ldc2 C (n := 113741193899620) (v := 113741193899620) kl_RX12_232 (by decide +kernel) (by decide +kernel) ?_
                  refine x_lcmp_eq C (tgt := 292) (off := 51) (by decide) (by decide +kernel) (by decide +kernel) (fun h9 => ?_) (fun h9 => ?_)
                  · skip
                    refine x_iconst C (n := 1) (by decide +kernel) ?_
                    refine x_goto C (tgt := 297) (off := 4) (by decide) (by decide +kernel) ?_
                    exact x_zret C (Or.inr rfl) ⟨Nat.zero_le _, Nat.zero_le _⟩ (by decide +kernel)
                  · skip
                    refine x_lload_n C 1 (i := 0) (k0 := 0) rfl rfl (by decide +kernel) ?_
                    refine x_ldc2 C (n := 1752135026) (v := 1752135026) kl_RX12_234 (by decide +kernel) (by decide +kernel) ?_
                    refine x_lcmp_eq C (tgt := 292) (off := 43) (by decide) (by decide +kernel) (by decide +kernel) (fun h8 => ?_) (fun h8 => ?_)
                    · skip
                      refine x_iconst C (n := 1) (by decide +kernel) ?_
                      refine x_goto C (tgt := 297) (off := 4) (by decide) (by decide +kernel) ?_
                      exact x_zret C (Or.inr rfl) ⟨Nat.zero_le _, Nat.zero_le _⟩ (by decide +kernel)
                    · skip
                      refine x_lload_n C 1 (i := 0) (k0 := 0) rfl rfl (by decide +kernel) ?_
                      refine x_ldc2 C (n := 495806932324) (v := 495806932324) kl_RX12_236 (by decide +kernel) (by decide +kernel) ?_
                      refine x_lcmp_eq C (tgt := 292) (off := 35) (by decide) (by decide +kernel) (by decide +kernel) (fun h7 => ?_) (fun h7 => ?_)
                      · skip
                        refine x_iconst C (n := 1) (by decide +kernel) ?_
                        refine x_goto C (tgt := 297) (off := 4) (by decide) (by decide +kernel) ?_
                        exact x_zret C (Or.inr rfl) ⟨Nat.zero_le _, Nat.zero_le _⟩ (by decide +kernel)
                      · skip
                        refine x_lload_n C 1 (i := 0) (k0 := 0) rfl rfl (by decide +kernel) ?_
                        refine x_ldc2 C (n := 27419012906970725) (v := 27419012906970725) kl_RX12_238 (by decide +kernel) (by decide +kernel) ?_
                        refine x_lcmp_eq C (tgt := 292) (off := 27) (by decide) (by decide +kernel) (by decide +kernel) (fun h6 => ?_) (fun h6 => ?_)
                        · skip
                          refine x_iconst C (n := 1) (by decide +kernel) ?_
                          refine x_goto C (tgt := 297) (off := 4) (by decide) (by decide +kernel) ?_
                          exact x_zret C (Or.inr rfl) ⟨Nat.zero_le _, Nat.zero_le _⟩ (by decide +kernel)
                        · skip
                          refine x_lload_n C 1 (i := 0) (k0 := 0) rfl rfl (by decide +kernel) ?_
                          refine x_ldc2 C (n := 495673374574) (v := 495673374574) kl_RX12_240 (by decide +kernel) (by decide +kernel) ?_
                          refine x_lcmp_eq C (tgt := 292) (off := 19) (by decide) (by decide +kernel) (by decide +kernel) (fun h5 => ?_) (fun h5 => ?_)
                          · skip
                            refine x_iconst C (n := 1) (by decide +kernel) ?_
                            refine x_goto C (tgt := 297) (off := 4) (by decide) (by decide +kernel) ?_
                            exact x_zret C (Or.inr rfl) ⟨Nat.zero_le _, Nat.zero_le _⟩ (by decide +kernel)
                          · skip
                            refine x_lload_n C 1 (i := 0) (k0 := 0) rfl rfl (by decide +kernel) ?_
                            refine x_ldc2 C (n := 122545758368371) (v := 122545758368371) kl_RX12_242 (by decide +kernel) (by decide +kernel) ?_
                            refine x_lcmp_eq C (tgt := 292) (off := 11) (by decide) (by decide +kernel) (by decide +kernel) (fun h4 => ?_) (fun h4 => ?_)
                            · skip
                              refine x_iconst C (n := 1) (by decide +kernel) ?_
                              refine x_goto C (tgt := 297) (off := 4) (by decide) (by decide +kernel) ?_
                              exact x_zret C (Or.inr rfl) ⟨Nat.zero_le _, Nat.zero_le _⟩ (by decide +kernel)
                            · skip
                              refine x_lload_n C 1 (i := 0) (k0 := 0) rfl rfl (by decide +kernel) ?_
                              refine x_ldc2 C (n := 482955846501) (v := 482955846501) kl_RX12_244 (by decide +kernel) (by decide +kernel) ?_
                              refine x_lcmp_ne C (tgt := 296) (off := 7) (by decide) (by decide +kernel) (by decide +kernel) (fun h3 => ?_) (fun h3 => ?_)
                              · skip
                                refine x_iconst C (n := 0) (by decide +kernel) ?_
                                exact x_zret C (Or.inl rfl) ⟨Nat.zero_le _, Nat.zero_le _⟩ (by decide +kernel)
                              · skip
                                refine x_iconst C (n := 1) (by decide +kernel) ?_
                                refine x_goto C (tgt := 297) (off := 4) (by decide) (by decide +kernel) ?_
                                exact x_zret C (Or.inr rfl) ⟨Nat.zero_le _, Nat.zero_le _⟩ (by decide +kernel)
    · skip
      refine x_join (T := Unit) (fun t => σ) 190 (fun t => [(0, al p0), (2, ai t1)]) (fun t => []) (fun t17 => ?_) (fun J190_17 hJ190_17 => ?_)
      · show X z 0 0 σ 190 [(0, al p0), (2, ai t1)] [] _
        refine x_iconst C (n := 1) (by decide +kernel) ?_
        refine x_goto C (tgt := 195) (off := 4) (by decide) (by decide +kernel) ?_
        exact hJ195_15 1
      · skip
        refine x_lcmp_eq C (tgt := 190) (off := 83) (by decide) (by decide +kernel) (by decide +kernel) (fun h29 => ?_) (fun h29 => ?_)
        · skip
          refine x_sub [1, 0] (lv2 := [(0, al p0), (2, ai t1)]) rfl ?_
          exact hJ190_17 ()
        · skip
          refine x_lload_n C 1 (i := 0) (k0 := 0) rfl rfl (by decide +kernel) ?_
          refine x_ldc2 C (n := 448545973363) (v := 448545973363) kl_RX12_204 (by decide +kernel) (by decide +kernel) ?_
          refine x_lcmp_eq C (tgt := 190) (off := 75) (by decide) (by decide +kernel) (by decide +kernel) (fun h28 => ?_) (fun h28 => ?_)
          · skip
            refine x_sub [1, 0] (lv2 := [(0, al p0), (2, ai t1)]) rfl ?_
            exact hJ190_17 ()
          · skip
            refine x_lload_n C 1 (i := 0) (k0 := 0) rfl rfl (by decide +kernel) ?_
            refine x_ldc2 C (n := 7499639) (v := 7499639) kl_RX12_206 (by decide +kernel) (by decide +kernel) ?_
            refine x_lcmp_eq C (tgt := 190) (off := 67) (by decide) (by decide +kernel) (by decide +kernel) (fun h27 => ?_) (fun h27 => ?_)
            · skip
              refine x_sub [1, 0] (lv2 := [(0, al p0), (2, ai t1)]) rfl ?_
              exact hJ190_17 ()
            · skip
              refine x_lload_n C 1 (i := 0) (k0 := 0) rfl rfl (by decide +kernel) ?_
              refine x_ldc2 C (n := 495672455781) (v := 495672455781) kl_RX12_208 (by decide +kernel) (by decide +kernel) ?_
              refine x_lcmp_eq C (tgt := 190) (off := 59) (by decide) (by decide +kernel) (by decide +kernel) (fun h26 => ?_) (fun h26 => ?_)
              · skip
                refine x_sub [1, 0] (lv2 := [(0, al p0), (2, ai t1)]) rfl ?_
                exact hJ190_17 ()
              · skip
                refine x_lload_n C 1 (i := 0) (k0 := 0) rfl rfl (by decide +kernel) ?_
                refine x_ldc2 C (n := 465557354085) (v := 465557354085) kl_RX12_210 (by decide +kernel) (by decide +kernel) ?_
                refine x_lcmp_eq C (tgt := 190) (off := 51) (by decide) (by decide +kernel) (by decide +kernel) (fun h25 => ?_) (fun h25 => ?_)
                · skip
                  refine x_sub [1, 0] (lv2 := [(0, al p0), (2, ai t1)]) rfl ?_
                  exact hJ190_17 ()
                · skip
                  refine x_lload_n C 1 (i := 0) (k0 := 0) rfl rfl (by decide +kernel) ?_
                  refine x_ldc2 C (n := 6712441) (v := 6712441) kl_RX12_212 (by decide +kernel) (by decide +kernel) ?_
                  refine x_lcmp_eq C (tgt := 190) (off := 43) (by decide) (by decide +kernel) (by decide +kernel) (fun h24 => ?_) (fun h24 => ?_)
                  · skip
                    refine x_sub [1, 0] (lv2 := [(0, al p0), (2, ai t1)]) rfl ?_
                    exact hJ190_17 ()
                  · skip
                    refine x_lload_n C 1 (i := 0) (k0 := 0) rfl rfl (by decide +kernel) ?_
                    refine x_ldc2 C (n := 1801807216) (v := 1801807216) kl_RX12_214 (by decide +kernel) (by decide +kernel) ?_
                    refine x_lcmp_eq C (tgt := 190) (off := 35) (by decide) (by decide +kernel) (by decide +kernel) (fun h23 => ?_) (fun h23 => ?_)
                    · skip
                      refine x_sub [1, 0] (lv2 := [(0, al p0), (2, ai t1)]) rfl ?_
                      exact hJ190_17 ()
                    · skip
                      refine x_lload_n C 1 (i := 0) (k0 := 0) rfl rfl (by decide +kernel) ?_
                      refine x_ldc2 C (n := 2003330414) (v := 2003330414) kl_RX12_216 (by decide +kernel) (by decide +kernel) ?_
                      refine x_lcmp_eq C (tgt := 190) (off := 27) (by decide) (by decide +kernel) (by decide +kernel) (fun h22 => ?_) (fun h22 => ?_)
                      · skip
                        refine x_sub [1, 0] (lv2 := [(0, al p0), (2, ai t1)]) rfl ?_
                        exact hJ190_17 ()
                      · skip
                        refine x_lload_n C 1 (i := 0) (k0 := 0) rfl rfl (by decide +kernel) ?_
                        refine x_ldc2 C (n := 6385252) (v := 6385252) kl_RX12_218 (by decide +kernel) (by decide +kernel) ?_
                        refine x_lcmp_eq C (tgt := 190) (off := 19) (by decide) (by decide +kernel) (by decide +kernel) (fun h21 => ?_) (fun h21 => ?_)
                        · skip
                          refine x_sub [1, 0] (lv2 := [(0, al p0), (2, ai t1)]) rfl ?_
                          exact hJ190_17 ()
                        · skip
                          refine x_lload_n C 1 (i := 0) (k0 := 0) rfl rfl (by decide +kernel) ?_
                          refine x_ldc2 C (n := 28530) (v := 28530) kl_RX12_220 (by decide +kernel) (by decide +kernel) ?_
                          refine x_lcmp_eq C (tgt := 190) (off := 11) (by decide) (by decide +kernel) (by decide +kernel) (fun h20 => ?_) (fun h20 => ?_)
                          · skip
                            refine x_sub [1, 0] (lv2 := [(0, al p0), (2, ai t1)]) rfl ?_
                            exact hJ190_17 ()
                          · skip
                            refine x_lload_n C 1 (i := 0) (k0 := 0) rfl rfl (by decide +kernel) ?_
                            refine x_ldc2 C (n := 7237492) (v := 7237492) kl_RX12_222 (by decide +kernel) (by decide +kernel) ?_
                            refine x_lcmp_ne C (tgt := 194) (off := 7) (by decide) (by decide +kernel) (by decide +kernel) (fun h19 => ?_) (fun h19 => ?_)
                            · skip
                              refine x_iconst C (n := 0) (by decide +kernel) ?_
                              refine x_sub [1, 0] (lv2 := [(0, al p0), (2, ai t1)]) rfl ?_
                              exact hJ195_15 0
                            · skip
                              refine x_sub [1, 0] (lv2 := [(0, al p0), (2, ai t1)]) rfl ?_
                              exact hJ190_17 ()
  · skip
    refine x_join (T := Unit) (fun t => σ) 96 (fun t => [(0, al p0)]) (fun t => []) (fun t31 => ?_) (fun J96_31 hJ96_31 => ?_)
    · show X z 0 0 σ 96 [(0, al p0)] [] _
      refine x_iconst C (n := 1) (by decide +kernel) ?_
      refine x_goto C (tgt := 101) (off := 4) (by decide) (by decide +kernel) ?_
      exact hJ101_29 1
    · skip
      refine x_lcmp_eq C (tgt := 96) (off := 91) (by decide) (by decide +kernel) (by decide +kernel) (fun h44 => ?_) (fun h44 => ?_)
      · skip
        exact hJ96_31 ()
      · skip
        refine x_lload_n C 0 (i := 0) (k0 := 0) rfl rfl (by decide +kernel) ?_
        refine x_ldc2 C (n := 25209) (v := 25209) kl_RX12_180 (by decide +kernel) (by decide +kernel) ?_
        refine x_lcmp_eq C (tgt := 96) (off := 83) (by decide) (by decide +kernel) (by decide +kernel) (fun h43 => ?_) (fun h43 => ?_)
        · skip
          exact hJ96_31 ()
        · skip
          refine x_lload_n C 0 (i := 0) (k0 := 0) rfl rfl (by decide +kernel) ?_
          refine x_ldc2 C (n := 1819242087) (v := 1819242087) kl_RX12_182 (by decide +kernel) (by decide +kernel) ?_
          refine x_lcmp_eq C (tgt := 96) (off := 75) (by decide) (by decide +kernel) (by decide +kernel) (fun h42 => ?_) (fun h42 => ?_)
          · skip
            exact hJ96_31 ()
          · skip
            refine x_lload_n C 0 (i := 0) (k0 := 0) rfl rfl (by decide +kernel) ?_
            refine x_ldc2 C (n := 25453) (v := 25453) kl_RX12_184 (by decide +kernel) (by decide +kernel) ?_
            refine x_lcmp_eq C (tgt := 96) (off := 67) (by decide) (by decide +kernel) (by decide +kernel) (fun h41 => ?_) (fun h41 => ?_)
            · skip
              exact hJ96_31 ()
            · skip
              refine x_lload_n C 0 (i := 0) (k0 := 0) rfl rfl (by decide +kernel) ?_
              refine x_ldc2 C (n := 1768842088) (v := 1768842088) kl_RX12_186 (by decide +kernel) (by decide +kernel) ?_
              refine x_lcmp_eq C (tgt := 96) (off := 59) (by decide) (by decide +kernel) (by decide +kernel) (fun h40 => ?_) (fun h40 => ?_)
              · skip
                exact hJ96_31 ()
              · skip
                refine x_lload_n C 0 (i := 0) (k0 := 0) rfl rfl (by decide +kernel) ?_
                refine x_ldc2 C (n := 444301539187) (v := 444301539187) kl_RX12_188 (by decide +kernel) (by decide +kernel) ?_
                refine x_lcmp_eq C (tgt := 96) (off := 51) (by decide) (by decide +kernel) (by decide +kernel) (fun h39 => ?_) (fun h39 => ?_)
                · skip
                  exact hJ96_31 ()
                · skip
                  refine x_lload_n C 0 (i := 0) (k0 := 0) rfl rfl (by decide +kernel) ?_
                  refine x_ldc2 C (n := 427071599731) (v := 427071599731) kl_RX12_190 (by decide +kernel) (by decide +kernel) ?_
                  refine x_lcmp_eq C (tgt := 96) (off := 43) (by decide) (by decide +kernel) (by decide +kernel) (fun h38 => ?_) (fun h38 => ?_)
                  · skip
                    exact hJ96_31 ()
                  · skip
                    refine x_lload_n C 0 (i := 0) (k0 := 0) rfl rfl (by decide +kernel) ?_
                    refine x_ldc2 C (n := 1785686382) (v := 1785686382) kl_RX12_192 (by decide +kernel) (by decide +kernel) ?_
                    refine x_lcmp_eq C (tgt := 96) (off := 35) (by decide) (by decide +kernel) (by decide +kernel) (fun h37 => ?_) (fun h37 => ?_)
                    · skip
                      exact hJ96_31 ()
                    · skip
                      refine x_lload_n C 0 (i := 0) (k0 := 0) rfl rfl (by decide +kernel) ?_
                      refine x_ldc2 C (n := 6775152) (v := 6775152) kl_RX12_194 (by decide +kernel) (by decide +kernel) ?_
                      refine x_lcmp_eq C (tgt := 96) (off := 27) (by decide) (by decide +kernel) (by decide +kernel) (fun h36 => ?_) (fun h36 => ?_)
                      · skip
                        exact hJ96_31 ()
                      · skip
                        refine x_lload_n C 0 (i := 0) (k0 := 0) rfl rfl (by decide +kernel) ?_
                        refine x_ldc2 C (n := 470021465459) (v := 470021465459) kl_RX12_196 (by decide +kernel) (by decide +kernel) ?_
                        refine x_lcmp_eq C (tgt := 96) (off := 19) (by decide) (by decide +kernel) (by decide +kernel) (fun h35 => ?_) (fun h35 => ?_)
                        · skip
                          exact hJ96_31 ()
                        · skip
                          refine x_lload_n C 0 (i := 0) (k0 := 0) rfl rfl (by decide +kernel) ?_
                          refine x_ldc2 C (n := 418330731890) (v := 418330731890) kl_RX12_198 (by decide +kernel) (by decide +kernel) ?_
                          refine x_lcmp_eq C (tgt := 96) (off := 11) (by decide) (by decide +kernel) (by decide +kernel) (fun h34 => ?_) (fun h34 => ?_)
                          · skip
                            exact hJ96_31 ()
                          · skip
                            refine x_lload_n C 0 (i := 0) (k0 := 0) rfl rfl (by decide +kernel) ?_
                            refine x_ldc2 C (n := 1952542315) (v := 1952542315) kl_RX12_200 (by decide +kernel) (by decide +kernel) ?_
                            refine x_lcmp_ne C (tgt := 100) (off := 7) (by decide) (by decide +kernel) (by decide +kernel) (fun h33 => ?_) (fun h33 => ?_)
                            · skip
                              refine x_iconst C (n := 0) (by decide +kernel) ?_
                              exact hJ101_29 0
                            · skip
                              exact hJ96_31 ()
theorem p_X12_isKept (N : Nat) (σ : St) (p0 : Int) : Pu σ (f_X12_isKept N σ p0) := by
  unfold f_X12_isKept
  refine pu_Jn (fun _ => ?_) (fun _ hJ101_29 => ?_)
  · skip
    refine pu_Jn (fun _ => ?_) (fun _ hJ195_15 => ?_)
    · skip
      refine pu_ifs ?_ ?_
      · skip
        exact pu_some
      · skip
        refine pu_ifs ?_ ?_
        · skip
          exact pu_some
        · skip
          refine pu_if ?_ ?_
          · skip
            exact pu_some
          · skip
            refine pu_if ?_ ?_
            · skip
              exact pu_some
            · skip
              refine pu_if ?_ ?_
              · skip
                exact pu_some
              · skip
                refine pu_if ?_ ?_
                · skip
                  exact pu_some
                · skip
                  refine pu_if ?_ ?_
                  · skip
                    exact pu_some
                  · skip
                    refine pu_if ?_ ?_
                    · skip
                      exact pu_some
                    · skip
                      refine pu_if ?_ ?_
                      · skip
                        exact pu_some
                      · skip
                        refine pu_if ?_ ?_
                        · skip
                          exact pu_some
                        · skip
                          refine pu_if ?_ ?_
                          · skip
                            exact pu_some
                          · skip
                            refine pu_if ?_ ?_
                            · skip
                              exact pu_some
                            · skip
                              refine pu_ifs ?_ ?_
                              · skip
                                exact pu_some
                              · skip
                                exact pu_some
    · skip
      refine pu_Jn (fun _ => ?_) (fun _ hJ190_17 => ?_)
      · skip
        exact hJ195_15 _
      · skip
        refine pu_if ?_ ?_
        · skip
          exact hJ190_17 _
        · skip
          refine pu_if ?_ ?_
          · skip
            exact hJ190_17 _
          · skip
            refine pu_if ?_ ?_
            · skip
              exact hJ190_17 _
            · skip
              refine pu_if ?_ ?_
              · skip
                exact hJ190_17 _
              · skip
                refine pu_if ?_ ?_
                · skip
                  exact hJ190_17 _
                · skip
                  refine pu_if ?_ ?_
                  · skip
                    exact hJ190_17 _
                  · skip
                    refine pu_if ?_ ?_
                    · skip
                      exact hJ190_17 _
                    · skip
                      refine pu_if ?_ ?_
                      · skip
                        exact hJ190_17 _
                      · skip
                        refine pu_if ?_ ?_
                        · skip
                          exact hJ190_17 _
                        · skip
                          refine pu_if ?_ ?_
                          · skip
                            exact hJ190_17 _
                          · skip
                            refine pu_ifs ?_ ?_
                            · skip
                              exact hJ195_15 _
                            · skip
                              exact hJ190_17 _
  · skip
    refine pu_Jn (fun _ => ?_) (fun _ hJ96_31 => ?_)
    · skip
      exact hJ101_29 _
    · skip
      refine pu_if ?_ ?_
      · skip
        exact hJ96_31 _
      · skip
        refine pu_if ?_ ?_
        · skip
          exact hJ96_31 _
        · skip
          refine pu_if ?_ ?_
          · skip
            exact hJ96_31 _
          · skip
            refine pu_if ?_ ?_
            · skip
              exact hJ96_31 _
            · skip
              refine pu_if ?_ ?_
              · skip
                exact hJ96_31 _
              · skip
                refine pu_if ?_ ?_
                · skip
                  exact hJ96_31 _
                · skip
                  refine pu_if ?_ ?_
                  · skip
                    exact hJ96_31 _
                  · skip
                    refine pu_if ?_ ?_
                    · skip
                      exact hJ96_31 _
                    · skip
                      refine pu_if ?_ ?_
                      · skip
                        exact hJ96_31 _
                      · skip
                        refine pu_if ?_ ?_
                        · skip
                          exact hJ96_31 _
                        · skip
                          refine pu_if ?_ ?_
                          · skip
                            exact hJ96_31 _
                          · skip
                            refine pu_ifs ?_ ?_
                            · skip
                              exact hJ101_29 _
                            · skip
                              exact hJ96_31 _

def rm_X12_isSign : Room := { frames := 0, cells := 0, slots := 0, locals := 0 }
def f_X12_isSign (N : Nat) (σ : St) (p0 : Int) : Option (St × Int) :=
 (if wr p0 = wr 59 then some (σ, 1) else (if wr p0 = wr 40 then some (σ, 1) else (if wr p0 = wr 41 then some (σ, 1) else (if wr p0 = wr 60 then some (σ, 1) else (if wr p0 = wr 62 then some (σ, 1) else (if wr p0 = wr 61 then some (σ, 1) else (if wr p0 = wr 43 then some (σ, 1) else (if wr p0 = wr 45 then some (σ, 1) else (if wr p0 = wr 42 then some (σ, 1) else some (σ, 0))))))))))
set_option maxRecDepth 100000 in
set_option maxHeartbeats 4000000 in
theorem c_X12_isSign (l : Launch) (D : va_G) (ca : Nat → ClassId) (ra : Nat → Nat) (N : Nat) (σ : St) (p0 : Int) : Ctr l (D, ca, ra, shm) false yX12_isSign cX12_isSign 1 (some .boolean) rm_X12_isSign σ [ai p0] (f_X12_isSign N σ p0) := by
  refine ctr_of (by decide) (Nat.le_of_ble_eq_true rfl) (fun z C => ?_)
  show X z 0 0 σ 0 [(0, ai p0)] [] _
  unfold f_X12_isSign
  refine x_iload_n C 0 (i := 0) (k0 := 0) rfl rfl (by decide +kernel) ?_
  refine x_bipush C (n := 59) (by decide +kernel) (by decide +kernel) ?_
  refine x_ic_eq C (tgt := 54) (off := 51) (by decide) (by decide +kernel) (fun h9 => ?_) (fun h9 => ?_)
  · skip
    refine x_iconst C (n := 1) (by decide +kernel) ?_
    refine x_goto C (tgt := 59) (off := 4) (by decide) (by decide +kernel) ?_
    exact x_zret C (Or.inr rfl) ⟨Nat.zero_le _, Nat.zero_le _⟩ (by decide +kernel)
  · skip
    refine x_iload_n C 0 (i := 0) (k0 := 0) rfl rfl (by decide +kernel) ?_
    refine x_bipush C (n := 40) (by decide +kernel) (by decide +kernel) ?_
    refine x_ic_eq C (tgt := 54) (off := 45) (by decide) (by decide +kernel) (fun h8 => ?_) (fun h8 => ?_)
    · skip
      refine x_iconst C (n := 1) (by decide +kernel) ?_
      refine x_goto C (tgt := 59) (off := 4) (by decide) (by decide +kernel) ?_
      exact x_zret C (Or.inr rfl) ⟨Nat.zero_le _, Nat.zero_le _⟩ (by decide +kernel)
    · skip
      refine x_iload_n C 0 (i := 0) (k0 := 0) rfl rfl (by decide +kernel) ?_
      refine x_bipush C (n := 41) (by decide +kernel) (by decide +kernel) ?_
      refine x_ic_eq C (tgt := 54) (off := 39) (by decide) (by decide +kernel) (fun h7 => ?_) (fun h7 => ?_)
      · skip
        refine x_iconst C (n := 1) (by decide +kernel) ?_
        refine x_goto C (tgt := 59) (off := 4) (by decide) (by decide +kernel) ?_
        exact x_zret C (Or.inr rfl) ⟨Nat.zero_le _, Nat.zero_le _⟩ (by decide +kernel)
      · skip
        refine x_iload_n C 0 (i := 0) (k0 := 0) rfl rfl (by decide +kernel) ?_
        refine x_bipush C (n := 60) (by decide +kernel) (by decide +kernel) ?_
        refine x_ic_eq C (tgt := 54) (off := 33) (by decide) (by decide +kernel) (fun h6 => ?_) (fun h6 => ?_)
        · skip
          refine x_iconst C (n := 1) (by decide +kernel) ?_
          refine x_goto C (tgt := 59) (off := 4) (by decide) (by decide +kernel) ?_
          exact x_zret C (Or.inr rfl) ⟨Nat.zero_le _, Nat.zero_le _⟩ (by decide +kernel)
        · skip
          refine x_iload_n C 0 (i := 0) (k0 := 0) rfl rfl (by decide +kernel) ?_
          refine x_bipush C (n := 62) (by decide +kernel) (by decide +kernel) ?_
          refine x_ic_eq C (tgt := 54) (off := 27) (by decide) (by decide +kernel) (fun h5 => ?_) (fun h5 => ?_)
          · skip
            refine x_iconst C (n := 1) (by decide +kernel) ?_
            refine x_goto C (tgt := 59) (off := 4) (by decide) (by decide +kernel) ?_
            exact x_zret C (Or.inr rfl) ⟨Nat.zero_le _, Nat.zero_le _⟩ (by decide +kernel)
          · skip
            refine x_iload_n C 0 (i := 0) (k0 := 0) rfl rfl (by decide +kernel) ?_
            refine x_bipush C (n := 61) (by decide +kernel) (by decide +kernel) ?_
            refine x_ic_eq C (tgt := 54) (off := 21) (by decide) (by decide +kernel) (fun h4 => ?_) (fun h4 => ?_)
            · skip
              refine x_iconst C (n := 1) (by decide +kernel) ?_
              refine x_goto C (tgt := 59) (off := 4) (by decide) (by decide +kernel) ?_
              exact x_zret C (Or.inr rfl) ⟨Nat.zero_le _, Nat.zero_le _⟩ (by decide +kernel)
            · skip
              refine x_iload_n C 0 (i := 0) (k0 := 0) rfl rfl (by decide +kernel) ?_
              refine x_bipush C (n := 43) (by decide +kernel) (by decide +kernel) ?_
              refine x_ic_eq C (tgt := 54) (off := 15) (by decide) (by decide +kernel) (fun h3 => ?_) (fun h3 => ?_)
              · skip
                refine x_iconst C (n := 1) (by decide +kernel) ?_
                refine x_goto C (tgt := 59) (off := 4) (by decide) (by decide +kernel) ?_
                exact x_zret C (Or.inr rfl) ⟨Nat.zero_le _, Nat.zero_le _⟩ (by decide +kernel)
              · skip
                refine x_iload_n C 0 (i := 0) (k0 := 0) rfl rfl (by decide +kernel) ?_
                refine x_bipush C (n := 45) (by decide +kernel) (by decide +kernel) ?_
                refine x_ic_eq C (tgt := 54) (off := 9) (by decide) (by decide +kernel) (fun h2 => ?_) (fun h2 => ?_)
                · skip
                  refine x_iconst C (n := 1) (by decide +kernel) ?_
                  refine x_goto C (tgt := 59) (off := 4) (by decide) (by decide +kernel) ?_
                  exact x_zret C (Or.inr rfl) ⟨Nat.zero_le _, Nat.zero_le _⟩ (by decide +kernel)
                · skip
                  refine x_iload_n C 0 (i := 0) (k0 := 0) rfl rfl (by decide +kernel) ?_
                  refine x_bipush C (n := 42) (by decide +kernel) (by decide +kernel) ?_
                  refine x_ic_ne C (tgt := 58) (off := 7) (by decide) (by decide +kernel) (fun h1 => ?_) (fun h1 => ?_)
                  · skip
                    refine x_iconst C (n := 0) (by decide +kernel) ?_
                    exact x_zret C (Or.inl rfl) ⟨Nat.zero_le _, Nat.zero_le _⟩ (by decide +kernel)
                  · skip
                    refine x_iconst C (n := 1) (by decide +kernel) ?_
                    refine x_goto C (tgt := 59) (off := 4) (by decide) (by decide +kernel) ?_
                    exact x_zret C (Or.inr rfl) ⟨Nat.zero_le _, Nat.zero_le _⟩ (by decide +kernel)
theorem p_X12_isSign (N : Nat) (σ : St) (p0 : Int) : Pu σ (f_X12_isSign N σ p0) := by
  unfold f_X12_isSign
  refine pu_if ?_ ?_
  · skip
    exact pu_some
  · skip
    refine pu_if ?_ ?_
    · skip
      exact pu_some
    · skip
      refine pu_if ?_ ?_
      · skip
        exact pu_some
      · skip
        refine pu_if ?_ ?_
        · skip
          exact pu_some
        · skip
          refine pu_if ?_ ?_
          · skip
            exact pu_some
          · skip
            refine pu_if ?_ ?_
            · skip
              exact pu_some
            · skip
              refine pu_if ?_ ?_
              · skip
                exact pu_some
              · skip
                refine pu_if ?_ ?_
                · skip
                  exact pu_some
                · skip
                  refine pu_ifs ?_ ?_
                  · skip
                    exact pu_some
                  · skip
                    exact pu_some

def L_X12_next_259 (N : Nat) (this : Nat) (J322_32 : (St → Option (St × Int))) : St → Option (St × Int) := fixN N fun b259_34 t34 =>
 Option.bind (gI shm t34 12 this 7) fun end_36 =>
 Option.bind (rcv shm t34 12 this (f_X12_sign N t34 this end_36)) fun q37 =>
 Option.bind (f_X12_isDigit N t34 q37.2) fun q38 =>
 (if wr q38.2 = 0 then J322_32 t34 else Option.bind (gI shm t34 12 this 7) fun end_39 =>
 Option.bind (gI shm t34 12 this 6) fun at_40 =>
 Jn (fun t41 : St => Option.bind (gI shm t41 12 this 7) fun end_42 =>
 Option.bind (pI shm t41 12 this 7 (end_42 + 1)) fun σ43 =>
 b259_34 σ43) fun J309_43 =>
 (if wr (end_39 - at_40) < wr 4 then Option.bind (gI shm t34 12 this 9) fun number_45 =>
 Option.bind (gI shm t34 12 this 7) fun end_46 =>
 Option.bind (rcv shm t34 12 this (f_X12_sign N t34 this end_46)) fun q47 =>
 Option.bind (pI shm t34 12 this 9 (((10 * number_45) + q47.2) - 48)) fun σ48 =>
 J309_43 σ48 else J309_43 t34))
def L_X12_next_156 (N : Nat) (this : Nat) (J199_64 : (St → Option (St × Int))) : (St × Int) → Option (St × Int) := fixN N fun b156_66 t66 =>
 Option.bind (gI shm t66.1 12 this 7) fun end_68 =>
 (if wr t66.2 < wr end_68 then Option.bind (gI shm t66.1 12 this 6) fun at_69 =>
 (if wr t66.2 < wr (at_69 + 8) then Option.bind (gI shm t66.1 12 this 10) fun name_70 =>
 Option.bind (rcv shm t66.1 12 this (f_X12_sign N t66.1 this t66.2)) fun q71 =>
 Option.bind (pI shm t66.1 12 this 10 (lorZ (lshlZ name_70 8) (wr q71.2))) fun σ72 =>
 Lt (t66.2 + 1) fun x73 =>
 b156_66 (σ72, x73) else J199_64 t66.1) else J199_64 t66.1)
def L_X12_next_119 (N : Nat) (this : Nat) (J146_75 : (St → Option (St × Int))) : St → Option (St × Int) := fixN N fun b119_77 t77 =>
 Option.bind (gI shm t77 12 this 7) fun end_79 =>
 Option.bind (rcv shm t77 12 this (f_X12_sign N t77 this end_79)) fun q80 =>
 Option.bind (f_X12_isLetter N t77 q80.2) fun q81 =>
 (if wr q81.2 = 0 then J146_75 t77 else Option.bind (gI shm t77 12 this 7) fun end_82 =>
 Option.bind (pI shm t77 12 this 7 (end_82 + 1)) fun σ83 =>
 b119_77 σ83)
def L_X12_next_8 (N : Nat) (this : Nat) (J58_91 : (St → Option (St × Int))) : St → Option (St × Int) := fixN N fun b8_93 t93 =>
 Option.bind (gI shm t93 12 this 6) fun at_95 =>
 Option.bind (gI shm t93 12 this 3) fun size_96 =>
 (if wr at_95 < wr size_96 then Option.bind (gI shm t93 12 this 6) fun at_97 =>
 Option.bind (rcv shm t93 12 this (f_X12_sign N t93 this at_97)) fun q98 =>
 Jn (fun t99 : Unit => Option.bind (gI shm t93 12 this 6) fun at_100 =>
 Option.bind (pI shm t93 12 this 6 (at_100 + 1)) fun σ101 =>
 b8_93 σ101) fun J45_101 =>
 (if wr q98.2 = wr 32 then J45_101 () else Option.bind (gI shm t93 12 this 6) fun at_103 =>
 Option.bind (rcv shm t93 12 this (f_X12_sign N t93 this at_103)) fun q104 =>
 (if wr q104.2 = wr 10 then J45_101 () else J58_91 t93)) else J58_91 t93)
def rm_X12_next : Room := { frames := 1, cells := 0, slots := 0, locals := 23 }
def f_X12_next (N : Nat) (σ : St) (this : Nat) : Option (St × Int) :=
 Option.bind (gI shm σ 12 this 7) fun end_1 =>
 Option.bind (pI shm σ 12 this 6 end_1) fun σ2 =>
 Jn (fun t3 : St => Option.bind (gI shm t3 12 this 6) fun at_4 =>
 Option.bind (rcv shm t3 12 this (f_X12_sign N t3 this at_4)) fun q5 =>
 Option.bind (gI shm t3 12 this 6) fun at_6 =>
 Option.bind (pI shm t3 12 this 7 (at_6 + 1)) fun σ7 =>
 Option.bind (gI shm σ7 12 this 6) fun at_8 =>
 Option.bind (gI shm σ7 12 this 3) fun size_9 =>
 (if wr at_8 < wr size_9 then Option.bind (f_X12_isLetter N σ7 q5.2) fun q10 =>
 (if wr q10.2 = 0 then Option.bind (f_X12_isDigit N σ7 q5.2) fun q11 =>
 (if wr q11.2 = 0 then Option.bind (f_X12_isSign N σ7 q5.2) fun q12 =>
 Jn (fun t13 : Int => Option.bind (pI shm σ7 12 this 8 t13) fun σ14 =>
 some (σ14, 0)) fun J374_14 =>
 (if wr q12.2 = 0 then J374_14 1 else J374_14 5) else Option.bind (pI shm σ7 12 this 9 0) fun σ17 =>
 Option.bind (gI shm σ17 12 this 6) fun at_18 =>
 Option.bind (pI shm σ17 12 this 7 at_18) fun σ19 =>
 Jn (fun t20 : St => Option.bind (gI shm t20 12 this 7) fun end_21 =>
 Option.bind (gI shm t20 12 this 6) fun at_22 =>
 Jn (fun t23 : Int => Option.bind (pI shm t20 12 this 8 t23) fun σ24 =>
 some (σ24, 0)) fun J355_24 =>
 Jn (fun t26 : Unit => J355_24 1) fun J350_26 =>
 (if wr 4 < wr (end_21 - at_22) then J350_26 () else Option.bind (gI shm t20 12 this 7) fun end_28 =>
 Option.bind (rcv shm t20 12 this (f_X12_sign N t20 this end_28)) fun q29 =>
 Option.bind (f_X12_isLetter N t20 q29.2) fun q30 =>
 (if wr q30.2 = 0 then J355_24 4 else J350_26 ()))) fun J322_32 =>
 L_X12_next_259 N this J322_32 σ19) else Jn (fun t52 : St => Option.bind (pI shm t52 12 this 10 0) fun σ53 =>
 Option.bind (gI shm σ53 12 this 6) fun at_54 =>
 Jn (fun t55 : St => Option.bind (gI shm t55 12 this 7) fun end_56 =>
 Option.bind (gI shm t55 12 this 6) fun at_57 =>
 Jn (fun t58 : Int => Option.bind (pI shm t55 12 this 8 t58) fun σ59 =>
 some (σ59, 0)) fun J233_59 =>
 (if wr 8 < wr (end_56 - at_57) then J233_59 1 else Option.bind (gI shm t55 12 this 10) fun name_61 =>
 Option.bind (f_X12_isKept N t55 name_61) fun q62 =>
 (if wr q62.2 = 0 then J233_59 2 else J233_59 3))) fun J199_64 =>
 L_X12_next_156 N this J199_64 (σ53, at_54)) fun J146_75 =>
 L_X12_next_119 N this J146_75 σ7) else Option.bind (pI shm σ7 12 this 8 0) fun σ86 =>
 Option.bind (gI shm σ86 12 this 3) fun size_87 =>
 Option.bind (pI shm σ86 12 this 6 size_87) fun σ88 =>
 Option.bind (gI shm σ88 12 this 3) fun size_89 =>
 Option.bind (pI shm σ88 12 this 7 size_89) fun σ90 =>
 some (σ90, 0))) fun J58_91 =>
 L_X12_next_8 N this J58_91 σ2
set_option maxRecDepth 100000 in
set_option maxHeartbeats 4000000 in
theorem c_X12_next (l : Launch) (D : va_G) (ca : Nat → ClassId) (ra : Nat → Nat) (N : Nat) (σ : St) (this : Nat) : Ctr l (D, ca, ra, shm) false yX12_next cX12_next 3 none rm_X12_next σ [ar this] (f_X12_next N σ this) := by
  refine ctr_of (by decide) (Nat.le_of_ble_eq_true rfl) (fun z C => ?_)
  show X z 0 0 σ 0 [(0, ar this)] [] _
  unfold f_X12_next
  refine x_aload_n C 0 (i := 0) (k0 := 0) rfl rfl (by decide +kernel) ?_
  refine x_aload_n C 0 (i := 0) (k0 := 0) rfl rfl (by decide +kernel) ?_
  refine x_gI C fl_RX12_246 (fun _ _ _ => rfl) (by decide +kernel) (fun end_1 => ?_)
  refine x_pI C fl_RX12_249 rfl (fun q h => by cases h; rfl) (by decide +kernel) (fun σ2 => ?_)
  refine x_join (T := St) (fun t => t) 58 (fun t => [(0, ar this)]) (fun t => []) (fun t3 => ?_) (fun J58_91 hJ58_91 => ?_)
  · show X z 0 0 t3 58 [(0, ar this)] [] _
    refine x_aload_n C 0 (i := 0) (k0 := 0) rfl rfl (by decide +kernel) ?_
    refine x_aload_n C 0 (i := 0) (k0 := 0) rfl rfl (by decide +kernel) ?_
    refine x_gI C fl_RX12_249 (fun _ _ _ => rfl) (by decide +kernel) (fun at_4 => ?_)
    refine x_callVp C (ci := 12) (c_X12_sign l D ca ra N t3 this at_4) (p_X12_sign N t3 this at_4) mt_X12_sign mv_X12_sign rfl ml_RX12_252 rfl (fun h => Bool.noConfusion h) ⟨Nat.le_of_ble_eq_true rfl, Nat.le_of_ble_eq_true rfl⟩ (Nat.le_of_ble_eq_true rfl) 0 0 ⟨rfl, rfl⟩ ⟨Nat.zero_le _, Nat.zero_le _⟩ (by decide +kernel) _ rfl (fun q5 => [ai q5.2]) (fun _ => rfl) (fun q5 => ?_)
    refine x_istore_n C (i := 1) (k0 := 1) rfl (Nat.le_of_ble_eq_true rfl) (by decide +kernel) (lv2 := [(1, ai q5.2), (0, ar this)]) rfl ?_
    refine x_aload_n C 1 (i := 0) (k0 := 0) rfl rfl (by decide +kernel) ?_
    refine x_aload_n C 1 (i := 0) (k0 := 0) rfl rfl (by decide +kernel) ?_
    refine x_gI C fl_RX12_249 (fun _ _ _ => rfl) (by decide +kernel) (fun at_6 => ?_)
    show X z 0 0 t3 72 [(1, ai q5.2), (0, ar this)] [ai at_6, ar this] _
    refine x_iconst C (n := 1) (by decide +kernel) ?_
    refine x_iadd C (by decide +kernel) ?_
    refine x_pI C fl_RX12_246 rfl (fun q h => by cases h; rfl) (by decide +kernel) (fun σ7 => ?_)
    refine x_aload_n C 1 (i := 0) (k0 := 0) rfl rfl (by decide +kernel) ?_
    refine x_gI C fl_RX12_249 (fun _ _ _ => rfl) (by decide +kernel) (fun at_8 => ?_)
    refine x_aload_n C 1 (i := 0) (k0 := 0) rfl rfl (by decide +kernel) ?_
    refine x_gI C fl_RX12_172 (fun _ _ _ => rfl) (by decide +kernel) (fun size_9 => ?_)
    refine x_ic_lt C (tgt := 112) (off := 27) (by decide) (by decide +kernel) (fun h91 => ?_) (fun h91 => ?_)
    · skip
      refine x_iload_n C 0 (i := 1) (k0 := 1) rfl rfl (by decide +kernel) ?_
      refine x_callSp C (c_X12_isLetter l D ca ra N σ7 q5.2) (p_X12_isLetter N σ7 q5.2) mt_X12_isLetter ms_X12_isLetter ml_RX12_259 rfl (fun h => Bool.noConfusion h) ⟨Nat.le_of_ble_eq_true rfl, Nat.le_of_ble_eq_true rfl⟩ (Nat.le_of_ble_eq_true rfl) 0 0 ⟨rfl, rfl⟩ ⟨Nat.zero_le _, Nat.zero_le _⟩ (by decide +kernel) _ rfl (fun q10 => [ai q10.2]) (fun _ => rfl) (fun q10 => ?_)
      refine x_if_eq C (tgt := 239) (off := 123) (by decide) (by decide +kernel) (fun h85 => ?_) (fun h85 => ?_)
      · skip
        refine x_iload_n C 0 (i := 1) (k0 := 1) rfl rfl (by decide +kernel) ?_
        refine x_callSp C (c_X12_isDigit l D ca ra N σ7 q5.2) (p_X12_isDigit N σ7 q5.2) mt_X12_isDigit ms_X12_isDigit ml_RX12_271 rfl (fun h => Bool.noConfusion h) ⟨Nat.le_of_ble_eq_true rfl, Nat.le_of_ble_eq_true rfl⟩ (Nat.le_of_ble_eq_true rfl) 0 0 ⟨rfl, rfl⟩ ⟨Nat.zero_le _, Nat.zero_le _⟩ (by decide +kernel) _ rfl (fun q11 => [ai q11.2]) (fun _ => rfl) (fun q11 => ?_)
        refine x_if_eq C (tgt := 361) (off := 118) (by decide) (by decide +kernel) (fun h51 => ?_) (fun h51 => ?_)
        · skip
          refine x_aload_n C 1 (i := 0) (k0 := 0) rfl rfl (by decide +kernel) ?_
          refine x_iload_n C 0 (i := 1) (k0 := 1) rfl rfl (by decide +kernel) ?_
          refine x_callSp C (c_X12_isSign l D ca ra N σ7 q5.2) (p_X12_isSign N σ7 q5.2) mt_X12_isSign ms_X12_isSign ml_RX12_277 rfl (fun h => Bool.noConfusion h) ⟨Nat.le_of_ble_eq_true rfl, Nat.le_of_ble_eq_true rfl⟩ (Nat.le_of_ble_eq_true rfl) 0 0 ⟨rfl, rfl⟩ ⟨Nat.zero_le _, Nat.zero_le _⟩ (by decide +kernel) _ rfl (fun q12 => [ai q12.2, ar this]) (fun _ => rfl) (fun q12 => ?_)
          refine x_join (T := Int) (fun t => σ7) 374 (fun t => []) (fun t => [ai t, ar this]) (fun t13 => ?_) (fun J374_14 hJ374_14 => ?_)
          · show X z 0 0 σ7 374 [] [ai t13, ar this] _
            refine x_pI C fl_RX12_256 rfl (fun q h => by cases h; rfl) (by decide +kernel) (fun σ14 => ?_)
            exact x_vret C ⟨Nat.zero_le _, Nat.zero_le _⟩ (by decide +kernel)
          · skip
            refine x_if_eq C (tgt := 373) (off := 7) (by decide) (by decide +kernel) (fun h16 => ?_) (fun h16 => ?_)
            · skip
              refine x_iconst C (n := 1) (by decide +kernel) ?_
              refine x_sub [] (lv2 := []) rfl ?_
              exact hJ374_14 1
            · skip
              refine x_iconst C (n := 5) (by decide +kernel) ?_
              refine x_goto C (tgt := 374) (off := 4) (by decide) (by decide +kernel) ?_
              refine x_sub [] (lv2 := []) rfl ?_
              exact hJ374_14 5
        · skip
          refine x_aload_n C 1 (i := 0) (k0 := 0) rfl rfl (by decide +kernel) ?_
          refine x_iconst C (n := 0) (by decide +kernel) ?_
          refine x_pI C fl_RX12_274 rfl (fun q h => by cases h; rfl) (by decide +kernel) (fun σ17 => ?_)
          refine x_aload_n C 1 (i := 0) (k0 := 0) rfl rfl (by decide +kernel) ?_
          refine x_aload_n C 1 (i := 0) (k0 := 0) rfl rfl (by decide +kernel) ?_
          refine x_gI C fl_RX12_249 (fun _ _ _ => rfl) (by decide +kernel) (fun at_18 => ?_)
          refine x_pI C fl_RX12_246 rfl (fun q h => by cases h; rfl) (by decide +kernel) (fun σ19 => ?_)
          refine x_join (T := St) (fun t => t) 322 (fun t => [(0, ar this)]) (fun t => []) (fun t20 => ?_) (fun J322_32 hJ322_32 => ?_)
          · show X z 0 0 t20 322 [(0, ar this)] [] _
            refine x_aload_n C 0 (i := 0) (k0 := 0) rfl rfl (by decide +kernel) ?_
            refine x_aload_n C 0 (i := 0) (k0 := 0) rfl rfl (by decide +kernel) ?_
            refine x_gI C fl_RX12_246 (fun _ _ _ => rfl) (by decide +kernel) (fun end_21 => ?_)
            refine x_aload_n C 0 (i := 0) (k0 := 0) rfl rfl (by decide +kernel) ?_
            refine x_gI C fl_RX12_249 (fun _ _ _ => rfl) (by decide +kernel) (fun at_22 => ?_)
            refine x_isub C (by decide +kernel) ?_
            refine x_iconst C (n := 4) (by decide +kernel) ?_
            refine x_join (T := Int) (fun t => t20) 355 (fun t => []) (fun t => [ai t, ar this]) (fun t23 => ?_) (fun J355_24 hJ355_24 => ?_)
            · show X z 0 0 t20 355 [] [ai t23, ar this] _
              refine x_pI C fl_RX12_256 rfl (fun q h => by cases h; rfl) (by decide +kernel) (fun σ24 => ?_)
              refine x_goto C (tgt := 377) (off := 19) (by decide) (by decide +kernel) ?_
              exact x_vret C ⟨Nat.zero_le _, Nat.zero_le _⟩ (by decide +kernel)
            · skip
              refine x_join (T := Unit) (fun t => t20) 350 (fun t => []) (fun t => [ar this]) (fun t26 => ?_) (fun J350_26 hJ350_26 => ?_)
              · show X z 0 0 t20 350 [] [ar this] _
                refine x_iconst C (n := 1) (by decide +kernel) ?_
                refine x_goto C (tgt := 355) (off := 4) (by decide) (by decide +kernel) ?_
                exact hJ355_24 1
              · skip
                refine x_ic_gt C (tgt := 350) (off := 17) (by decide) (by decide +kernel) (fun h32 => ?_) (fun h32 => ?_)
                · skip
                  refine x_sub [] (lv2 := []) rfl ?_
                  exact hJ350_26 ()
                · skip
                  refine x_aload_n C 0 (i := 0) (k0 := 0) rfl rfl (by decide +kernel) ?_
                  refine x_aload_n C 0 (i := 0) (k0 := 0) rfl rfl (by decide +kernel) ?_
                  refine x_gI C fl_RX12_246 (fun _ _ _ => rfl) (by decide +kernel) (fun end_28 => ?_)
                  refine x_callVp C (ci := 12) (c_X12_sign l D ca ra N t20 this end_28) (p_X12_sign N t20 this end_28) mt_X12_sign mv_X12_sign rfl ml_RX12_252 rfl (fun h => Bool.noConfusion h) ⟨Nat.le_of_ble_eq_true rfl, Nat.le_of_ble_eq_true rfl⟩ (Nat.le_of_ble_eq_true rfl) 0 0 ⟨rfl, rfl⟩ ⟨Nat.zero_le _, Nat.zero_le _⟩ (by decide +kernel) _ rfl (fun q29 => [ai q29.2, ar this]) (fun _ => rfl) (fun q29 => ?_)
                  refine x_callSp C (c_X12_isLetter l D ca ra N t20 q29.2) (p_X12_isLetter N t20 q29.2) mt_X12_isLetter ms_X12_isLetter ml_RX12_259 rfl (fun h => Bool.noConfusion h) ⟨Nat.le_of_ble_eq_true rfl, Nat.le_of_ble_eq_true rfl⟩ (Nat.le_of_ble_eq_true rfl) 0 0 ⟨rfl, rfl⟩ ⟨Nat.zero_le _, Nat.zero_le _⟩ (by decide +kernel) _ rfl (fun q30 => [ai q30.2, ar this]) (fun _ => rfl) (fun q30 => ?_)
                  refine x_if_eq C (tgt := 354) (off := 7) (by decide) (by decide +kernel) (fun h31 => ?_) (fun h31 => ?_)
                  · skip
                    refine x_iconst C (n := 4) (by decide +kernel) ?_
                    refine x_sub [] (lv2 := []) rfl ?_
                    exact hJ355_24 4
                  · skip
                    refine x_sub [] (lv2 := []) rfl ?_
                    exact hJ350_26 ()
          · skip
            refine x_sub [1] (lv2 := [(0, ar this)]) rfl ?_
            -- LOOP L_X12_next_259 hb259_34
            refine x_loop (T := St) (fun t => t) (fun t => [(0, ar this)]) σ19 rfl (fun b259_34 hb259_34 t34 => ?_)
            show X z 0 0 t34 259 [(0, ar this)] [] _
            refine x_aload_n C 0 (i := 0) (k0 := 0) rfl rfl (by decide +kernel) ?_
            refine x_aload_n C 0 (i := 0) (k0 := 0) rfl rfl (by decide +kernel) ?_
            refine x_gI C fl_RX12_246 (fun _ _ _ => rfl) (by decide +kernel) (fun end_36 => ?_)
            refine x_callVp C (ci := 12) (c_X12_sign l D ca ra N t34 this end_36) (p_X12_sign N t34 this end_36) mt_X12_sign mv_X12_sign rfl ml_RX12_252 rfl (fun h => Bool.noConfusion h) ⟨Nat.le_of_ble_eq_true rfl, Nat.le_of_ble_eq_true rfl⟩ (Nat.le_of_ble_eq_true rfl) 0 0 ⟨rfl, rfl⟩ ⟨Nat.zero_le _, Nat.zero_le _⟩ (by decide +kernel) _ rfl (fun q37 => [ai q37.2]) (fun _ => rfl) (fun q37 => ?_)
            refine x_callSp C (c_X12_isDigit l D ca ra N t34 q37.2) (p_X12_isDigit N t34 q37.2) mt_X12_isDigit ms_X12_isDigit ml_RX12_271 rfl (fun h => Bool.noConfusion h) ⟨Nat.le_of_ble_eq_true rfl, Nat.le_of_ble_eq_true rfl⟩ (Nat.le_of_ble_eq_true rfl) 0 0 ⟨rfl, rfl⟩ ⟨Nat.zero_le _, Nat.zero_le _⟩ (by decide +kernel) _ rfl (fun q38 => [ai q38.2]) (fun _ => rfl) (fun q38 => ?_)
            refine x_if_eq C (tgt := 322) (off := 52) (by decide) (by decide +kernel) (fun h50 => ?_) (fun h50 => ?_)
            · skip
              exact hJ322_32 t34
            · skip
              refine x_aload_n C 0 (i := 0) (k0 := 0) rfl rfl (by decide +kernel) ?_
              refine x_gI C fl_RX12_246 (fun _ _ _ => rfl) (by decide +kernel) (fun end_39 => ?_)
              refine x_aload_n C 0 (i := 0) (k0 := 0) rfl rfl (by decide +kernel) ?_
              refine x_gI C fl_RX12_249 (fun _ _ _ => rfl) (by decide +kernel) (fun at_40 => ?_)
              refine x_isub C (by decide +kernel) ?_
              refine x_iconst C (n := 4) (by decide +kernel) ?_
              refine x_join (T := St) (fun t => t) 309 (fun t => [(0, ar this)]) (fun t => []) (fun t41 => ?_) (fun J309_43 hJ309_43 => ?_)
              · show X z 0 0 t41 309 [(0, ar this)] [] _
                refine x_aload_n C 0 (i := 0) (k0 := 0) rfl rfl (by decide +kernel) ?_
                refine x_dup C rfl (by decide +kernel) ?_
                refine x_gI C fl_RX12_246 (fun _ _ _ => rfl) (by decide +kernel) (fun end_42 => ?_)
                refine x_iconst C (n := 1) (by decide +kernel) ?_
                refine x_iadd C (by decide +kernel) ?_
                refine x_pI C fl_RX12_246 rfl (fun q h => by cases h; rfl) (by decide +kernel) (fun σ43 => ?_)
                refine x_goto C (tgt := 259) (off := (-60)) (by decide) (by decide +kernel) ?_
                exact hb259_34 σ43
              · skip
                refine x_ic_ge C (tgt := 309) (off := 26) (by decide) (by decide +kernel) (fun h49 => ?_) (fun h49 => ?_)
                · skip
                  exact hJ309_43 t34
                · skip
                  refine x_aload_n C 0 (i := 0) (k0 := 0) rfl rfl (by decide +kernel) ?_
                  refine x_bipush C (n := 10) (by decide +kernel) (by decide +kernel) ?_
                  refine x_aload_n C 0 (i := 0) (k0 := 0) rfl rfl (by decide +kernel) ?_
                  refine x_gI C fl_RX12_274 (fun _ _ _ => rfl) (by decide +kernel) (fun number_45 => ?_)
                  refine x_imul C (by decide +kernel) ?_
                  refine x_aload_n C 0 (i := 0) (k0 := 0) rfl rfl (by decide +kernel) ?_
                  refine x_aload_n C 0 (i := 0) (k0 := 0) rfl rfl (by decide +kernel) ?_
                  refine x_gI C fl_RX12_246 (fun _ _ _ => rfl) (by decide +kernel) (fun end_46 => ?_)
                  show X z 0 0 t34 299 [(0, ar this)] [ai end_46, ar this, ai (10 * number_45), ar this] _
                  refine x_callVp C (ci := 12) (c_X12_sign l D ca ra N t34 this end_46) (p_X12_sign N t34 this end_46) mt_X12_sign mv_X12_sign rfl ml_RX12_252 rfl (fun h => Bool.noConfusion h) ⟨Nat.le_of_ble_eq_true rfl, Nat.le_of_ble_eq_true rfl⟩ (Nat.le_of_ble_eq_true rfl) 0 0 ⟨rfl, rfl⟩ ⟨Nat.zero_le _, Nat.zero_le _⟩ (by decide +kernel) _ rfl (fun q47 => [ai q47.2, ai (10 * number_45), ar this]) (fun _ => rfl) (fun q47 => ?_)
                  refine x_iadd C (by decide +kernel) ?_
                  refine x_bipush C (n := 48) (by decide +kernel) (by decide +kernel) ?_
                  refine x_isub C (by decide +kernel) ?_
                  refine x_pI C fl_RX12_274 rfl (fun q h => by cases h; rfl) (by decide +kernel) (fun σ48 => ?_)
                  exact hJ309_43 σ48
      · skip
        refine x_join (T := St) (fun t => t) 146 (fun t => [(0, ar this)]) (fun t => []) (fun t52 => ?_) (fun J146_75 hJ146_75 => ?_)
        · show X z 0 0 t52 146 [(0, ar this)] [] _
          refine x_aload_n C 0 (i := 0) (k0 := 0) rfl rfl (by decide +kernel) ?_
          refine x_lconst C (n := 0) (v := 0) (by decide +kernel) (by decide +kernel) ?_
          refine x_pL C fl_RX12_263 rfl (fun q h => by cases h; rfl) (by decide +kernel) (fun σ53 => ?_)
          refine x_aload_n C 0 (i := 0) (k0 := 0) rfl rfl (by decide +kernel) ?_
          refine x_gI C fl_RX12_249 (fun _ _ _ => rfl) (by decide +kernel) (fun at_54 => ?_)
          refine x_istore_n C (i := 2) (k0 := 2) rfl (Nat.le_of_ble_eq_true rfl) (by decide +kernel) (lv2 := [(2, ai at_54), (0, ar this)]) rfl ?_
          refine x_join (T := St) (fun t => t) 199 (fun t => [(0, ar this)]) (fun t => []) (fun t55 => ?_) (fun J199_64 hJ199_64 => ?_)
          · show X z 0 0 t55 199 [(0, ar this)] [] _
            refine x_aload_n C 0 (i := 0) (k0 := 0) rfl rfl (by decide +kernel) ?_
            refine x_aload_n C 0 (i := 0) (k0 := 0) rfl rfl (by decide +kernel) ?_
            refine x_gI C fl_RX12_246 (fun _ _ _ => rfl) (by decide +kernel) (fun end_56 => ?_)
            refine x_aload_n C 0 (i := 0) (k0 := 0) rfl rfl (by decide +kernel) ?_
            refine x_gI C fl_RX12_249 (fun _ _ _ => rfl) (by decide +kernel) (fun at_57 => ?_)
            refine x_isub C (by decide +kernel) ?_
            refine x_bipush C (n := 8) (by decide +kernel) (by decide +kernel) ?_
            refine x_join (T := Int) (fun t => t55) 233 (fun t => []) (fun t => [ai t, ar this]) (fun t58 => ?_) (fun J233_59 hJ233_59 => ?_)
            · show X z 0 0 t55 233 [] [ai t58, ar this] _
              refine x_pI C fl_RX12_256 rfl (fun q h => by cases h; rfl) (by decide +kernel) (fun σ59 => ?_)
              refine x_goto C (tgt := 377) (off := 141) (by decide) (by decide +kernel) ?_
              exact x_vret C ⟨Nat.zero_le _, Nat.zero_le _⟩ (by decide +kernel)
            · skip
              refine x_ic_le C (tgt := 218) (off := 7) (by decide) (by decide +kernel) (fun h64 => ?_) (fun h64 => ?_)
              · skip
                refine x_aload_n C 0 (i := 0) (k0 := 0) rfl rfl (by decide +kernel) ?_
                refine x_gL C fl_RX12_263 (fun _ _ _ => rfl) (by decide +kernel) (fun name_61 => ?_)
                refine x_callSp C (c_X12_isKept l D ca ra N t55 name_61) (p_X12_isKept N t55 name_61) mt_X12_isKept ms_X12_isKept ml_RX12_267 rfl (fun h => Bool.noConfusion h) ⟨Nat.le_of_ble_eq_true rfl, Nat.le_of_ble_eq_true rfl⟩ (Nat.le_of_ble_eq_true rfl) 0 0 ⟨rfl, rfl⟩ ⟨Nat.zero_le _, Nat.zero_le _⟩ (by decide +kernel) _ rfl (fun q62 => [ai q62.2, ar this]) (fun _ => rfl) (fun q62 => ?_)
                refine x_if_eq C (tgt := 232) (off := 7) (by decide) (by decide +kernel) (fun h63 => ?_) (fun h63 => ?_)
                · skip
                  refine x_iconst C (n := 2) (by decide +kernel) ?_
                  refine x_sub [] (lv2 := []) rfl ?_
                  exact hJ233_59 2
                · skip
                  refine x_iconst C (n := 3) (by decide +kernel) ?_
                  refine x_goto C (tgt := 233) (off := 4) (by decide) (by decide +kernel) ?_
                  refine x_sub [] (lv2 := []) rfl ?_
                  exact hJ233_59 3
              · skip
                refine x_iconst C (n := 1) (by decide +kernel) ?_
                refine x_goto C (tgt := 233) (off := 18) (by decide) (by decide +kernel) ?_
                refine x_sub [] (lv2 := []) rfl ?_
                exact hJ233_59 1
          · skip
            refine x_sub [1, 0] (lv2 := [(0, ar this), (2, ai at_54)]) rfl ?_
            -- LOOP L_X12_next_156 hb156_66
            refine x_loop (T := St × Int) (fun t => t.1) (fun t => [(0, ar this), (2, ai t.2)]) (σ53, at_54) rfl (fun b156_66 hb156_66 t66 => ?_)
            show X z 0 0 t66.1 156 [(0, ar this), (2, ai t66.2)] [] _
            refine x_iload_n C 1 (i := 2) (k0 := 2) rfl rfl (by decide +kernel) ?_
            refine x_aload_n C 0 (i := 0) (k0 := 0) rfl rfl (by decide +kernel) ?_
            refine x_gI C fl_RX12_246 (fun _ _ _ => rfl) (by decide +kernel) (fun end_68 => ?_)
            refine x_ic_ge C (tgt := 199) (off := 38) (by decide) (by decide +kernel) (fun h75 => ?_) (fun h75 => ?_)
            · skip
              refine x_sub [0] (lv2 := [(0, ar this)]) rfl ?_
              exact hJ199_64 t66.1
            · skip
              refine x_iload_n C 1 (i := 2) (k0 := 2) rfl rfl (by decide +kernel) ?_
              refine x_aload_n C 0 (i := 0) (k0 := 0) rfl rfl (by decide +kernel) ?_
              refine x_gI C fl_RX12_249 (fun _ _ _ => rfl) (by decide +kernel) (fun at_69 => ?_)
              refine x_bipush C (n := 8) (by decide +kernel) (by decide +kernel) ?_
              refine x_iadd C (by decide +kernel) ?_
              refine x_ic_ge C (tgt := 199) (off := 27) (by decide) (by decide +kernel) (fun h74 => ?_) (fun h74 => ?_)
              · skip
                refine x_sub [0] (lv2 := [(0, ar this)]) rfl ?_
                exact hJ199_64 t66.1
              · skip
                refine x_aload_n C 0 (i := 0) (k0 := 0) rfl rfl (by decide +kernel) ?_
                refine x_aload_n C 0 (i := 0) (k0 := 0) rfl rfl (by decide +kernel) ?_
                refine x_gL C fl_RX12_263 (fun _ _ _ => rfl) (by decide +kernel) (fun name_70 => ?_)
                refine x_bipush C (n := 8) (by decide +kernel) (by decide +kernel) ?_
                refine x_lshl C (by decide +kernel) ?_
                refine x_aload_n C 0 (i := 0) (k0 := 0) rfl rfl (by decide +kernel) ?_
                refine x_iload_n C 1 (i := 2) (k0 := 2) rfl rfl (by decide +kernel) ?_
                refine x_callVp C (ci := 12) (c_X12_sign l D ca ra N t66.1 this t66.2) (p_X12_sign N t66.1 this t66.2) mt_X12_sign mv_X12_sign rfl ml_RX12_252 rfl (fun h => Bool.noConfusion h) ⟨Nat.le_of_ble_eq_true rfl, Nat.le_of_ble_eq_true rfl⟩ (Nat.le_of_ble_eq_true rfl) 0 0 ⟨rfl, rfl⟩ ⟨Nat.zero_le _, Nat.zero_le _⟩ (by decide +kernel) _ rfl (fun q71 => [ai q71.2, al (lshlZ name_70 8), ar this]) (fun _ => rfl) (fun q71 => ?_)
                show X z 0 0 t66.1 188 [(0, ar this), (2, ai t66.2)] [ai q71.2, al (lshlZ name_70 8), ar this] _
                refine x_i2l C (by decide +kernel) ?_
                refine x_lor C (by decide +kernel) ?_
                refine x_pL C fl_RX12_263 rfl (fun q h => by cases h; rfl) (by decide +kernel) (fun σ72 => ?_)
                refine x_iinc C 1 (i := 2) (n := 1) (Nat.le_of_ble_eq_true rfl) rfl (by decide +kernel) (lv2 := fun x73 => [(2, ai x73), (0, ar this)]) (fun _ => rfl) (fun x73 => ?_)
                refine x_goto C (tgt := 156) (off := (-40)) (by decide) (by decide +kernel) ?_
                refine x_sub [1, 0] (lv2 := [(0, ar this), (2, ai x73)]) rfl ?_
                exact hb156_66 (σ72, x73)
        · skip
          refine x_sub [1] (lv2 := [(0, ar this)]) rfl ?_
          -- LOOP L_X12_next_119 hb119_77
          refine x_loop (T := St) (fun t => t) (fun t => [(0, ar this)]) σ7 rfl (fun b119_77 hb119_77 t77 => ?_)
          show X z 0 0 t77 119 [(0, ar this)] [] _
          refine x_aload_n C 0 (i := 0) (k0 := 0) rfl rfl (by decide +kernel) ?_
          refine x_aload_n C 0 (i := 0) (k0 := 0) rfl rfl (by decide +kernel) ?_
          refine x_gI C fl_RX12_246 (fun _ _ _ => rfl) (by decide +kernel) (fun end_79 => ?_)
          refine x_callVp C (ci := 12) (c_X12_sign l D ca ra N t77 this end_79) (p_X12_sign N t77 this end_79) mt_X12_sign mv_X12_sign rfl ml_RX12_252 rfl (fun h => Bool.noConfusion h) ⟨Nat.le_of_ble_eq_true rfl, Nat.le_of_ble_eq_true rfl⟩ (Nat.le_of_ble_eq_true rfl) 0 0 ⟨rfl, rfl⟩ ⟨Nat.zero_le _, Nat.zero_le _⟩ (by decide +kernel) _ rfl (fun q80 => [ai q80.2]) (fun _ => rfl) (fun q80 => ?_)
          refine x_callSp C (c_X12_isLetter l D ca ra N t77 q80.2) (p_X12_isLetter N t77 q80.2) mt_X12_isLetter ms_X12_isLetter ml_RX12_259 rfl (fun h => Bool.noConfusion h) ⟨Nat.le_of_ble_eq_true rfl, Nat.le_of_ble_eq_true rfl⟩ (Nat.le_of_ble_eq_true rfl) 0 0 ⟨rfl, rfl⟩ ⟨Nat.zero_le _, Nat.zero_le _⟩ (by decide +kernel) _ rfl (fun q81 => [ai q81.2]) (fun _ => rfl) (fun q81 => ?_)
          refine x_if_eq C (tgt := 146) (off := 16) (by decide) (by decide +kernel) (fun h84 => ?_) (fun h84 => ?_)
          · skip
            exact hJ146_75 t77
          · skip
            refine x_aload_n C 0 (i := 0) (k0 := 0) rfl rfl (by decide +kernel) ?_
            refine x_dup C rfl (by decide +kernel) ?_
            refine x_gI C fl_RX12_246 (fun _ _ _ => rfl) (by decide +kernel) (fun end_82 => ?_)
            refine x_iconst C (n := 1) (by decide +kernel) ?_
            refine x_iadd C (by decide +kernel) ?_
            refine x_pI C fl_RX12_246 rfl (fun q h => by cases h; rfl) (by decide +kernel) (fun σ83 => ?_)
            refine x_goto C (tgt := 119) (off := (-24)) (by decide) (by decide +kernel) ?_
            exact hb119_77 σ83
    · skip
      refine x_aload_n C 1 (i := 0) (k0 := 0) rfl rfl (by decide +kernel) ?_
      refine x_iconst C (n := 0) (by decide +kernel) ?_
      refine x_pI C fl_RX12_256 rfl (fun q h => by cases h; rfl) (by decide +kernel) (fun σ86 => ?_)
      refine x_aload_n C 1 (i := 0) (k0 := 0) rfl rfl (by decide +kernel) ?_
      refine x_aload_n C 1 (i := 0) (k0 := 0) rfl rfl (by decide +kernel) ?_
      refine x_gI C fl_RX12_172 (fun _ _ _ => rfl) (by decide +kernel) (fun size_87 => ?_)
      refine x_pI C fl_RX12_249 rfl (fun q h => by cases h; rfl) (by decide +kernel) (fun σ88 => ?_)
      refine x_aload_n C 1 (i := 0) (k0 := 0) rfl rfl (by decide +kernel) ?_
      show X z 0 0 σ88 102 [(1, ai q5.2), (0, ar this)] [ar this] _
      refine x_aload_n C 1 (i := 0) (k0 := 0) rfl rfl (by decide +kernel) ?_
      refine x_gI C fl_RX12_172 (fun _ _ _ => rfl) (by decide +kernel) (fun size_89 => ?_)
      refine x_pI C fl_RX12_246 rfl (fun q h => by cases h; rfl) (by decide +kernel) (fun σ90 => ?_)
      refine x_goto C (tgt := 377) (off := 268) (by decide) (by decide +kernel) ?_
      exact x_vret C ⟨Nat.zero_le _, Nat.zero_le _⟩ (by decide +kernel)
  · skip
    -- LOOP L_X12_next_8 hb8_93
    refine x_loop (T := St) (fun t => t) (fun t => [(0, ar this)]) σ2 rfl (fun b8_93 hb8_93 t93 => ?_)
    show X z 0 0 t93 8 [(0, ar this)] [] _
    refine x_aload_n C 0 (i := 0) (k0 := 0) rfl rfl (by decide +kernel) ?_
    refine x_gI C fl_RX12_249 (fun _ _ _ => rfl) (by decide +kernel) (fun at_95 => ?_)
    refine x_aload_n C 0 (i := 0) (k0 := 0) rfl rfl (by decide +kernel) ?_
    refine x_gI C fl_RX12_172 (fun _ _ _ => rfl) (by decide +kernel) (fun size_96 => ?_)
    refine x_ic_ge C (tgt := 58) (off := 42) (by decide) (by decide +kernel) (fun h107 => ?_) (fun h107 => ?_)
    · skip
      exact hJ58_91 t93
    · skip
      refine x_aload_n C 0 (i := 0) (k0 := 0) rfl rfl (by decide +kernel) ?_
      refine x_aload_n C 0 (i := 0) (k0 := 0) rfl rfl (by decide +kernel) ?_
      refine x_gI C fl_RX12_249 (fun _ _ _ => rfl) (by decide +kernel) (fun at_97 => ?_)
      refine x_callVp C (ci := 12) (c_X12_sign l D ca ra N t93 this at_97) (p_X12_sign N t93 this at_97) mt_X12_sign mv_X12_sign rfl ml_RX12_252 rfl (fun h => Bool.noConfusion h) ⟨Nat.le_of_ble_eq_true rfl, Nat.le_of_ble_eq_true rfl⟩ (Nat.le_of_ble_eq_true rfl) 0 0 ⟨rfl, rfl⟩ ⟨Nat.zero_le _, Nat.zero_le _⟩ (by decide +kernel) _ rfl (fun q98 => [ai q98.2]) (fun _ => rfl) (fun q98 => ?_)
      refine x_bipush C (n := 32) (by decide +kernel) (by decide +kernel) ?_
      refine x_join (T := Unit) (fun t => t93) 45 (fun t => [(0, ar this)]) (fun t => []) (fun t99 => ?_) (fun J45_101 hJ45_101 => ?_)
      · show X z 0 0 t93 45 [(0, ar this)] [] _
        refine x_aload_n C 0 (i := 0) (k0 := 0) rfl rfl (by decide +kernel) ?_
        refine x_dup C rfl (by decide +kernel) ?_
        refine x_gI C fl_RX12_249 (fun _ _ _ => rfl) (by decide +kernel) (fun at_100 => ?_)
        refine x_iconst C (n := 1) (by decide +kernel) ?_
        refine x_iadd C (by decide +kernel) ?_
        refine x_pI C fl_RX12_249 rfl (fun q h => by cases h; rfl) (by decide +kernel) (fun σ101 => ?_)
        refine x_goto C (tgt := 8) (off := (-47)) (by decide) (by decide +kernel) ?_
        exact hb8_93 σ101
      · skip
        refine x_ic_eq C (tgt := 45) (off := 16) (by decide) (by decide +kernel) (fun h106 => ?_) (fun h106 => ?_)
        · skip
          exact hJ45_101 ()
        · skip
          refine x_aload_n C 0 (i := 0) (k0 := 0) rfl rfl (by decide +kernel) ?_
          refine x_aload_n C 0 (i := 0) (k0 := 0) rfl rfl (by decide +kernel) ?_
          refine x_gI C fl_RX12_249 (fun _ _ _ => rfl) (by decide +kernel) (fun at_103 => ?_)
          refine x_callVp C (ci := 12) (c_X12_sign l D ca ra N t93 this at_103) (p_X12_sign N t93 this at_103) mt_X12_sign mv_X12_sign rfl ml_RX12_252 rfl (fun h => Bool.noConfusion h) ⟨Nat.le_of_ble_eq_true rfl, Nat.le_of_ble_eq_true rfl⟩ (Nat.le_of_ble_eq_true rfl) 0 0 ⟨rfl, rfl⟩ ⟨Nat.zero_le _, Nat.zero_le _⟩ (by decide +kernel) _ rfl (fun q104 => [ai q104.2]) (fun _ => rfl) (fun q104 => ?_)
          refine x_bipush C (n := 10) (by decide +kernel) (by decide +kernel) ?_
          refine x_ic_ne C (tgt := 58) (off := 16) (by decide) (by decide +kernel) (fun h105 => ?_) (fun h105 => ?_)
          · skip
            exact hJ58_91 t93
          · skip
            exact hJ45_101 ()

def rm_X12_is : Room := { frames := 1, cells := 0, slots := 0, locals := 21 }
def f_X12_is (N : Nat) (σ : St) (this : Nat) (p0 : Int) : Option (St × Int) :=
 Option.bind (gI shm σ 12 this 8) fun token_1 =>
 (if wr token_1 = wr 5 then Option.bind (gI shm σ 12 this 6) fun at_2 =>
 Option.bind (rcv shm σ 12 this (f_X12_sign N σ this at_2)) fun q3 =>
 (if wr q3.2 = wr p0 then some (σ, 1) else some (σ, 0)) else some (σ, 0))
set_option maxRecDepth 100000 in
set_option maxHeartbeats 4000000 in
theorem c_X12_is (l : Launch) (D : va_G) (ca : Nat → ClassId) (ra : Nat → Nat) (N : Nat) (σ : St) (this : Nat) (p0 : Int) : Ctr l (D, ca, ra, shm) false yX12_is cX12_is 2 (some .boolean) rm_X12_is σ [ar this, ai p0] (f_X12_is N σ this p0) := by
  refine ctr_of (by decide) (Nat.le_of_ble_eq_true rfl) (fun z C => ?_)
  show X z 0 0 σ 0 [(0, ar this), (1, ai p0)] [] _
  unfold f_X12_is
  refine x_aload_n C 0 (i := 0) (k0 := 0) rfl rfl (by decide +kernel) ?_
  refine x_gI C fl_RX12_256 (fun _ _ _ => rfl) (by decide +kernel) (fun token_1 => ?_)
  refine x_iconst C (n := 5) (by decide +kernel) ?_
  refine x_ic_ne C (tgt := 24) (off := 19) (by decide) (by decide +kernel) (fun h5 => ?_) (fun h5 => ?_)
  · skip
    refine x_iconst C (n := 0) (by decide +kernel) ?_
    exact x_zret C (Or.inl rfl) ⟨Nat.zero_le _, Nat.zero_le _⟩ (by decide +kernel)
  · skip
    refine x_aload_n C 0 (i := 0) (k0 := 0) rfl rfl (by decide +kernel) ?_
    refine x_aload_n C 0 (i := 0) (k0 := 0) rfl rfl (by decide +kernel) ?_
    refine x_gI C fl_RX12_249 (fun _ _ _ => rfl) (by decide +kernel) (fun at_2 => ?_)
    refine x_callVp C (ci := 12) (c_X12_sign l D ca ra N σ this at_2) (p_X12_sign N σ this at_2) mt_X12_sign mv_X12_sign rfl ml_RX12_252 rfl (fun h => Bool.noConfusion h) ⟨Nat.le_of_ble_eq_true rfl, Nat.le_of_ble_eq_true rfl⟩ (Nat.le_of_ble_eq_true rfl) 0 0 ⟨rfl, rfl⟩ ⟨Nat.zero_le _, Nat.zero_le _⟩ (by decide +kernel) _ rfl (fun q3 => [ai q3.2]) (fun _ => rfl) (fun q3 => ?_)
    refine x_iload_n C 1 (i := 1) (k0 := 1) rfl rfl (by decide +kernel) ?_
    refine x_ic_ne C (tgt := 24) (off := 7) (by decide) (by decide +kernel) (fun h4 => ?_) (fun h4 => ?_)
    · skip
      refine x_iconst C (n := 0) (by decide +kernel) ?_
      exact x_zret C (Or.inl rfl) ⟨Nat.zero_le _, Nat.zero_le _⟩ (by decide +kernel)
    · skip
      refine x_iconst C (n := 1) (by decide +kernel) ?_
      refine x_goto C (tgt := 25) (off := 4) (by decide) (by decide +kernel) ?_
      exact x_zret C (Or.inr rfl) ⟨Nat.zero_le _, Nat.zero_le _⟩ (by decide +kernel)
theorem p_X12_is (N : Nat) (σ : St) (this : Nat) (p0 : Int) : Pu σ (f_X12_is N σ this p0) := by
  unfold f_X12_is
  refine pu_bind (fun _ => ?_)
  refine pu_ifs ?_ ?_
  · skip
    exact pu_some
  · skip
    refine pu_bind (fun _ => ?_)
    refine pu_bind (fun _ => ?_)
    refine pu_ifs ?_ ?_
    · skip
      exact pu_some
    · skip
      exact pu_some

def rm_X12_isWord : Room := { frames := 0, cells := 0, slots := 0, locals := 0 }
def f_X12_isWord (N : Nat) (σ : St) (this : Nat) (p0 : Int) : Option (St × Int) :=
 Option.bind (gI shm σ 12 this 8) fun token_1 =>
 (if wr token_1 = wr 3 then Option.bind (gI shm σ 12 this 10) fun name_2 =>
 (if wl name_2 = wl p0 then some (σ, 1) else some (σ, 0)) else some (σ, 0))
set_option maxRecDepth 100000 in
set_option maxHeartbeats 4000000 in
theorem c_X12_isWord (l : Launch) (D : va_G) (ca : Nat → ClassId) (ra : Nat → Nat) (N : Nat) (σ : St) (this : Nat) (p0 : Int) : Ctr l (D, ca, ra, shm) false yX12_isWord cX12_isWord 3 (some .boolean) rm_X12_isWord σ [ar this, al p0] (f_X12_isWord N σ this p0) := by
  refine ctr_of (by decide) (Nat.le_of_ble_eq_true rfl) (fun z C => ?_)
  show X z 0 0 σ 0 [(0, ar this), (1, al p0)] [] _
  unfold f_X12_isWord
  refine x_aload_n C 0 (i := 0) (k0 := 0) rfl rfl (by decide +kernel) ?_
  refine x_gI C fl_RX12_256 (fun _ _ _ => rfl) (by decide +kernel) (fun token_1 => ?_)
  refine x_iconst C (n := 3) (by decide +kernel) ?_
  refine x_ic_ne C (tgt := 21) (off := 16) (by decide) (by decide +kernel) (fun h4 => ?_) (fun h4 => ?_)
  · skip
    refine x_iconst C (n := 0) (by decide +kernel) ?_
    exact x_zret C (Or.inl rfl) ⟨Nat.zero_le _, Nat.zero_le _⟩ (by decide +kernel)
  · skip
    refine x_aload_n C 0 (i := 0) (k0 := 0) rfl rfl (by decide +kernel) ?_
    refine x_gL C fl_RX12_263 (fun _ _ _ => rfl) (by decide +kernel) (fun name_2 => ?_)
    refine x_lload_n C 1 (i := 1) (k0 := 1) rfl rfl (by decide +kernel) ?_
    refine x_lcmp_ne C (tgt := 21) (off := 7) (by decide) (by decide +kernel) (by decide +kernel) (fun h3 => ?_) (fun h3 => ?_)
    · skip
      refine x_iconst C (n := 0) (by decide +kernel) ?_
      exact x_zret C (Or.inl rfl) ⟨Nat.zero_le _, Nat.zero_le _⟩ (by decide +kernel)
    · skip
      refine x_iconst C (n := 1) (by decide +kernel) ?_
      refine x_goto C (tgt := 22) (off := 4) (by decide) (by decide +kernel) ?_
      exact x_zret C (Or.inr rfl) ⟨Nat.zero_le _, Nat.zero_le _⟩ (by decide +kernel)
theorem p_X12_isWord (N : Nat) (σ : St) (this : Nat) (p0 : Int) : Pu σ (f_X12_isWord N σ this p0) := by
  unfold f_X12_isWord
  refine pu_bind (fun _ => ?_)
  refine pu_ifs ?_ ?_
  · skip
    exact pu_some
  · skip
    refine pu_bind (fun _ => ?_)
    refine pu_ifs ?_ ?_
    · skip
      exact pu_some
    · skip
      exact pu_some

def rm_X12_wrong : Room := { frames := 1, cells := 0, slots := 0, locals := 22 }
def f_X12_wrong (N : Nat) (σ : St) (this : Nat) : Option (St × Int) :=
 Option.bind (gI shm σ 12 this 8) fun token_1 =>
 Jn (fun t2 : Int => Option.bind (gI shm σ 12 this 6) fun at_3 =>
 Option.bind (rcv shm σ 12 this (f_X12_fails N σ this t2 at_3)) fun q4 =>
 some (q4.1, 0)) fun J14_4 =>
 (if wr token_1 = wr 1 then J14_4 1 else J14_4 2)
set_option maxRecDepth 100000 in
set_option maxHeartbeats 4000000 in
theorem c_X12_wrong (l : Launch) (D : va_G) (ca : Nat → ClassId) (ra : Nat → Nat) (N : Nat) (σ : St) (this : Nat) : Ctr l (D, ca, ra, shm) false yX12_wrong cX12_wrong 1 none rm_X12_wrong σ [ar this] (f_X12_wrong N σ this) := by
  refine ctr_of (by decide) (Nat.le_of_ble_eq_true rfl) (fun z C => ?_)
  show X z 0 0 σ 0 [(0, ar this)] [] _
  unfold f_X12_wrong
  refine x_aload_n C 0 (i := 0) (k0 := 0) rfl rfl (by decide +kernel) ?_
  refine x_aload_n C 0 (i := 0) (k0 := 0) rfl rfl (by decide +kernel) ?_
  refine x_gI C fl_RX12_256 (fun _ _ _ => rfl) (by decide +kernel) (fun token_1 => ?_)
  refine x_iconst C (n := 1) (by decide +kernel) ?_
  refine x_join (T := Int) (fun t => σ) 14 (fun t => [(0, ar this)]) (fun t => [ai t, ar this]) (fun t2 => ?_) (fun J14_4 hJ14_4 => ?_)
  · show X z 0 0 σ 14 [(0, ar this)] [ai t2, ar this] _
    refine x_aload_n C 0 (i := 0) (k0 := 0) rfl rfl (by decide +kernel) ?_
    refine x_gI C fl_RX12_249 (fun _ _ _ => rfl) (by decide +kernel) (fun at_3 => ?_)
    refine x_callV C (ci := 12) (c_X12_fails l D ca ra N σ this t2 at_3) mt_X12_fails mv_X12_fails rfl ml_RX12_280 rfl (fun h => Bool.noConfusion h) ⟨Nat.le_of_ble_eq_true rfl, Nat.le_of_ble_eq_true rfl⟩ (Nat.le_of_ble_eq_true rfl) 0 0 ⟨rfl, rfl⟩ ⟨Nat.zero_le _, Nat.zero_le _⟩ (by decide +kernel) _ rfl (fun q4 => []) (fun _ => rfl) (fun q4 => ?_)
    exact x_vret C ⟨Nat.zero_le _, Nat.zero_le _⟩ (by decide +kernel)
  · skip
    refine x_ic_ne C (tgt := 13) (off := 7) (by decide) (by decide +kernel) (fun h6 => ?_) (fun h6 => ?_)
    · skip
      refine x_iconst C (n := 2) (by decide +kernel) ?_
      exact hJ14_4 2
    · skip
      refine x_iconst C (n := 1) (by decide +kernel) ?_
      refine x_goto C (tgt := 14) (off := 4) (by decide) (by decide +kernel) ?_
      exact hJ14_4 1

def rm_X12_must : Room := { frames := 2, cells := 0, slots := 0, locals := 45 }
def f_X12_must (N : Nat) (σ : St) (this : Nat) (p0 : Int) : Option (St × Int) :=
 Option.bind (rcv shm σ 12 this (f_X12_isGood N σ this)) fun q1 =>
 (if wr q1.2 = 0 then some (σ, 0) else (if wr p0 = 0 then Option.bind (rcv shm σ 12 this (f_X12_wrong N σ this)) fun q2 =>
 some (q2.1, 0) else Option.bind (rcv shm σ 12 this (f_X12_next N σ this)) fun q3 =>
 some (q3.1, 0)))
set_option maxRecDepth 100000 in
set_option maxHeartbeats 4000000 in
theorem c_X12_must (l : Launch) (D : va_G) (ca : Nat → ClassId) (ra : Nat → Nat) (N : Nat) (σ : St) (this : Nat) (p0 : Int) : Ctr l (D, ca, ra, shm) false yX12_must cX12_must 2 none rm_X12_must σ [ar this, ai p0] (f_X12_must N σ this p0) := by
  refine ctr_of (by decide) (Nat.le_of_ble_eq_true rfl) (fun z C => ?_)
  show X z 0 0 σ 0 [(0, ar this), (1, ai p0)] [] _
  unfold f_X12_must
  refine x_aload_n C 0 (i := 0) (k0 := 0) rfl rfl (by decide +kernel) ?_
  refine x_callVp C (ci := 12) (c_X12_isGood l D ca ra N σ this) (p_X12_isGood N σ this) mt_X12_isGood mv_X12_isGood rfl ml_RX12_284 rfl (fun h => Bool.noConfusion h) ⟨Nat.le_of_ble_eq_true rfl, Nat.le_of_ble_eq_true rfl⟩ (Nat.le_of_ble_eq_true rfl) 0 0 ⟨rfl, rfl⟩ ⟨Nat.zero_le _, Nat.zero_le _⟩ (by decide +kernel) _ rfl (fun q1 => [ai q1.2]) (fun _ => rfl) (fun q1 => ?_)
  refine x_if_ne C (tgt := 8) (off := 4) (by decide) (by decide +kernel) (fun h5 => ?_) (fun h5 => ?_)
  · skip
    refine x_iload_n C 1 (i := 1) (k0 := 1) rfl rfl (by decide +kernel) ?_
    refine x_if_eq C (tgt := 19) (off := 10) (by decide) (by decide +kernel) (fun h4 => ?_) (fun h4 => ?_)
    · skip
      refine x_aload_n C 0 (i := 0) (k0 := 0) rfl rfl (by decide +kernel) ?_
      refine x_callV C (ci := 12) (c_X12_wrong l D ca ra N σ this) mt_X12_wrong mv_X12_wrong rfl ml_RX12_291 rfl (fun h => Bool.noConfusion h) ⟨Nat.le_of_ble_eq_true rfl, Nat.le_of_ble_eq_true rfl⟩ (Nat.le_of_ble_eq_true rfl) 0 0 ⟨rfl, rfl⟩ ⟨Nat.zero_le _, Nat.zero_le _⟩ (by decide +kernel) _ rfl (fun q2 => []) (fun _ => rfl) (fun q2 => ?_)
      exact x_vret C ⟨Nat.zero_le _, Nat.zero_le _⟩ (by decide +kernel)
    · skip
      refine x_aload_n C 0 (i := 0) (k0 := 0) rfl rfl (by decide +kernel) ?_
      refine x_callV C (ci := 12) (c_X12_next l D ca ra N σ this) mt_X12_next mv_X12_next rfl ml_RX12_288 rfl (fun h => Bool.noConfusion h) ⟨Nat.le_of_ble_eq_true rfl, Nat.le_of_ble_eq_true rfl⟩ (Nat.le_of_ble_eq_true rfl) 0 0 ⟨rfl, rfl⟩ ⟨Nat.zero_le _, Nat.zero_le _⟩ (by decide +kernel) _ rfl (fun q3 => []) (fun _ => rfl) (fun q3 => ?_)
      refine x_goto C (tgt := 23) (off := 7) (by decide) (by decide +kernel) ?_
      exact x_vret C ⟨Nat.zero_le _, Nat.zero_le _⟩ (by decide +kernel)
  · skip
    exact x_vret C ⟨Nat.zero_le _, Nat.zero_le _⟩ (by decide +kernel)

def rm_X12_numeral : Room := { frames := 2, cells := 0, slots := 0, locals := 45 }
def f_X12_numeral (N : Nat) (σ : St) (this : Nat) (p0 : Int) (p1 : Int) : Option (St × Int) :=
 Option.bind (rcv shm σ 12 this (f_X12_isGood N σ this)) fun q1 =>
 (if wr q1.2 = 0 then some (σ, p0) else Option.bind (gI shm σ 12 this 8) fun token_2 =>
 Jn (fun t3 : St => Option.bind (rcv shm t3 12 this (f_X12_isGood N t3 this)) fun q4 =>
 Jn (fun t5 : St => Option.bind (gI shm t5 12 this 9) fun number_6 =>
 Option.bind (rcv shm t5 12 this (f_X12_isGood N t5 this)) fun q7 =>
 Jn (fun t8 : St => Option.bind (rcv shm t8 12 this (f_X12_isGood N t8 this)) fun q9 =>
 (if wr q9.2 = 0 then some (t8, p0) else some (t8, number_6))) fun J69_10 =>
 (if wr q7.2 = 0 then J69_10 t5 else Option.bind (rcv shm t5 12 this (f_X12_next N t5 this)) fun q12 =>
 J69_10 q12.1)) fun J53_13 =>
 (if wr q4.2 = 0 then J53_13 t3 else Option.bind (gI shm t3 12 this 9) fun number_15 =>
 Jn (fun t16 : Unit => Option.bind (gI shm t3 12 this 6) fun at_17 =>
 Option.bind (rcv shm t3 12 this (f_X12_fails N t3 this 4 at_17)) fun q18 =>
 J53_13 q18.1) fun J44_18 =>
 (if wr number_15 < wr p0 then J44_18 () else Option.bind (gI shm t3 12 this 9) fun number_20 =>
 (if wr p1 < wr number_20 then J44_18 () else J53_13 t3)))) fun J21_23 =>
 (if wr token_2 = wr 4 then J21_23 σ else Option.bind (rcv shm σ 12 this (f_X12_wrong N σ this)) fun q25 =>
 J21_23 q25.1))
set_option maxRecDepth 100000 in
set_option maxHeartbeats 4000000 in
theorem c_X12_numeral (l : Launch) (D : va_G) (ca : Nat → ClassId) (ra : Nat → Nat) (N : Nat) (σ : St) (this : Nat) (p0 : Int) (p1 : Int) : Ctr l (D, ca, ra, shm) false yX12_numeral cX12_numeral 4 (some .int) rm_X12_numeral σ [ar this, ai p0, ai p1] (f_X12_numeral N σ this p0 p1) := by
  refine ctr_of (by decide) (Nat.le_of_ble_eq_true rfl) (fun z C => ?_)
  show X z 0 0 σ 0 [(0, ar this), (1, ai p0), (2, ai p1)] [] _
  unfold f_X12_numeral
  refine x_aload_n C 0 (i := 0) (k0 := 0) rfl rfl (by decide +kernel) ?_
  refine x_callVp C (ci := 12) (c_X12_isGood l D ca ra N σ this) (p_X12_isGood N σ this) mt_X12_isGood mv_X12_isGood rfl ml_RX12_284 rfl (fun h => Bool.noConfusion h) ⟨Nat.le_of_ble_eq_true rfl, Nat.le_of_ble_eq_true rfl⟩ (Nat.le_of_ble_eq_true rfl) 0 0 ⟨rfl, rfl⟩ ⟨Nat.zero_le _, Nat.zero_le _⟩ (by decide +kernel) _ rfl (fun q1 => [ai q1.2]) (fun _ => rfl) (fun q1 => ?_)
  refine x_if_ne C (tgt := 9) (off := 5) (by decide) (by decide +kernel) (fun h27 => ?_) (fun h27 => ?_)
  · skip
    refine x_aload_n C 0 (i := 0) (k0 := 0) rfl rfl (by decide +kernel) ?_
    refine x_gI C fl_RX12_256 (fun _ _ _ => rfl) (by decide +kernel) (fun token_2 => ?_)
    refine x_iconst C (n := 4) (by decide +kernel) ?_
    refine x_join (T := St) (fun t => t) 21 (fun t => [(0, ar this), (1, ai p0), (2, ai p1)]) (fun t => []) (fun t3 => ?_) (fun J21_23 hJ21_23 => ?_)
    · show X z 0 0 t3 21 [(0, ar this), (1, ai p0), (2, ai p1)] [] _
      refine x_aload_n C 0 (i := 0) (k0 := 0) rfl rfl (by decide +kernel) ?_
      refine x_callVp C (ci := 12) (c_X12_isGood l D ca ra N t3 this) (p_X12_isGood N t3 this) mt_X12_isGood mv_X12_isGood rfl ml_RX12_284 rfl (fun h => Bool.noConfusion h) ⟨Nat.le_of_ble_eq_true rfl, Nat.le_of_ble_eq_true rfl⟩ (Nat.le_of_ble_eq_true rfl) 0 0 ⟨rfl, rfl⟩ ⟨Nat.zero_le _, Nat.zero_le _⟩ (by decide +kernel) _ rfl (fun q4 => [ai q4.2]) (fun _ => rfl) (fun q4 => ?_)
      refine x_join (T := St) (fun t => t) 53 (fun t => [(0, ar this), (1, ai p0)]) (fun t => []) (fun t5 => ?_) (fun J53_13 hJ53_13 => ?_)
      · show X z 0 0 t5 53 [(0, ar this), (1, ai p0)] [] _
        refine x_aload_n C 0 (i := 0) (k0 := 0) rfl rfl (by decide +kernel) ?_
        refine x_gI C fl_RX12_274 (fun _ _ _ => rfl) (by decide +kernel) (fun number_6 => ?_)
        refine x_istore_n C (i := 3) (k0 := 3) rfl (Nat.le_of_ble_eq_true rfl) (by decide +kernel) (lv2 := [(3, ai number_6), (0, ar this), (1, ai p0)]) rfl ?_
        refine x_aload_n C 1 (i := 0) (k0 := 0) rfl rfl (by decide +kernel) ?_
        refine x_callVp C (ci := 12) (c_X12_isGood l D ca ra N t5 this) (p_X12_isGood N t5 this) mt_X12_isGood mv_X12_isGood rfl ml_RX12_284 rfl (fun h => Bool.noConfusion h) ⟨Nat.le_of_ble_eq_true rfl, Nat.le_of_ble_eq_true rfl⟩ (Nat.le_of_ble_eq_true rfl) 0 0 ⟨rfl, rfl⟩ ⟨Nat.zero_le _, Nat.zero_le _⟩ (by decide +kernel) _ rfl (fun q7 => [ai q7.2]) (fun _ => rfl) (fun q7 => ?_)
        refine x_join (T := St) (fun t => t) 69 (fun t => [(0, ar this), (1, ai p0), (3, ai number_6)]) (fun t => []) (fun t8 => ?_) (fun J69_10 hJ69_10 => ?_)
        · show X z 0 0 t8 69 [(0, ar this), (1, ai p0), (3, ai number_6)] [] _
          refine x_aload_n C 0 (i := 0) (k0 := 0) rfl rfl (by decide +kernel) ?_
          refine x_callVp C (ci := 12) (c_X12_isGood l D ca ra N t8 this) (p_X12_isGood N t8 this) mt_X12_isGood mv_X12_isGood rfl ml_RX12_284 rfl (fun h => Bool.noConfusion h) ⟨Nat.le_of_ble_eq_true rfl, Nat.le_of_ble_eq_true rfl⟩ (Nat.le_of_ble_eq_true rfl) 0 0 ⟨rfl, rfl⟩ ⟨Nat.zero_le _, Nat.zero_le _⟩ (by decide +kernel) _ rfl (fun q9 => [ai q9.2]) (fun _ => rfl) (fun q9 => ?_)
          refine x_if_eq C (tgt := 80) (off := 7) (by decide) (by decide +kernel) (fun h10 => ?_) (fun h10 => ?_)
          · skip
            refine x_iload_n C 1 (i := 1) (k0 := 1) rfl rfl (by decide +kernel) ?_
            exact x_iret C ⟨Nat.zero_le _, Nat.zero_le _⟩ (by decide +kernel)
          · skip
            refine x_iload_n C 2 (i := 3) (k0 := 3) rfl rfl (by decide +kernel) ?_
            refine x_goto C (tgt := 81) (off := 4) (by decide) (by decide +kernel) ?_
            exact x_iret C ⟨Nat.zero_le _, Nat.zero_le _⟩ (by decide +kernel)
        · skip
          refine x_if_eq C (tgt := 69) (off := 7) (by decide) (by decide +kernel) (fun h13 => ?_) (fun h13 => ?_)
          · skip
            refine x_sub [1, 2, 0] (lv2 := [(0, ar this), (1, ai p0), (3, ai number_6)]) rfl ?_
            exact hJ69_10 t5
          · skip
            refine x_aload_n C 1 (i := 0) (k0 := 0) rfl rfl (by decide +kernel) ?_
            refine x_callV C (ci := 12) (c_X12_next l D ca ra N t5 this) mt_X12_next mv_X12_next rfl ml_RX12_288 rfl (fun h => Bool.noConfusion h) ⟨Nat.le_of_ble_eq_true rfl, Nat.le_of_ble_eq_true rfl⟩ (Nat.le_of_ble_eq_true rfl) 0 0 ⟨rfl, rfl⟩ ⟨Nat.zero_le _, Nat.zero_le _⟩ (by decide +kernel) _ rfl (fun q12 => []) (fun _ => rfl) (fun q12 => ?_)
            refine x_sub [1, 2, 0] (lv2 := [(0, ar this), (1, ai p0), (3, ai number_6)]) rfl ?_
            exact hJ69_10 q12.1
      · skip
        refine x_if_eq C (tgt := 53) (off := 28) (by decide) (by decide +kernel) (fun h23 => ?_) (fun h23 => ?_)
        · skip
          refine x_sub [0, 1] (lv2 := [(0, ar this), (1, ai p0)]) rfl ?_
          exact hJ53_13 t3
        · skip
          refine x_aload_n C 0 (i := 0) (k0 := 0) rfl rfl (by decide +kernel) ?_
          refine x_gI C fl_RX12_274 (fun _ _ _ => rfl) (by decide +kernel) (fun number_15 => ?_)
          refine x_iload_n C 1 (i := 1) (k0 := 1) rfl rfl (by decide +kernel) ?_
          refine x_join (T := Unit) (fun t => t3) 44 (fun t => [(0, ar this), (1, ai p0)]) (fun t => []) (fun t16 => ?_) (fun J44_18 hJ44_18 => ?_)
          · show X z 0 0 t3 44 [(0, ar this), (1, ai p0)] [] _
            refine x_aload_n C 0 (i := 0) (k0 := 0) rfl rfl (by decide +kernel) ?_
            refine x_iconst C (n := 4) (by decide +kernel) ?_
            refine x_aload_n C 0 (i := 0) (k0 := 0) rfl rfl (by decide +kernel) ?_
            refine x_gI C fl_RX12_249 (fun _ _ _ => rfl) (by decide +kernel) (fun at_17 => ?_)
            refine x_callV C (ci := 12) (c_X12_fails l D ca ra N t3 this 4 at_17) mt_X12_fails mv_X12_fails rfl ml_RX12_280 rfl (fun h => Bool.noConfusion h) ⟨Nat.le_of_ble_eq_true rfl, Nat.le_of_ble_eq_true rfl⟩ (Nat.le_of_ble_eq_true rfl) 0 0 ⟨rfl, rfl⟩ ⟨Nat.zero_le _, Nat.zero_le _⟩ (by decide +kernel) _ rfl (fun q18 => []) (fun _ => rfl) (fun q18 => ?_)
            exact hJ53_13 q18.1
          · skip
            refine x_ic_lt C (tgt := 44) (off := 11) (by decide) (by decide +kernel) (fun h22 => ?_) (fun h22 => ?_)
            · skip
              refine x_sub [0, 1] (lv2 := [(0, ar this), (1, ai p0)]) rfl ?_
              exact hJ44_18 ()
            · skip
              refine x_aload_n C 0 (i := 0) (k0 := 0) rfl rfl (by decide +kernel) ?_
              refine x_gI C fl_RX12_274 (fun _ _ _ => rfl) (by decide +kernel) (fun number_20 => ?_)
              refine x_iload_n C 2 (i := 2) (k0 := 2) rfl rfl (by decide +kernel) ?_
              refine x_ic_le C (tgt := 53) (off := 12) (by decide) (by decide +kernel) (fun h21 => ?_) (fun h21 => ?_)
              · skip
                refine x_sub [0, 1] (lv2 := [(0, ar this), (1, ai p0)]) rfl ?_
                exact hJ53_13 t3
              · skip
                refine x_sub [0, 1] (lv2 := [(0, ar this), (1, ai p0)]) rfl ?_
                exact hJ44_18 ()
    · skip
      refine x_ic_eq C (tgt := 21) (off := 7) (by decide) (by decide +kernel) (fun h26 => ?_) (fun h26 => ?_)
      · skip
        exact hJ21_23 σ
      · skip
        refine x_aload_n C 0 (i := 0) (k0 := 0) rfl rfl (by decide +kernel) ?_
        refine x_callV C (ci := 12) (c_X12_wrong l D ca ra N σ this) mt_X12_wrong mv_X12_wrong rfl ml_RX12_291 rfl (fun h => Bool.noConfusion h) ⟨Nat.le_of_ble_eq_true rfl, Nat.le_of_ble_eq_true rfl⟩ (Nat.le_of_ble_eq_true rfl) 0 0 ⟨rfl, rfl⟩ ⟨Nat.zero_le _, Nat.zero_le _⟩ (by decide +kernel) _ rfl (fun q25 => []) (fun _ => rfl) (fun q25 => ?_)
        exact hJ21_23 q25.1
  · skip
    refine x_iload_n C 1 (i := 1) (k0 := 1) rfl rfl (by decide +kernel) ?_
    exact x_iret C ⟨Nat.zero_le _, Nat.zero_le _⟩ (by decide +kernel)

def L_X12_takeTape_20 (N : Nat) (this : Nat) (J46_7 : (St → Option (St × Int))) : (St × Int) → Option (St × Int) := fixN N fun b20_9 t9 =>
 Option.bind (gI shm t9.1 12 this 3) fun size_11 =>
 (if wr t9.2 < wr size_11 then Option.bind (gR shm t9.1 12 this 1) fun text_12 =>
 Option.bind (gR shm t9.1 12 this 0) fun tape_13 =>
 Option.bind (aI shm t9.1 4 tape_13 t9.2) fun a14 =>
 Option.bind (sI shm t9.1 4 text_12 t9.2 (wb a14)) fun σ15 =>
 Lt (t9.2 + 1) fun x16 =>
 b20_9 (σ15, x16) else J46_7 t9.1)
def rm_X12_takeTape : Room := { frames := 0, cells := 0, slots := 0, locals := 0 }
def f_X12_takeTape (N : Nat) (σ : St) (this : Nat) : Option (St × Int) :=
 Option.bind (pI shm σ 12 this 4 0) fun σ1 =>
 Option.bind (pI shm σ1 12 this 5 (-1)) fun σ2 =>
 Option.bind (gI shm σ2 12 this 2) fun taped_3 =>
 Option.bind (pI shm σ2 12 this 3 taped_3) fun σ4 =>
 Jn (fun t5 : St => Option.bind (pI shm t5 12 this 2 0) fun σ6 =>
 Option.bind (pI shm σ6 12 this 7 0) fun σ7 =>
 some (σ7, 0)) fun J46_7 =>
 L_X12_takeTape_20 N this J46_7 (σ4, 0)
set_option maxRecDepth 100000 in
set_option maxHeartbeats 4000000 in
theorem c_X12_takeTape (l : Launch) (D : va_G) (ca : Nat → ClassId) (ra : Nat → Nat) (N : Nat) (σ : St) (this : Nat) : Ctr l (D, ca, ra, shm) false yX12_takeTape cX12_takeTape 2 none rm_X12_takeTape σ [ar this] (f_X12_takeTape N σ this) := by
  refine ctr_of (by decide) (Nat.le_of_ble_eq_true rfl) (fun z C => ?_)
  show X z 0 0 σ 0 [(0, ar this)] [] _
  unfold f_X12_takeTape
  refine x_aload_n C 0 (i := 0) (k0 := 0) rfl rfl (by decide +kernel) ?_
  refine x_iconst C (n := 0) (by decide +kernel) ?_
  refine x_pI C fl_RX12_175 rfl (fun q h => by cases h; rfl) (by decide +kernel) (fun σ1 => ?_)
  refine x_aload_n C 0 (i := 0) (k0 := 0) rfl rfl (by decide +kernel) ?_
  refine x_iconst C (n := (-1)) (by decide +kernel) ?_
  refine x_pI C fl_RX12_16 rfl (fun q h => by cases h; rfl) (by decide +kernel) (fun σ2 => ?_)
  refine x_aload_n C 0 (i := 0) (k0 := 0) rfl rfl (by decide +kernel) ?_
  refine x_aload_n C 0 (i := 0) (k0 := 0) rfl rfl (by decide +kernel) ?_
  show X z 0 0 σ2 12 [(0, ar this)] [ar this, ar this] _
  refine x_gI C fl_RX12_294 (fun _ _ _ => rfl) (by decide +kernel) (fun taped_3 => ?_)
  refine x_pI C fl_RX12_172 rfl (fun q h => by cases h; rfl) (by decide +kernel) (fun σ4 => ?_)
  refine x_iconst C (n := 0) (by decide +kernel) ?_
  refine x_istore_n C (i := 1) (k0 := 1) rfl (Nat.le_of_ble_eq_true rfl) (by decide +kernel) (lv2 := [(1, ai 0), (0, ar this)]) rfl ?_
  refine x_join (T := St) (fun t => t) 46 (fun t => [(0, ar this)]) (fun t => []) (fun t5 => ?_) (fun J46_7 hJ46_7 => ?_)
  · show X z 0 0 t5 46 [(0, ar this)] [] _
    refine x_aload_n C 0 (i := 0) (k0 := 0) rfl rfl (by decide +kernel) ?_
    refine x_iconst C (n := 0) (by decide +kernel) ?_
    refine x_pI C fl_RX12_294 rfl (fun q h => by cases h; rfl) (by decide +kernel) (fun σ6 => ?_)
    refine x_aload_n C 0 (i := 0) (k0 := 0) rfl rfl (by decide +kernel) ?_
    refine x_iconst C (n := 0) (by decide +kernel) ?_
    refine x_pI C fl_RX12_246 rfl (fun q h => by cases h; rfl) (by decide +kernel) (fun σ7 => ?_)
    exact x_vret C ⟨Nat.zero_le _, Nat.zero_le _⟩ (by decide +kernel)
  · skip
    refine x_sub [1, 0] (lv2 := [(0, ar this), (1, ai 0)]) rfl ?_
    -- LOOP L_X12_takeTape_20 hb20_9
    refine x_loop (T := St × Int) (fun t => t.1) (fun t => [(0, ar this), (1, ai t.2)]) (σ4, 0) rfl (fun b20_9 hb20_9 t9 => ?_)
    show X z 0 0 t9.1 20 [(0, ar this), (1, ai t9.2)] [] _
    refine x_iload_n C 1 (i := 1) (k0 := 1) rfl rfl (by decide +kernel) ?_
    refine x_aload_n C 0 (i := 0) (k0 := 0) rfl rfl (by decide +kernel) ?_
    refine x_gI C fl_RX12_172 (fun _ _ _ => rfl) (by decide +kernel) (fun size_11 => ?_)
    refine x_ic_ge C (tgt := 46) (off := 21) (by decide) (by decide +kernel) (fun h17 => ?_) (fun h17 => ?_)
    · skip
      refine x_sub [0] (lv2 := [(0, ar this)]) rfl ?_
      exact hJ46_7 t9.1
    · skip
      refine x_aload_n C 0 (i := 0) (k0 := 0) rfl rfl (by decide +kernel) ?_
      refine x_gR C fl_RX12_13 (fun _ _ _ => rfl) (by decide +kernel) (fun text_12 => ?_)
      refine x_iload_n C 1 (i := 1) (k0 := 1) rfl rfl (by decide +kernel) ?_
      refine x_aload_n C 0 (i := 0) (k0 := 0) rfl rfl (by decide +kernel) ?_
      refine x_gR C fl_RX12_7 (fun _ _ _ => rfl) (by decide +kernel) (fun tape_13 => ?_)
      refine x_iload_n C 1 (i := 1) (k0 := 1) rfl rfl (by decide +kernel) ?_
      refine x_aldB C (by decide +kernel) (fun a14 => ?_)
      refine x_astB C (by decide +kernel) (fun σ15 => ?_)
      show X z 0 0 σ15 40 [(0, ar this), (1, ai t9.2)] [] _
      refine x_iinc C 1 (i := 1) (n := 1) (Nat.le_of_ble_eq_true rfl) rfl (by decide +kernel) (lv2 := fun x16 => [(1, ai x16), (0, ar this)]) (fun _ => rfl) (fun x16 => ?_)
      refine x_goto C (tgt := 20) (off := (-23)) (by decide) (by decide +kernel) ?_
      refine x_sub [1, 0] (lv2 := [(0, ar this), (1, ai x16)]) rfl ?_
      exact hb20_9 (σ15, x16)

def rm_X12_isFull : Room := { frames := 1, cells := 0, slots := 0, locals := 22 }
def f_X12_isFull (N : Nat) (σ : St) (this : Nat) : Option (St × Int) :=
 Option.bind (rcv shm σ 12 this (f_X12_isWord N σ this 1885434484)) fun q1 =>
 (if wr q1.2 = 0 then Option.bind (rcv shm σ 12 this (f_X12_isWord N σ this 1785686382)) fun q2 =>
 (if wr q2.2 = 0 then Option.bind (rcv shm σ 12 this (f_X12_isWord N σ this 470021465459)) fun q3 =>
 (if wr q3.2 = 0 then Option.bind (rcv shm σ 12 this (f_X12_isWord N σ this 1952542315)) fun q4 =>
 (if wr q4.2 = 0 then Option.bind (rcv shm σ 12 this (f_X12_isWord N σ this 7499639)) fun q5 =>
 (if wr q5.2 = 0 then some (σ, 1) else some (σ, 0)) else Option.bind (gR shm σ 12 this 15) fun tankMany_7 =>
 Option.bind (gI shm σ 12 this 32) fun rb_8 =>
 Option.bind (aI shm σ 1 tankMany_7 rb_8) fun a9 =>
 (if wr a9 = wr 3 then some (σ, 1) else some (σ, 0))) else Option.bind (gR shm σ 12 this 14) fun moveMany_12 =>
 Option.bind (gI shm σ 12 this 32) fun rb_13 =>
 Option.bind (aI shm σ 1 moveMany_12 rb_13) fun a14 =>
 (if wr a14 = wr 16 then some (σ, 1) else some (σ, 0))) else Option.bind (gR shm σ 12 this 13) fun joinMany_17 =>
 Option.bind (gI shm σ 12 this 32) fun rb_18 =>
 Option.bind (aI shm σ 1 joinMany_17 rb_18) fun a19 =>
 (if wr a19 = wr 16 then some (σ, 1) else some (σ, 0))) else Option.bind (gR shm σ 12 this 12) fun partMany_22 =>
 Option.bind (gI shm σ 12 this 32) fun rb_23 =>
 Option.bind (aI shm σ 1 partMany_22 rb_23) fun a24 =>
 (if wr a24 = wr 12 then some (σ, 1) else some (σ, 0)))
set_option maxRecDepth 100000 in
set_option maxHeartbeats 4000000 in
theorem c_X12_isFull (l : Launch) (D : va_G) (ca : Nat → ClassId) (ra : Nat → Nat) (N : Nat) (σ : St) (this : Nat) : Ctr l (D, ca, ra, shm) false yX12_isFull cX12_isFull 1 (some .boolean) rm_X12_isFull σ [ar this] (f_X12_isFull N σ this) := by
  refine ctr_of (by decide) (Nat.le_of_ble_eq_true rfl) (fun z C => ?_)
  show X z 0 0 σ 0 [(0, ar this)] [] _
  unfold f_X12_isFull
  refine x_aload_n C 0 (i := 0) (k0 := 0) rfl rfl (by decide +kernel) ?_
  refine x_ldc2 C (n := 1885434484) (v := 1885434484) kl_RX12_178 (by decide +kernel) (by decide +kernel) ?_
  refine x_callVp C (ci := 12) (c_X12_isWord l D ca ra N σ this 1885434484) (p_X12_isWord N σ this 1885434484) mt_X12_isWord mv_X12_isWord rfl ml_RX12_315 rfl (fun h => Bool.noConfusion h) ⟨Nat.le_of_ble_eq_true rfl, Nat.le_of_ble_eq_true rfl⟩ (Nat.le_of_ble_eq_true rfl) 0 0 ⟨rfl, rfl⟩ ⟨Nat.zero_le _, Nat.zero_le _⟩ (by decide +kernel) _ rfl (fun q1 => [ai q1.2]) (fun _ => rfl) (fun q1 => ?_)
  refine x_if_eq C (tgt := 30) (off := 23) (by decide) (by decide +kernel) (fun h26 => ?_) (fun h26 => ?_)
  · skip
    refine x_aload_n C 0 (i := 0) (k0 := 0) rfl rfl (by decide +kernel) ?_
    refine x_ldc2 C (n := 1785686382) (v := 1785686382) kl_RX12_192 (by decide +kernel) (by decide +kernel) ?_
    refine x_callVp C (ci := 12) (c_X12_isWord l D ca ra N σ this 1785686382) (p_X12_isWord N σ this 1785686382) mt_X12_isWord mv_X12_isWord rfl ml_RX12_315 rfl (fun h => Bool.noConfusion h) ⟨Nat.le_of_ble_eq_true rfl, Nat.le_of_ble_eq_true rfl⟩ (Nat.le_of_ble_eq_true rfl) 0 0 ⟨rfl, rfl⟩ ⟨Nat.zero_le _, Nat.zero_le _⟩ (by decide +kernel) _ rfl (fun q2 => [ai q2.2]) (fun _ => rfl) (fun q2 => ?_)
    refine x_if_eq C (tgt := 60) (off := 23) (by decide) (by decide +kernel) (fun h21 => ?_) (fun h21 => ?_)
    · skip
      refine x_aload_n C 0 (i := 0) (k0 := 0) rfl rfl (by decide +kernel) ?_
      refine x_ldc2 C (n := 470021465459) (v := 470021465459) kl_RX12_196 (by decide +kernel) (by decide +kernel) ?_
      refine x_callVp C (ci := 12) (c_X12_isWord l D ca ra N σ this 470021465459) (p_X12_isWord N σ this 470021465459) mt_X12_isWord mv_X12_isWord rfl ml_RX12_315 rfl (fun h => Bool.noConfusion h) ⟨Nat.le_of_ble_eq_true rfl, Nat.le_of_ble_eq_true rfl⟩ (Nat.le_of_ble_eq_true rfl) 0 0 ⟨rfl, rfl⟩ ⟨Nat.zero_le _, Nat.zero_le _⟩ (by decide +kernel) _ rfl (fun q3 => [ai q3.2]) (fun _ => rfl) (fun q3 => ?_)
      refine x_if_eq C (tgt := 90) (off := 23) (by decide) (by decide +kernel) (fun h16 => ?_) (fun h16 => ?_)
      · skip
        refine x_aload_n C 0 (i := 0) (k0 := 0) rfl rfl (by decide +kernel) ?_
        refine x_ldc2 C (n := 1952542315) (v := 1952542315) kl_RX12_200 (by decide +kernel) (by decide +kernel) ?_
        refine x_callVp C (ci := 12) (c_X12_isWord l D ca ra N σ this 1952542315) (p_X12_isWord N σ this 1952542315) mt_X12_isWord mv_X12_isWord rfl ml_RX12_315 rfl (fun h => Bool.noConfusion h) ⟨Nat.le_of_ble_eq_true rfl, Nat.le_of_ble_eq_true rfl⟩ (Nat.le_of_ble_eq_true rfl) 0 0 ⟨rfl, rfl⟩ ⟨Nat.zero_le _, Nat.zero_le _⟩ (by decide +kernel) _ rfl (fun q4 => [ai q4.2]) (fun _ => rfl) (fun q4 => ?_)
        refine x_if_eq C (tgt := 119) (off := 22) (by decide) (by decide +kernel) (fun h11 => ?_) (fun h11 => ?_)
        · skip
          refine x_aload_n C 0 (i := 0) (k0 := 0) rfl rfl (by decide +kernel) ?_
          refine x_ldc2 C (n := 7499639) (v := 7499639) kl_RX12_206 (by decide +kernel) (by decide +kernel) ?_
          refine x_callVp C (ci := 12) (c_X12_isWord l D ca ra N σ this 7499639) (p_X12_isWord N σ this 7499639) mt_X12_isWord mv_X12_isWord rfl ml_RX12_315 rfl (fun h => Bool.noConfusion h) ⟨Nat.le_of_ble_eq_true rfl, Nat.le_of_ble_eq_true rfl⟩ (Nat.le_of_ble_eq_true rfl) 0 0 ⟨rfl, rfl⟩ ⟨Nat.zero_le _, Nat.zero_le _⟩ (by decide +kernel) _ rfl (fun q5 => [ai q5.2]) (fun _ => rfl) (fun q5 => ?_)
          refine x_if_ne C (tgt := 133) (off := 7) (by decide) (by decide +kernel) (fun h6 => ?_) (fun h6 => ?_)
          · skip
            refine x_iconst C (n := 0) (by decide +kernel) ?_
            exact x_zret C (Or.inl rfl) ⟨Nat.zero_le _, Nat.zero_le _⟩ (by decide +kernel)
          · skip
            refine x_iconst C (n := 1) (by decide +kernel) ?_
            refine x_goto C (tgt := 134) (off := 4) (by decide) (by decide +kernel) ?_
            exact x_zret C (Or.inr rfl) ⟨Nat.zero_le _, Nat.zero_le _⟩ (by decide +kernel)
        · skip
          refine x_aload_n C 0 (i := 0) (k0 := 0) rfl rfl (by decide +kernel) ?_
          refine x_gR C fl_RX12_33 (fun _ _ _ => rfl) (by decide +kernel) (fun tankMany_7 => ?_)
          refine x_aload_n C 0 (i := 0) (k0 := 0) rfl rfl (by decide +kernel) ?_
          refine x_gI C fl_RX12_303 (fun _ _ _ => rfl) (by decide +kernel) (fun rb_8 => ?_)
          refine x_aldI C (by decide +kernel) (fun a9 => ?_)
          refine x_iconst C (n := 3) (by decide +kernel) ?_
          refine x_ic_ne C (tgt := 117) (off := 7) (by decide) (by decide +kernel) (fun h10 => ?_) (fun h10 => ?_)
          · skip
            refine x_iconst C (n := 0) (by decide +kernel) ?_
            exact x_zret C (Or.inl rfl) ⟨Nat.zero_le _, Nat.zero_le _⟩ (by decide +kernel)
          · skip
            refine x_iconst C (n := 1) (by decide +kernel) ?_
            refine x_goto C (tgt := 118) (off := 4) (by decide) (by decide +kernel) ?_
            exact x_zret C (Or.inr rfl) ⟨Nat.zero_le _, Nat.zero_le _⟩ (by decide +kernel)
      · skip
        refine x_aload_n C 0 (i := 0) (k0 := 0) rfl rfl (by decide +kernel) ?_
        refine x_gR C fl_RX12_30 (fun _ _ _ => rfl) (by decide +kernel) (fun moveMany_12 => ?_)
        refine x_aload_n C 0 (i := 0) (k0 := 0) rfl rfl (by decide +kernel) ?_
        refine x_gI C fl_RX12_303 (fun _ _ _ => rfl) (by decide +kernel) (fun rb_13 => ?_)
        refine x_aldI C (by decide +kernel) (fun a14 => ?_)
        refine x_bipush C (n := 16) (by decide +kernel) (by decide +kernel) ?_
        refine x_ic_ne C (tgt := 88) (off := 7) (by decide) (by decide +kernel) (fun h15 => ?_) (fun h15 => ?_)
        · skip
          refine x_iconst C (n := 0) (by decide +kernel) ?_
          exact x_zret C (Or.inl rfl) ⟨Nat.zero_le _, Nat.zero_le _⟩ (by decide +kernel)
        · skip
          refine x_iconst C (n := 1) (by decide +kernel) ?_
          refine x_goto C (tgt := 89) (off := 4) (by decide) (by decide +kernel) ?_
          exact x_zret C (Or.inr rfl) ⟨Nat.zero_le _, Nat.zero_le _⟩ (by decide +kernel)
    · skip
      refine x_aload_n C 0 (i := 0) (k0 := 0) rfl rfl (by decide +kernel) ?_
      refine x_gR C fl_RX12_27 (fun _ _ _ => rfl) (by decide +kernel) (fun joinMany_17 => ?_)
      refine x_aload_n C 0 (i := 0) (k0 := 0) rfl rfl (by decide +kernel) ?_
      refine x_gI C fl_RX12_303 (fun _ _ _ => rfl) (by decide +kernel) (fun rb_18 => ?_)
      refine x_aldI C (by decide +kernel) (fun a19 => ?_)
      refine x_bipush C (n := 16) (by decide +kernel) (by decide +kernel) ?_
      refine x_ic_ne C (tgt := 58) (off := 7) (by decide) (by decide +kernel) (fun h20 => ?_) (fun h20 => ?_)
      · skip
        refine x_iconst C (n := 0) (by decide +kernel) ?_
        exact x_zret C (Or.inl rfl) ⟨Nat.zero_le _, Nat.zero_le _⟩ (by decide +kernel)
      · skip
        refine x_iconst C (n := 1) (by decide +kernel) ?_
        refine x_goto C (tgt := 59) (off := 4) (by decide) (by decide +kernel) ?_
        exact x_zret C (Or.inr rfl) ⟨Nat.zero_le _, Nat.zero_le _⟩ (by decide +kernel)
  · skip
    refine x_aload_n C 0 (i := 0) (k0 := 0) rfl rfl (by decide +kernel) ?_
    refine x_gR C fl_RX12_24 (fun _ _ _ => rfl) (by decide +kernel) (fun partMany_22 => ?_)
    refine x_aload_n C 0 (i := 0) (k0 := 0) rfl rfl (by decide +kernel) ?_
    refine x_gI C fl_RX12_303 (fun _ _ _ => rfl) (by decide +kernel) (fun rb_23 => ?_)
    refine x_aldI C (by decide +kernel) (fun a24 => ?_)
    refine x_bipush C (n := 12) (by decide +kernel) (by decide +kernel) ?_
    refine x_ic_ne C (tgt := 28) (off := 7) (by decide) (by decide +kernel) (fun h25 => ?_) (fun h25 => ?_)
    · skip
      refine x_iconst C (n := 0) (by decide +kernel) ?_
      exact x_zret C (Or.inl rfl) ⟨Nat.zero_le _, Nat.zero_le _⟩ (by decide +kernel)
    · skip
      refine x_iconst C (n := 1) (by decide +kernel) ?_
      refine x_goto C (tgt := 29) (off := 4) (by decide) (by decide +kernel) ?_
      exact x_zret C (Or.inr rfl) ⟨Nat.zero_le _, Nat.zero_le _⟩ (by decide +kernel)
theorem p_X12_isFull (N : Nat) (σ : St) (this : Nat) : Pu σ (f_X12_isFull N σ this) := by
  unfold f_X12_isFull
  refine pu_bind (fun _ => ?_)
  refine pu_if ?_ ?_
  · skip
    refine pu_bind (fun _ => ?_)
    refine pu_if ?_ ?_
    · skip
      refine pu_bind (fun _ => ?_)
      refine pu_if ?_ ?_
      · skip
        refine pu_bind (fun _ => ?_)
        refine pu_if ?_ ?_
        · skip
          refine pu_bind (fun _ => ?_)
          refine pu_ifs ?_ ?_
          · skip
            exact pu_some
          · skip
            exact pu_some
        · skip
          refine pu_bind (fun _ => ?_)
          refine pu_bind (fun _ => ?_)
          refine pu_bind (fun _ => ?_)
          refine pu_ifs ?_ ?_
          · skip
            exact pu_some
          · skip
            exact pu_some
      · skip
        refine pu_bind (fun _ => ?_)
        refine pu_bind (fun _ => ?_)
        refine pu_bind (fun _ => ?_)
        refine pu_ifs ?_ ?_
        · skip
          exact pu_some
        · skip
          exact pu_some
    · skip
      refine pu_bind (fun _ => ?_)
      refine pu_bind (fun _ => ?_)
      refine pu_bind (fun _ => ?_)
      refine pu_ifs ?_ ?_
      · skip
        exact pu_some
      · skip
        exact pu_some
  · skip
    refine pu_bind (fun _ => ?_)
    refine pu_bind (fun _ => ?_)
    refine pu_bind (fun _ => ?_)
    refine pu_ifs ?_ ?_
    · skip
      exact pu_some
    · skip
      exact pu_some

def L_X12_partNamed_13 (N : Nat) (σ : St) (this : Nat) (J56_16 : (Int → Option (St × Int))) : (Int × Int) → Option (St × Int) := fixN N fun b13_18 t18 =>
 Option.bind (gR shm σ 12 this 12) fun partMany_20 =>
 Option.bind (gI shm σ 12 this 32) fun rb_21 =>
 Option.bind (aI shm σ 1 partMany_20 rb_21) fun a22 =>
 (if wr t18.2 < wr a22 then Option.bind (gR shm σ 12 this 30) fun pName_23 =>
 Option.bind (gI shm σ 12 this 32) fun rb_24 =>
 Option.bind (aI shm σ 2 pName_23 ((12 * rb_24) + t18.2)) fun a25 =>
 Option.bind (gI shm σ 12 this 10) fun name_26 =>
 Jn (fun t27 : Int => Lt (t18.2 + 1) fun x28 =>
 b13_18 (t27, x28)) fun J50_28 =>
 (if wl a25 = wl name_26 then J50_28 t18.2 else J50_28 t18.1) else J56_16 t18.1)
def rm_X12_partNamed : Room := { frames := 2, cells := 0, slots := 0, locals := 45 }
def f_X12_partNamed (N : Nat) (σ : St) (this : Nat) (p0 : Int) : Option (St × Int) :=
 Option.bind (rcv shm σ 12 this (f_X12_isGood N σ this)) fun q1 =>
 (if wr q1.2 = 0 then some (σ, 0) else Jn (fun t2 : Int => Option.bind (gI shm σ 12 this 8) fun token_3 =>
 Jn (fun t4 : St => Option.bind (rcv shm t4 12 this (f_X12_isGood N t4 this)) fun q5 =>
 (if wr q5.2 = 0 then some (t4, t2) else Option.bind (rcv shm t4 12 this (f_X12_next N t4 this)) fun q6 =>
 some (q6.1, t2))) fun J102_7 =>
 (if wr token_3 = wr 2 then (if wr t2 < 0 then Option.bind (gI shm σ 12 this 6) fun at_12 =>
 Option.bind (rcv shm σ 12 this (f_X12_fails N σ this 5 at_12)) fun q13 =>
 J102_7 q13.1 else (if wr t2 = wr p0 then Option.bind (gI shm σ 12 this 6) fun at_9 =>
 Option.bind (rcv shm σ 12 this (f_X12_fails N σ this 6 at_9)) fun q10 =>
 J102_7 q10.1 else J102_7 σ)) else Option.bind (rcv shm σ 12 this (f_X12_wrong N σ this)) fun q15 =>
 J102_7 q15.1)) fun J56_16 =>
 L_X12_partNamed_13 N σ this J56_16 ((-1), 0))
set_option maxRecDepth 100000 in
set_option maxHeartbeats 4000000 in
theorem c_X12_partNamed (l : Launch) (D : va_G) (ca : Nat → ClassId) (ra : Nat → Nat) (N : Nat) (σ : St) (this : Nat) (p0 : Int) : Ctr l (D, ca, ra, shm) false yX12_partNamed cX12_partNamed 4 (some .int) rm_X12_partNamed σ [ar this, ai p0] (f_X12_partNamed N σ this p0) := by
  refine ctr_of (by decide) (Nat.le_of_ble_eq_true rfl) (fun z C => ?_)
  show X z 0 0 σ 0 [(0, ar this), (1, ai p0)] [] _
  unfold f_X12_partNamed
  refine x_aload_n C 0 (i := 0) (k0 := 0) rfl rfl (by decide +kernel) ?_
  refine x_callVp C (ci := 12) (c_X12_isGood l D ca ra N σ this) (p_X12_isGood N σ this) mt_X12_isGood mv_X12_isGood rfl ml_RX12_284 rfl (fun h => Bool.noConfusion h) ⟨Nat.le_of_ble_eq_true rfl, Nat.le_of_ble_eq_true rfl⟩ (Nat.le_of_ble_eq_true rfl) 0 0 ⟨rfl, rfl⟩ ⟨Nat.zero_le _, Nat.zero_le _⟩ (by decide +kernel) _ rfl (fun q1 => [ai q1.2]) (fun _ => rfl) (fun q1 => ?_)
  refine x_if_ne C (tgt := 9) (off := 5) (by decide) (by decide +kernel) (fun h32 => ?_) (fun h32 => ?_)
  · skip
    refine x_iconst C (n := (-1)) (by decide +kernel) ?_
    refine x_istore_n C (i := 2) (k0 := 2) rfl (Nat.le_of_ble_eq_true rfl) (by decide +kernel) (lv2 := [(2, ai (-1)), (0, ar this), (1, ai p0)]) rfl ?_
    refine x_iconst C (n := 0) (by decide +kernel) ?_
    refine x_istore_n C (i := 3) (k0 := 3) rfl (Nat.le_of_ble_eq_true rfl) (by decide +kernel) (lv2 := [(3, ai 0), (2, ai (-1)), (0, ar this), (1, ai p0)]) rfl ?_
    refine x_join (T := Int) (fun t => σ) 56 (fun t => [(0, ar this), (1, ai p0), (2, ai t)]) (fun t => []) (fun t2 => ?_) (fun J56_16 hJ56_16 => ?_)
    · show X z 0 0 σ 56 [(0, ar this), (1, ai p0), (2, ai t2)] [] _
      refine x_aload_n C 0 (i := 0) (k0 := 0) rfl rfl (by decide +kernel) ?_
      refine x_gI C fl_RX12_256 (fun _ _ _ => rfl) (by decide +kernel) (fun token_3 => ?_)
      refine x_iconst C (n := 2) (by decide +kernel) ?_
      refine x_join (T := St) (fun t => t) 102 (fun t => [(0, ar this), (2, ai t2)]) (fun t => []) (fun t4 => ?_) (fun J102_7 hJ102_7 => ?_)
      · show X z 0 0 t4 102 [(0, ar this), (2, ai t2)] [] _
        refine x_aload_n C 0 (i := 0) (k0 := 0) rfl rfl (by decide +kernel) ?_
        refine x_callVp C (ci := 12) (c_X12_isGood l D ca ra N t4 this) (p_X12_isGood N t4 this) mt_X12_isGood mv_X12_isGood rfl ml_RX12_284 rfl (fun h => Bool.noConfusion h) ⟨Nat.le_of_ble_eq_true rfl, Nat.le_of_ble_eq_true rfl⟩ (Nat.le_of_ble_eq_true rfl) 0 0 ⟨rfl, rfl⟩ ⟨Nat.zero_le _, Nat.zero_le _⟩ (by decide +kernel) _ rfl (fun q5 => [ai q5.2]) (fun _ => rfl) (fun q5 => ?_)
        refine x_if_eq C (tgt := 113) (off := 7) (by decide) (by decide +kernel) (fun h7 => ?_) (fun h7 => ?_)
        · skip
          refine x_iload_n C 1 (i := 2) (k0 := 2) rfl rfl (by decide +kernel) ?_
          exact x_iret C ⟨Nat.zero_le _, Nat.zero_le _⟩ (by decide +kernel)
        · skip
          refine x_aload_n C 0 (i := 0) (k0 := 0) rfl rfl (by decide +kernel) ?_
          refine x_callV C (ci := 12) (c_X12_next l D ca ra N t4 this) mt_X12_next mv_X12_next rfl ml_RX12_288 rfl (fun h => Bool.noConfusion h) ⟨Nat.le_of_ble_eq_true rfl, Nat.le_of_ble_eq_true rfl⟩ (Nat.le_of_ble_eq_true rfl) 0 0 ⟨rfl, rfl⟩ ⟨Nat.zero_le _, Nat.zero_le _⟩ (by decide +kernel) _ rfl (fun q6 => []) (fun _ => rfl) (fun q6 => ?_)
          refine x_iload_n C 1 (i := 2) (k0 := 2) rfl rfl (by decide +kernel) ?_
          exact x_iret C ⟨Nat.zero_le _, Nat.zero_le _⟩ (by decide +kernel)
      · skip
        refine x_ic_eq C (tgt := 71) (off := 10) (by decide) (by decide +kernel) (fun h16 => ?_) (fun h16 => ?_)
        · skip
          refine x_iload_n C 2 (i := 2) (k0 := 2) rfl rfl (by decide +kernel) ?_
          refine x_if_ge C (tgt := 87) (off := 15) (by decide) (by decide +kernel) (fun h14 => ?_) (fun h14 => ?_)
          · skip
            refine x_iload_n C 2 (i := 2) (k0 := 2) rfl rfl (by decide +kernel) ?_
            refine x_iload_n C 1 (i := 1) (k0 := 1) rfl rfl (by decide +kernel) ?_
            refine x_ic_ne C (tgt := 102) (off := 13) (by decide) (by decide +kernel) (fun h11 => ?_) (fun h11 => ?_)
            · skip
              refine x_sub [0, 2] (lv2 := [(0, ar this), (2, ai t2)]) rfl ?_
              exact hJ102_7 σ
            · skip
              refine x_aload_n C 0 (i := 0) (k0 := 0) rfl rfl (by decide +kernel) ?_
              refine x_bipush C (n := 6) (by decide +kernel) (by decide +kernel) ?_
              refine x_aload_n C 0 (i := 0) (k0 := 0) rfl rfl (by decide +kernel) ?_
              refine x_gI C fl_RX12_249 (fun _ _ _ => rfl) (by decide +kernel) (fun at_9 => ?_)
              refine x_callV C (ci := 12) (c_X12_fails l D ca ra N σ this 6 at_9) mt_X12_fails mv_X12_fails rfl ml_RX12_280 rfl (fun h => Bool.noConfusion h) ⟨Nat.le_of_ble_eq_true rfl, Nat.le_of_ble_eq_true rfl⟩ (Nat.le_of_ble_eq_true rfl) 0 0 ⟨rfl, rfl⟩ ⟨Nat.zero_le _, Nat.zero_le _⟩ (by decide +kernel) _ rfl (fun q10 => []) (fun _ => rfl) (fun q10 => ?_)
              refine x_sub [0, 2] (lv2 := [(0, ar this), (2, ai t2)]) rfl ?_
              exact hJ102_7 q10.1
          · skip
            refine x_aload_n C 0 (i := 0) (k0 := 0) rfl rfl (by decide +kernel) ?_
            refine x_iconst C (n := 5) (by decide +kernel) ?_
            refine x_aload_n C 0 (i := 0) (k0 := 0) rfl rfl (by decide +kernel) ?_
            refine x_gI C fl_RX12_249 (fun _ _ _ => rfl) (by decide +kernel) (fun at_12 => ?_)
            refine x_callV C (ci := 12) (c_X12_fails l D ca ra N σ this 5 at_12) mt_X12_fails mv_X12_fails rfl ml_RX12_280 rfl (fun h => Bool.noConfusion h) ⟨Nat.le_of_ble_eq_true rfl, Nat.le_of_ble_eq_true rfl⟩ (Nat.le_of_ble_eq_true rfl) 0 0 ⟨rfl, rfl⟩ ⟨Nat.zero_le _, Nat.zero_le _⟩ (by decide +kernel) _ rfl (fun q13 => []) (fun _ => rfl) (fun q13 => ?_)
            refine x_goto C (tgt := 102) (off := 18) (by decide) (by decide +kernel) ?_
            refine x_sub [0, 2] (lv2 := [(0, ar this), (2, ai t2)]) rfl ?_
            exact hJ102_7 q13.1
        · skip
          refine x_aload_n C 0 (i := 0) (k0 := 0) rfl rfl (by decide +kernel) ?_
          refine x_callV C (ci := 12) (c_X12_wrong l D ca ra N σ this) mt_X12_wrong mv_X12_wrong rfl ml_RX12_291 rfl (fun h => Bool.noConfusion h) ⟨Nat.le_of_ble_eq_true rfl, Nat.le_of_ble_eq_true rfl⟩ (Nat.le_of_ble_eq_true rfl) 0 0 ⟨rfl, rfl⟩ ⟨Nat.zero_le _, Nat.zero_le _⟩ (by decide +kernel) _ rfl (fun q15 => []) (fun _ => rfl) (fun q15 => ?_)
          refine x_goto C (tgt := 102) (off := 34) (by decide) (by decide +kernel) ?_
          refine x_sub [0, 2] (lv2 := [(0, ar this), (2, ai t2)]) rfl ?_
          exact hJ102_7 q15.1
    · skip
      refine x_sub [2, 3, 1, 0] (lv2 := [(0, ar this), (1, ai p0), (2, ai (-1)), (3, ai 0)]) rfl ?_
      -- LOOP L_X12_partNamed_13 hb13_18
      refine x_loop (T := Int × Int) (fun t => σ) (fun t => [(0, ar this), (1, ai p0), (2, ai t.1), (3, ai t.2)]) ((-1), 0) rfl (fun b13_18 hb13_18 t18 => ?_)
      show X z 0 0 σ 13 [(0, ar this), (1, ai p0), (2, ai t18.1), (3, ai t18.2)] [] _
      refine x_iload_n C 3 (i := 3) (k0 := 3) rfl rfl (by decide +kernel) ?_
      refine x_aload_n C 0 (i := 0) (k0 := 0) rfl rfl (by decide +kernel) ?_
      refine x_gR C fl_RX12_24 (fun _ _ _ => rfl) (by decide +kernel) (fun partMany_20 => ?_)
      refine x_aload_n C 0 (i := 0) (k0 := 0) rfl rfl (by decide +kernel) ?_
      refine x_gI C fl_RX12_303 (fun _ _ _ => rfl) (by decide +kernel) (fun rb_21 => ?_)
      refine x_aldI C (by decide +kernel) (fun a22 => ?_)
      refine x_ic_ge C (tgt := 56) (off := 33) (by decide) (by decide +kernel) (fun h31 => ?_) (fun h31 => ?_)
      · skip
        refine x_sub [0, 1, 2] (lv2 := [(0, ar this), (1, ai p0), (2, ai t18.1)]) rfl ?_
        exact hJ56_16 t18.1
      · skip
        refine x_aload_n C 0 (i := 0) (k0 := 0) rfl rfl (by decide +kernel) ?_
        refine x_gR C fl_RX12_79 (fun _ _ _ => rfl) (by decide +kernel) (fun pName_23 => ?_)
        refine x_bipush C (n := 12) (by decide +kernel) (by decide +kernel) ?_
        refine x_aload_n C 0 (i := 0) (k0 := 0) rfl rfl (by decide +kernel) ?_
        refine x_gI C fl_RX12_303 (fun _ _ _ => rfl) (by decide +kernel) (fun rb_24 => ?_)
        refine x_imul C (by decide +kernel) ?_
        refine x_iload_n C 3 (i := 3) (k0 := 3) rfl rfl (by decide +kernel) ?_
        refine x_iadd C (by decide +kernel) ?_
        show X z 0 0 σ 39 [(0, ar this), (1, ai p0), (2, ai t18.1), (3, ai t18.2)] [ai ((12 * rb_24) + t18.2), ar pName_23] _
        refine x_aldL C (by decide +kernel) (fun a25 => ?_)
        refine x_aload_n C 0 (i := 0) (k0 := 0) rfl rfl (by decide +kernel) ?_
        refine x_gL C fl_RX12_263 (fun _ _ _ => rfl) (by decide +kernel) (fun name_26 => ?_)
        refine x_join (T := Int) (fun t => σ) 50 (fun t => [(0, ar this), (1, ai p0), (2, ai t), (3, ai t18.2)]) (fun t => []) (fun t27 => ?_) (fun J50_28 hJ50_28 => ?_)
        · show X z 0 0 σ 50 [(0, ar this), (1, ai p0), (2, ai t27), (3, ai t18.2)] [] _
          refine x_iinc C 3 (i := 3) (n := 1) (Nat.le_of_ble_eq_true rfl) rfl (by decide +kernel) (lv2 := fun x28 => [(3, ai x28), (0, ar this), (1, ai p0), (2, ai t27)]) (fun _ => rfl) (fun x28 => ?_)
          refine x_goto C (tgt := 13) (off := (-40)) (by decide) (by decide +kernel) ?_
          refine x_sub [1, 2, 3, 0] (lv2 := [(0, ar this), (1, ai p0), (2, ai t27), (3, ai x28)]) rfl ?_
          exact hb13_18 (t27, x28)
        · skip
          refine x_lcmp_ne C (tgt := 50) (off := 5) (by decide) (by decide +kernel) (by decide +kernel) (fun h30 => ?_) (fun h30 => ?_)
          · skip
            exact hJ50_28 t18.1
          · skip
            refine x_iload_n C 3 (i := 3) (k0 := 3) rfl rfl (by decide +kernel) ?_
            refine x_istore_n C (i := 2) (k0 := 2) rfl (Nat.le_of_ble_eq_true rfl) (by decide +kernel) (lv2 := [(2, ai t18.2), (0, ar this), (1, ai p0), (3, ai t18.2)]) rfl ?_
            refine x_sub [1, 2, 0, 3] (lv2 := [(0, ar this), (1, ai p0), (2, ai t18.2), (3, ai t18.2)]) rfl ?_
            exact hJ50_28 t18.2
  · skip
    refine x_iconst C (n := 0) (by decide +kernel) ?_
    exact x_iret C ⟨Nat.zero_le _, Nat.zero_le _⟩ (by decide +kernel)

def rm_X12_readJoin : Room := { frames := 3, cells := 0, slots := 0, locals := 68 }
def f_X12_readJoin (N : Nat) (σ : St) (this : Nat) : Option (St × Int) :=
 Option.bind (gI shm σ 12 this 32) fun rb_1 =>
 Option.bind (gR shm σ 12 this 13) fun joinMany_2 =>
 Option.bind (gI shm σ 12 this 32) fun rb_3 =>
 Option.bind (aI shm σ 1 joinMany_2 rb_3) fun a4 =>
 Lt ((16 * rb_1) + a4) fun x5 =>
 Option.bind (gR shm σ 12 this 20) fun jA_6 =>
 Option.bind (rcv shm σ 12 this (f_X12_partNamed N σ this (-1))) fun q7 =>
 Option.bind (sI shm q7.1 1 jA_6 x5 q7.2) fun σ8 =>
 Option.bind (gR shm σ8 12 this 21) fun jB_9 =>
 Option.bind (gR shm σ8 12 this 20) fun jA_10 =>
 Option.bind (aI shm σ8 1 jA_10 x5) fun a11 =>
 Option.bind (rcv shm σ8 12 this (f_X12_partNamed N σ8 this a11)) fun q12 =>
 Option.bind (sI shm q12.1 1 jB_9 x5 q12.2) fun σ13 =>
 Option.bind (rcv shm σ13 12 this (f_X12_isWord N σ13 this 6775152)) fun q14 =>
 Option.bind (rcv shm σ13 12 this (f_X12_must N σ13 this q14.2)) fun q15 =>
 Option.bind (gR shm q15.1 12 this 22) fun jGap_16 =>
 Option.bind (rcv shm q15.1 12 this (f_X12_numeral N q15.1 this 0 99)) fun q17 =>
 Option.bind (sI shm q17.1 1 jGap_16 x5 q17.2) fun σ18 =>
 Option.bind (gR shm σ18 12 this 13) fun joinMany_19 =>
 Option.bind (gI shm σ18 12 this 32) fun rb_20 =>
 Option.bind (aI shm σ18 1 joinMany_19 rb_20) fun a21 =>
 Option.bind (sI shm σ18 1 joinMany_19 rb_20 (a21 + 1)) fun σ22 =>
 some (σ22, 0)
set_option maxRecDepth 100000 in
set_option maxHeartbeats 4000000 in
theorem c_X12_readJoin (l : Launch) (D : va_G) (ca : Nat → ClassId) (ra : Nat → Nat) (N : Nat) (σ : St) (this : Nat) : Ctr l (D, ca, ra, shm) false yX12_readJoin cX12_readJoin 2 none rm_X12_readJoin σ [ar this] (f_X12_readJoin N σ this) := by
  refine ctr_of (by decide) (Nat.le_of_ble_eq_true rfl) (fun z C => ?_)
  show X z 0 0 σ 0 [(0, ar this)] [] _
  unfold f_X12_readJoin
  refine x_bipush C (n := 16) (by decide +kernel) (by decide +kernel) ?_
  refine x_aload_n C 0 (i := 0) (k0 := 0) rfl rfl (by decide +kernel) ?_
  refine x_gI C fl_RX12_303 (fun _ _ _ => rfl) (by decide +kernel) (fun rb_1 => ?_)
  refine x_imul C (by decide +kernel) ?_
  refine x_aload_n C 0 (i := 0) (k0 := 0) rfl rfl (by decide +kernel) ?_
  refine x_gR C fl_RX12_27 (fun _ _ _ => rfl) (by decide +kernel) (fun joinMany_2 => ?_)
  refine x_aload_n C 0 (i := 0) (k0 := 0) rfl rfl (by decide +kernel) ?_
  refine x_gI C fl_RX12_303 (fun _ _ _ => rfl) (by decide +kernel) (fun rb_3 => ?_)
  show X z 0 0 σ 15 [(0, ar this)] [ai rb_3, ar joinMany_2, ai (16 * rb_1)] _
  refine x_aldI C (by decide +kernel) (fun a4 => ?_)
  refine x_iadd C (by decide +kernel) ?_
  refine x_istore_nL C (i := 1) (k0 := 1) rfl (Nat.le_of_ble_eq_true rfl) (by decide +kernel) (lv2 := fun x5 => [(1, ai x5), (0, ar this)]) (fun _ => rfl) (fun x5 => ?_)
  refine x_aload_n C 1 (i := 0) (k0 := 0) rfl rfl (by decide +kernel) ?_
  refine x_gR C fl_RX12_48 (fun _ _ _ => rfl) (by decide +kernel) (fun jA_6 => ?_)
  refine x_iload_n C 0 (i := 1) (k0 := 1) rfl rfl (by decide +kernel) ?_
  refine x_aload_n C 1 (i := 0) (k0 := 0) rfl rfl (by decide +kernel) ?_
  refine x_iconst C (n := (-1)) (by decide +kernel) ?_
  show X z 0 0 σ 25 [(1, ai x5), (0, ar this)] [ai (-1), ar this, ai x5, ar jA_6] _
  refine x_callV C (ci := 12) (c_X12_partNamed l D ca ra N σ this (-1)) mt_X12_partNamed mv_X12_partNamed rfl ml_RX12_347 rfl (fun h => Bool.noConfusion h) ⟨Nat.le_of_ble_eq_true rfl, Nat.le_of_ble_eq_true rfl⟩ (Nat.le_of_ble_eq_true rfl) 0 0 ⟨rfl, rfl⟩ ⟨Nat.zero_le _, Nat.zero_le _⟩ (by decide +kernel) _ rfl (fun q7 => [ai q7.2, ai x5, ar jA_6]) (fun _ => rfl) (fun q7 => ?_)
  refine x_astI C (by decide +kernel) (fun σ8 => ?_)
  refine x_aload_n C 1 (i := 0) (k0 := 0) rfl rfl (by decide +kernel) ?_
  refine x_gR C fl_RX12_51 (fun _ _ _ => rfl) (by decide +kernel) (fun jB_9 => ?_)
  refine x_iload_n C 0 (i := 1) (k0 := 1) rfl rfl (by decide +kernel) ?_
  refine x_aload_n C 1 (i := 0) (k0 := 0) rfl rfl (by decide +kernel) ?_
  refine x_aload_n C 1 (i := 0) (k0 := 0) rfl rfl (by decide +kernel) ?_
  refine x_gR C fl_RX12_48 (fun _ _ _ => rfl) (by decide +kernel) (fun jA_10 => ?_)
  show X z 0 0 σ8 39 [(1, ai x5), (0, ar this)] [ar jA_10, ar this, ai x5, ar jB_9] _
  refine x_iload_n C 0 (i := 1) (k0 := 1) rfl rfl (by decide +kernel) ?_
  refine x_aldI C (by decide +kernel) (fun a11 => ?_)
  refine x_callV C (ci := 12) (c_X12_partNamed l D ca ra N σ8 this a11) mt_X12_partNamed mv_X12_partNamed rfl ml_RX12_347 rfl (fun h => Bool.noConfusion h) ⟨Nat.le_of_ble_eq_true rfl, Nat.le_of_ble_eq_true rfl⟩ (Nat.le_of_ble_eq_true rfl) 0 0 ⟨rfl, rfl⟩ ⟨Nat.zero_le _, Nat.zero_le _⟩ (by decide +kernel) _ rfl (fun q12 => [ai q12.2, ai x5, ar jB_9]) (fun _ => rfl) (fun q12 => ?_)
  refine x_astI C (by decide +kernel) (fun σ13 => ?_)
  refine x_aload_n C 1 (i := 0) (k0 := 0) rfl rfl (by decide +kernel) ?_
  refine x_aload_n C 1 (i := 0) (k0 := 0) rfl rfl (by decide +kernel) ?_
  refine x_ldc2 C (n := 6775152) (v := 6775152) kl_RX12_194 (by decide +kernel) (by decide +kernel) ?_
  refine x_callVp C (ci := 12) (c_X12_isWord l D ca ra N σ13 this 6775152) (p_X12_isWord N σ13 this 6775152) mt_X12_isWord mv_X12_isWord rfl ml_RX12_315 rfl (fun h => Bool.noConfusion h) ⟨Nat.le_of_ble_eq_true rfl, Nat.le_of_ble_eq_true rfl⟩ (Nat.le_of_ble_eq_true rfl) 0 0 ⟨rfl, rfl⟩ ⟨Nat.zero_le _, Nat.zero_le _⟩ (by decide +kernel) _ rfl (fun q14 => [ai q14.2, ar this]) (fun _ => rfl) (fun q14 => ?_)
  show X z 0 0 σ13 53 [(1, ai x5), (0, ar this)] [ai q14.2, ar this] _
  refine x_callV C (ci := 12) (c_X12_must l D ca ra N σ13 this q14.2) mt_X12_must mv_X12_must rfl ml_RX12_339 rfl (fun h => Bool.noConfusion h) ⟨Nat.le_of_ble_eq_true rfl, Nat.le_of_ble_eq_true rfl⟩ (Nat.le_of_ble_eq_true rfl) 0 0 ⟨rfl, rfl⟩ ⟨Nat.zero_le _, Nat.zero_le _⟩ (by decide +kernel) _ rfl (fun q15 => []) (fun _ => rfl) (fun q15 => ?_)
  refine x_aload_n C 1 (i := 0) (k0 := 0) rfl rfl (by decide +kernel) ?_
  refine x_gR C fl_RX12_54 (fun _ _ _ => rfl) (by decide +kernel) (fun jGap_16 => ?_)
  refine x_iload_n C 0 (i := 1) (k0 := 1) rfl rfl (by decide +kernel) ?_
  refine x_aload_n C 1 (i := 0) (k0 := 0) rfl rfl (by decide +kernel) ?_
  refine x_iconst C (n := 0) (by decide +kernel) ?_
  refine x_bipush C (n := 99) (by decide +kernel) (by decide +kernel) ?_
  refine x_callV C (ci := 12) (c_X12_numeral l D ca ra N q15.1 this 0 99) mt_X12_numeral mv_X12_numeral rfl ml_RX12_343 rfl (fun h => Bool.noConfusion h) ⟨Nat.le_of_ble_eq_true rfl, Nat.le_of_ble_eq_true rfl⟩ (Nat.le_of_ble_eq_true rfl) 0 0 ⟨rfl, rfl⟩ ⟨Nat.zero_le _, Nat.zero_le _⟩ (by decide +kernel) _ rfl (fun q17 => [ai q17.2, ai x5, ar jGap_16]) (fun _ => rfl) (fun q17 => ?_)
  show X z 0 0 q17.1 68 [(1, ai x5), (0, ar this)] [ai q17.2, ai x5, ar jGap_16] _
  refine x_astI C (by decide +kernel) (fun σ18 => ?_)
  refine x_aload_n C 1 (i := 0) (k0 := 0) rfl rfl (by decide +kernel) ?_
  refine x_gR C fl_RX12_27 (fun _ _ _ => rfl) (by decide +kernel) (fun joinMany_19 => ?_)
  refine x_aload_n C 1 (i := 0) (k0 := 0) rfl rfl (by decide +kernel) ?_
  refine x_gI C fl_RX12_303 (fun _ _ _ => rfl) (by decide +kernel) (fun rb_20 => ?_)
  refine x_dup2 C rfl rfl (by decide +kernel) ?_
  refine x_aldI C (by decide +kernel) (fun a21 => ?_)
  refine x_iconst C (n := 1) (by decide +kernel) ?_
  show X z 0 0 σ18 80 [(1, ai x5), (0, ar this)] [ai 1, ai a21, ai rb_20, ar joinMany_19] _
  refine x_iadd C (by decide +kernel) ?_
  refine x_astI C (by decide +kernel) (fun σ22 => ?_)
  exact x_vret C ⟨Nat.zero_le _, Nat.zero_le _⟩ (by decide +kernel)

def rm_X12_readMoves : Room := { frames := 3, cells := 0, slots := 0, locals := 68 }
def f_X12_readMoves (N : Nat) (σ : St) (this : Nat) : Option (St × Int) :=
 Option.bind (gI shm σ 12 this 32) fun rb_1 =>
 Option.bind (gR shm σ 12 this 14) fun moveMany_2 =>
 Option.bind (gI shm σ 12 this 32) fun rb_3 =>
 Option.bind (aI shm σ 1 moveMany_2 rb_3) fun a4 =>
 Lt ((16 * rb_1) + a4) fun x5 =>
 Option.bind (gR shm σ 12 this 23) fun mA_6 =>
 Option.bind (rcv shm σ 12 this (f_X12_partNamed N σ this (-1))) fun q7 =>
 Option.bind (sI shm q7.1 1 mA_6 x5 q7.2) fun σ8 =>
 Option.bind (gR shm σ8 12 this 24) fun mB_9 =>
 Option.bind (gR shm σ8 12 this 23) fun mA_10 =>
 Option.bind (aI shm σ8 1 mA_10 x5) fun a11 =>
 Option.bind (rcv shm σ8 12 this (f_X12_partNamed N σ8 this a11)) fun q12 =>
 Option.bind (sI shm q12.1 1 mB_9 x5 q12.2) fun σ13 =>
 Option.bind (rcv shm σ13 12 this (f_X12_isWord N σ13 this 418330731890)) fun q14 =>
 Option.bind (rcv shm σ13 12 this (f_X12_must N σ13 this q14.2)) fun q15 =>
 Option.bind (gR shm q15.1 12 this 25) fun mAfter_16 =>
 Option.bind (rcv shm q15.1 12 this (f_X12_numeral N q15.1 this 0 24)) fun q17 =>
 Option.bind (sI shm q17.1 1 mAfter_16 x5 q17.2) fun σ18 =>
 Option.bind (gR shm σ18 12 this 14) fun moveMany_19 =>
 Option.bind (gI shm σ18 12 this 32) fun rb_20 =>
 Option.bind (aI shm σ18 1 moveMany_19 rb_20) fun a21 =>
 Option.bind (sI shm σ18 1 moveMany_19 rb_20 (a21 + 1)) fun σ22 =>
 some (σ22, 0)
set_option maxRecDepth 100000 in
set_option maxHeartbeats 4000000 in
theorem c_X12_readMoves (l : Launch) (D : va_G) (ca : Nat → ClassId) (ra : Nat → Nat) (N : Nat) (σ : St) (this : Nat) : Ctr l (D, ca, ra, shm) false yX12_readMoves cX12_readMoves 2 none rm_X12_readMoves σ [ar this] (f_X12_readMoves N σ this) := by
  refine ctr_of (by decide) (Nat.le_of_ble_eq_true rfl) (fun z C => ?_)
  show X z 0 0 σ 0 [(0, ar this)] [] _
  unfold f_X12_readMoves
  refine x_bipush C (n := 16) (by decide +kernel) (by decide +kernel) ?_
  refine x_aload_n C 0 (i := 0) (k0 := 0) rfl rfl (by decide +kernel) ?_
  refine x_gI C fl_RX12_303 (fun _ _ _ => rfl) (by decide +kernel) (fun rb_1 => ?_)
  refine x_imul C (by decide +kernel) ?_
  refine x_aload_n C 0 (i := 0) (k0 := 0) rfl rfl (by decide +kernel) ?_
  refine x_gR C fl_RX12_30 (fun _ _ _ => rfl) (by decide +kernel) (fun moveMany_2 => ?_)
  refine x_aload_n C 0 (i := 0) (k0 := 0) rfl rfl (by decide +kernel) ?_
  refine x_gI C fl_RX12_303 (fun _ _ _ => rfl) (by decide +kernel) (fun rb_3 => ?_)
  show X z 0 0 σ 15 [(0, ar this)] [ai rb_3, ar moveMany_2, ai (16 * rb_1)] _
  refine x_aldI C (by decide +kernel) (fun a4 => ?_)
  refine x_iadd C (by decide +kernel) ?_
  refine x_istore_nL C (i := 1) (k0 := 1) rfl (Nat.le_of_ble_eq_true rfl) (by decide +kernel) (lv2 := fun x5 => [(1, ai x5), (0, ar this)]) (fun _ => rfl) (fun x5 => ?_)
  refine x_aload_n C 1 (i := 0) (k0 := 0) rfl rfl (by decide +kernel) ?_
  refine x_gR C fl_RX12_57 (fun _ _ _ => rfl) (by decide +kernel) (fun mA_6 => ?_)
  refine x_iload_n C 0 (i := 1) (k0 := 1) rfl rfl (by decide +kernel) ?_
  refine x_aload_n C 1 (i := 0) (k0 := 0) rfl rfl (by decide +kernel) ?_
  refine x_iconst C (n := (-1)) (by decide +kernel) ?_
  show X z 0 0 σ 25 [(1, ai x5), (0, ar this)] [ai (-1), ar this, ai x5, ar mA_6] _
  refine x_callV C (ci := 12) (c_X12_partNamed l D ca ra N σ this (-1)) mt_X12_partNamed mv_X12_partNamed rfl ml_RX12_347 rfl (fun h => Bool.noConfusion h) ⟨Nat.le_of_ble_eq_true rfl, Nat.le_of_ble_eq_true rfl⟩ (Nat.le_of_ble_eq_true rfl) 0 0 ⟨rfl, rfl⟩ ⟨Nat.zero_le _, Nat.zero_le _⟩ (by decide +kernel) _ rfl (fun q7 => [ai q7.2, ai x5, ar mA_6]) (fun _ => rfl) (fun q7 => ?_)
  refine x_astI C (by decide +kernel) (fun σ8 => ?_)
  refine x_aload_n C 1 (i := 0) (k0 := 0) rfl rfl (by decide +kernel) ?_
  refine x_gR C fl_RX12_60 (fun _ _ _ => rfl) (by decide +kernel) (fun mB_9 => ?_)
  refine x_iload_n C 0 (i := 1) (k0 := 1) rfl rfl (by decide +kernel) ?_
  refine x_aload_n C 1 (i := 0) (k0 := 0) rfl rfl (by decide +kernel) ?_
  refine x_aload_n C 1 (i := 0) (k0 := 0) rfl rfl (by decide +kernel) ?_
  refine x_gR C fl_RX12_57 (fun _ _ _ => rfl) (by decide +kernel) (fun mA_10 => ?_)
  show X z 0 0 σ8 39 [(1, ai x5), (0, ar this)] [ar mA_10, ar this, ai x5, ar mB_9] _
  refine x_iload_n C 0 (i := 1) (k0 := 1) rfl rfl (by decide +kernel) ?_
  refine x_aldI C (by decide +kernel) (fun a11 => ?_)
  refine x_callV C (ci := 12) (c_X12_partNamed l D ca ra N σ8 this a11) mt_X12_partNamed mv_X12_partNamed rfl ml_RX12_347 rfl (fun h => Bool.noConfusion h) ⟨Nat.le_of_ble_eq_true rfl, Nat.le_of_ble_eq_true rfl⟩ (Nat.le_of_ble_eq_true rfl) 0 0 ⟨rfl, rfl⟩ ⟨Nat.zero_le _, Nat.zero_le _⟩ (by decide +kernel) _ rfl (fun q12 => [ai q12.2, ai x5, ar mB_9]) (fun _ => rfl) (fun q12 => ?_)
  refine x_astI C (by decide +kernel) (fun σ13 => ?_)
  refine x_aload_n C 1 (i := 0) (k0 := 0) rfl rfl (by decide +kernel) ?_
  refine x_aload_n C 1 (i := 0) (k0 := 0) rfl rfl (by decide +kernel) ?_
  refine x_ldc2 C (n := 418330731890) (v := 418330731890) kl_RX12_198 (by decide +kernel) (by decide +kernel) ?_
  refine x_callVp C (ci := 12) (c_X12_isWord l D ca ra N σ13 this 418330731890) (p_X12_isWord N σ13 this 418330731890) mt_X12_isWord mv_X12_isWord rfl ml_RX12_315 rfl (fun h => Bool.noConfusion h) ⟨Nat.le_of_ble_eq_true rfl, Nat.le_of_ble_eq_true rfl⟩ (Nat.le_of_ble_eq_true rfl) 0 0 ⟨rfl, rfl⟩ ⟨Nat.zero_le _, Nat.zero_le _⟩ (by decide +kernel) _ rfl (fun q14 => [ai q14.2, ar this]) (fun _ => rfl) (fun q14 => ?_)
  show X z 0 0 σ13 53 [(1, ai x5), (0, ar this)] [ai q14.2, ar this] _
  refine x_callV C (ci := 12) (c_X12_must l D ca ra N σ13 this q14.2) mt_X12_must mv_X12_must rfl ml_RX12_339 rfl (fun h => Bool.noConfusion h) ⟨Nat.le_of_ble_eq_true rfl, Nat.le_of_ble_eq_true rfl⟩ (Nat.le_of_ble_eq_true rfl) 0 0 ⟨rfl, rfl⟩ ⟨Nat.zero_le _, Nat.zero_le _⟩ (by decide +kernel) _ rfl (fun q15 => []) (fun _ => rfl) (fun q15 => ?_)
  refine x_aload_n C 1 (i := 0) (k0 := 0) rfl rfl (by decide +kernel) ?_
  refine x_gR C fl_RX12_63 (fun _ _ _ => rfl) (by decide +kernel) (fun mAfter_16 => ?_)
  refine x_iload_n C 0 (i := 1) (k0 := 1) rfl rfl (by decide +kernel) ?_
  refine x_aload_n C 1 (i := 0) (k0 := 0) rfl rfl (by decide +kernel) ?_
  refine x_iconst C (n := 0) (by decide +kernel) ?_
  refine x_bipush C (n := 24) (by decide +kernel) (by decide +kernel) ?_
  refine x_callV C (ci := 12) (c_X12_numeral l D ca ra N q15.1 this 0 24) mt_X12_numeral mv_X12_numeral rfl ml_RX12_343 rfl (fun h => Bool.noConfusion h) ⟨Nat.le_of_ble_eq_true rfl, Nat.le_of_ble_eq_true rfl⟩ (Nat.le_of_ble_eq_true rfl) 0 0 ⟨rfl, rfl⟩ ⟨Nat.zero_le _, Nat.zero_le _⟩ (by decide +kernel) _ rfl (fun q17 => [ai q17.2, ai x5, ar mAfter_16]) (fun _ => rfl) (fun q17 => ?_)
  show X z 0 0 q17.1 68 [(1, ai x5), (0, ar this)] [ai q17.2, ai x5, ar mAfter_16] _
  refine x_astI C (by decide +kernel) (fun σ18 => ?_)
  refine x_aload_n C 1 (i := 0) (k0 := 0) rfl rfl (by decide +kernel) ?_
  refine x_gR C fl_RX12_30 (fun _ _ _ => rfl) (by decide +kernel) (fun moveMany_19 => ?_)
  refine x_aload_n C 1 (i := 0) (k0 := 0) rfl rfl (by decide +kernel) ?_
  refine x_gI C fl_RX12_303 (fun _ _ _ => rfl) (by decide +kernel) (fun rb_20 => ?_)
  refine x_dup2 C rfl rfl (by decide +kernel) ?_
  refine x_aldI C (by decide +kernel) (fun a21 => ?_)
  refine x_iconst C (n := 1) (by decide +kernel) ?_
  show X z 0 0 σ18 80 [(1, ai x5), (0, ar this)] [ai 1, ai a21, ai rb_20, ar moveMany_19] _
  refine x_iadd C (by decide +kernel) ?_
  refine x_astI C (by decide +kernel) (fun σ22 => ?_)
  exact x_vret C ⟨Nat.zero_le _, Nat.zero_le _⟩ (by decide +kernel)

def L_X12_readPart_26 (N : Nat) (this : Nat) (x5 : Int) (J68_52 : (St → Option (St × Int))) : (St × Int) → Option (St × Int) := fixN N fun b26_54 t54 =>
 (if wr t54.2 < wr x5 then Option.bind (gI shm t54.1 12 this 8) fun token_56 =>
 Jn (fun t57 : St => Lt (t54.2 + 1) fun x58 =>
 b26_54 (t57, x58)) fun J62_58 =>
 (if wr token_56 = wr 2 then Option.bind (gR shm t54.1 12 this 30) fun pName_60 =>
 Option.bind (aI shm t54.1 2 pName_60 t54.2) fun a61 =>
 Option.bind (gI shm t54.1 12 this 10) fun name_62 =>
 (if wl a61 = wl name_62 then Option.bind (gI shm t54.1 12 this 6) fun at_63 =>
 Option.bind (rcv shm t54.1 12 this (f_X12_fails N t54.1 this 3 at_63)) fun q64 =>
 J62_58 q64.1 else J62_58 t54.1) else J62_58 t54.1) else J68_52 t54.1)
def rm_X12_readPart : Room := { frames := 3, cells := 0, slots := 0, locals := 68 }
def f_X12_readPart (N : Nat) (σ : St) (this : Nat) : Option (St × Int) :=
 Option.bind (gI shm σ 12 this 32) fun rb_1 =>
 Option.bind (gR shm σ 12 this 12) fun partMany_2 =>
 Option.bind (gI shm σ 12 this 32) fun rb_3 =>
 Option.bind (aI shm σ 1 partMany_2 rb_3) fun a4 =>
 Lt ((12 * rb_1) + a4) fun x5 =>
 Option.bind (gI shm σ 12 this 32) fun rb_6 =>
 Lt (12 * rb_6) fun x7 =>
 Jn (fun t8 : St => Option.bind (gR shm t8 12 this 30) fun pName_9 =>
 Option.bind (gI shm t8 12 this 10) fun name_10 =>
 Option.bind (sI shm t8 2 pName_9 x5 name_10) fun σ11 =>
 Option.bind (gI shm σ11 12 this 8) fun token_12 =>
 Jn (fun t13 : Int => Option.bind (rcv shm σ11 12 this (f_X12_must N σ11 this t13)) fun q14 =>
 Option.bind (rcv shm q14.1 12 this (f_X12_isWord N q14.1 this 25209)) fun q15 =>
 Option.bind (rcv shm q14.1 12 this (f_X12_must N q14.1 this q15.2)) fun q16 =>
 Option.bind (gR shm q16.1 12 this 16) fun pBy_17 =>
 Option.bind (rcv shm q16.1 12 this (f_X12_numeral N q16.1 this 0 1)) fun q18 =>
 Option.bind (sI shm q18.1 1 pBy_17 x5 q18.2) fun σ19 =>
 Option.bind (rcv shm σ19 12 this (f_X12_isWord N σ19 this 1819242087)) fun q20 =>
 Option.bind (rcv shm σ19 12 this (f_X12_must N σ19 this q20.2)) fun q21 =>
 Option.bind (rcv shm q21.1 12 this (f_X12_numeral N q21.1 this 1 999)) fun q22 =>
 Option.bind (rcv shm q22.1 12 this (f_X12_isWord N q22.1 this 1768842088)) fun q23 =>
 Jn (fun t24 : Int => Option.bind (rcv shm q22.1 12 this (f_X12_must N q22.1 this t24)) fun q25 =>
 Option.bind (gR shm q25.1 12 this 17) fun pBase_26 =>
 Jn (fun t27 : Int => Option.bind (sI shm q25.1 1 pBase_26 x5 t27) fun σ28 =>
 Option.bind (rcv shm σ28 12 this (f_X12_isWord N σ28 this 444301539187)) fun q29 =>
 Option.bind (rcv shm σ28 12 this (f_X12_must N σ28 this q29.2)) fun q30 =>
 Option.bind (gR shm q30.1 12 this 18) fun pGrows_31 =>
 Option.bind (rcv shm q30.1 12 this (f_X12_numeral N q30.1 this 0 99)) fun q32 =>
 Option.bind (sI shm q32.1 1 pGrows_31 x5 q32.2) fun σ33 =>
 Option.bind (rcv shm σ33 12 this (f_X12_isWord N σ33 this 427071599731)) fun q34 =>
 Option.bind (rcv shm σ33 12 this (f_X12_must N σ33 this q34.2)) fun q35 =>
 Option.bind (gR shm q35.1 12 this 19) fun pCosts_36 =>
 Option.bind (rcv shm q35.1 12 this (f_X12_numeral N q35.1 this 0 999)) fun q37 =>
 Option.bind (sI shm q37.1 1 pCosts_36 x5 q37.2) fun σ38 =>
 Option.bind (gR shm σ38 12 this 12) fun partMany_39 =>
 Option.bind (gI shm σ38 12 this 32) fun rb_40 =>
 Option.bind (aI shm σ38 1 partMany_39 rb_40) fun a41 =>
 Option.bind (sI shm σ38 1 partMany_39 rb_40 (a41 + 1)) fun σ42 =>
 some (σ42, 0)) fun J193_42 =>
 (if wr q23.2 = 0 then J193_42 (q22.2 * 10) else J193_42 (Int.tdiv (wr (q22.2 * 254)) 10))) fun J166_44 =>
 Jn (fun t46 : Unit => J166_44 1) fun J161_46 =>
 (if wr q23.2 = 0 then Option.bind (rcv shm q22.1 12 this (f_X12_isWord N q22.1 this 25453)) fun q48 =>
 (if wr q48.2 = 0 then J166_44 0 else J161_46 ()) else J161_46 ())) fun J92_50 =>
 (if wr token_12 = wr 2 then J92_50 1 else J92_50 0)) fun J68_52 =>
 L_X12_readPart_26 N this x5 J68_52 (σ, x7)
set_option maxRecDepth 100000 in
set_option maxHeartbeats 4000000 in
theorem c_X12_readPart (l : Launch) (D : va_G) (ca : Nat → ClassId) (ra : Nat → Nat) (N : Nat) (σ : St) (this : Nat) : Ctr l (D, ca, ra, shm) false yX12_readPart cX12_readPart 4 none rm_X12_readPart σ [ar this] (f_X12_readPart N σ this) := by
  refine ctr_of (by decide) (Nat.le_of_ble_eq_true rfl) (fun z C => ?_)
  show X z 0 0 σ 0 [(0, ar this)] [] _
  unfold f_X12_readPart
  refine x_bipush C (n := 12) (by decide +kernel) (by decide +kernel) ?_
  refine x_aload_n C 0 (i := 0) (k0 := 0) rfl rfl (by decide +kernel) ?_
  refine x_gI C fl_RX12_303 (fun _ _ _ => rfl) (by decide +kernel) (fun rb_1 => ?_)
  refine x_imul C (by decide +kernel) ?_
  refine x_aload_n C 0 (i := 0) (k0 := 0) rfl rfl (by decide +kernel) ?_
  refine x_gR C fl_RX12_24 (fun _ _ _ => rfl) (by decide +kernel) (fun partMany_2 => ?_)
  refine x_aload_n C 0 (i := 0) (k0 := 0) rfl rfl (by decide +kernel) ?_
  refine x_gI C fl_RX12_303 (fun _ _ _ => rfl) (by decide +kernel) (fun rb_3 => ?_)
  show X z 0 0 σ 15 [(0, ar this)] [ai rb_3, ar partMany_2, ai (12 * rb_1)] _
  refine x_aldI C (by decide +kernel) (fun a4 => ?_)
  refine x_iadd C (by decide +kernel) ?_
  refine x_istore_nL C (i := 1) (k0 := 1) rfl (Nat.le_of_ble_eq_true rfl) (by decide +kernel) (lv2 := fun x5 => [(1, ai x5), (0, ar this)]) (fun _ => rfl) (fun x5 => ?_)
  refine x_bipush C (n := 12) (by decide +kernel) (by decide +kernel) ?_
  refine x_aload_n C 1 (i := 0) (k0 := 0) rfl rfl (by decide +kernel) ?_
  refine x_gI C fl_RX12_303 (fun _ _ _ => rfl) (by decide +kernel) (fun rb_6 => ?_)
  refine x_imul C (by decide +kernel) ?_
  refine x_istore_nL C (i := 2) (k0 := 2) rfl (Nat.le_of_ble_eq_true rfl) (by decide +kernel) (lv2 := fun x7 => [(2, ai x7), (1, ai x5), (0, ar this)]) (fun _ => rfl) (fun x7 => ?_)
  show X z 0 0 σ 26 [(2, ai x7), (1, ai x5), (0, ar this)] [] _
  refine x_join (T := St) (fun t => t) 68 (fun t => [(0, ar this), (1, ai x5)]) (fun t => []) (fun t8 => ?_) (fun J68_52 hJ68_52 => ?_)
  · show X z 0 0 t8 68 [(0, ar this), (1, ai x5)] [] _
    refine x_aload_n C 0 (i := 0) (k0 := 0) rfl rfl (by decide +kernel) ?_
    refine x_gR C fl_RX12_79 (fun _ _ _ => rfl) (by decide +kernel) (fun pName_9 => ?_)
    refine x_iload_n C 1 (i := 1) (k0 := 1) rfl rfl (by decide +kernel) ?_
    refine x_aload_n C 0 (i := 0) (k0 := 0) rfl rfl (by decide +kernel) ?_
    refine x_gL C fl_RX12_263 (fun _ _ _ => rfl) (by decide +kernel) (fun name_10 => ?_)
    refine x_astL C (by decide +kernel) (fun σ11 => ?_)
    refine x_aload_n C 0 (i := 0) (k0 := 0) rfl rfl (by decide +kernel) ?_
    refine x_aload_n C 0 (i := 0) (k0 := 0) rfl rfl (by decide +kernel) ?_
    show X z 0 0 σ11 80 [(0, ar this), (1, ai x5)] [ar this, ar this] _
    refine x_gI C fl_RX12_256 (fun _ _ _ => rfl) (by decide +kernel) (fun token_12 => ?_)
    refine x_iconst C (n := 2) (by decide +kernel) ?_
    refine x_join (T := Int) (fun t => σ11) 92 (fun t => [(0, ar this), (1, ai x5)]) (fun t => [ai t, ar this]) (fun t13 => ?_) (fun J92_50 hJ92_50 => ?_)
    · show X z 0 0 σ11 92 [(0, ar this), (1, ai x5)] [ai t13, ar this] _
      refine x_callV C (ci := 12) (c_X12_must l D ca ra N σ11 this t13) mt_X12_must mv_X12_must rfl ml_RX12_339 rfl (fun h => Bool.noConfusion h) ⟨Nat.le_of_ble_eq_true rfl, Nat.le_of_ble_eq_true rfl⟩ (Nat.le_of_ble_eq_true rfl) 0 0 ⟨rfl, rfl⟩ ⟨Nat.zero_le _, Nat.zero_le _⟩ (by decide +kernel) _ rfl (fun q14 => []) (fun _ => rfl) (fun q14 => ?_)
      refine x_aload_n C 0 (i := 0) (k0 := 0) rfl rfl (by decide +kernel) ?_
      refine x_aload_n C 0 (i := 0) (k0 := 0) rfl rfl (by decide +kernel) ?_
      refine x_ldc2 C (n := 25209) (v := 25209) kl_RX12_180 (by decide +kernel) (by decide +kernel) ?_
      refine x_callVp C (ci := 12) (c_X12_isWord l D ca ra N q14.1 this 25209) (p_X12_isWord N q14.1 this 25209) mt_X12_isWord mv_X12_isWord rfl ml_RX12_315 rfl (fun h => Bool.noConfusion h) ⟨Nat.le_of_ble_eq_true rfl, Nat.le_of_ble_eq_true rfl⟩ (Nat.le_of_ble_eq_true rfl) 0 0 ⟨rfl, rfl⟩ ⟨Nat.zero_le _, Nat.zero_le _⟩ (by decide +kernel) _ rfl (fun q15 => [ai q15.2, ar this]) (fun _ => rfl) (fun q15 => ?_)
      refine x_callV C (ci := 12) (c_X12_must l D ca ra N q14.1 this q15.2) mt_X12_must mv_X12_must rfl ml_RX12_339 rfl (fun h => Bool.noConfusion h) ⟨Nat.le_of_ble_eq_true rfl, Nat.le_of_ble_eq_true rfl⟩ (Nat.le_of_ble_eq_true rfl) 0 0 ⟨rfl, rfl⟩ ⟨Nat.zero_le _, Nat.zero_le _⟩ (by decide +kernel) _ rfl (fun q16 => []) (fun _ => rfl) (fun q16 => ?_)
      refine x_aload_n C 0 (i := 0) (k0 := 0) rfl rfl (by decide +kernel) ?_
      refine x_gR C fl_RX12_36 (fun _ _ _ => rfl) (by decide +kernel) (fun pBy_17 => ?_)
      show X z 0 0 q16.1 110 [(0, ar this), (1, ai x5)] [ar pBy_17] _
      refine x_iload_n C 1 (i := 1) (k0 := 1) rfl rfl (by decide +kernel) ?_
      refine x_aload_n C 0 (i := 0) (k0 := 0) rfl rfl (by decide +kernel) ?_
      refine x_iconst C (n := 0) (by decide +kernel) ?_
      refine x_iconst C (n := 1) (by decide +kernel) ?_
      refine x_callV C (ci := 12) (c_X12_numeral l D ca ra N q16.1 this 0 1) mt_X12_numeral mv_X12_numeral rfl ml_RX12_343 rfl (fun h => Bool.noConfusion h) ⟨Nat.le_of_ble_eq_true rfl, Nat.le_of_ble_eq_true rfl⟩ (Nat.le_of_ble_eq_true rfl) 0 0 ⟨rfl, rfl⟩ ⟨Nat.zero_le _, Nat.zero_le _⟩ (by decide +kernel) _ rfl (fun q18 => [ai q18.2, ai x5, ar pBy_17]) (fun _ => rfl) (fun q18 => ?_)
      refine x_astI C (by decide +kernel) (fun σ19 => ?_)
      refine x_aload_n C 0 (i := 0) (k0 := 0) rfl rfl (by decide +kernel) ?_
      refine x_aload_n C 0 (i := 0) (k0 := 0) rfl rfl (by decide +kernel) ?_
      show X z 0 0 σ19 120 [(0, ar this), (1, ai x5)] [ar this, ar this] _
      refine x_ldc2 C (n := 1819242087) (v := 1819242087) kl_RX12_182 (by decide +kernel) (by decide +kernel) ?_
      refine x_callVp C (ci := 12) (c_X12_isWord l D ca ra N σ19 this 1819242087) (p_X12_isWord N σ19 this 1819242087) mt_X12_isWord mv_X12_isWord rfl ml_RX12_315 rfl (fun h => Bool.noConfusion h) ⟨Nat.le_of_ble_eq_true rfl, Nat.le_of_ble_eq_true rfl⟩ (Nat.le_of_ble_eq_true rfl) 0 0 ⟨rfl, rfl⟩ ⟨Nat.zero_le _, Nat.zero_le _⟩ (by decide +kernel) _ rfl (fun q20 => [ai q20.2, ar this]) (fun _ => rfl) (fun q20 => ?_)
      refine x_callV C (ci := 12) (c_X12_must l D ca ra N σ19 this q20.2) mt_X12_must mv_X12_must rfl ml_RX12_339 rfl (fun h => Bool.noConfusion h) ⟨Nat.le_of_ble_eq_true rfl, Nat.le_of_ble_eq_true rfl⟩ (Nat.le_of_ble_eq_true rfl) 0 0 ⟨rfl, rfl⟩ ⟨Nat.zero_le _, Nat.zero_le _⟩ (by decide +kernel) _ rfl (fun q21 => []) (fun _ => rfl) (fun q21 => ?_)
      refine x_aload_n C 0 (i := 0) (k0 := 0) rfl rfl (by decide +kernel) ?_
      refine x_iconst C (n := 1) (by decide +kernel) ?_
      refine x_sipush C (n := 999) (by decide +kernel) (by decide +kernel) ?_
      refine x_callV C (ci := 12) (c_X12_numeral l D ca ra N q21.1 this 1 999) mt_X12_numeral mv_X12_numeral rfl ml_RX12_343 rfl (fun h => Bool.noConfusion h) ⟨Nat.le_of_ble_eq_true rfl, Nat.le_of_ble_eq_true rfl⟩ (Nat.le_of_ble_eq_true rfl) 0 0 ⟨rfl, rfl⟩ ⟨Nat.zero_le _, Nat.zero_le _⟩ (by decide +kernel) _ rfl (fun q22 => [ai q22.2]) (fun _ => rfl) (fun q22 => ?_)
      refine x_istore_n C (i := 2) (k0 := 2) rfl (Nat.le_of_ble_eq_true rfl) (by decide +kernel) (lv2 := [(2, ai q22.2), (0, ar this), (1, ai x5)]) rfl ?_
      show X z 0 0 q22.1 138 [(2, ai q22.2), (0, ar this), (1, ai x5)] [] _
      refine x_aload_n C 1 (i := 0) (k0 := 0) rfl rfl (by decide +kernel) ?_
      refine x_ldc2 C (n := 1768842088) (v := 1768842088) kl_RX12_186 (by decide +kernel) (by decide +kernel) ?_
      refine x_callVp C (ci := 12) (c_X12_isWord l D ca ra N q22.1 this 1768842088) (p_X12_isWord N q22.1 this 1768842088) mt_X12_isWord mv_X12_isWord rfl ml_RX12_315 rfl (fun h => Bool.noConfusion h) ⟨Nat.le_of_ble_eq_true rfl, Nat.le_of_ble_eq_true rfl⟩ (Nat.le_of_ble_eq_true rfl) 0 0 ⟨rfl, rfl⟩ ⟨Nat.zero_le _, Nat.zero_le _⟩ (by decide +kernel) _ rfl (fun q23 => [ai q23.2]) (fun _ => rfl) (fun q23 => ?_)
      refine x_istore_n C (i := 3) (k0 := 3) rfl (Nat.le_of_ble_eq_true rfl) (by decide +kernel) (lv2 := [(3, ai q23.2), (2, ai q22.2), (0, ar this), (1, ai x5)]) rfl ?_
      refine x_aload_n C 2 (i := 0) (k0 := 0) rfl rfl (by decide +kernel) ?_
      refine x_iload_n C 0 (i := 3) (k0 := 3) rfl rfl (by decide +kernel) ?_
      refine x_join (T := Int) (fun t => q22.1) 166 (fun t => [(0, ar this), (1, ai x5), (2, ai q22.2), (3, ai q23.2)]) (fun t => [ai t, ar this]) (fun t24 => ?_) (fun J166_44 hJ166_44 => ?_)
      · show X z 0 0 q22.1 166 [(0, ar this), (1, ai x5), (2, ai q22.2), (3, ai q23.2)] [ai t24, ar this] _
        refine x_callV C (ci := 12) (c_X12_must l D ca ra N q22.1 this t24) mt_X12_must mv_X12_must rfl ml_RX12_339 rfl (fun h => Bool.noConfusion h) ⟨Nat.le_of_ble_eq_true rfl, Nat.le_of_ble_eq_true rfl⟩ (Nat.le_of_ble_eq_true rfl) 0 0 ⟨rfl, rfl⟩ ⟨Nat.zero_le _, Nat.zero_le _⟩ (by decide +kernel) _ rfl (fun q25 => []) (fun _ => rfl) (fun q25 => ?_)
        refine x_aload_n C 0 (i := 0) (k0 := 0) rfl rfl (by decide +kernel) ?_
        refine x_gR C fl_RX12_39 (fun _ _ _ => rfl) (by decide +kernel) (fun pBase_26 => ?_)
        refine x_iload_n C 1 (i := 1) (k0 := 1) rfl rfl (by decide +kernel) ?_
        refine x_iload_n C 3 (i := 3) (k0 := 3) rfl rfl (by decide +kernel) ?_
        refine x_join (T := Int) (fun t => q25.1) 193 (fun t => [(0, ar this), (1, ai x5)]) (fun t => [ai t, ai x5, ar pBase_26]) (fun t27 => ?_) (fun J193_42 hJ193_42 => ?_)
        · show X z 0 0 q25.1 193 [(0, ar this), (1, ai x5)] [ai t27, ai x5, ar pBase_26] _
          refine x_astI C (by decide +kernel) (fun σ28 => ?_)
          refine x_aload_n C 0 (i := 0) (k0 := 0) rfl rfl (by decide +kernel) ?_
          refine x_aload_n C 0 (i := 0) (k0 := 0) rfl rfl (by decide +kernel) ?_
          refine x_ldc2 C (n := 444301539187) (v := 444301539187) kl_RX12_188 (by decide +kernel) (by decide +kernel) ?_
          refine x_callVp C (ci := 12) (c_X12_isWord l D ca ra N σ28 this 444301539187) (p_X12_isWord N σ28 this 444301539187) mt_X12_isWord mv_X12_isWord rfl ml_RX12_315 rfl (fun h => Bool.noConfusion h) ⟨Nat.le_of_ble_eq_true rfl, Nat.le_of_ble_eq_true rfl⟩ (Nat.le_of_ble_eq_true rfl) 0 0 ⟨rfl, rfl⟩ ⟨Nat.zero_le _, Nat.zero_le _⟩ (by decide +kernel) _ rfl (fun q29 => [ai q29.2, ar this]) (fun _ => rfl) (fun q29 => ?_)
          refine x_callV C (ci := 12) (c_X12_must l D ca ra N σ28 this q29.2) mt_X12_must mv_X12_must rfl ml_RX12_339 rfl (fun h => Bool.noConfusion h) ⟨Nat.le_of_ble_eq_true rfl, Nat.le_of_ble_eq_true rfl⟩ (Nat.le_of_ble_eq_true rfl) 0 0 ⟨rfl, rfl⟩ ⟨Nat.zero_le _, Nat.zero_le _⟩ (by decide +kernel) _ rfl (fun q30 => []) (fun _ => rfl) (fun q30 => ?_)
          refine x_aload_n C 0 (i := 0) (k0 := 0) rfl rfl (by decide +kernel) ?_
          refine x_gR C fl_RX12_42 (fun _ _ _ => rfl) (by decide +kernel) (fun pGrows_31 => ?_)
          show X z 0 0 q30.1 209 [(0, ar this), (1, ai x5)] [ar pGrows_31] _
          refine x_iload_n C 1 (i := 1) (k0 := 1) rfl rfl (by decide +kernel) ?_
          refine x_aload_n C 0 (i := 0) (k0 := 0) rfl rfl (by decide +kernel) ?_
          refine x_iconst C (n := 0) (by decide +kernel) ?_
          refine x_bipush C (n := 99) (by decide +kernel) (by decide +kernel) ?_
          refine x_callV C (ci := 12) (c_X12_numeral l D ca ra N q30.1 this 0 99) mt_X12_numeral mv_X12_numeral rfl ml_RX12_343 rfl (fun h => Bool.noConfusion h) ⟨Nat.le_of_ble_eq_true rfl, Nat.le_of_ble_eq_true rfl⟩ (Nat.le_of_ble_eq_true rfl) 0 0 ⟨rfl, rfl⟩ ⟨Nat.zero_le _, Nat.zero_le _⟩ (by decide +kernel) _ rfl (fun q32 => [ai q32.2, ai x5, ar pGrows_31]) (fun _ => rfl) (fun q32 => ?_)
          refine x_astI C (by decide +kernel) (fun σ33 => ?_)
          refine x_aload_n C 0 (i := 0) (k0 := 0) rfl rfl (by decide +kernel) ?_
          refine x_aload_n C 0 (i := 0) (k0 := 0) rfl rfl (by decide +kernel) ?_
          show X z 0 0 σ33 220 [(0, ar this), (1, ai x5)] [ar this, ar this] _
          refine x_ldc2 C (n := 427071599731) (v := 427071599731) kl_RX12_190 (by decide +kernel) (by decide +kernel) ?_
          refine x_callVp C (ci := 12) (c_X12_isWord l D ca ra N σ33 this 427071599731) (p_X12_isWord N σ33 this 427071599731) mt_X12_isWord mv_X12_isWord rfl ml_RX12_315 rfl (fun h => Bool.noConfusion h) ⟨Nat.le_of_ble_eq_true rfl, Nat.le_of_ble_eq_true rfl⟩ (Nat.le_of_ble_eq_true rfl) 0 0 ⟨rfl, rfl⟩ ⟨Nat.zero_le _, Nat.zero_le _⟩ (by decide +kernel) _ rfl (fun q34 => [ai q34.2, ar this]) (fun _ => rfl) (fun q34 => ?_)
          refine x_callV C (ci := 12) (c_X12_must l D ca ra N σ33 this q34.2) mt_X12_must mv_X12_must rfl ml_RX12_339 rfl (fun h => Bool.noConfusion h) ⟨Nat.le_of_ble_eq_true rfl, Nat.le_of_ble_eq_true rfl⟩ (Nat.le_of_ble_eq_true rfl) 0 0 ⟨rfl, rfl⟩ ⟨Nat.zero_le _, Nat.zero_le _⟩ (by decide +kernel) _ rfl (fun q35 => []) (fun _ => rfl) (fun q35 => ?_)
          refine x_aload_n C 0 (i := 0) (k0 := 0) rfl rfl (by decide +kernel) ?_
          refine x_gR C fl_RX12_45 (fun _ _ _ => rfl) (by decide +kernel) (fun pCosts_36 => ?_)
          refine x_iload_n C 1 (i := 1) (k0 := 1) rfl rfl (by decide +kernel) ?_
          refine x_aload_n C 0 (i := 0) (k0 := 0) rfl rfl (by decide +kernel) ?_
          refine x_iconst C (n := 0) (by decide +kernel) ?_
          show X z 0 0 q35.1 236 [(0, ar this), (1, ai x5)] [ai 0, ar this, ai x5, ar pCosts_36] _
          refine x_sipush C (n := 999) (by decide +kernel) (by decide +kernel) ?_
          refine x_callV C (ci := 12) (c_X12_numeral l D ca ra N q35.1 this 0 999) mt_X12_numeral mv_X12_numeral rfl ml_RX12_343 rfl (fun h => Bool.noConfusion h) ⟨Nat.le_of_ble_eq_true rfl, Nat.le_of_ble_eq_true rfl⟩ (Nat.le_of_ble_eq_true rfl) 0 0 ⟨rfl, rfl⟩ ⟨Nat.zero_le _, Nat.zero_le _⟩ (by decide +kernel) _ rfl (fun q37 => [ai q37.2, ai x5, ar pCosts_36]) (fun _ => rfl) (fun q37 => ?_)
          refine x_astI C (by decide +kernel) (fun σ38 => ?_)
          refine x_aload_n C 0 (i := 0) (k0 := 0) rfl rfl (by decide +kernel) ?_
          refine x_gR C fl_RX12_24 (fun _ _ _ => rfl) (by decide +kernel) (fun partMany_39 => ?_)
          refine x_aload_n C 0 (i := 0) (k0 := 0) rfl rfl (by decide +kernel) ?_
          refine x_gI C fl_RX12_303 (fun _ _ _ => rfl) (by decide +kernel) (fun rb_40 => ?_)
          refine x_dup2 C rfl rfl (by decide +kernel) ?_
          show X z 0 0 σ38 252 [(0, ar this), (1, ai x5)] [ai rb_40, ar partMany_39, ai rb_40, ar partMany_39] _
          refine x_aldI C (by decide +kernel) (fun a41 => ?_)
          refine x_iconst C (n := 1) (by decide +kernel) ?_
          refine x_iadd C (by decide +kernel) ?_
          refine x_astI C (by decide +kernel) (fun σ42 => ?_)
          exact x_vret C ⟨Nat.zero_le _, Nat.zero_le _⟩ (by decide +kernel)
        · skip
          refine x_if_eq C (tgt := 189) (off := 14) (by decide) (by decide +kernel) (fun h44 => ?_) (fun h44 => ?_)
          · skip
            refine x_iload_n C 2 (i := 2) (k0 := 2) rfl rfl (by decide +kernel) ?_
            refine x_bipush C (n := 10) (by decide +kernel) (by decide +kernel) ?_
            refine x_imul C (by decide +kernel) ?_
            refine x_sub [0, 1] (lv2 := [(0, ar this), (1, ai x5)]) rfl ?_
            exact hJ193_42 (q22.2 * 10)
          · skip
            refine x_iload_n C 2 (i := 2) (k0 := 2) rfl rfl (by decide +kernel) ?_
            refine x_sipush C (n := 254) (by decide +kernel) (by decide +kernel) ?_
            refine x_imul C (by decide +kernel) ?_
            refine x_bipush C (n := 10) (by decide +kernel) (by decide +kernel) ?_
            refine x_idivC C (by decide) (by decide) (by decide +kernel) ?_
            refine x_goto C (tgt := 193) (off := 7) (by decide) (by decide +kernel) ?_
            refine x_sub [0, 1] (lv2 := [(0, ar this), (1, ai x5)]) rfl ?_
            exact hJ193_42 (Int.tdiv (wr (q22.2 * 254)) 10)
      · skip
        refine x_join (T := Unit) (fun t => q22.1) 161 (fun t => [(0, ar this), (1, ai x5), (2, ai q22.2), (3, ai q23.2)]) (fun t => [ar this]) (fun t46 => ?_) (fun J161_46 hJ161_46 => ?_)
        · show X z 0 0 q22.1 161 [(0, ar this), (1, ai x5), (2, ai q22.2), (3, ai q23.2)] [ar this] _
          refine x_iconst C (n := 1) (by decide +kernel) ?_
          refine x_goto C (tgt := 166) (off := 4) (by decide) (by decide +kernel) ?_
          exact hJ166_44 1
        · skip
          refine x_if_ne C (tgt := 161) (off := 13) (by decide) (by decide +kernel) (fun h50 => ?_) (fun h50 => ?_)
          · skip
            refine x_sub [2, 3, 1, 0] (lv2 := [(0, ar this), (1, ai x5), (2, ai q22.2), (3, ai q23.2)]) rfl ?_
            exact hJ161_46 ()
          · skip
            refine x_aload_n C 2 (i := 0) (k0 := 0) rfl rfl (by decide +kernel) ?_
            refine x_ldc2 C (n := 25453) (v := 25453) kl_RX12_184 (by decide +kernel) (by decide +kernel) ?_
            refine x_callVp C (ci := 12) (c_X12_isWord l D ca ra N q22.1 this 25453) (p_X12_isWord N q22.1 this 25453) mt_X12_isWord mv_X12_isWord rfl ml_RX12_315 rfl (fun h => Bool.noConfusion h) ⟨Nat.le_of_ble_eq_true rfl, Nat.le_of_ble_eq_true rfl⟩ (Nat.le_of_ble_eq_true rfl) 0 0 ⟨rfl, rfl⟩ ⟨Nat.zero_le _, Nat.zero_le _⟩ (by decide +kernel) _ rfl (fun q48 => [ai q48.2, ar this]) (fun _ => rfl) (fun q48 => ?_)
            refine x_if_eq C (tgt := 165) (off := 7) (by decide) (by decide +kernel) (fun h49 => ?_) (fun h49 => ?_)
            · skip
              refine x_iconst C (n := 0) (by decide +kernel) ?_
              refine x_sub [2, 3, 1, 0] (lv2 := [(0, ar this), (1, ai x5), (2, ai q22.2), (3, ai q23.2)]) rfl ?_
              exact hJ166_44 0
            · skip
              refine x_sub [2, 3, 1, 0] (lv2 := [(0, ar this), (1, ai x5), (2, ai q22.2), (3, ai q23.2)]) rfl ?_
              exact hJ161_46 ()
    · skip
      refine x_ic_ne C (tgt := 91) (off := 7) (by decide) (by decide +kernel) (fun h52 => ?_) (fun h52 => ?_)
      · skip
        refine x_iconst C (n := 0) (by decide +kernel) ?_
        exact hJ92_50 0
      · skip
        refine x_iconst C (n := 1) (by decide +kernel) ?_
        refine x_goto C (tgt := 92) (off := 4) (by decide) (by decide +kernel) ?_
        exact hJ92_50 1
  · skip
    refine x_sub [2, 1, 0] (lv2 := [(0, ar this), (1, ai x5), (2, ai x7)]) rfl ?_
    -- LOOP L_X12_readPart_26 hb26_54
    refine x_loop (T := St × Int) (fun t => t.1) (fun t => [(0, ar this), (1, ai x5), (2, ai t.2)]) (σ, x7) rfl (fun b26_54 hb26_54 t54 => ?_)
    show X z 0 0 t54.1 26 [(0, ar this), (1, ai x5), (2, ai t54.2)] [] _
    refine x_iload_n C 2 (i := 2) (k0 := 2) rfl rfl (by decide +kernel) ?_
    refine x_iload_n C 1 (i := 1) (k0 := 1) rfl rfl (by decide +kernel) ?_
    refine x_ic_ge C (tgt := 68) (off := 40) (by decide) (by decide +kernel) (fun h67 => ?_) (fun h67 => ?_)
    · skip
      refine x_sub [0, 1] (lv2 := [(0, ar this), (1, ai x5)]) rfl ?_
      exact hJ68_52 t54.1
    · skip
      refine x_aload_n C 0 (i := 0) (k0 := 0) rfl rfl (by decide +kernel) ?_
      refine x_gI C fl_RX12_256 (fun _ _ _ => rfl) (by decide +kernel) (fun token_56 => ?_)
      refine x_iconst C (n := 2) (by decide +kernel) ?_
      refine x_join (T := St) (fun t => t) 62 (fun t => [(0, ar this), (1, ai x5), (2, ai t54.2)]) (fun t => []) (fun t57 => ?_) (fun J62_58 hJ62_58 => ?_)
      · show X z 0 0 t57 62 [(0, ar this), (1, ai x5), (2, ai t54.2)] [] _
        refine x_iinc C 2 (i := 2) (n := 1) (Nat.le_of_ble_eq_true rfl) rfl (by decide +kernel) (lv2 := fun x58 => [(2, ai x58), (0, ar this), (1, ai x5)]) (fun _ => rfl) (fun x58 => ?_)
        refine x_goto C (tgt := 26) (off := (-39)) (by decide) (by decide +kernel) ?_
        refine x_sub [1, 2, 0] (lv2 := [(0, ar this), (1, ai x5), (2, ai x58)]) rfl ?_
        exact hb26_54 (t57, x58)
      · skip
        refine x_ic_ne C (tgt := 62) (off := 26) (by decide) (by decide +kernel) (fun h66 => ?_) (fun h66 => ?_)
        · skip
          exact hJ62_58 t54.1
        · skip
          refine x_aload_n C 0 (i := 0) (k0 := 0) rfl rfl (by decide +kernel) ?_
          refine x_gR C fl_RX12_79 (fun _ _ _ => rfl) (by decide +kernel) (fun pName_60 => ?_)
          refine x_iload_n C 2 (i := 2) (k0 := 2) rfl rfl (by decide +kernel) ?_
          refine x_aldL C (by decide +kernel) (fun a61 => ?_)
          refine x_aload_n C 0 (i := 0) (k0 := 0) rfl rfl (by decide +kernel) ?_
          refine x_gL C fl_RX12_263 (fun _ _ _ => rfl) (by decide +kernel) (fun name_62 => ?_)
          refine x_lcmp_ne C (tgt := 62) (off := 12) (by decide) (by decide +kernel) (by decide +kernel) (fun h65 => ?_) (fun h65 => ?_)
          · skip
            exact hJ62_58 t54.1
          · skip
            refine x_aload_n C 0 (i := 0) (k0 := 0) rfl rfl (by decide +kernel) ?_
            refine x_iconst C (n := 3) (by decide +kernel) ?_
            refine x_aload_n C 0 (i := 0) (k0 := 0) rfl rfl (by decide +kernel) ?_
            refine x_gI C fl_RX12_249 (fun _ _ _ => rfl) (by decide +kernel) (fun at_63 => ?_)
            refine x_callV C (ci := 12) (c_X12_fails l D ca ra N t54.1 this 3 at_63) mt_X12_fails mv_X12_fails rfl ml_RX12_280 rfl (fun h => Bool.noConfusion h) ⟨Nat.le_of_ble_eq_true rfl, Nat.le_of_ble_eq_true rfl⟩ (Nat.le_of_ble_eq_true rfl) 0 0 ⟨rfl, rfl⟩ ⟨Nat.zero_le _, Nat.zero_le _⟩ (by decide +kernel) _ rfl (fun q64 => []) (fun _ => rfl) (fun q64 => ?_)
            exact hJ62_58 q64.1

def L_X12_readRow_186 (N : Nat) (this : Nat) (q3 : (St × Int)) (J230_19 : (St → Option (St × Int))) : (St × Int) → Option (St × Int) := fixN N fun b186_21 t21 =>
 (if wr t21.2 < wr 8 then Option.bind (gR shm t21.1 12 this 28) fun grounds_23 =>
 Option.bind (gI shm t21.1 12 this 32) fun rb_24 =>
 Option.bind (gI shm t21.1 12 this 6) fun at_25 =>
 Option.bind (rcv shm t21.1 12 this (f_X12_sign N t21.1 this (at_25 + t21.2))) fun q26 =>
 Option.bind (sI shm t21.1 1 grounds_23 (((64 * rb_24) + (8 * q3.2)) + t21.2) (q26.2 - 97)) fun σ27 =>
 Lt (t21.2 + 1) fun x28 =>
 b186_21 (σ27, x28) else J230_19 t21.1)
def L_X12_readRow_122 (N : Nat) (this : Nat) (t9 : St) (J156_35 : (Int → Option (St × Int))) : (Int × Int) → Option (St × Int) := fixN N fun b122_37 t37 =>
 Option.bind (gI shm t9 12 this 7) fun end_39 =>
 (if wr t37.2 < wr end_39 then Jn (fun t40 : Int => Lt (t37.2 + 1) fun x41 =>
 b122_37 (t40, x41)) fun J149_41 =>
 Jn (fun t43 : Unit => J149_41 0) fun J148_43 =>
 (if wr t37.1 = 0 then J148_43 () else Option.bind (rcv shm t9 12 this (f_X12_sign N t9 this t37.2)) fun q45 =>
 (if wr 104 < wr q45.2 then J148_43 () else J149_41 1)) else J156_35 t37.1)
def rm_X12_readRow : Room := { frames := 3, cells := 0, slots := 0, locals := 68 }
def f_X12_readRow (N : Nat) (σ : St) (this : Nat) : Option (St × Int) :=
 Option.bind (gI shm σ 12 this 8) fun token_1 =>
 Jn (fun t2 : St => Option.bind (rcv shm t2 12 this (f_X12_numeral N t2 this 0 7)) fun q3 =>
 Option.bind (rcv shm q3.1 12 this (f_X12_isGood N q3.1 this)) fun q4 =>
 (if wr q4.2 = 0 then some (q3.1, 0) else Option.bind (gR shm q3.1 12 this 29) fun hasRow_5 =>
 Option.bind (gI shm q3.1 12 this 32) fun rb_6 =>
 Option.bind (sI shm q3.1 3 hasRow_5 ((8 * rb_6) + q3.2) 1) fun σ7 =>
 Option.bind (gI shm σ7 12 this 8) fun token_8 =>
 Jn (fun t9 : St => Option.bind (gI shm t9 12 this 7) fun end_10 =>
 Option.bind (gI shm t9 12 this 6) fun at_11 =>
 Jn (fun t12 : Int => Option.bind (gI shm t9 12 this 6) fun at_13 =>
 Jn (fun t14 : Int => Option.bind (rcv shm t9 12 this (f_X12_isGood N t9 this)) fun q15 =>
 Jn (fun t16 : St => Option.bind (rcv shm t16 12 this (f_X12_isGood N t16 this)) fun q17 =>
 (if wr q17.2 = 0 then some (t16, 0) else Jn (fun t18 : St => Option.bind (rcv shm t18 12 this (f_X12_next N t18 this)) fun q19 =>
 some (q19.1, 0)) fun J230_19 =>
 L_X12_readRow_186 N this q3 J230_19 (t16, 0))) fun J176_30 =>
 (if wr q15.2 = 0 then J176_30 t9 else (if wr t14 = 0 then Option.bind (gI shm t9 12 this 6) fun at_32 =>
 Option.bind (rcv shm t9 12 this (f_X12_fails N t9 this 4 at_32)) fun q33 =>
 J176_30 q33.1 else J176_30 t9))) fun J156_35 =>
 L_X12_readRow_122 N this t9 J156_35 (t12, at_13)) fun J116_48 =>
 (if wr (end_10 - at_11) = wr 8 then J116_48 1 else J116_48 0)) fun J97_50 =>
 (if wr token_8 = wr 2 then J97_50 σ7 else Option.bind (gI shm σ7 12 this 8) fun token_52 =>
 (if wr token_52 = wr 3 then J97_50 σ7 else Option.bind (rcv shm σ7 12 this (f_X12_wrong N σ7 this)) fun q53 =>
 J97_50 q53.1)))) fun J46_56 =>
 (if wr token_1 = wr 4 then Option.bind (gI shm σ 12 this 9) fun number_58 =>
 (if wr number_58 < wr 8 then Option.bind (gR shm σ 12 this 29) fun hasRow_59 =>
 Option.bind (gI shm σ 12 this 32) fun rb_60 =>
 Option.bind (gI shm σ 12 this 9) fun number_61 =>
 Option.bind (aI shm σ 3 hasRow_59 ((8 * rb_60) + number_61)) fun a62 =>
 (if wr (wz a62) = 0 then J46_56 σ else Option.bind (gI shm σ 12 this 6) fun at_63 =>
 Option.bind (rcv shm σ 12 this (f_X12_fails N σ this 3 at_63)) fun q64 =>
 J46_56 q64.1) else J46_56 σ) else J46_56 σ)
set_option maxRecDepth 100000 in
set_option maxHeartbeats 4000000 in
theorem c_X12_readRow (l : Launch) (D : va_G) (ca : Nat → ClassId) (ra : Nat → Nat) (N : Nat) (σ : St) (this : Nat) : Ctr l (D, ca, ra, shm) false yX12_readRow cX12_readRow 4 none rm_X12_readRow σ [ar this] (f_X12_readRow N σ this) := by
  refine ctr_of (by decide) (Nat.le_of_ble_eq_true rfl) (fun z C => ?_)
  show X z 0 0 σ 0 [(0, ar this)] [] _
  unfold f_X12_readRow
  refine x_aload_n C 0 (i := 0) (k0 := 0) rfl rfl (by decide +kernel) ?_
  refine x_gI C fl_RX12_256 (fun _ _ _ => rfl) (by decide +kernel) (fun token_1 => ?_)
  refine x_iconst C (n := 4) (by decide +kernel) ?_
  refine x_join (T := St) (fun t => t) 46 (fun t => [(0, ar this)]) (fun t => []) (fun t2 => ?_) (fun J46_56 hJ46_56 => ?_)
  · show X z 0 0 t2 46 [(0, ar this)] [] _
    refine x_aload_n C 0 (i := 0) (k0 := 0) rfl rfl (by decide +kernel) ?_
    refine x_iconst C (n := 0) (by decide +kernel) ?_
    refine x_bipush C (n := 7) (by decide +kernel) (by decide +kernel) ?_
    refine x_callV C (ci := 12) (c_X12_numeral l D ca ra N t2 this 0 7) mt_X12_numeral mv_X12_numeral rfl ml_RX12_343 rfl (fun h => Bool.noConfusion h) ⟨Nat.le_of_ble_eq_true rfl, Nat.le_of_ble_eq_true rfl⟩ (Nat.le_of_ble_eq_true rfl) 0 0 ⟨rfl, rfl⟩ ⟨Nat.zero_le _, Nat.zero_le _⟩ (by decide +kernel) _ rfl (fun q3 => [ai q3.2]) (fun _ => rfl) (fun q3 => ?_)
    refine x_istore_n C (i := 1) (k0 := 1) rfl (Nat.le_of_ble_eq_true rfl) (by decide +kernel) (lv2 := [(1, ai q3.2), (0, ar this)]) rfl ?_
    refine x_aload_n C 1 (i := 0) (k0 := 0) rfl rfl (by decide +kernel) ?_
    refine x_callVp C (ci := 12) (c_X12_isGood l D ca ra N q3.1 this) (p_X12_isGood N q3.1 this) mt_X12_isGood mv_X12_isGood rfl ml_RX12_284 rfl (fun h => Bool.noConfusion h) ⟨Nat.le_of_ble_eq_true rfl, Nat.le_of_ble_eq_true rfl⟩ (Nat.le_of_ble_eq_true rfl) 0 0 ⟨rfl, rfl⟩ ⟨Nat.zero_le _, Nat.zero_le _⟩ (by decide +kernel) _ rfl (fun q4 => [ai q4.2]) (fun _ => rfl) (fun q4 => ?_)
    refine x_if_ne C (tgt := 62) (off := 4) (by decide) (by decide +kernel) (fun h56 => ?_) (fun h56 => ?_)
    · skip
      refine x_aload_n C 1 (i := 0) (k0 := 0) rfl rfl (by decide +kernel) ?_
      refine x_gR C fl_RX12_75 (fun _ _ _ => rfl) (by decide +kernel) (fun hasRow_5 => ?_)
      refine x_bipush C (n := 8) (by decide +kernel) (by decide +kernel) ?_
      refine x_aload_n C 1 (i := 0) (k0 := 0) rfl rfl (by decide +kernel) ?_
      refine x_gI C fl_RX12_303 (fun _ _ _ => rfl) (by decide +kernel) (fun rb_6 => ?_)
      refine x_imul C (by decide +kernel) ?_
      refine x_iload_n C 0 (i := 1) (k0 := 1) rfl rfl (by decide +kernel) ?_
      refine x_iadd C (by decide +kernel) ?_
      show X z 0 0 q3.1 75 [(1, ai q3.2), (0, ar this)] [ai ((8 * rb_6) + q3.2), ar hasRow_5] _
      refine x_iconst C (n := 1) (by decide +kernel) ?_
      refine x_astZ C (by decide +kernel) (fun σ7 => ?_)
      refine x_aload_n C 1 (i := 0) (k0 := 0) rfl rfl (by decide +kernel) ?_
      refine x_gI C fl_RX12_256 (fun _ _ _ => rfl) (by decide +kernel) (fun token_8 => ?_)
      refine x_iconst C (n := 2) (by decide +kernel) ?_
      refine x_join (T := St) (fun t => t) 97 (fun t => [(0, ar this), (1, ai q3.2)]) (fun t => []) (fun t9 => ?_) (fun J97_50 hJ97_50 => ?_)
      · show X z 0 0 t9 97 [(0, ar this), (1, ai q3.2)] [] _
        refine x_aload_n C 0 (i := 0) (k0 := 0) rfl rfl (by decide +kernel) ?_
        refine x_gI C fl_RX12_246 (fun _ _ _ => rfl) (by decide +kernel) (fun end_10 => ?_)
        refine x_aload_n C 0 (i := 0) (k0 := 0) rfl rfl (by decide +kernel) ?_
        refine x_gI C fl_RX12_249 (fun _ _ _ => rfl) (by decide +kernel) (fun at_11 => ?_)
        refine x_isub C (by decide +kernel) ?_
        refine x_bipush C (n := 8) (by decide +kernel) (by decide +kernel) ?_
        refine x_join (T := Int) (fun t => t9) 116 (fun t => [(0, ar this), (1, ai q3.2)]) (fun t => [ai t]) (fun t12 => ?_) (fun J116_48 hJ116_48 => ?_)
        · show X z 0 0 t9 116 [(0, ar this), (1, ai q3.2)] [ai t12] _
          refine x_istore_n C (i := 2) (k0 := 2) rfl (Nat.le_of_ble_eq_true rfl) (by decide +kernel) (lv2 := [(2, ai t12), (0, ar this), (1, ai q3.2)]) rfl ?_
          refine x_aload_n C 1 (i := 0) (k0 := 0) rfl rfl (by decide +kernel) ?_
          refine x_gI C fl_RX12_249 (fun _ _ _ => rfl) (by decide +kernel) (fun at_13 => ?_)
          refine x_istore_n C (i := 3) (k0 := 3) rfl (Nat.le_of_ble_eq_true rfl) (by decide +kernel) (lv2 := [(3, ai at_13), (2, ai t12), (0, ar this), (1, ai q3.2)]) rfl ?_
          refine x_join (T := Int) (fun t => t9) 156 (fun t => [(0, ar this), (1, ai q3.2), (2, ai t)]) (fun t => []) (fun t14 => ?_) (fun J156_35 hJ156_35 => ?_)
          · show X z 0 0 t9 156 [(0, ar this), (1, ai q3.2), (2, ai t14)] [] _
            refine x_aload_n C 0 (i := 0) (k0 := 0) rfl rfl (by decide +kernel) ?_
            refine x_callVp C (ci := 12) (c_X12_isGood l D ca ra N t9 this) (p_X12_isGood N t9 this) mt_X12_isGood mv_X12_isGood rfl ml_RX12_284 rfl (fun h => Bool.noConfusion h) ⟨Nat.le_of_ble_eq_true rfl, Nat.le_of_ble_eq_true rfl⟩ (Nat.le_of_ble_eq_true rfl) 0 0 ⟨rfl, rfl⟩ ⟨Nat.zero_le _, Nat.zero_le _⟩ (by decide +kernel) _ rfl (fun q15 => [ai q15.2]) (fun _ => rfl) (fun q15 => ?_)
            refine x_join (T := St) (fun t => t) 176 (fun t => [(0, ar this), (1, ai q3.2)]) (fun t => []) (fun t16 => ?_) (fun J176_30 hJ176_30 => ?_)
            · show X z 0 0 t16 176 [(0, ar this), (1, ai q3.2)] [] _
              refine x_aload_n C 0 (i := 0) (k0 := 0) rfl rfl (by decide +kernel) ?_
              refine x_callVp C (ci := 12) (c_X12_isGood l D ca ra N t16 this) (p_X12_isGood N t16 this) mt_X12_isGood mv_X12_isGood rfl ml_RX12_284 rfl (fun h => Bool.noConfusion h) ⟨Nat.le_of_ble_eq_true rfl, Nat.le_of_ble_eq_true rfl⟩ (Nat.le_of_ble_eq_true rfl) 0 0 ⟨rfl, rfl⟩ ⟨Nat.zero_le _, Nat.zero_le _⟩ (by decide +kernel) _ rfl (fun q17 => [ai q17.2]) (fun _ => rfl) (fun q17 => ?_)
              refine x_if_ne C (tgt := 184) (off := 4) (by decide) (by decide +kernel) (fun h30 => ?_) (fun h30 => ?_)
              · skip
                refine x_iconst C (n := 0) (by decide +kernel) ?_
                refine x_istore_n C (i := 3) (k0 := 3) rfl (Nat.le_of_ble_eq_true rfl) (by decide +kernel) (lv2 := [(3, ai 0), (0, ar this), (1, ai q3.2)]) rfl ?_
                refine x_join (T := St) (fun t => t) 230 (fun t => [(0, ar this)]) (fun t => []) (fun t18 => ?_) (fun J230_19 hJ230_19 => ?_)
                · show X z 0 0 t18 230 [(0, ar this)] [] _
                  refine x_aload_n C 0 (i := 0) (k0 := 0) rfl rfl (by decide +kernel) ?_
                  refine x_callV C (ci := 12) (c_X12_next l D ca ra N t18 this) mt_X12_next mv_X12_next rfl ml_RX12_288 rfl (fun h => Bool.noConfusion h) ⟨Nat.le_of_ble_eq_true rfl, Nat.le_of_ble_eq_true rfl⟩ (Nat.le_of_ble_eq_true rfl) 0 0 ⟨rfl, rfl⟩ ⟨Nat.zero_le _, Nat.zero_le _⟩ (by decide +kernel) _ rfl (fun q19 => []) (fun _ => rfl) (fun q19 => ?_)
                  exact x_vret C ⟨Nat.zero_le _, Nat.zero_le _⟩ (by decide +kernel)
                · skip
                  refine x_sub [1, 2, 0] (lv2 := [(0, ar this), (1, ai q3.2), (3, ai 0)]) rfl ?_
                  -- LOOP L_X12_readRow_186 hb186_21
                  refine x_loop (T := St × Int) (fun t => t.1) (fun t => [(0, ar this), (1, ai q3.2), (3, ai t.2)]) (t16, 0) rfl (fun b186_21 hb186_21 t21 => ?_)
                  show X z 0 0 t21.1 186 [(0, ar this), (1, ai q3.2), (3, ai t21.2)] [] _
                  refine x_iload_n C 2 (i := 3) (k0 := 3) rfl rfl (by decide +kernel) ?_
                  refine x_bipush C (n := 8) (by decide +kernel) (by decide +kernel) ?_
                  refine x_ic_ge C (tgt := 230) (off := 41) (by decide) (by decide +kernel) (fun h29 => ?_) (fun h29 => ?_)
                  · skip
                    refine x_sub [0] (lv2 := [(0, ar this)]) rfl ?_
                    exact hJ230_19 t21.1
                  · skip
                    refine x_aload_n C 0 (i := 0) (k0 := 0) rfl rfl (by decide +kernel) ?_
                    refine x_gR C fl_RX12_72 (fun _ _ _ => rfl) (by decide +kernel) (fun grounds_23 => ?_)
                    refine x_bipush C (n := 64) (by decide +kernel) (by decide +kernel) ?_
                    refine x_aload_n C 0 (i := 0) (k0 := 0) rfl rfl (by decide +kernel) ?_
                    refine x_gI C fl_RX12_303 (fun _ _ _ => rfl) (by decide +kernel) (fun rb_24 => ?_)
                    refine x_imul C (by decide +kernel) ?_
                    refine x_bipush C (n := 8) (by decide +kernel) (by decide +kernel) ?_
                    refine x_iload_n C 1 (i := 1) (k0 := 1) rfl rfl (by decide +kernel) ?_
                    show X z 0 0 t21.1 206 [(0, ar this), (1, ai q3.2), (3, ai t21.2)] [ai q3.2, ai 8, ai (64 * rb_24), ar grounds_23] _
                    refine x_imul C (by decide +kernel) ?_
                    refine x_iadd C (by decide +kernel) ?_
                    refine x_iload_n C 2 (i := 3) (k0 := 3) rfl rfl (by decide +kernel) ?_
                    refine x_iadd C (by decide +kernel) ?_
                    refine x_aload_n C 0 (i := 0) (k0 := 0) rfl rfl (by decide +kernel) ?_
                    refine x_aload_n C 0 (i := 0) (k0 := 0) rfl rfl (by decide +kernel) ?_
                    refine x_gI C fl_RX12_249 (fun _ _ _ => rfl) (by decide +kernel) (fun at_25 => ?_)
                    refine x_iload_n C 2 (i := 3) (k0 := 3) rfl rfl (by decide +kernel) ?_
                    show X z 0 0 t21.1 216 [(0, ar this), (1, ai q3.2), (3, ai t21.2)] [ai t21.2, ai at_25, ar this, ai (((64 * rb_24) + (8 * q3.2)) + t21.2), ar grounds_23] _
                    refine x_iadd C (by decide +kernel) ?_
                    refine x_callVp C (ci := 12) (c_X12_sign l D ca ra N t21.1 this (at_25 + t21.2)) (p_X12_sign N t21.1 this (at_25 + t21.2)) mt_X12_sign mv_X12_sign rfl ml_RX12_252 rfl (fun h => Bool.noConfusion h) ⟨Nat.le_of_ble_eq_true rfl, Nat.le_of_ble_eq_true rfl⟩ (Nat.le_of_ble_eq_true rfl) 0 0 ⟨rfl, rfl⟩ ⟨Nat.zero_le _, Nat.zero_le _⟩ (by decide +kernel) _ rfl (fun q26 => [ai q26.2, ai (((64 * rb_24) + (8 * q3.2)) + t21.2), ar grounds_23]) (fun _ => rfl) (fun q26 => ?_)
                    refine x_bipush C (n := 97) (by decide +kernel) (by decide +kernel) ?_
                    refine x_isub C (by decide +kernel) ?_
                    refine x_astI C (by decide +kernel) (fun σ27 => ?_)
                    refine x_iinc C 2 (i := 3) (n := 1) (Nat.le_of_ble_eq_true rfl) rfl (by decide +kernel) (lv2 := fun x28 => [(3, ai x28), (0, ar this), (1, ai q3.2)]) (fun _ => rfl) (fun x28 => ?_)
                    refine x_goto C (tgt := 186) (off := (-41)) (by decide) (by decide +kernel) ?_
                    refine x_sub [1, 2, 0] (lv2 := [(0, ar this), (1, ai q3.2), (3, ai x28)]) rfl ?_
                    exact hb186_21 (σ27, x28)
              · skip
                exact x_vret C ⟨Nat.zero_le _, Nat.zero_le _⟩ (by decide +kernel)
            · skip
              refine x_if_eq C (tgt := 176) (off := 16) (by decide) (by decide +kernel) (fun h35 => ?_) (fun h35 => ?_)
              · skip
                refine x_sub [0, 1] (lv2 := [(0, ar this), (1, ai q3.2)]) rfl ?_
                exact hJ176_30 t9
              · skip
                refine x_iload_n C 2 (i := 2) (k0 := 2) rfl rfl (by decide +kernel) ?_
                refine x_if_ne C (tgt := 176) (off := 12) (by decide) (by decide +kernel) (fun h34 => ?_) (fun h34 => ?_)
                · skip
                  refine x_sub [0, 1] (lv2 := [(0, ar this), (1, ai q3.2)]) rfl ?_
                  exact hJ176_30 t9
                · skip
                  refine x_aload_n C 0 (i := 0) (k0 := 0) rfl rfl (by decide +kernel) ?_
                  refine x_iconst C (n := 4) (by decide +kernel) ?_
                  refine x_aload_n C 0 (i := 0) (k0 := 0) rfl rfl (by decide +kernel) ?_
                  refine x_gI C fl_RX12_249 (fun _ _ _ => rfl) (by decide +kernel) (fun at_32 => ?_)
                  refine x_callV C (ci := 12) (c_X12_fails l D ca ra N t9 this 4 at_32) mt_X12_fails mv_X12_fails rfl ml_RX12_280 rfl (fun h => Bool.noConfusion h) ⟨Nat.le_of_ble_eq_true rfl, Nat.le_of_ble_eq_true rfl⟩ (Nat.le_of_ble_eq_true rfl) 0 0 ⟨rfl, rfl⟩ ⟨Nat.zero_le _, Nat.zero_le _⟩ (by decide +kernel) _ rfl (fun q33 => []) (fun _ => rfl) (fun q33 => ?_)
                  refine x_sub [0, 1] (lv2 := [(0, ar this), (1, ai q3.2)]) rfl ?_
                  exact hJ176_30 q33.1
          · skip
            refine x_sub [2, 3, 1, 0] (lv2 := [(0, ar this), (1, ai q3.2), (2, ai t12), (3, ai at_13)]) rfl ?_
            -- LOOP L_X12_readRow_122 hb122_37
            refine x_loop (T := Int × Int) (fun t => t9) (fun t => [(0, ar this), (1, ai q3.2), (2, ai t.1), (3, ai t.2)]) (t12, at_13) rfl (fun b122_37 hb122_37 t37 => ?_)
            show X z 0 0 t9 122 [(0, ar this), (1, ai q3.2), (2, ai t37.1), (3, ai t37.2)] [] _
            refine x_iload_n C 3 (i := 3) (k0 := 3) rfl rfl (by decide +kernel) ?_
            refine x_aload_n C 0 (i := 0) (k0 := 0) rfl rfl (by decide +kernel) ?_
            refine x_gI C fl_RX12_246 (fun _ _ _ => rfl) (by decide +kernel) (fun end_39 => ?_)
            refine x_ic_ge C (tgt := 156) (off := 29) (by decide) (by decide +kernel) (fun h48 => ?_) (fun h48 => ?_)
            · skip
              refine x_sub [0, 1, 2] (lv2 := [(0, ar this), (1, ai q3.2), (2, ai t37.1)]) rfl ?_
              exact hJ156_35 t37.1
            · skip
              refine x_iload_n C 2 (i := 2) (k0 := 2) rfl rfl (by decide +kernel) ?_
              refine x_join (T := Int) (fun t => t9) 149 (fun t => [(0, ar this), (1, ai q3.2), (3, ai t37.2)]) (fun t => [ai t]) (fun t40 => ?_) (fun J149_41 hJ149_41 => ?_)
              · show X z 0 0 t9 149 [(0, ar this), (1, ai q3.2), (3, ai t37.2)] [ai t40] _
                refine x_istore_n C (i := 2) (k0 := 2) rfl (Nat.le_of_ble_eq_true rfl) (by decide +kernel) (lv2 := [(2, ai t40), (0, ar this), (1, ai q3.2), (3, ai t37.2)]) rfl ?_
                refine x_iinc C 3 (i := 3) (n := 1) (Nat.le_of_ble_eq_true rfl) rfl (by decide +kernel) (lv2 := fun x41 => [(3, ai x41), (2, ai t40), (0, ar this), (1, ai q3.2)]) (fun _ => rfl) (fun x41 => ?_)
                refine x_goto C (tgt := 122) (off := (-31)) (by decide) (by decide +kernel) ?_
                refine x_sub [2, 3, 1, 0] (lv2 := [(0, ar this), (1, ai q3.2), (2, ai t40), (3, ai x41)]) rfl ?_
                exact hb122_37 (t40, x41)
              · skip
                refine x_join (T := Unit) (fun t => t9) 148 (fun t => [(0, ar this), (1, ai q3.2), (3, ai t37.2)]) (fun t => []) (fun t43 => ?_) (fun J148_43 hJ148_43 => ?_)
                · show X z 0 0 t9 148 [(0, ar this), (1, ai q3.2), (3, ai t37.2)] [] _
                  refine x_iconst C (n := 0) (by decide +kernel) ?_
                  exact hJ149_41 0
                · skip
                  refine x_if_eq C (tgt := 148) (off := 17) (by decide) (by decide +kernel) (fun h47 => ?_) (fun h47 => ?_)
                  · skip
                    refine x_sub [0, 1, 3] (lv2 := [(0, ar this), (1, ai q3.2), (3, ai t37.2)]) rfl ?_
                    exact hJ148_43 ()
                  · skip
                    refine x_aload_n C 0 (i := 0) (k0 := 0) rfl rfl (by decide +kernel) ?_
                    refine x_iload_n C 3 (i := 3) (k0 := 3) rfl rfl (by decide +kernel) ?_
                    refine x_callVp C (ci := 12) (c_X12_sign l D ca ra N t9 this t37.2) (p_X12_sign N t9 this t37.2) mt_X12_sign mv_X12_sign rfl ml_RX12_252 rfl (fun h => Bool.noConfusion h) ⟨Nat.le_of_ble_eq_true rfl, Nat.le_of_ble_eq_true rfl⟩ (Nat.le_of_ble_eq_true rfl) 0 0 ⟨rfl, rfl⟩ ⟨Nat.zero_le _, Nat.zero_le _⟩ (by decide +kernel) _ rfl (fun q45 => [ai q45.2]) (fun _ => rfl) (fun q45 => ?_)
                    refine x_bipush C (n := 104) (by decide +kernel) (by decide +kernel) ?_
                    refine x_ic_gt C (tgt := 148) (off := 7) (by decide) (by decide +kernel) (fun h46 => ?_) (fun h46 => ?_)
                    · skip
                      refine x_sub [0, 1, 3] (lv2 := [(0, ar this), (1, ai q3.2), (3, ai t37.2)]) rfl ?_
                      exact hJ148_43 ()
                    · skip
                      refine x_iconst C (n := 1) (by decide +kernel) ?_
                      refine x_goto C (tgt := 149) (off := 4) (by decide) (by decide +kernel) ?_
                      refine x_sub [0, 1, 3] (lv2 := [(0, ar this), (1, ai q3.2), (3, ai t37.2)]) rfl ?_
                      exact hJ149_41 1
        · skip
          refine x_ic_ne C (tgt := 115) (off := 7) (by decide) (by decide +kernel) (fun h50 => ?_) (fun h50 => ?_)
          · skip
            refine x_iconst C (n := 0) (by decide +kernel) ?_
            exact hJ116_48 0
          · skip
            refine x_iconst C (n := 1) (by decide +kernel) ?_
            refine x_goto C (tgt := 116) (off := 4) (by decide) (by decide +kernel) ?_
            exact hJ116_48 1
      · skip
        refine x_ic_eq C (tgt := 97) (off := 15) (by decide) (by decide +kernel) (fun h55 => ?_) (fun h55 => ?_)
        · skip
          refine x_sub [1, 0] (lv2 := [(0, ar this), (1, ai q3.2)]) rfl ?_
          exact hJ97_50 σ7
        · skip
          refine x_aload_n C 1 (i := 0) (k0 := 0) rfl rfl (by decide +kernel) ?_
          refine x_gI C fl_RX12_256 (fun _ _ _ => rfl) (by decide +kernel) (fun token_52 => ?_)
          refine x_iconst C (n := 3) (by decide +kernel) ?_
          refine x_ic_eq C (tgt := 97) (off := 7) (by decide) (by decide +kernel) (fun h54 => ?_) (fun h54 => ?_)
          · skip
            refine x_sub [1, 0] (lv2 := [(0, ar this), (1, ai q3.2)]) rfl ?_
            exact hJ97_50 σ7
          · skip
            refine x_aload_n C 1 (i := 0) (k0 := 0) rfl rfl (by decide +kernel) ?_
            refine x_callV C (ci := 12) (c_X12_wrong l D ca ra N σ7 this) mt_X12_wrong mv_X12_wrong rfl ml_RX12_291 rfl (fun h => Bool.noConfusion h) ⟨Nat.le_of_ble_eq_true rfl, Nat.le_of_ble_eq_true rfl⟩ (Nat.le_of_ble_eq_true rfl) 0 0 ⟨rfl, rfl⟩ ⟨Nat.zero_le _, Nat.zero_le _⟩ (by decide +kernel) _ rfl (fun q53 => []) (fun _ => rfl) (fun q53 => ?_)
            refine x_sub [1, 0] (lv2 := [(0, ar this), (1, ai q3.2)]) rfl ?_
            exact hJ97_50 q53.1
    · skip
      exact x_vret C ⟨Nat.zero_le _, Nat.zero_le _⟩ (by decide +kernel)
  · skip
    refine x_ic_ne C (tgt := 46) (off := 41) (by decide) (by decide +kernel) (fun h67 => ?_) (fun h67 => ?_)
    · skip
      exact hJ46_56 σ
    · skip
      refine x_aload_n C 0 (i := 0) (k0 := 0) rfl rfl (by decide +kernel) ?_
      refine x_gI C fl_RX12_274 (fun _ _ _ => rfl) (by decide +kernel) (fun number_58 => ?_)
      refine x_bipush C (n := 8) (by decide +kernel) (by decide +kernel) ?_
      refine x_ic_ge C (tgt := 46) (off := 32) (by decide) (by decide +kernel) (fun h66 => ?_) (fun h66 => ?_)
      · skip
        exact hJ46_56 σ
      · skip
        refine x_aload_n C 0 (i := 0) (k0 := 0) rfl rfl (by decide +kernel) ?_
        refine x_gR C fl_RX12_75 (fun _ _ _ => rfl) (by decide +kernel) (fun hasRow_59 => ?_)
        refine x_bipush C (n := 8) (by decide +kernel) (by decide +kernel) ?_
        refine x_aload_n C 0 (i := 0) (k0 := 0) rfl rfl (by decide +kernel) ?_
        refine x_gI C fl_RX12_303 (fun _ _ _ => rfl) (by decide +kernel) (fun rb_60 => ?_)
        refine x_imul C (by decide +kernel) ?_
        refine x_aload_n C 0 (i := 0) (k0 := 0) rfl rfl (by decide +kernel) ?_
        refine x_gI C fl_RX12_274 (fun _ _ _ => rfl) (by decide +kernel) (fun number_61 => ?_)
        show X z 0 0 σ 32 [(0, ar this)] [ai number_61, ai (8 * rb_60), ar hasRow_59] _
        refine x_iadd C (by decide +kernel) ?_
        refine x_aldZ C (by decide +kernel) (fun a62 => ?_)
        refine x_if_eq C (tgt := 46) (off := 12) (by decide) (by decide +kernel) (fun h65 => ?_) (fun h65 => ?_)
        · skip
          exact hJ46_56 σ
        · skip
          refine x_aload_n C 0 (i := 0) (k0 := 0) rfl rfl (by decide +kernel) ?_
          refine x_iconst C (n := 3) (by decide +kernel) ?_
          refine x_aload_n C 0 (i := 0) (k0 := 0) rfl rfl (by decide +kernel) ?_
          refine x_gI C fl_RX12_249 (fun _ _ _ => rfl) (by decide +kernel) (fun at_63 => ?_)
          refine x_callV C (ci := 12) (c_X12_fails l D ca ra N σ this 3 at_63) mt_X12_fails mv_X12_fails rfl ml_RX12_280 rfl (fun h => Bool.noConfusion h) ⟨Nat.le_of_ble_eq_true rfl, Nat.le_of_ble_eq_true rfl⟩ (Nat.le_of_ble_eq_true rfl) 0 0 ⟨rfl, rfl⟩ ⟨Nat.zero_le _, Nat.zero_le _⟩ (by decide +kernel) _ rfl (fun q64 => []) (fun _ => rfl) (fun q64 => ?_)
          exact hJ46_56 q64.1

def rm_X12_readTank : Room := { frames := 3, cells := 0, slots := 0, locals := 68 }
def f_X12_readTank (N : Nat) (σ : St) (this : Nat) : Option (St × Int) :=
 Option.bind (gI shm σ 12 this 32) fun rb_1 =>
 Option.bind (gR shm σ 12 this 15) fun tankMany_2 =>
 Option.bind (gI shm σ 12 this 32) fun rb_3 =>
 Option.bind (aI shm σ 1 tankMany_2 rb_3) fun a4 =>
 Lt ((3 * rb_1) + a4) fun x5 =>
 Option.bind (rcv shm σ 12 this (f_X12_isWord N σ this 24948)) fun q6 =>
 Option.bind (rcv shm σ 12 this (f_X12_must N σ this q6.2)) fun q7 =>
 Option.bind (gR shm q7.1 12 this 26) fun tAt_8 =>
 Option.bind (rcv shm q7.1 12 this (f_X12_numeral N q7.1 this 0 99)) fun q9 =>
 Option.bind (sI shm q9.1 1 tAt_8 x5 q9.2) fun σ10 =>
 Option.bind (rcv shm σ10 12 this (f_X12_isWord N σ10 this 448545973363)) fun q11 =>
 Option.bind (rcv shm σ10 12 this (f_X12_must N σ10 this q11.2)) fun q12 =>
 Option.bind (gR shm q12.1 12 this 27) fun tHolds_13 =>
 Option.bind (rcv shm q12.1 12 this (f_X12_numeral N q12.1 this 1 15)) fun q14 =>
 Option.bind (sI shm q14.1 1 tHolds_13 x5 q14.2) fun σ15 =>
 Option.bind (gR shm σ15 12 this 15) fun tankMany_16 =>
 Option.bind (gI shm σ15 12 this 32) fun rb_17 =>
 Option.bind (aI shm σ15 1 tankMany_16 rb_17) fun a18 =>
 Option.bind (sI shm σ15 1 tankMany_16 rb_17 (a18 + 1)) fun σ19 =>
 some (σ19, 0)
set_option maxRecDepth 100000 in
set_option maxHeartbeats 4000000 in
theorem c_X12_readTank (l : Launch) (D : va_G) (ca : Nat → ClassId) (ra : Nat → Nat) (N : Nat) (σ : St) (this : Nat) : Ctr l (D, ca, ra, shm) false yX12_readTank cX12_readTank 2 none rm_X12_readTank σ [ar this] (f_X12_readTank N σ this) := by
  refine ctr_of (by decide) (Nat.le_of_ble_eq_true rfl) (fun z C => ?_)
  show X z 0 0 σ 0 [(0, ar this)] [] _
  unfold f_X12_readTank
  refine x_iconst C (n := 3) (by decide +kernel) ?_
  refine x_aload_n C 0 (i := 0) (k0 := 0) rfl rfl (by decide +kernel) ?_
  refine x_gI C fl_RX12_303 (fun _ _ _ => rfl) (by decide +kernel) (fun rb_1 => ?_)
  refine x_imul C (by decide +kernel) ?_
  refine x_aload_n C 0 (i := 0) (k0 := 0) rfl rfl (by decide +kernel) ?_
  refine x_gR C fl_RX12_33 (fun _ _ _ => rfl) (by decide +kernel) (fun tankMany_2 => ?_)
  refine x_aload_n C 0 (i := 0) (k0 := 0) rfl rfl (by decide +kernel) ?_
  refine x_gI C fl_RX12_303 (fun _ _ _ => rfl) (by decide +kernel) (fun rb_3 => ?_)
  show X z 0 0 σ 14 [(0, ar this)] [ai rb_3, ar tankMany_2, ai (3 * rb_1)] _
  refine x_aldI C (by decide +kernel) (fun a4 => ?_)
  refine x_iadd C (by decide +kernel) ?_
  refine x_istore_nL C (i := 1) (k0 := 1) rfl (Nat.le_of_ble_eq_true rfl) (by decide +kernel) (lv2 := fun x5 => [(1, ai x5), (0, ar this)]) (fun _ => rfl) (fun x5 => ?_)
  refine x_aload_n C 1 (i := 0) (k0 := 0) rfl rfl (by decide +kernel) ?_
  refine x_aload_n C 1 (i := 0) (k0 := 0) rfl rfl (by decide +kernel) ?_
  refine x_ldc2 C (n := 24948) (v := 24948) kl_RX12_202 (by decide +kernel) (by decide +kernel) ?_
  refine x_callVp C (ci := 12) (c_X12_isWord l D ca ra N σ this 24948) (p_X12_isWord N σ this 24948) mt_X12_isWord mv_X12_isWord rfl ml_RX12_315 rfl (fun h => Bool.noConfusion h) ⟨Nat.le_of_ble_eq_true rfl, Nat.le_of_ble_eq_true rfl⟩ (Nat.le_of_ble_eq_true rfl) 0 0 ⟨rfl, rfl⟩ ⟨Nat.zero_le _, Nat.zero_le _⟩ (by decide +kernel) _ rfl (fun q6 => [ai q6.2, ar this]) (fun _ => rfl) (fun q6 => ?_)
  refine x_callV C (ci := 12) (c_X12_must l D ca ra N σ this q6.2) mt_X12_must mv_X12_must rfl ml_RX12_339 rfl (fun h => Bool.noConfusion h) ⟨Nat.le_of_ble_eq_true rfl, Nat.le_of_ble_eq_true rfl⟩ (Nat.le_of_ble_eq_true rfl) 0 0 ⟨rfl, rfl⟩ ⟨Nat.zero_le _, Nat.zero_le _⟩ (by decide +kernel) _ rfl (fun q7 => []) (fun _ => rfl) (fun q7 => ?_)
  show X z 0 0 q7.1 28 [(1, ai x5), (0, ar this)] [] _
  refine x_aload_n C 1 (i := 0) (k0 := 0) rfl rfl (by decide +kernel) ?_
  refine x_gR C fl_RX12_66 (fun _ _ _ => rfl) (by decide +kernel) (fun tAt_8 => ?_)
  refine x_iload_n C 0 (i := 1) (k0 := 1) rfl rfl (by decide +kernel) ?_
  refine x_aload_n C 1 (i := 0) (k0 := 0) rfl rfl (by decide +kernel) ?_
  refine x_iconst C (n := 0) (by decide +kernel) ?_
  refine x_bipush C (n := 99) (by decide +kernel) (by decide +kernel) ?_
  refine x_callV C (ci := 12) (c_X12_numeral l D ca ra N q7.1 this 0 99) mt_X12_numeral mv_X12_numeral rfl ml_RX12_343 rfl (fun h => Bool.noConfusion h) ⟨Nat.le_of_ble_eq_true rfl, Nat.le_of_ble_eq_true rfl⟩ (Nat.le_of_ble_eq_true rfl) 0 0 ⟨rfl, rfl⟩ ⟨Nat.zero_le _, Nat.zero_le _⟩ (by decide +kernel) _ rfl (fun q9 => [ai q9.2, ai x5, ar tAt_8]) (fun _ => rfl) (fun q9 => ?_)
  refine x_astI C (by decide +kernel) (fun σ10 => ?_)
  show X z 0 0 σ10 41 [(1, ai x5), (0, ar this)] [] _
  refine x_aload_n C 1 (i := 0) (k0 := 0) rfl rfl (by decide +kernel) ?_
  refine x_aload_n C 1 (i := 0) (k0 := 0) rfl rfl (by decide +kernel) ?_
  refine x_ldc2 C (n := 448545973363) (v := 448545973363) kl_RX12_204 (by decide +kernel) (by decide +kernel) ?_
  refine x_callVp C (ci := 12) (c_X12_isWord l D ca ra N σ10 this 448545973363) (p_X12_isWord N σ10 this 448545973363) mt_X12_isWord mv_X12_isWord rfl ml_RX12_315 rfl (fun h => Bool.noConfusion h) ⟨Nat.le_of_ble_eq_true rfl, Nat.le_of_ble_eq_true rfl⟩ (Nat.le_of_ble_eq_true rfl) 0 0 ⟨rfl, rfl⟩ ⟨Nat.zero_le _, Nat.zero_le _⟩ (by decide +kernel) _ rfl (fun q11 => [ai q11.2, ar this]) (fun _ => rfl) (fun q11 => ?_)
  refine x_callV C (ci := 12) (c_X12_must l D ca ra N σ10 this q11.2) mt_X12_must mv_X12_must rfl ml_RX12_339 rfl (fun h => Bool.noConfusion h) ⟨Nat.le_of_ble_eq_true rfl, Nat.le_of_ble_eq_true rfl⟩ (Nat.le_of_ble_eq_true rfl) 0 0 ⟨rfl, rfl⟩ ⟨Nat.zero_le _, Nat.zero_le _⟩ (by decide +kernel) _ rfl (fun q12 => []) (fun _ => rfl) (fun q12 => ?_)
  refine x_aload_n C 1 (i := 0) (k0 := 0) rfl rfl (by decide +kernel) ?_
  refine x_gR C fl_RX12_69 (fun _ _ _ => rfl) (by decide +kernel) (fun tHolds_13 => ?_)
  refine x_iload_n C 0 (i := 1) (k0 := 1) rfl rfl (by decide +kernel) ?_
  show X z 0 0 q12.1 57 [(1, ai x5), (0, ar this)] [ai x5, ar tHolds_13] _
  refine x_aload_n C 1 (i := 0) (k0 := 0) rfl rfl (by decide +kernel) ?_
  refine x_iconst C (n := 1) (by decide +kernel) ?_
  refine x_bipush C (n := 15) (by decide +kernel) (by decide +kernel) ?_
  refine x_callV C (ci := 12) (c_X12_numeral l D ca ra N q12.1 this 1 15) mt_X12_numeral mv_X12_numeral rfl ml_RX12_343 rfl (fun h => Bool.noConfusion h) ⟨Nat.le_of_ble_eq_true rfl, Nat.le_of_ble_eq_true rfl⟩ (Nat.le_of_ble_eq_true rfl) 0 0 ⟨rfl, rfl⟩ ⟨Nat.zero_le _, Nat.zero_le _⟩ (by decide +kernel) _ rfl (fun q14 => [ai q14.2, ai x5, ar tHolds_13]) (fun _ => rfl) (fun q14 => ?_)
  refine x_astI C (by decide +kernel) (fun σ15 => ?_)
  refine x_aload_n C 1 (i := 0) (k0 := 0) rfl rfl (by decide +kernel) ?_
  refine x_gR C fl_RX12_33 (fun _ _ _ => rfl) (by decide +kernel) (fun tankMany_16 => ?_)
  refine x_aload_n C 1 (i := 0) (k0 := 0) rfl rfl (by decide +kernel) ?_
  show X z 0 0 σ15 70 [(1, ai x5), (0, ar this)] [ar this, ar tankMany_16] _
  refine x_gI C fl_RX12_303 (fun _ _ _ => rfl) (by decide +kernel) (fun rb_17 => ?_)
  refine x_dup2 C rfl rfl (by decide +kernel) ?_
  refine x_aldI C (by decide +kernel) (fun a18 => ?_)
  refine x_iconst C (n := 1) (by decide +kernel) ?_
  refine x_iadd C (by decide +kernel) ?_
  refine x_astI C (by decide +kernel) (fun σ19 => ?_)
  exact x_vret C ⟨Nat.zero_le _, Nat.zero_le _⟩ (by decide +kernel)

def rm_X12_readMachine : Room := { frames := 4, cells := 0, slots := 0, locals := 91 }
def f_X12_readMachine (N : Nat) (σ : St) (this : Nat) : Option (St × Int) :=
 Option.bind (rcv shm σ 12 this (f_X12_isWord N σ this 1885434484)) fun q1 =>
 Option.bind (rcv shm σ 12 this (f_X12_isWord N σ this 1785686382)) fun q2 =>
 Option.bind (rcv shm σ 12 this (f_X12_isWord N σ this 470021465459)) fun q3 =>
 Option.bind (rcv shm σ 12 this (f_X12_isWord N σ this 1952542315)) fun q4 =>
 Option.bind (rcv shm σ 12 this (f_X12_isFull N σ this)) fun q5 =>
 Jn (fun t6 : St => Option.bind (rcv shm t6 12 this (f_X12_isGood N t6 this)) fun q7 =>
 (if wr q7.2 = 0 then some (t6, 0) else Option.bind (rcv shm t6 12 this (f_X12_next N t6 this)) fun q8 =>
 Jn (fun t9 : St => Option.bind (rcv shm t9 12 this (f_X12_is N t9 this 59)) fun q10 =>
 Option.bind (rcv shm t9 12 this (f_X12_must N t9 this q10.2)) fun q11 =>
 Option.bind (gR shm q11.1 12 this 11) fun lineMany_12 =>
 Option.bind (gI shm q11.1 12 this 32) fun rb_13 =>
 Option.bind (aI shm q11.1 1 lineMany_12 rb_13) fun a14 =>
 Option.bind (sI shm q11.1 1 lineMany_12 rb_13 (a14 + 1)) fun σ15 =>
 some (σ15, 0)) fun J105_15 =>
 (if wr q1.2 = 0 then (if wr q2.2 = 0 then (if wr q3.2 = 0 then (if wr q4.2 = 0 then Option.bind (rcv shm q8.1 12 this (f_X12_readRow N q8.1 this)) fun q17 =>
 J105_15 q17.1 else Option.bind (rcv shm q8.1 12 this (f_X12_readTank N q8.1 this)) fun q18 =>
 J105_15 q18.1) else Option.bind (rcv shm q8.1 12 this (f_X12_readMoves N q8.1 this)) fun q20 =>
 J105_15 q20.1) else Option.bind (rcv shm q8.1 12 this (f_X12_readJoin N q8.1 this)) fun q22 =>
 J105_15 q22.1) else Option.bind (rcv shm q8.1 12 this (f_X12_readPart N q8.1 this)) fun q24 =>
 J105_15 q24.1))) fun J44_26 =>
 (if wr q5.2 = 0 then J44_26 σ else Option.bind (rcv shm σ 12 this (f_X12_wrong N σ this)) fun q28 =>
 J44_26 q28.1)
set_option maxRecDepth 100000 in
set_option maxHeartbeats 4000000 in
theorem c_X12_readMachine (l : Launch) (D : va_G) (ca : Nat → ClassId) (ra : Nat → Nat) (N : Nat) (σ : St) (this : Nat) : Ctr l (D, ca, ra, shm) false yX12_readMachine cX12_readMachine 5 none rm_X12_readMachine σ [ar this] (f_X12_readMachine N σ this) := by
  refine ctr_of (by decide) (Nat.le_of_ble_eq_true rfl) (fun z C => ?_)
  show X z 0 0 σ 0 [(0, ar this)] [] _
  unfold f_X12_readMachine
  refine x_aload_n C 0 (i := 0) (k0 := 0) rfl rfl (by decide +kernel) ?_
  refine x_ldc2 C (n := 1885434484) (v := 1885434484) kl_RX12_178 (by decide +kernel) (by decide +kernel) ?_
  refine x_callVp C (ci := 12) (c_X12_isWord l D ca ra N σ this 1885434484) (p_X12_isWord N σ this 1885434484) mt_X12_isWord mv_X12_isWord rfl ml_RX12_315 rfl (fun h => Bool.noConfusion h) ⟨Nat.le_of_ble_eq_true rfl, Nat.le_of_ble_eq_true rfl⟩ (Nat.le_of_ble_eq_true rfl) 0 0 ⟨rfl, rfl⟩ ⟨Nat.zero_le _, Nat.zero_le _⟩ (by decide +kernel) _ rfl (fun q1 => [ai q1.2]) (fun _ => rfl) (fun q1 => ?_)
  refine x_istore_n C (i := 1) (k0 := 1) rfl (Nat.le_of_ble_eq_true rfl) (by decide +kernel) (lv2 := [(1, ai q1.2), (0, ar this)]) rfl ?_
  refine x_aload_n C 1 (i := 0) (k0 := 0) rfl rfl (by decide +kernel) ?_
  refine x_ldc2 C (n := 1785686382) (v := 1785686382) kl_RX12_192 (by decide +kernel) (by decide +kernel) ?_
  refine x_callVp C (ci := 12) (c_X12_isWord l D ca ra N σ this 1785686382) (p_X12_isWord N σ this 1785686382) mt_X12_isWord mv_X12_isWord rfl ml_RX12_315 rfl (fun h => Bool.noConfusion h) ⟨Nat.le_of_ble_eq_true rfl, Nat.le_of_ble_eq_true rfl⟩ (Nat.le_of_ble_eq_true rfl) 0 0 ⟨rfl, rfl⟩ ⟨Nat.zero_le _, Nat.zero_le _⟩ (by decide +kernel) _ rfl (fun q2 => [ai q2.2]) (fun _ => rfl) (fun q2 => ?_)
  refine x_istore_n C (i := 2) (k0 := 2) rfl (Nat.le_of_ble_eq_true rfl) (by decide +kernel) (lv2 := [(2, ai q2.2), (1, ai q1.2), (0, ar this)]) rfl ?_
  show X z 0 0 σ 16 [(2, ai q2.2), (1, ai q1.2), (0, ar this)] [] _
  refine x_aload_n C 2 (i := 0) (k0 := 0) rfl rfl (by decide +kernel) ?_
  refine x_ldc2 C (n := 470021465459) (v := 470021465459) kl_RX12_196 (by decide +kernel) (by decide +kernel) ?_
  refine x_callVp C (ci := 12) (c_X12_isWord l D ca ra N σ this 470021465459) (p_X12_isWord N σ this 470021465459) mt_X12_isWord mv_X12_isWord rfl ml_RX12_315 rfl (fun h => Bool.noConfusion h) ⟨Nat.le_of_ble_eq_true rfl, Nat.le_of_ble_eq_true rfl⟩ (Nat.le_of_ble_eq_true rfl) 0 0 ⟨rfl, rfl⟩ ⟨Nat.zero_le _, Nat.zero_le _⟩ (by decide +kernel) _ rfl (fun q3 => [ai q3.2]) (fun _ => rfl) (fun q3 => ?_)
  refine x_istore_n C (i := 3) (k0 := 3) rfl (Nat.le_of_ble_eq_true rfl) (by decide +kernel) (lv2 := [(3, ai q3.2), (2, ai q2.2), (1, ai q1.2), (0, ar this)]) rfl ?_
  refine x_aload_n C 3 (i := 0) (k0 := 0) rfl rfl (by decide +kernel) ?_
  refine x_ldc2 C (n := 1952542315) (v := 1952542315) kl_RX12_200 (by decide +kernel) (by decide +kernel) ?_
  refine x_callVp C (ci := 12) (c_X12_isWord l D ca ra N σ this 1952542315) (p_X12_isWord N σ this 1952542315) mt_X12_isWord mv_X12_isWord rfl ml_RX12_315 rfl (fun h => Bool.noConfusion h) ⟨Nat.le_of_ble_eq_true rfl, Nat.le_of_ble_eq_true rfl⟩ (Nat.le_of_ble_eq_true rfl) 0 0 ⟨rfl, rfl⟩ ⟨Nat.zero_le _, Nat.zero_le _⟩ (by decide +kernel) _ rfl (fun q4 => [ai q4.2]) (fun _ => rfl) (fun q4 => ?_)
  refine x_istore C (i := 4) (Nat.le_of_ble_eq_true rfl) (by decide +kernel) (lv2 := [(4, ai q4.2), (3, ai q3.2), (2, ai q2.2), (1, ai q1.2), (0, ar this)]) rfl ?_
  show X z 0 0 σ 33 [(4, ai q4.2), (3, ai q3.2), (2, ai q2.2), (1, ai q1.2), (0, ar this)] [] _
  refine x_aload_n C 4 (i := 0) (k0 := 0) rfl rfl (by decide +kernel) ?_
  refine x_callVp C (ci := 12) (c_X12_isFull l D ca ra N σ this) (p_X12_isFull N σ this) mt_X12_isFull mv_X12_isFull rfl ml_RX12_318 rfl (fun h => Bool.noConfusion h) ⟨Nat.le_of_ble_eq_true rfl, Nat.le_of_ble_eq_true rfl⟩ (Nat.le_of_ble_eq_true rfl) 0 0 ⟨rfl, rfl⟩ ⟨Nat.zero_le _, Nat.zero_le _⟩ (by decide +kernel) _ rfl (fun q5 => [ai q5.2]) (fun _ => rfl) (fun q5 => ?_)
  refine x_join (T := St) (fun t => t) 44 (fun t => [(0, ar this), (1, ai q1.2), (2, ai q2.2), (3, ai q3.2), (4, ai q4.2)]) (fun t => []) (fun t6 => ?_) (fun J44_26 hJ44_26 => ?_)
  · show X z 0 0 t6 44 [(0, ar this), (1, ai q1.2), (2, ai q2.2), (3, ai q3.2), (4, ai q4.2)] [] _
    refine x_aload_n C 0 (i := 0) (k0 := 0) rfl rfl (by decide +kernel) ?_
    refine x_callVp C (ci := 12) (c_X12_isGood l D ca ra N t6 this) (p_X12_isGood N t6 this) mt_X12_isGood mv_X12_isGood rfl ml_RX12_284 rfl (fun h => Bool.noConfusion h) ⟨Nat.le_of_ble_eq_true rfl, Nat.le_of_ble_eq_true rfl⟩ (Nat.le_of_ble_eq_true rfl) 0 0 ⟨rfl, rfl⟩ ⟨Nat.zero_le _, Nat.zero_le _⟩ (by decide +kernel) _ rfl (fun q7 => [ai q7.2]) (fun _ => rfl) (fun q7 => ?_)
    refine x_if_ne C (tgt := 52) (off := 4) (by decide) (by decide +kernel) (fun h26 => ?_) (fun h26 => ?_)
    · skip
      refine x_aload_n C 0 (i := 0) (k0 := 0) rfl rfl (by decide +kernel) ?_
      refine x_callV C (ci := 12) (c_X12_next l D ca ra N t6 this) mt_X12_next mv_X12_next rfl ml_RX12_288 rfl (fun h => Bool.noConfusion h) ⟨Nat.le_of_ble_eq_true rfl, Nat.le_of_ble_eq_true rfl⟩ (Nat.le_of_ble_eq_true rfl) 0 0 ⟨rfl, rfl⟩ ⟨Nat.zero_le _, Nat.zero_le _⟩ (by decide +kernel) _ rfl (fun q8 => []) (fun _ => rfl) (fun q8 => ?_)
      refine x_iload_n C 1 (i := 1) (k0 := 1) rfl rfl (by decide +kernel) ?_
      refine x_join (T := St) (fun t => t) 105 (fun t => [(0, ar this)]) (fun t => []) (fun t9 => ?_) (fun J105_15 hJ105_15 => ?_)
      · show X z 0 0 t9 105 [(0, ar this)] [] _
        refine x_aload_n C 0 (i := 0) (k0 := 0) rfl rfl (by decide +kernel) ?_
        refine x_aload_n C 0 (i := 0) (k0 := 0) rfl rfl (by decide +kernel) ?_
        refine x_bipush C (n := 59) (by decide +kernel) (by decide +kernel) ?_
        refine x_callVp C (ci := 12) (c_X12_is l D ca ra N t9 this 59) (p_X12_is N t9 this 59) mt_X12_is mv_X12_is rfl ml_RX12_336 rfl (fun h => Bool.noConfusion h) ⟨Nat.le_of_ble_eq_true rfl, Nat.le_of_ble_eq_true rfl⟩ (Nat.le_of_ble_eq_true rfl) 0 0 ⟨rfl, rfl⟩ ⟨Nat.zero_le _, Nat.zero_le _⟩ (by decide +kernel) _ rfl (fun q10 => [ai q10.2, ar this]) (fun _ => rfl) (fun q10 => ?_)
        refine x_callV C (ci := 12) (c_X12_must l D ca ra N t9 this q10.2) mt_X12_must mv_X12_must rfl ml_RX12_339 rfl (fun h => Bool.noConfusion h) ⟨Nat.le_of_ble_eq_true rfl, Nat.le_of_ble_eq_true rfl⟩ (Nat.le_of_ble_eq_true rfl) 0 0 ⟨rfl, rfl⟩ ⟨Nat.zero_le _, Nat.zero_le _⟩ (by decide +kernel) _ rfl (fun q11 => []) (fun _ => rfl) (fun q11 => ?_)
        refine x_aload_n C 0 (i := 0) (k0 := 0) rfl rfl (by decide +kernel) ?_
        refine x_gR C fl_RX12_20 (fun _ _ _ => rfl) (by decide +kernel) (fun lineMany_12 => ?_)
        refine x_aload_n C 0 (i := 0) (k0 := 0) rfl rfl (by decide +kernel) ?_
        show X z 0 0 q11.1 120 [(0, ar this)] [ar this, ar lineMany_12] _
        refine x_gI C fl_RX12_303 (fun _ _ _ => rfl) (by decide +kernel) (fun rb_13 => ?_)
        refine x_dup2 C rfl rfl (by decide +kernel) ?_
        refine x_aldI C (by decide +kernel) (fun a14 => ?_)
        refine x_iconst C (n := 1) (by decide +kernel) ?_
        refine x_iadd C (by decide +kernel) ?_
        refine x_astI C (by decide +kernel) (fun σ15 => ?_)
        exact x_vret C ⟨Nat.zero_le _, Nat.zero_le _⟩ (by decide +kernel)
      · skip
        refine x_if_eq C (tgt := 67) (off := 10) (by decide) (by decide +kernel) (fun h25 => ?_) (fun h25 => ?_)
        · skip
          refine x_iload_n C 2 (i := 2) (k0 := 2) rfl rfl (by decide +kernel) ?_
          refine x_if_eq C (tgt := 78) (off := 10) (by decide) (by decide +kernel) (fun h23 => ?_) (fun h23 => ?_)
          · skip
            refine x_iload_n C 3 (i := 3) (k0 := 3) rfl rfl (by decide +kernel) ?_
            refine x_if_eq C (tgt := 89) (off := 10) (by decide) (by decide +kernel) (fun h21 => ?_) (fun h21 => ?_)
            · skip
              refine x_iload C 4 (i := 4) rfl (by decide +kernel) ?_
              refine x_if_eq C (tgt := 101) (off := 10) (by decide) (by decide +kernel) (fun h19 => ?_) (fun h19 => ?_)
              · skip
                refine x_aload_n C 0 (i := 0) (k0 := 0) rfl rfl (by decide +kernel) ?_
                refine x_callV C (ci := 12) (c_X12_readRow l D ca ra N q8.1 this) mt_X12_readRow mv_X12_readRow rfl ml_RX12_333 rfl (fun h => Bool.noConfusion h) ⟨Nat.le_of_ble_eq_true rfl, Nat.le_of_ble_eq_true rfl⟩ (Nat.le_of_ble_eq_true rfl) 0 0 ⟨rfl, rfl⟩ ⟨Nat.zero_le _, Nat.zero_le _⟩ (by decide +kernel) _ rfl (fun q17 => []) (fun _ => rfl) (fun q17 => ?_)
                refine x_sub [0] (lv2 := [(0, ar this)]) rfl ?_
                exact hJ105_15 q17.1
              · skip
                refine x_aload_n C 0 (i := 0) (k0 := 0) rfl rfl (by decide +kernel) ?_
                refine x_callV C (ci := 12) (c_X12_readTank l D ca ra N q8.1 this) mt_X12_readTank mv_X12_readTank rfl ml_RX12_330 rfl (fun h => Bool.noConfusion h) ⟨Nat.le_of_ble_eq_true rfl, Nat.le_of_ble_eq_true rfl⟩ (Nat.le_of_ble_eq_true rfl) 0 0 ⟨rfl, rfl⟩ ⟨Nat.zero_le _, Nat.zero_le _⟩ (by decide +kernel) _ rfl (fun q18 => []) (fun _ => rfl) (fun q18 => ?_)
                refine x_goto C (tgt := 105) (off := 7) (by decide) (by decide +kernel) ?_
                refine x_sub [0] (lv2 := [(0, ar this)]) rfl ?_
                exact hJ105_15 q18.1
            · skip
              refine x_aload_n C 0 (i := 0) (k0 := 0) rfl rfl (by decide +kernel) ?_
              refine x_callV C (ci := 12) (c_X12_readMoves l D ca ra N q8.1 this) mt_X12_readMoves mv_X12_readMoves rfl ml_RX12_327 rfl (fun h => Bool.noConfusion h) ⟨Nat.le_of_ble_eq_true rfl, Nat.le_of_ble_eq_true rfl⟩ (Nat.le_of_ble_eq_true rfl) 0 0 ⟨rfl, rfl⟩ ⟨Nat.zero_le _, Nat.zero_le _⟩ (by decide +kernel) _ rfl (fun q20 => []) (fun _ => rfl) (fun q20 => ?_)
              refine x_goto C (tgt := 105) (off := 19) (by decide) (by decide +kernel) ?_
              refine x_sub [0] (lv2 := [(0, ar this)]) rfl ?_
              exact hJ105_15 q20.1
          · skip
            refine x_aload_n C 0 (i := 0) (k0 := 0) rfl rfl (by decide +kernel) ?_
            refine x_callV C (ci := 12) (c_X12_readJoin l D ca ra N q8.1 this) mt_X12_readJoin mv_X12_readJoin rfl ml_RX12_324 rfl (fun h => Bool.noConfusion h) ⟨Nat.le_of_ble_eq_true rfl, Nat.le_of_ble_eq_true rfl⟩ (Nat.le_of_ble_eq_true rfl) 0 0 ⟨rfl, rfl⟩ ⟨Nat.zero_le _, Nat.zero_le _⟩ (by decide +kernel) _ rfl (fun q22 => []) (fun _ => rfl) (fun q22 => ?_)
            refine x_goto C (tgt := 105) (off := 30) (by decide) (by decide +kernel) ?_
            refine x_sub [0] (lv2 := [(0, ar this)]) rfl ?_
            exact hJ105_15 q22.1
        · skip
          refine x_aload_n C 0 (i := 0) (k0 := 0) rfl rfl (by decide +kernel) ?_
          refine x_callV C (ci := 12) (c_X12_readPart l D ca ra N q8.1 this) mt_X12_readPart mv_X12_readPart rfl ml_RX12_321 rfl (fun h => Bool.noConfusion h) ⟨Nat.le_of_ble_eq_true rfl, Nat.le_of_ble_eq_true rfl⟩ (Nat.le_of_ble_eq_true rfl) 0 0 ⟨rfl, rfl⟩ ⟨Nat.zero_le _, Nat.zero_le _⟩ (by decide +kernel) _ rfl (fun q24 => []) (fun _ => rfl) (fun q24 => ?_)
          refine x_goto C (tgt := 105) (off := 41) (by decide) (by decide +kernel) ?_
          refine x_sub [0] (lv2 := [(0, ar this)]) rfl ?_
          exact hJ105_15 q24.1
    · skip
      exact x_vret C ⟨Nat.zero_le _, Nat.zero_le _⟩ (by decide +kernel)
  · skip
    refine x_if_eq C (tgt := 44) (off := 7) (by decide) (by decide +kernel) (fun h29 => ?_) (fun h29 => ?_)
    · skip
      refine x_sub [4, 3, 2, 1, 0] (lv2 := [(0, ar this), (1, ai q1.2), (2, ai q2.2), (3, ai q3.2), (4, ai q4.2)]) rfl ?_
      exact hJ44_26 σ
    · skip
      refine x_aload_n C 4 (i := 0) (k0 := 0) rfl rfl (by decide +kernel) ?_
      refine x_callV C (ci := 12) (c_X12_wrong l D ca ra N σ this) mt_X12_wrong mv_X12_wrong rfl ml_RX12_291 rfl (fun h => Bool.noConfusion h) ⟨Nat.le_of_ble_eq_true rfl, Nat.le_of_ble_eq_true rfl⟩ (Nat.le_of_ble_eq_true rfl) 0 0 ⟨rfl, rfl⟩ ⟨Nat.zero_le _, Nat.zero_le _⟩ (by decide +kernel) _ rfl (fun q28 => []) (fun _ => rfl) (fun q28 => ?_)
      refine x_sub [4, 3, 2, 1, 0] (lv2 := [(0, ar this), (1, ai q1.2), (2, ai q2.2), (3, ai q3.2), (4, ai q4.2)]) rfl ?_
      exact hJ44_26 q28.1

def L_X12_machine_126 (N : Nat) (this : Nat) (J147_31 : (St → Option (St × Int))) : St → Option (St × Int) := fixN N fun b126_33 t33 =>
 Option.bind (rcv shm t33 12 this (f_X12_isGood N t33 this)) fun q35 =>
 (if wr q35.2 = 0 then J147_31 t33 else Option.bind (gI shm t33 12 this 8) fun token_36 =>
 (if wr token_36 = 0 then J147_31 t33 else Option.bind (rcv shm t33 12 this (f_X12_readMachine N t33 this)) fun q37 =>
 b126_33 q37.1))
def L_X12_machine_95 (N : Nat) (this : Nat) (J122_39 : (St → Option (St × Int))) : (St × Int) → Option (St × Int) := fixN N fun b95_41 t41 =>
 (if wr t41.2 < wr 8 then Option.bind (gR shm t41.1 12 this 29) fun hasRow_43 =>
 Option.bind (gI shm t41.1 12 this 32) fun rb_44 =>
 Option.bind (sI shm t41.1 3 hasRow_43 ((8 * rb_44) + t41.2) 0) fun σ45 =>
 Lt (t41.2 + 1) fun x46 =>
 b95_41 (σ45, x46) else J122_39 t41.1)
def L_X12_machine_66 (N : Nat) (this : Nat) (J93_47 : (St → Option (St × Int))) : (St × Int) → Option (St × Int) := fixN N fun b66_49 t49 =>
 (if wr t49.2 < wr 64 then Option.bind (gR shm t49.1 12 this 28) fun grounds_51 =>
 Option.bind (gI shm t49.1 12 this 32) fun rb_52 =>
 Option.bind (sI shm t49.1 1 grounds_51 ((64 * rb_52) + t49.2) 0) fun σ53 =>
 Lt (t49.2 + 1) fun x54 =>
 b66_49 (σ53, x54) else J93_47 t49.1)
def rm_X12_machine : Room := { frames := 5, cells := 0, slots := 0, locals := 115 }
def f_X12_machine (N : Nat) (σ : St) (this : Nat) : Option (St × Int) :=
 Option.bind (rcv shm σ 12 this (f_X12_takeTape N σ this)) fun q1 =>
 Option.bind (gI shm q1.1 12 this 31) fun bank_2 =>
 Option.bind (pI shm q1.1 12 this 32 (1 - bank_2)) fun σ3 =>
 Option.bind (gR shm σ3 12 this 11) fun lineMany_4 =>
 Option.bind (gI shm σ3 12 this 32) fun rb_5 =>
 Option.bind (sI shm σ3 1 lineMany_4 rb_5 0) fun σ6 =>
 Option.bind (gR shm σ6 12 this 12) fun partMany_7 =>
 Option.bind (gI shm σ6 12 this 32) fun rb_8 =>
 Option.bind (sI shm σ6 1 partMany_7 rb_8 0) fun σ9 =>
 Option.bind (gR shm σ9 12 this 13) fun joinMany_10 =>
 Option.bind (gI shm σ9 12 this 32) fun rb_11 =>
 Option.bind (sI shm σ9 1 joinMany_10 rb_11 0) fun σ12 =>
 Option.bind (gR shm σ12 12 this 14) fun moveMany_13 =>
 Option.bind (gI shm σ12 12 this 32) fun rb_14 =>
 Option.bind (sI shm σ12 1 moveMany_13 rb_14 0) fun σ15 =>
 Option.bind (gR shm σ15 12 this 15) fun tankMany_16 =>
 Option.bind (gI shm σ15 12 this 32) fun rb_17 =>
 Option.bind (sI shm σ15 1 tankMany_16 rb_17 0) fun σ18 =>
 Jn (fun t19 : St => Jn (fun t20 : St => Option.bind (rcv shm t20 12 this (f_X12_next N t20 this)) fun q21 =>
 Jn (fun t22 : St => Option.bind (rcv shm t22 12 this (f_X12_isGood N t22 this)) fun q23 =>
 (if wr q23.2 = 0 then some (t22, (-1)) else Option.bind (gI shm t22 12 this 32) fun rb_24 =>
 Option.bind (pI shm t22 12 this 31 rb_24) fun σ25 =>
 Option.bind (pI shm σ25 12 this 67 0) fun σ26 =>
 Option.bind (pI shm σ26 12 this 73 0) fun σ27 =>
 Option.bind (gR shm σ27 12 this 11) fun lineMany_28 =>
 Option.bind (gI shm σ27 12 this 31) fun bank_29 =>
 Option.bind (aI shm σ27 1 lineMany_28 bank_29) fun a30 =>
 some (σ27, a30))) fun J147_31 =>
 L_X12_machine_126 N this J147_31 q21.1) fun J122_39 =>
 L_X12_machine_95 N this J122_39 (t19, 0)) fun J93_47 =>
 L_X12_machine_66 N this J93_47 (σ18, 0)
set_option maxRecDepth 100000 in
set_option maxHeartbeats 4000000 in
theorem c_X12_machine (l : Launch) (D : va_G) (ca : Nat → ClassId) (ra : Nat → Nat) (N : Nat) (σ : St) (this : Nat) : Ctr l (D, ca, ra, shm) false yX12_machine cX12_machine 2 (some .int) rm_X12_machine σ [ar this] (f_X12_machine N σ this) := by
  refine ctr_of (by decide) (Nat.le_of_ble_eq_true rfl) (fun z C => ?_)
  show X z 0 0 σ 0 [(0, ar this)] [] _
  unfold f_X12_machine
  refine x_aload_n C 0 (i := 0) (k0 := 0) rfl rfl (by decide +kernel) ?_
  refine x_callV C (ci := 12) (c_X12_takeTape l D ca ra N σ this) mt_X12_takeTape mv_X12_takeTape rfl ml_RX12_297 rfl (fun h => Bool.noConfusion h) ⟨Nat.le_of_ble_eq_true rfl, Nat.le_of_ble_eq_true rfl⟩ (Nat.le_of_ble_eq_true rfl) 0 0 ⟨rfl, rfl⟩ ⟨Nat.zero_le _, Nat.zero_le _⟩ (by decide +kernel) _ rfl (fun q1 => []) (fun _ => rfl) (fun q1 => ?_)
  refine x_aload_n C 0 (i := 0) (k0 := 0) rfl rfl (by decide +kernel) ?_
  refine x_iconst C (n := 1) (by decide +kernel) ?_
  refine x_aload_n C 0 (i := 0) (k0 := 0) rfl rfl (by decide +kernel) ?_
  refine x_gI C fl_RX12_300 (fun _ _ _ => rfl) (by decide +kernel) (fun bank_2 => ?_)
  refine x_isub C (by decide +kernel) ?_
  refine x_pI C fl_RX12_303 rfl (fun q h => by cases h; rfl) (by decide +kernel) (fun σ3 => ?_)
  show X z 0 0 σ3 14 [(0, ar this)] [] _
  refine x_aload_n C 0 (i := 0) (k0 := 0) rfl rfl (by decide +kernel) ?_
  refine x_gR C fl_RX12_20 (fun _ _ _ => rfl) (by decide +kernel) (fun lineMany_4 => ?_)
  refine x_aload_n C 0 (i := 0) (k0 := 0) rfl rfl (by decide +kernel) ?_
  refine x_gI C fl_RX12_303 (fun _ _ _ => rfl) (by decide +kernel) (fun rb_5 => ?_)
  refine x_iconst C (n := 0) (by decide +kernel) ?_
  refine x_astI C (by decide +kernel) (fun σ6 => ?_)
  refine x_aload_n C 0 (i := 0) (k0 := 0) rfl rfl (by decide +kernel) ?_
  refine x_gR C fl_RX12_24 (fun _ _ _ => rfl) (by decide +kernel) (fun partMany_7 => ?_)
  show X z 0 0 σ6 28 [(0, ar this)] [ar partMany_7] _
  refine x_aload_n C 0 (i := 0) (k0 := 0) rfl rfl (by decide +kernel) ?_
  refine x_gI C fl_RX12_303 (fun _ _ _ => rfl) (by decide +kernel) (fun rb_8 => ?_)
  refine x_iconst C (n := 0) (by decide +kernel) ?_
  refine x_astI C (by decide +kernel) (fun σ9 => ?_)
  refine x_aload_n C 0 (i := 0) (k0 := 0) rfl rfl (by decide +kernel) ?_
  refine x_gR C fl_RX12_27 (fun _ _ _ => rfl) (by decide +kernel) (fun joinMany_10 => ?_)
  refine x_aload_n C 0 (i := 0) (k0 := 0) rfl rfl (by decide +kernel) ?_
  refine x_gI C fl_RX12_303 (fun _ _ _ => rfl) (by decide +kernel) (fun rb_11 => ?_)
  show X z 0 0 σ9 42 [(0, ar this)] [ai rb_11, ar joinMany_10] _
  refine x_iconst C (n := 0) (by decide +kernel) ?_
  refine x_astI C (by decide +kernel) (fun σ12 => ?_)
  refine x_aload_n C 0 (i := 0) (k0 := 0) rfl rfl (by decide +kernel) ?_
  refine x_gR C fl_RX12_30 (fun _ _ _ => rfl) (by decide +kernel) (fun moveMany_13 => ?_)
  refine x_aload_n C 0 (i := 0) (k0 := 0) rfl rfl (by decide +kernel) ?_
  refine x_gI C fl_RX12_303 (fun _ _ _ => rfl) (by decide +kernel) (fun rb_14 => ?_)
  refine x_iconst C (n := 0) (by decide +kernel) ?_
  refine x_astI C (by decide +kernel) (fun σ15 => ?_)
  show X z 0 0 σ15 54 [(0, ar this)] [] _
  refine x_aload_n C 0 (i := 0) (k0 := 0) rfl rfl (by decide +kernel) ?_
  refine x_gR C fl_RX12_33 (fun _ _ _ => rfl) (by decide +kernel) (fun tankMany_16 => ?_)
  refine x_aload_n C 0 (i := 0) (k0 := 0) rfl rfl (by decide +kernel) ?_
  refine x_gI C fl_RX12_303 (fun _ _ _ => rfl) (by decide +kernel) (fun rb_17 => ?_)
  refine x_iconst C (n := 0) (by decide +kernel) ?_
  refine x_astI C (by decide +kernel) (fun σ18 => ?_)
  refine x_iconst C (n := 0) (by decide +kernel) ?_
  refine x_istore_n C (i := 1) (k0 := 1) rfl (Nat.le_of_ble_eq_true rfl) (by decide +kernel) (lv2 := [(1, ai 0), (0, ar this)]) rfl ?_
  show X z 0 0 σ18 66 [(1, ai 0), (0, ar this)] [] _
  refine x_join (T := St) (fun t => t) 93 (fun t => [(0, ar this)]) (fun t => []) (fun t19 => ?_) (fun J93_47 hJ93_47 => ?_)
  · show X z 0 0 t19 93 [(0, ar this)] [] _
    refine x_iconst C (n := 0) (by decide +kernel) ?_
    refine x_istore_n C (i := 1) (k0 := 1) rfl (Nat.le_of_ble_eq_true rfl) (by decide +kernel) (lv2 := [(1, ai 0), (0, ar this)]) rfl ?_
    refine x_join (T := St) (fun t => t) 122 (fun t => [(0, ar this)]) (fun t => []) (fun t20 => ?_) (fun J122_39 hJ122_39 => ?_)
    · show X z 0 0 t20 122 [(0, ar this)] [] _
      refine x_aload_n C 0 (i := 0) (k0 := 0) rfl rfl (by decide +kernel) ?_
      refine x_callV C (ci := 12) (c_X12_next l D ca ra N t20 this) mt_X12_next mv_X12_next rfl ml_RX12_288 rfl (fun h => Bool.noConfusion h) ⟨Nat.le_of_ble_eq_true rfl, Nat.le_of_ble_eq_true rfl⟩ (Nat.le_of_ble_eq_true rfl) 0 0 ⟨rfl, rfl⟩ ⟨Nat.zero_le _, Nat.zero_le _⟩ (by decide +kernel) _ rfl (fun q21 => []) (fun _ => rfl) (fun q21 => ?_)
      refine x_join (T := St) (fun t => t) 147 (fun t => [(0, ar this)]) (fun t => []) (fun t22 => ?_) (fun J147_31 hJ147_31 => ?_)
      · show X z 0 0 t22 147 [(0, ar this)] [] _
        refine x_aload_n C 0 (i := 0) (k0 := 0) rfl rfl (by decide +kernel) ?_
        refine x_callVp C (ci := 12) (c_X12_isGood l D ca ra N t22 this) (p_X12_isGood N t22 this) mt_X12_isGood mv_X12_isGood rfl ml_RX12_284 rfl (fun h => Bool.noConfusion h) ⟨Nat.le_of_ble_eq_true rfl, Nat.le_of_ble_eq_true rfl⟩ (Nat.le_of_ble_eq_true rfl) 0 0 ⟨rfl, rfl⟩ ⟨Nat.zero_le _, Nat.zero_le _⟩ (by decide +kernel) _ rfl (fun q23 => [ai q23.2]) (fun _ => rfl) (fun q23 => ?_)
        refine x_if_ne C (tgt := 156) (off := 5) (by decide) (by decide +kernel) (fun h31 => ?_) (fun h31 => ?_)
        · skip
          refine x_aload_n C 0 (i := 0) (k0 := 0) rfl rfl (by decide +kernel) ?_
          refine x_aload_n C 0 (i := 0) (k0 := 0) rfl rfl (by decide +kernel) ?_
          refine x_gI C fl_RX12_303 (fun _ _ _ => rfl) (by decide +kernel) (fun rb_24 => ?_)
          refine x_pI C fl_RX12_300 rfl (fun q h => by cases h; rfl) (by decide +kernel) (fun σ25 => ?_)
          refine x_aload_n C 0 (i := 0) (k0 := 0) rfl rfl (by decide +kernel) ?_
          refine x_iconst C (n := 0) (by decide +kernel) ?_
          refine x_pI C fl_RX12_309 rfl (fun q h => by cases h; rfl) (by decide +kernel) (fun σ26 => ?_)
          refine x_aload_n C 0 (i := 0) (k0 := 0) rfl rfl (by decide +kernel) ?_
          show X z 0 0 σ26 170 [(0, ar this)] [ar this] _
          refine x_iconst C (n := 0) (by decide +kernel) ?_
          refine x_pI C fl_RX12_312 rfl (fun q h => by cases h; rfl) (by decide +kernel) (fun σ27 => ?_)
          refine x_aload_n C 0 (i := 0) (k0 := 0) rfl rfl (by decide +kernel) ?_
          refine x_gR C fl_RX12_20 (fun _ _ _ => rfl) (by decide +kernel) (fun lineMany_28 => ?_)
          refine x_aload_n C 0 (i := 0) (k0 := 0) rfl rfl (by decide +kernel) ?_
          refine x_gI C fl_RX12_300 (fun _ _ _ => rfl) (by decide +kernel) (fun bank_29 => ?_)
          refine x_aldI C (by decide +kernel) (fun a30 => ?_)
          exact x_iret C ⟨Nat.zero_le _, Nat.zero_le _⟩ (by decide +kernel)
        · skip
          refine x_iconst C (n := (-1)) (by decide +kernel) ?_
          exact x_iret C ⟨Nat.zero_le _, Nat.zero_le _⟩ (by decide +kernel)
      · skip
        -- LOOP L_X12_machine_126 hb126_33
        refine x_loop (T := St) (fun t => t) (fun t => [(0, ar this)]) q21.1 rfl (fun b126_33 hb126_33 t33 => ?_)
        show X z 0 0 t33 126 [(0, ar this)] [] _
        refine x_aload_n C 0 (i := 0) (k0 := 0) rfl rfl (by decide +kernel) ?_
        refine x_callVp C (ci := 12) (c_X12_isGood l D ca ra N t33 this) (p_X12_isGood N t33 this) mt_X12_isGood mv_X12_isGood rfl ml_RX12_284 rfl (fun h => Bool.noConfusion h) ⟨Nat.le_of_ble_eq_true rfl, Nat.le_of_ble_eq_true rfl⟩ (Nat.le_of_ble_eq_true rfl) 0 0 ⟨rfl, rfl⟩ ⟨Nat.zero_le _, Nat.zero_le _⟩ (by decide +kernel) _ rfl (fun q35 => [ai q35.2]) (fun _ => rfl) (fun q35 => ?_)
        refine x_if_eq C (tgt := 147) (off := 17) (by decide) (by decide +kernel) (fun h39 => ?_) (fun h39 => ?_)
        · skip
          exact hJ147_31 t33
        · skip
          refine x_aload_n C 0 (i := 0) (k0 := 0) rfl rfl (by decide +kernel) ?_
          refine x_gI C fl_RX12_256 (fun _ _ _ => rfl) (by decide +kernel) (fun token_36 => ?_)
          refine x_if_eq C (tgt := 147) (off := 10) (by decide) (by decide +kernel) (fun h38 => ?_) (fun h38 => ?_)
          · skip
            exact hJ147_31 t33
          · skip
            refine x_aload_n C 0 (i := 0) (k0 := 0) rfl rfl (by decide +kernel) ?_
            refine x_callV C (ci := 12) (c_X12_readMachine l D ca ra N t33 this) mt_X12_readMachine mv_X12_readMachine rfl ml_RX12_306 rfl (fun h => Bool.noConfusion h) ⟨Nat.le_of_ble_eq_true rfl, Nat.le_of_ble_eq_true rfl⟩ (Nat.le_of_ble_eq_true rfl) 0 0 ⟨rfl, rfl⟩ ⟨Nat.zero_le _, Nat.zero_le _⟩ (by decide +kernel) _ rfl (fun q37 => []) (fun _ => rfl) (fun q37 => ?_)
            refine x_goto C (tgt := 126) (off := (-18)) (by decide) (by decide +kernel) ?_
            exact hb126_33 q37.1
    · skip
      refine x_sub [1, 0] (lv2 := [(0, ar this), (1, ai 0)]) rfl ?_
      -- LOOP L_X12_machine_95 hb95_41
      refine x_loop (T := St × Int) (fun t => t.1) (fun t => [(0, ar this), (1, ai t.2)]) (t19, 0) rfl (fun b95_41 hb95_41 t41 => ?_)
      show X z 0 0 t41.1 95 [(0, ar this), (1, ai t41.2)] [] _
      refine x_iload_n C 1 (i := 1) (k0 := 1) rfl rfl (by decide +kernel) ?_
      refine x_bipush C (n := 8) (by decide +kernel) (by decide +kernel) ?_
      refine x_ic_ge C (tgt := 122) (off := 24) (by decide) (by decide +kernel) (fun h47 => ?_) (fun h47 => ?_)
      · skip
        refine x_sub [0] (lv2 := [(0, ar this)]) rfl ?_
        exact hJ122_39 t41.1
      · skip
        refine x_aload_n C 0 (i := 0) (k0 := 0) rfl rfl (by decide +kernel) ?_
        refine x_gR C fl_RX12_75 (fun _ _ _ => rfl) (by decide +kernel) (fun hasRow_43 => ?_)
        refine x_bipush C (n := 8) (by decide +kernel) (by decide +kernel) ?_
        refine x_aload_n C 0 (i := 0) (k0 := 0) rfl rfl (by decide +kernel) ?_
        refine x_gI C fl_RX12_303 (fun _ _ _ => rfl) (by decide +kernel) (fun rb_44 => ?_)
        refine x_imul C (by decide +kernel) ?_
        refine x_iload_n C 1 (i := 1) (k0 := 1) rfl rfl (by decide +kernel) ?_
        refine x_iadd C (by decide +kernel) ?_
        show X z 0 0 t41.1 114 [(0, ar this), (1, ai t41.2)] [ai ((8 * rb_44) + t41.2), ar hasRow_43] _
        refine x_iconst C (n := 0) (by decide +kernel) ?_
        refine x_astZ C (by decide +kernel) (fun σ45 => ?_)
        refine x_iinc C 1 (i := 1) (n := 1) (Nat.le_of_ble_eq_true rfl) rfl (by decide +kernel) (lv2 := fun x46 => [(1, ai x46), (0, ar this)]) (fun _ => rfl) (fun x46 => ?_)
        refine x_goto C (tgt := 95) (off := (-24)) (by decide) (by decide +kernel) ?_
        refine x_sub [1, 0] (lv2 := [(0, ar this), (1, ai x46)]) rfl ?_
        exact hb95_41 (σ45, x46)
  · skip
    refine x_sub [1, 0] (lv2 := [(0, ar this), (1, ai 0)]) rfl ?_
    -- LOOP L_X12_machine_66 hb66_49
    refine x_loop (T := St × Int) (fun t => t.1) (fun t => [(0, ar this), (1, ai t.2)]) (σ18, 0) rfl (fun b66_49 hb66_49 t49 => ?_)
    show X z 0 0 t49.1 66 [(0, ar this), (1, ai t49.2)] [] _
    refine x_iload_n C 1 (i := 1) (k0 := 1) rfl rfl (by decide +kernel) ?_
    refine x_bipush C (n := 64) (by decide +kernel) (by decide +kernel) ?_
    refine x_ic_ge C (tgt := 93) (off := 24) (by decide) (by decide +kernel) (fun h55 => ?_) (fun h55 => ?_)
    · skip
      refine x_sub [0] (lv2 := [(0, ar this)]) rfl ?_
      exact hJ93_47 t49.1
    · skip
      refine x_aload_n C 0 (i := 0) (k0 := 0) rfl rfl (by decide +kernel) ?_
      refine x_gR C fl_RX12_72 (fun _ _ _ => rfl) (by decide +kernel) (fun grounds_51 => ?_)
      refine x_bipush C (n := 64) (by decide +kernel) (by decide +kernel) ?_
      refine x_aload_n C 0 (i := 0) (k0 := 0) rfl rfl (by decide +kernel) ?_
      refine x_gI C fl_RX12_303 (fun _ _ _ => rfl) (by decide +kernel) (fun rb_52 => ?_)
      refine x_imul C (by decide +kernel) ?_
      refine x_iload_n C 1 (i := 1) (k0 := 1) rfl rfl (by decide +kernel) ?_
      refine x_iadd C (by decide +kernel) ?_
      show X z 0 0 t49.1 85 [(0, ar this), (1, ai t49.2)] [ai ((64 * rb_52) + t49.2), ar grounds_51] _
      refine x_iconst C (n := 0) (by decide +kernel) ?_
      refine x_astI C (by decide +kernel) (fun σ53 => ?_)
      refine x_iinc C 1 (i := 1) (n := 1) (Nat.le_of_ble_eq_true rfl) rfl (by decide +kernel) (lv2 := fun x54 => [(1, ai x54), (0, ar this)]) (fun _ => rfl) (fun x54 => ?_)
      refine x_goto C (tgt := 66) (off := (-24)) (by decide) (by decide +kernel) ?_
      refine x_sub [1, 0] (lv2 := [(0, ar this), (1, ai x54)]) rfl ?_
      exact hb66_49 (σ53, x54)

def rm_X12_fault : Room := { frames := 0, cells := 0, slots := 0, locals := 0 }
def f_X12_fault (N : Nat) (σ : St) (this : Nat) (p0 : Int) : Option (St × Int) :=
 (if wr p0 = 0 then Option.bind (gI shm σ 12 this 4) fun faultKind_3 =>
 some (σ, faultKind_3) else (if wr p0 = wr 1 then Option.bind (gI shm σ 12 this 5) fun faultPlace_1 =>
 some (σ, faultPlace_1) else some (σ, (-1))))
set_option maxRecDepth 100000 in
set_option maxHeartbeats 4000000 in
theorem c_X12_fault (l : Launch) (D : va_G) (ca : Nat → ClassId) (ra : Nat → Nat) (N : Nat) (σ : St) (this : Nat) (p0 : Int) : Ctr l (D, ca, ra, shm) false yX12_fault cX12_fault 2 (some .int) rm_X12_fault σ [ar this, ai p0] (f_X12_fault N σ this p0) := by
  refine ctr_of (by decide) (Nat.le_of_ble_eq_true rfl) (fun z C => ?_)
  show X z 0 0 σ 0 [(0, ar this), (1, ai p0)] [] _
  unfold f_X12_fault
  refine x_iload_n C 1 (i := 1) (k0 := 1) rfl rfl (by decide +kernel) ?_
  refine x_if_ne C (tgt := 11) (off := 10) (by decide) (by decide +kernel) (fun h4 => ?_) (fun h4 => ?_)
  · skip
    refine x_iload_n C 1 (i := 1) (k0 := 1) rfl rfl (by decide +kernel) ?_
    refine x_iconst C (n := 1) (by decide +kernel) ?_
    refine x_ic_ne C (tgt := 23) (off := 10) (by decide) (by decide +kernel) (fun h2 => ?_) (fun h2 => ?_)
    · skip
      refine x_iconst C (n := (-1)) (by decide +kernel) ?_
      exact x_iret C ⟨Nat.zero_le _, Nat.zero_le _⟩ (by decide +kernel)
    · skip
      refine x_aload_n C 0 (i := 0) (k0 := 0) rfl rfl (by decide +kernel) ?_
      refine x_gI C fl_RX12_16 (fun _ _ _ => rfl) (by decide +kernel) (fun faultPlace_1 => ?_)
      refine x_goto C (tgt := 24) (off := 4) (by decide) (by decide +kernel) ?_
      exact x_iret C ⟨Nat.zero_le _, Nat.zero_le _⟩ (by decide +kernel)
  · skip
    refine x_aload_n C 0 (i := 0) (k0 := 0) rfl rfl (by decide +kernel) ?_
    refine x_gI C fl_RX12_175 (fun _ _ _ => rfl) (by decide +kernel) (fun faultKind_3 => ?_)
    refine x_goto C (tgt := 24) (off := 16) (by decide) (by decide +kernel) ?_
    exact x_iret C ⟨Nat.zero_le _, Nat.zero_le _⟩ (by decide +kernel)
theorem p_X12_fault (N : Nat) (σ : St) (this : Nat) (p0 : Int) : Pu σ (f_X12_fault N σ this p0) := by
  unfold f_X12_fault
  refine pu_ifs ?_ ?_
  · skip
    refine pu_ifs ?_ ?_
    · skip
      exact pu_some
    · skip
      refine pu_bind (fun _ => ?_)
      exact pu_some
  · skip
    refine pu_bind (fun _ => ?_)
    exact pu_some

def rm_X12_parts : Room := { frames := 0, cells := 0, slots := 0, locals := 0 }
def f_X12_parts (N : Nat) (σ : St) (this : Nat) : Option (St × Int) :=
 Option.bind (gR shm σ 12 this 12) fun partMany_1 =>
 Option.bind (gI shm σ 12 this 31) fun bank_2 =>
 Option.bind (aI shm σ 1 partMany_1 bank_2) fun a3 =>
 some (σ, a3)
set_option maxRecDepth 100000 in
set_option maxHeartbeats 4000000 in
theorem c_X12_parts (l : Launch) (D : va_G) (ca : Nat → ClassId) (ra : Nat → Nat) (N : Nat) (σ : St) (this : Nat) : Ctr l (D, ca, ra, shm) false yX12_parts cX12_parts 1 (some .int) rm_X12_parts σ [ar this] (f_X12_parts N σ this) := by
  refine ctr_of (by decide) (Nat.le_of_ble_eq_true rfl) (fun z C => ?_)
  show X z 0 0 σ 0 [(0, ar this)] [] _
  unfold f_X12_parts
  refine x_aload_n C 0 (i := 0) (k0 := 0) rfl rfl (by decide +kernel) ?_
  refine x_gR C fl_RX12_24 (fun _ _ _ => rfl) (by decide +kernel) (fun partMany_1 => ?_)
  refine x_aload_n C 0 (i := 0) (k0 := 0) rfl rfl (by decide +kernel) ?_
  refine x_gI C fl_RX12_300 (fun _ _ _ => rfl) (by decide +kernel) (fun bank_2 => ?_)
  refine x_aldI C (by decide +kernel) (fun a3 => ?_)
  exact x_iret C ⟨Nat.zero_le _, Nat.zero_le _⟩ (by decide +kernel)
theorem p_X12_parts (N : Nat) (σ : St) (this : Nat) : Pu σ (f_X12_parts N σ this) := by
  unfold f_X12_parts
  refine pu_bind (fun _ => ?_)
  refine pu_bind (fun _ => ?_)
  refine pu_bind (fun _ => ?_)
  exact pu_some

def rm_X12_joins : Room := { frames := 0, cells := 0, slots := 0, locals := 0 }
def f_X12_joins (N : Nat) (σ : St) (this : Nat) : Option (St × Int) :=
 Option.bind (gR shm σ 12 this 13) fun joinMany_1 =>
 Option.bind (gI shm σ 12 this 31) fun bank_2 =>
 Option.bind (aI shm σ 1 joinMany_1 bank_2) fun a3 =>
 some (σ, a3)
set_option maxRecDepth 100000 in
set_option maxHeartbeats 4000000 in
theorem c_X12_joins (l : Launch) (D : va_G) (ca : Nat → ClassId) (ra : Nat → Nat) (N : Nat) (σ : St) (this : Nat) : Ctr l (D, ca, ra, shm) false yX12_joins cX12_joins 1 (some .int) rm_X12_joins σ [ar this] (f_X12_joins N σ this) := by
  refine ctr_of (by decide) (Nat.le_of_ble_eq_true rfl) (fun z C => ?_)
  show X z 0 0 σ 0 [(0, ar this)] [] _
  unfold f_X12_joins
  refine x_aload_n C 0 (i := 0) (k0 := 0) rfl rfl (by decide +kernel) ?_
  refine x_gR C fl_RX12_27 (fun _ _ _ => rfl) (by decide +kernel) (fun joinMany_1 => ?_)
  refine x_aload_n C 0 (i := 0) (k0 := 0) rfl rfl (by decide +kernel) ?_
  refine x_gI C fl_RX12_300 (fun _ _ _ => rfl) (by decide +kernel) (fun bank_2 => ?_)
  refine x_aldI C (by decide +kernel) (fun a3 => ?_)
  exact x_iret C ⟨Nat.zero_le _, Nat.zero_le _⟩ (by decide +kernel)
theorem p_X12_joins (N : Nat) (σ : St) (this : Nat) : Pu σ (f_X12_joins N σ this) := by
  unfold f_X12_joins
  refine pu_bind (fun _ => ?_)
  refine pu_bind (fun _ => ?_)
  refine pu_bind (fun _ => ?_)
  exact pu_some

def rm_X12_isIn : Room := { frames := 0, cells := 0, slots := 0, locals := 0 }
def f_X12_isIn (N : Nat) (σ : St) (p0 : Int) (p1 : Int) (p2 : Int) : Option (St × Int) :=
 (if wr p0 < wr p1 then some (σ, 0) else (if wr p2 < wr p0 then some (σ, 0) else some (σ, 1)))
set_option maxRecDepth 100000 in
set_option maxHeartbeats 4000000 in
theorem c_X12_isIn (l : Launch) (D : va_G) (ca : Nat → ClassId) (ra : Nat → Nat) (N : Nat) (σ : St) (p0 : Int) (p1 : Int) (p2 : Int) : Ctr l (D, ca, ra, shm) false yX12_isIn cX12_isIn 3 (some .boolean) rm_X12_isIn σ [ai p0, ai p1, ai p2] (f_X12_isIn N σ p0 p1 p2) := by
  refine ctr_of (by decide) (Nat.le_of_ble_eq_true rfl) (fun z C => ?_)
  show X z 0 0 σ 0 [(0, ai p0), (1, ai p1), (2, ai p2)] [] _
  unfold f_X12_isIn
  refine x_iload_n C 0 (i := 0) (k0 := 0) rfl rfl (by decide +kernel) ?_
  refine x_iload_n C 1 (i := 1) (k0 := 1) rfl rfl (by decide +kernel) ?_
  refine x_ic_lt C (tgt := 14) (off := 12) (by decide) (by decide +kernel) (fun h2 => ?_) (fun h2 => ?_)
  · skip
    refine x_iconst C (n := 0) (by decide +kernel) ?_
    exact x_zret C (Or.inl rfl) ⟨Nat.zero_le _, Nat.zero_le _⟩ (by decide +kernel)
  · skip
    refine x_iload_n C 0 (i := 0) (k0 := 0) rfl rfl (by decide +kernel) ?_
    refine x_iload_n C 2 (i := 2) (k0 := 2) rfl rfl (by decide +kernel) ?_
    refine x_ic_gt C (tgt := 14) (off := 7) (by decide) (by decide +kernel) (fun h1 => ?_) (fun h1 => ?_)
    · skip
      refine x_iconst C (n := 0) (by decide +kernel) ?_
      exact x_zret C (Or.inl rfl) ⟨Nat.zero_le _, Nat.zero_le _⟩ (by decide +kernel)
    · skip
      refine x_iconst C (n := 1) (by decide +kernel) ?_
      refine x_goto C (tgt := 15) (off := 4) (by decide) (by decide +kernel) ?_
      exact x_zret C (Or.inr rfl) ⟨Nat.zero_le _, Nat.zero_le _⟩ (by decide +kernel)
theorem p_X12_isIn (N : Nat) (σ : St) (p0 : Int) (p1 : Int) (p2 : Int) : Pu σ (f_X12_isIn N σ p0 p1 p2) := by
  unfold f_X12_isIn
  refine pu_if ?_ ?_
  · skip
    exact pu_some
  · skip
    refine pu_if ?_ ?_
    · skip
      exact pu_some
    · skip
      exact pu_some

def rm_X12_isPart : Room := { frames := 1, cells := 0, slots := 0, locals := 22 }
def f_X12_isPart (N : Nat) (σ : St) (this : Nat) (p0 : Int) : Option (St × Int) :=
 Option.bind (rcv shm σ 12 this (f_X12_parts N σ this)) fun q1 =>
 Option.bind (f_X12_isIn N σ p0 0 (q1.2 - 1)) fun q2 =>
 rZ σ q2.2
set_option maxRecDepth 100000 in
set_option maxHeartbeats 4000000 in
theorem c_X12_isPart (l : Launch) (D : va_G) (ca : Nat → ClassId) (ra : Nat → Nat) (N : Nat) (σ : St) (this : Nat) (p0 : Int) : Ctr l (D, ca, ra, shm) false yX12_isPart cX12_isPart 2 (some .boolean) rm_X12_isPart σ [ar this, ai p0] (f_X12_isPart N σ this p0) := by
  refine ctr_of (by decide) (Nat.le_of_ble_eq_true rfl) (fun z C => ?_)
  show X z 0 0 σ 0 [(0, ar this), (1, ai p0)] [] _
  unfold f_X12_isPart
  refine x_iload_n C 1 (i := 1) (k0 := 1) rfl rfl (by decide +kernel) ?_
  refine x_iconst C (n := 0) (by decide +kernel) ?_
  refine x_aload_n C 0 (i := 0) (k0 := 0) rfl rfl (by decide +kernel) ?_
  refine x_callVp C (ci := 12) (c_X12_parts l D ca ra N σ this) (p_X12_parts N σ this) mt_X12_parts mv_X12_parts rfl ml_RX12_350 rfl (fun h => Bool.noConfusion h) ⟨Nat.le_of_ble_eq_true rfl, Nat.le_of_ble_eq_true rfl⟩ (Nat.le_of_ble_eq_true rfl) 0 0 ⟨rfl, rfl⟩ ⟨Nat.zero_le _, Nat.zero_le _⟩ (by decide +kernel) _ rfl (fun q1 => [ai q1.2, ai 0, ai p0]) (fun _ => rfl) (fun q1 => ?_)
  refine x_iconst C (n := 1) (by decide +kernel) ?_
  refine x_isub C (by decide +kernel) ?_
  refine x_callSp C (c_X12_isIn l D ca ra N σ p0 0 (q1.2 - 1)) (p_X12_isIn N σ p0 0 (q1.2 - 1)) mt_X12_isIn ms_X12_isIn ml_RX12_354 rfl (fun h => Bool.noConfusion h) ⟨Nat.le_of_ble_eq_true rfl, Nat.le_of_ble_eq_true rfl⟩ (Nat.le_of_ble_eq_true rfl) 0 0 ⟨rfl, rfl⟩ ⟨Nat.zero_le _, Nat.zero_le _⟩ (by decide +kernel) _ rfl (fun q2 => [ai q2.2]) (fun _ => rfl) (fun q2 => ?_)
  exact x_rZ C ⟨Nat.zero_le _, Nat.zero_le _⟩ (by decide +kernel)
theorem p_X12_isPart (N : Nat) (σ : St) (this : Nat) (p0 : Int) : Pu σ (f_X12_isPart N σ this p0) := by
  unfold f_X12_isPart
  refine pu_bind (fun _ => ?_)
  refine pu_bind (fun _ => ?_)
  exact pu_rZ
