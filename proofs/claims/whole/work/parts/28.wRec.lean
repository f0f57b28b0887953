def rmR (d : Nat) : Room := { frames := 12 + d, cells := 0, slots := 0, locals := 300 + 40 * d }

def B_X7_readLevel (N : Nat) (rec : (Nat → St → Nat → Nat → Int → Int → Int → Option (St × Int))) (σ : St) (this : Nat) (p0 : Nat) (p1 : Int) (p2 : Int) (p3 : Int) : Option (St × Int) :=
 (if wr p2 = wr 5 then Option.bind (rcv shx σ 7 this (rec 3 σ this p0 p1 0 p3)) fun q8 =>
 some (q8.1, 0) else Jn (fun t1 : Unit => Option.bind (rcv shx σ 7 this (rec 1 σ this p0 p1 p2 p3)) fun q2 =>
 some (q2.1, 0)) fun J41_2 =>
 (if wr p2 = wr 2 then Option.bind (gI shx σ 6 p0 8) fun kind_4 =>
 (if wr kind_4 = wr 22 then Option.bind (rcv shx σ 7 this (rec 2 σ this p0 p1 0 p3)) fun q5 =>
 some (q5.1, 0) else J41_2 ()) else J41_2 ()))
set_option maxRecDepth 100000 in
set_option maxHeartbeats 4000000 in
theorem cB_X7_readLevel (l : Launch) (D : va_G) (ca : Nat → ClassId) (ra : Nat → Nat) (N d : Nat) (rec : (Nat → St → Nat → Nat → Int → Int → Int → Option (St × Int))) (hr0 : ∀ (σ : St) (this a : Nat) (b : Int) (c : Int) (e : Int), Ctr l (D, ca, ra, shx) false yX7_readLevel cX7_readLevel 5 none (rmR d) σ [ar this, ar a, ai b, ai c, ai e] (rec 0 σ this a b c e)) (hr1 : ∀ (σ : St) (this a : Nat) (b : Int) (c : Int) (e : Int), Ctr l (D, ca, ra, shx) false yX7_readJoined cX7_readJoined 8 none (rmR d) σ [ar this, ar a, ai b, ai c, ai e] (rec 1 σ this a b c e)) (hr2 : ∀ (σ : St) (this a : Nat) (b : Int) (e : Int), Ctr l (D, ca, ra, shx) false yX7_readNot cX7_readNot 4 none (rmR d) σ [ar this, ar a, ai b, ai e] (rec 2 σ this a b 0 e)) (hr3 : ∀ (σ : St) (this a : Nat) (b : Int) (e : Int), Ctr l (D, ca, ra, shx) false yX7_readUnit cX7_readUnit 4 none (rmR d) σ [ar this, ar a, ai b, ai e] (rec 3 σ this a b 0 e)) (σ : St) (this : Nat) (p0 : Nat) (p1 : Int) (p2 : Int) (p3 : Int) : Ctr l (D, ca, ra, shx) false yX7_readLevel cX7_readLevel 5 none (rmR (d + 1)) σ [ar this, ar p0, ai p1, ai p2, ai p3] (B_X7_readLevel N rec σ this p0 p1 p2 p3) := by
  refine ctr_of (by decide) (Nat.le_of_ble_eq_true rfl) (fun z C => ?_)
  show X z 0 0 σ 0 [(0, ar this), (1, ar p0), (2, ai p1), (3, ai p2), (4, ai p3)] [] _
  unfold B_X7_readLevel
  refine x_iload_n C 3 (i := 3) (k0 := 3) rfl rfl (by decide +kernel) ?_
  refine x_iconst C (n := 5) (by decide +kernel) ?_
  refine x_ic_ne C (tgt := 16) (off := 14) (by decide) (by decide +kernel) (fun h9 => ?_) (fun h9 => ?_)
  · skip
    refine x_iload_n C 3 (i := 3) (k0 := 3) rfl rfl (by decide +kernel) ?_
    refine x_iconst C (n := 2) (by decide +kernel) ?_
    refine x_join (T := Unit) (fun t => σ) 41 (fun t => [(0, ar this), (1, ar p0), (2, ai p1), (3, ai p2), (4, ai p3)]) (fun t => []) (fun t1 => ?_) (fun J41_2 hJ41_2 => ?_)
    · show X z 0 0 σ 41 [(0, ar this), (1, ar p0), (2, ai p1), (3, ai p2), (4, ai p3)] [] _
      refine x_aload_n C 0 (i := 0) (k0 := 0) rfl rfl (by decide +kernel) ?_
      refine x_aload_n C 1 (i := 1) (k0 := 1) rfl rfl (by decide +kernel) ?_
      refine x_iload_n C 2 (i := 2) (k0 := 2) rfl rfl (by decide +kernel) ?_
      refine x_iload_n C 3 (i := 3) (k0 := 3) rfl rfl (by decide +kernel) ?_
      refine x_iload C 4 (i := 4) rfl (by decide +kernel) ?_
      refine x_callV C (ci := 7) (hr1 σ this p0 p1 p2 p3) mt_X7_readJoined mv_X7_readJoined rfl ml_RX7_110 rfl (fun h => Bool.noConfusion h) ⟨by show (12 + d) + 1 ≤ 12 + (d + 1); omega, by show 8 + (8 + 11) + (300 + 40 * d) ≤ 300 + 40 * (d + 1); omega⟩ (Nat.le_of_ble_eq_true rfl) 0 0 ⟨rfl, rfl⟩ ⟨Nat.zero_le _, Nat.zero_le _⟩ (by decide +kernel) _ rfl (fun q2 => []) (fun _ => rfl) (fun q2 => ?_)
      exact x_vret C ⟨Nat.zero_le _, Nat.zero_le _⟩ (by decide +kernel)
    · skip
      refine x_ic_ne C (tgt := 41) (off := 23) (by decide) (by decide +kernel) (fun h7 => ?_) (fun h7 => ?_)
      · skip
        exact hJ41_2 ()
      · skip
        refine x_aload_n C 1 (i := 1) (k0 := 1) rfl rfl (by decide +kernel) ?_
        refine x_gI C fl_RX7_52 (fun _ _ _ => rfl) (by decide +kernel) (fun kind_4 => ?_)
        refine x_bipush C (n := 22) (by decide +kernel) (by decide +kernel) ?_
        refine x_ic_ne C (tgt := 41) (off := 14) (by decide) (by decide +kernel) (fun h6 => ?_) (fun h6 => ?_)
        · skip
          exact hJ41_2 ()
        · skip
          refine x_aload_n C 0 (i := 0) (k0 := 0) rfl rfl (by decide +kernel) ?_
          refine x_aload_n C 1 (i := 1) (k0 := 1) rfl rfl (by decide +kernel) ?_
          refine x_iload_n C 2 (i := 2) (k0 := 2) rfl rfl (by decide +kernel) ?_
          refine x_iload C 4 (i := 4) rfl (by decide +kernel) ?_
          refine x_callV C (ci := 7) (hr2 σ this p0 p1 p3) mt_X7_readNot mv_X7_readNot rfl ml_RX7_107 rfl (fun h => Bool.noConfusion h) ⟨by show (12 + d) + 1 ≤ 12 + (d + 1); omega, by show 8 + (4 + 11) + (300 + 40 * d) ≤ 300 + 40 * (d + 1); omega⟩ (Nat.le_of_ble_eq_true rfl) 0 0 ⟨rfl, rfl⟩ ⟨Nat.zero_le _, Nat.zero_le _⟩ (by decide +kernel) _ rfl (fun q5 => []) (fun _ => rfl) (fun q5 => ?_)
          refine x_goto C (tgt := 50) (off := 12) (by decide) (by decide +kernel) ?_
          exact x_vret C ⟨Nat.zero_le _, Nat.zero_le _⟩ (by decide +kernel)
  · skip
    refine x_aload_n C 0 (i := 0) (k0 := 0) rfl rfl (by decide +kernel) ?_
    refine x_aload_n C 1 (i := 1) (k0 := 1) rfl rfl (by decide +kernel) ?_
    refine x_iload_n C 2 (i := 2) (k0 := 2) rfl rfl (by decide +kernel) ?_
    refine x_iload C 4 (i := 4) rfl (by decide +kernel) ?_
    refine x_callV C (ci := 7) (hr3 σ this p0 p1 p3) mt_X7_readUnit mv_X7_readUnit rfl ml_RX7_103 rfl (fun h => Bool.noConfusion h) ⟨by show (12 + d) + 1 ≤ 12 + (d + 1); omega, by show 8 + (4 + 11) + (300 + 40 * d) ≤ 300 + 40 * (d + 1); omega⟩ (Nat.le_of_ble_eq_true rfl) 0 0 ⟨rfl, rfl⟩ ⟨Nat.zero_le _, Nat.zero_le _⟩ (by decide +kernel) _ rfl (fun q8 => []) (fun _ => rfl) (fun q8 => ?_)
    refine x_goto C (tgt := 50) (off := 37) (by decide) (by decide +kernel) ?_
    exact x_vret C ⟨Nat.zero_le _, Nat.zero_le _⟩ (by decide +kernel)

def L_X7_readJoined_27 (N : Nat) (rec : (Nat → St → Nat → Nat → Int → Int → Int → Option (St × Int))) (this : Nat) (p0 : Nat) (p1 : Int) (p2 : Int) (p3 : Int) (t1 : Int) : (St × Int) → Option (St × Int) := fixN N fun b27_3 t3 =>
 (if wr t3.2 < wr t1 then Option.bind (rcv shx t3.1 6 p0 (f_X6_sound N t3.1 p0)) fun q5 =>
 (if wr q5.2 = 0 then some (t3.1, 0) else Option.bind (gI shx t3.1 6 p0 8) fun kind_6 =>
 Option.bind (f_X7_levelOf N t3.1 kind_6) fun q7 =>
 (if wr q7.2 = wr p2 then Option.bind (gI shx t3.1 6 p0 8) fun kind_8 =>
 Option.bind (rcv shx t3.1 6 p0 (f_X6_advance N t3.1 p0)) fun q9 =>
 Option.bind (rcv shx q9.1 7 this (rec 0 q9.1 this p0 p1 (p2 + 1) p3)) fun q10 =>
 Option.bind (rcv shx q10.1 7 this (f_X7_put N q10.1 this ((-1) - kind_8))) fun q11 =>
 Lt (t3.2 + 1) fun x12 =>
 b27_3 (q11.1, x12) else some (t3.1, 0))) else some (t3.1, 0))
def B_X7_readJoined (N : Nat) (rec : (Nat → St → Nat → Nat → Int → Int → Int → Option (St × Int))) (σ : St) (this : Nat) (p0 : Nat) (p1 : Int) (p2 : Int) (p3 : Int) : Option (St × Int) :=
 Jn (fun t1 : Int => Option.bind (rcv shx σ 7 this (rec 0 σ this p0 p1 (p2 + 1) p3)) fun q2 =>
 L_X7_readJoined_27 N rec this p0 p1 p2 p3 t1 (q2.1, 0)) fun J11_15 =>
 (if wr p2 = wr 2 then J11_15 1 else J11_15 60)
set_option maxRecDepth 100000 in
set_option maxHeartbeats 4000000 in
theorem cB_X7_readJoined (l : Launch) (D : va_G) (ca : Nat → ClassId) (ra : Nat → Nat) (N d : Nat) (rec : (Nat → St → Nat → Nat → Int → Int → Int → Option (St × Int))) (hr0 : ∀ (σ : St) (this a : Nat) (b : Int) (c : Int) (e : Int), Ctr l (D, ca, ra, shx) false yX7_readLevel cX7_readLevel 5 none (rmR d) σ [ar this, ar a, ai b, ai c, ai e] (rec 0 σ this a b c e)) (hr1 : ∀ (σ : St) (this a : Nat) (b : Int) (c : Int) (e : Int), Ctr l (D, ca, ra, shx) false yX7_readJoined cX7_readJoined 8 none (rmR d) σ [ar this, ar a, ai b, ai c, ai e] (rec 1 σ this a b c e)) (hr2 : ∀ (σ : St) (this a : Nat) (b : Int) (e : Int), Ctr l (D, ca, ra, shx) false yX7_readNot cX7_readNot 4 none (rmR d) σ [ar this, ar a, ai b, ai e] (rec 2 σ this a b 0 e)) (hr3 : ∀ (σ : St) (this a : Nat) (b : Int) (e : Int), Ctr l (D, ca, ra, shx) false yX7_readUnit cX7_readUnit 4 none (rmR d) σ [ar this, ar a, ai b, ai e] (rec 3 σ this a b 0 e)) (σ : St) (this : Nat) (p0 : Nat) (p1 : Int) (p2 : Int) (p3 : Int) : Ctr l (D, ca, ra, shx) false yX7_readJoined cX7_readJoined 8 none (rmR (d + 1)) σ [ar this, ar p0, ai p1, ai p2, ai p3] (B_X7_readJoined N rec σ this p0 p1 p2 p3) := by
  refine ctr_of (by decide) (Nat.le_of_ble_eq_true rfl) (fun z C => ?_)
  show X z 0 0 σ 0 [(0, ar this), (1, ar p0), (2, ai p1), (3, ai p2), (4, ai p3)] [] _
  unfold B_X7_readJoined
  refine x_iload_n C 3 (i := 3) (k0 := 3) rfl rfl (by decide +kernel) ?_
  refine x_iconst C (n := 2) (by decide +kernel) ?_
  refine x_join (T := Int) (fun t => σ) 11 (fun t => [(0, ar this), (1, ar p0), (2, ai p1), (3, ai p2), (4, ai p3)]) (fun t => [ai t]) (fun t1 => ?_) (fun J11_15 hJ11_15 => ?_)
  · show X z 0 0 σ 11 [(0, ar this), (1, ar p0), (2, ai p1), (3, ai p2), (4, ai p3)] [ai t1] _
    refine x_istore C (i := 5) (Nat.le_of_ble_eq_true rfl) (by decide +kernel) (lv2 := [(5, ai t1), (0, ar this), (1, ar p0), (2, ai p1), (3, ai p2), (4, ai p3)]) rfl ?_
    refine x_aload_n C 1 (i := 0) (k0 := 0) rfl rfl (by decide +kernel) ?_
    refine x_aload_n C 2 (i := 1) (k0 := 1) rfl rfl (by decide +kernel) ?_
    refine x_iload_n C 3 (i := 2) (k0 := 2) rfl rfl (by decide +kernel) ?_
    refine x_iload_n C 4 (i := 3) (k0 := 3) rfl rfl (by decide +kernel) ?_
    refine x_iconst C (n := 1) (by decide +kernel) ?_
    refine x_iadd C (by decide +kernel) ?_
    refine x_iload C 5 (i := 4) rfl (by decide +kernel) ?_
    show X z 0 0 σ 21 [(5, ai t1), (0, ar this), (1, ar p0), (2, ai p1), (3, ai p2), (4, ai p3)] [ai p3, ai (p2 + 1), ai p1, ar p0, ar this] _
    refine x_callV C (ci := 7) (hr0 σ this p0 p1 (p2 + 1) p3) mt_X7_readLevel mv_X7_readLevel rfl ml_RX7_99 rfl (fun h => Bool.noConfusion h) ⟨by show (12 + d) + 1 ≤ 12 + (d + 1); omega, by show 8 + (5 + 11) + (300 + 40 * d) ≤ 300 + 40 * (d + 1); omega⟩ (Nat.le_of_ble_eq_true rfl) 0 0 ⟨rfl, rfl⟩ ⟨Nat.zero_le _, Nat.zero_le _⟩ (by decide +kernel) _ rfl (fun q2 => []) (fun _ => rfl) (fun q2 => ?_)
    refine x_iconst C (n := 0) (by decide +kernel) ?_
    refine x_istore C (i := 6) (Nat.le_of_ble_eq_true rfl) (by decide +kernel) (lv2 := [(6, ai 0), (5, ai t1), (0, ar this), (1, ar p0), (2, ai p1), (3, ai p2), (4, ai p3)]) rfl ?_
    refine x_sub [2, 3, 4, 5, 6, 1, 0] (lv2 := [(0, ar this), (1, ar p0), (2, ai p1), (3, ai p2), (4, ai p3), (5, ai t1), (6, ai 0)]) rfl ?_
    -- LOOP L_X7_readJoined_27 hb27_3
    refine x_loop (T := St × Int) (fun t => t.1) (fun t => [(0, ar this), (1, ar p0), (2, ai p1), (3, ai p2), (4, ai p3), (5, ai t1), (6, ai t.2)]) (q2.1, 0) rfl (fun b27_3 hb27_3 t3 => ?_)
    show X z 0 0 t3.1 27 [(0, ar this), (1, ar p0), (2, ai p1), (3, ai p2), (4, ai p3), (5, ai t1), (6, ai t3.2)] [] _
    refine x_iload C 6 (i := 6) rfl (by decide +kernel) ?_
    refine x_iload C 5 (i := 5) rfl (by decide +kernel) ?_
    refine x_ic_ge C (tgt := 87) (off := 56) (by decide) (by decide +kernel) (fun h15 => ?_) (fun h15 => ?_)
    · skip
      exact x_vret C ⟨Nat.zero_le _, Nat.zero_le _⟩ (by decide +kernel)
    · skip
      refine x_aload_n C 1 (i := 1) (k0 := 1) rfl rfl (by decide +kernel) ?_
      refine x_callVp C (ci := 6) (c_X6_sound l D ca ra N t3.1 p0) (p_X6_sound N t3.1 p0) mt_X6_sound mv_X6_sound rfl ml_RX7_48 rfl (fun h => Bool.noConfusion h) ⟨by show 0 + 1 ≤ 12 + (d + 1); omega, by show 8 + (1 + 11) + 0 ≤ 300 + 40 * (d + 1); omega⟩ (Nat.le_of_ble_eq_true rfl) 0 0 ⟨rfl, rfl⟩ ⟨Nat.zero_le _, Nat.zero_le _⟩ (by decide +kernel) _ rfl (fun q5 => [ai q5.2]) (fun _ => rfl) (fun q5 => ?_)
      refine x_if_eq C (tgt := 87) (off := 49) (by decide) (by decide +kernel) (fun h14 => ?_) (fun h14 => ?_)
      · skip
        exact x_vret C ⟨Nat.zero_le _, Nat.zero_le _⟩ (by decide +kernel)
      · skip
        refine x_aload_n C 1 (i := 1) (k0 := 1) rfl rfl (by decide +kernel) ?_
        refine x_gI C fl_RX7_52 (fun _ _ _ => rfl) (by decide +kernel) (fun kind_6 => ?_)
        refine x_callSp C (c_X7_levelOf l D ca ra N t3.1 kind_6) (p_X7_levelOf N t3.1 kind_6) mt_X7_levelOf ms_X7_levelOf ml_RX7_113 rfl (fun h => Bool.noConfusion h) ⟨by show 0 + 1 ≤ 12 + (d + 1); omega, by show 8 + (1 + 11) + 0 ≤ 300 + 40 * (d + 1); omega⟩ (Nat.le_of_ble_eq_true rfl) 0 0 ⟨rfl, rfl⟩ ⟨Nat.zero_le _, Nat.zero_le _⟩ (by decide +kernel) _ rfl (fun q7 => [ai q7.2]) (fun _ => rfl) (fun q7 => ?_)
        refine x_iload_n C 3 (i := 3) (k0 := 3) rfl rfl (by decide +kernel) ?_
        refine x_ic_ne C (tgt := 87) (off := 38) (by decide) (by decide +kernel) (fun h13 => ?_) (fun h13 => ?_)
        · skip
          exact x_vret C ⟨Nat.zero_le _, Nat.zero_le _⟩ (by decide +kernel)
        · skip
          refine x_aload_n C 1 (i := 1) (k0 := 1) rfl rfl (by decide +kernel) ?_
          refine x_gI C fl_RX7_52 (fun _ _ _ => rfl) (by decide +kernel) (fun kind_8 => ?_)
          refine x_istore C (i := 7) (Nat.le_of_ble_eq_true rfl) (by decide +kernel) (lv2 := [(7, ai kind_8), (0, ar this), (1, ar p0), (2, ai p1), (3, ai p2), (4, ai p3), (5, ai t1), (6, ai t3.2)]) rfl ?_
          refine x_aload_n C 2 (i := 1) (k0 := 1) rfl rfl (by decide +kernel) ?_
          refine x_callV C (ci := 6) (c_X6_advance l D ca ra N t3.1 p0) mt_X6_advance mv_X6_advance rfl ml_RX7_93 rfl (fun h => Bool.noConfusion h) ⟨by show 1 + 1 ≤ 12 + (d + 1); omega, by show 8 + (1 + 11) + 21 ≤ 300 + 40 * (d + 1); omega⟩ (Nat.le_of_ble_eq_true rfl) 0 0 ⟨rfl, rfl⟩ ⟨Nat.zero_le _, Nat.zero_le _⟩ (by decide +kernel) _ rfl (fun q9 => []) (fun _ => rfl) (fun q9 => ?_)
          refine x_aload_n C 1 (i := 0) (k0 := 0) rfl rfl (by decide +kernel) ?_
          refine x_aload_n C 2 (i := 1) (k0 := 1) rfl rfl (by decide +kernel) ?_
          refine x_iload_n C 3 (i := 2) (k0 := 2) rfl rfl (by decide +kernel) ?_
          show X z 0 0 q9.1 65 [(7, ai kind_8), (0, ar this), (1, ar p0), (2, ai p1), (3, ai p2), (4, ai p3), (5, ai t1), (6, ai t3.2)] [ai p1, ar p0, ar this] _
          refine x_iload_n C 4 (i := 3) (k0 := 3) rfl rfl (by decide +kernel) ?_
          refine x_iconst C (n := 1) (by decide +kernel) ?_
          refine x_iadd C (by decide +kernel) ?_
          refine x_iload C 5 (i := 4) rfl (by decide +kernel) ?_
          refine x_callV C (ci := 7) (hr0 q9.1 this p0 p1 (p2 + 1) p3) mt_X7_readLevel mv_X7_readLevel rfl ml_RX7_99 rfl (fun h => Bool.noConfusion h) ⟨by show (12 + d) + 1 ≤ 12 + (d + 1); omega, by show 8 + (5 + 11) + (300 + 40 * d) ≤ 300 + 40 * (d + 1); omega⟩ (Nat.le_of_ble_eq_true rfl) 0 0 ⟨rfl, rfl⟩ ⟨Nat.zero_le _, Nat.zero_le _⟩ (by decide +kernel) _ rfl (fun q10 => []) (fun _ => rfl) (fun q10 => ?_)
          refine x_aload_n C 1 (i := 0) (k0 := 0) rfl rfl (by decide +kernel) ?_
          refine x_iconst C (n := (-1)) (by decide +kernel) ?_
          refine x_iload C 0 (i := 7) rfl (by decide +kernel) ?_
          show X z 0 0 q10.1 77 [(7, ai kind_8), (0, ar this), (1, ar p0), (2, ai p1), (3, ai p2), (4, ai p3), (5, ai t1), (6, ai t3.2)] [ai kind_8, ai (-1), ar this] _
          refine x_isub C (by decide +kernel) ?_
          refine x_callV C (ci := 7) (c_X7_put l D ca ra N q10.1 this ((-1) - kind_8)) mt_X7_put mv_X7_put rfl ml_RX7_116 rfl (fun h => Bool.noConfusion h) ⟨by show 1 + 1 ≤ 12 + (d + 1); omega, by show 8 + (2 + 11) + 22 ≤ 300 + 40 * (d + 1); omega⟩ (Nat.le_of_ble_eq_true rfl) 0 0 ⟨rfl, rfl⟩ ⟨Nat.zero_le _, Nat.zero_le _⟩ (by decide +kernel) _ rfl (fun q11 => []) (fun _ => rfl) (fun q11 => ?_)
          refine x_iinc C 7 (i := 6) (n := 1) (Nat.le_of_ble_eq_true rfl) rfl (by decide +kernel) (lv2 := fun x12 => [(6, ai x12), (7, ai kind_8), (0, ar this), (1, ar p0), (2, ai p1), (3, ai p2), (4, ai p3), (5, ai t1)]) (fun _ => rfl) (fun x12 => ?_)
          refine x_goto C (tgt := 27) (off := (-57)) (by decide) (by decide +kernel) ?_
          refine x_sub [2, 3, 4, 5, 6, 7, 0] (lv2 := [(0, ar this), (1, ar p0), (2, ai p1), (3, ai p2), (4, ai p3), (5, ai t1), (6, ai x12)]) rfl ?_
          exact hb27_3 (q11.1, x12)
  · skip
    refine x_ic_ne C (tgt := 9) (off := 7) (by decide) (by decide +kernel) (fun h17 => ?_) (fun h17 => ?_)
    · skip
      refine x_bipush C (n := 60) (by decide +kernel) (by decide +kernel) ?_
      exact hJ11_15 60
    · skip
      refine x_iconst C (n := 1) (by decide +kernel) ?_
      refine x_goto C (tgt := 11) (off := 5) (by decide) (by decide +kernel) ?_
      exact hJ11_15 1

def B_X7_readNot (N : Nat) (rec : (Nat → St → Nat → Nat → Int → Int → Int → Option (St × Int))) (σ : St) (this : Nat) (p0 : Nat) (p1 : Int) (p2 : Int) : Option (St × Int) :=
 (if wr 6 < wr p2 then Option.bind (rcv shx σ 6 p0 (f_X6_refuse N σ p0 2)) fun q4 =>
 some (q4.1, 0) else Option.bind (rcv shx σ 6 p0 (f_X6_advance N σ p0)) fun q1 =>
 Option.bind (rcv shx q1.1 7 this (rec 0 q1.1 this p0 p1 2 (p2 + 1))) fun q2 =>
 Option.bind (rcv shx q2.1 7 this (f_X7_put N q2.1 this (-23))) fun q3 =>
 some (q3.1, 0))
set_option maxRecDepth 100000 in
set_option maxHeartbeats 4000000 in
theorem cB_X7_readNot (l : Launch) (D : va_G) (ca : Nat → ClassId) (ra : Nat → Nat) (N d : Nat) (rec : (Nat → St → Nat → Nat → Int → Int → Int → Option (St × Int))) (hr0 : ∀ (σ : St) (this a : Nat) (b : Int) (c : Int) (e : Int), Ctr l (D, ca, ra, shx) false yX7_readLevel cX7_readLevel 5 none (rmR d) σ [ar this, ar a, ai b, ai c, ai e] (rec 0 σ this a b c e)) (hr1 : ∀ (σ : St) (this a : Nat) (b : Int) (c : Int) (e : Int), Ctr l (D, ca, ra, shx) false yX7_readJoined cX7_readJoined 8 none (rmR d) σ [ar this, ar a, ai b, ai c, ai e] (rec 1 σ this a b c e)) (hr2 : ∀ (σ : St) (this a : Nat) (b : Int) (e : Int), Ctr l (D, ca, ra, shx) false yX7_readNot cX7_readNot 4 none (rmR d) σ [ar this, ar a, ai b, ai e] (rec 2 σ this a b 0 e)) (hr3 : ∀ (σ : St) (this a : Nat) (b : Int) (e : Int), Ctr l (D, ca, ra, shx) false yX7_readUnit cX7_readUnit 4 none (rmR d) σ [ar this, ar a, ai b, ai e] (rec 3 σ this a b 0 e)) (σ : St) (this : Nat) (p0 : Nat) (p1 : Int) (p2 : Int) : Ctr l (D, ca, ra, shx) false yX7_readNot cX7_readNot 4 none (rmR (d + 1)) σ [ar this, ar p0, ai p1, ai p2] (B_X7_readNot N rec σ this p0 p1 p2) := by
  refine ctr_of (by decide) (Nat.le_of_ble_eq_true rfl) (fun z C => ?_)
  show X z 0 0 σ 0 [(0, ar this), (1, ar p0), (2, ai p1), (3, ai p2)] [] _
  unfold B_X7_readNot
  refine x_iload_n C 3 (i := 3) (k0 := 3) rfl rfl (by decide +kernel) ?_
  refine x_bipush C (n := 6) (by decide +kernel) (by decide +kernel) ?_
  refine x_ic_le C (tgt := 12) (off := 9) (by decide) (by decide +kernel) (fun h5 => ?_) (fun h5 => ?_)
  · skip
    refine x_aload_n C 1 (i := 1) (k0 := 1) rfl rfl (by decide +kernel) ?_
    refine x_callV C (ci := 6) (c_X6_advance l D ca ra N σ p0) mt_X6_advance mv_X6_advance rfl ml_RX7_93 rfl (fun h => Bool.noConfusion h) ⟨by show 1 + 1 ≤ 12 + (d + 1); omega, by show 8 + (1 + 11) + 21 ≤ 300 + 40 * (d + 1); omega⟩ (Nat.le_of_ble_eq_true rfl) 0 0 ⟨rfl, rfl⟩ ⟨Nat.zero_le _, Nat.zero_le _⟩ (by decide +kernel) _ rfl (fun q1 => []) (fun _ => rfl) (fun q1 => ?_)
    refine x_aload_n C 0 (i := 0) (k0 := 0) rfl rfl (by decide +kernel) ?_
    refine x_aload_n C 1 (i := 1) (k0 := 1) rfl rfl (by decide +kernel) ?_
    refine x_iload_n C 2 (i := 2) (k0 := 2) rfl rfl (by decide +kernel) ?_
    refine x_iconst C (n := 2) (by decide +kernel) ?_
    refine x_iload_n C 3 (i := 3) (k0 := 3) rfl rfl (by decide +kernel) ?_
    refine x_iconst C (n := 1) (by decide +kernel) ?_
    show X z 0 0 q1.1 22 [(0, ar this), (1, ar p0), (2, ai p1), (3, ai p2)] [ai 1, ai p2, ai 2, ai p1, ar p0, ar this] _
    refine x_iadd C (by decide +kernel) ?_
    refine x_callV C (ci := 7) (hr0 q1.1 this p0 p1 2 (p2 + 1)) mt_X7_readLevel mv_X7_readLevel rfl ml_RX7_99 rfl (fun h => Bool.noConfusion h) ⟨by show (12 + d) + 1 ≤ 12 + (d + 1); omega, by show 8 + (5 + 11) + (300 + 40 * d) ≤ 300 + 40 * (d + 1); omega⟩ (Nat.le_of_ble_eq_true rfl) 0 0 ⟨rfl, rfl⟩ ⟨Nat.zero_le _, Nat.zero_le _⟩ (by decide +kernel) _ rfl (fun q2 => []) (fun _ => rfl) (fun q2 => ?_)
    refine x_aload_n C 0 (i := 0) (k0 := 0) rfl rfl (by decide +kernel) ?_
    refine x_bipush C (n := (-23)) (by decide +kernel) (by decide +kernel) ?_
    refine x_callV C (ci := 7) (c_X7_put l D ca ra N q2.1 this (-23)) mt_X7_put mv_X7_put rfl ml_RX7_116 rfl (fun h => Bool.noConfusion h) ⟨by show 1 + 1 ≤ 12 + (d + 1); omega, by show 8 + (2 + 11) + 22 ≤ 300 + 40 * (d + 1); omega⟩ (Nat.le_of_ble_eq_true rfl) 0 0 ⟨rfl, rfl⟩ ⟨Nat.zero_le _, Nat.zero_le _⟩ (by decide +kernel) _ rfl (fun q3 => []) (fun _ => rfl) (fun q3 => ?_)
    exact x_vret C ⟨Nat.zero_le _, Nat.zero_le _⟩ (by decide +kernel)
  · skip
    refine x_aload_n C 1 (i := 1) (k0 := 1) rfl rfl (by decide +kernel) ?_
    refine x_iconst C (n := 2) (by decide +kernel) ?_
    refine x_callV C (ci := 6) (c_X6_refuse l D ca ra N σ p0 2) mt_X6_refuse mv_X6_refuse rfl ml_RX7_89 rfl (fun h => Bool.noConfusion h) ⟨by show 0 + 1 ≤ 12 + (d + 1); omega, by show 8 + (2 + 11) + 0 ≤ 300 + 40 * (d + 1); omega⟩ (Nat.le_of_ble_eq_true rfl) 0 0 ⟨rfl, rfl⟩ ⟨Nat.zero_le _, Nat.zero_le _⟩ (by decide +kernel) _ rfl (fun q4 => []) (fun _ => rfl) (fun q4 => ?_)
    exact x_vret C ⟨Nat.zero_le _, Nat.zero_le _⟩ (by decide +kernel)

def B_X7_readUnit (N : Nat) (rec : (Nat → St → Nat → Nat → Int → Int → Int → Option (St × Int))) (σ : St) (this : Nat) (p0 : Nat) (p1 : Int) (p2 : Int) : Option (St × Int) :=
 Option.bind (gI shx σ 7 this 1) fun units_1 =>
 Option.bind (pI shx σ 7 this 1 (units_1 + 1)) fun σ2 =>
 Option.bind (gI shx σ2 7 this 1) fun units_3 =>
 (if wr 60 < wr units_3 then Option.bind (rcv shx σ2 6 p0 (f_X6_refuse N σ2 p0 2)) fun q28 =>
 some (q28.1, 0) else Option.bind (gI shx σ2 6 p0 8) fun kind_4 =>
 (if wr kind_4 = wr 101 then Option.bind (gI shx σ2 6 p0 10) fun number_24 =>
 Option.bind (rcv shx σ2 7 this (f_X7_put N σ2 this number_24)) fun q25 =>
 Option.bind (rcv shx q25.1 6 p0 (f_X6_advance N q25.1 p0)) fun q26 =>
 some (q26.1, 0) else Option.bind (gI shx σ2 6 p0 8) fun kind_5 =>
 Option.bind (f_X7_mayAsk N σ2 p1 kind_5) fun q6 =>
 (if wr q6.2 = 0 then Option.bind (gI shx σ2 6 p0 8) fun kind_7 =>
 Option.bind (f_X11_within N σ2 kind_7 23 33) fun q8 =>
 (if wr q8.2 = 0 then Option.bind (gI shx σ2 6 p0 8) fun kind_9 =>
 Jn (fun t10 : Unit => Option.bind (rcv shx σ2 6 p0 (f_X6_refuse N σ2 p0 2)) fun q11 =>
 some (q11.1, 0)) fun J140_11 =>
 (if wr kind_9 = wr 40 then (if wr 6 < wr p2 then J140_11 () else Option.bind (rcv shx σ2 6 p0 (f_X6_advance N σ2 p0)) fun q13 =>
 Option.bind (rcv shx q13.1 7 this (rec 0 q13.1 this p0 p1 0 (p2 + 1))) fun q14 =>
 Option.bind (rcv shx q14.1 6 p0 (f_X6_expect N q14.1 p0 41)) fun q15 =>
 some (q15.1, 0)) else J140_11 ()) else Option.bind (rcv shx σ2 6 p0 (f_X6_refuse N σ2 p0 7)) fun q18 =>
 some (q18.1, 0)) else Option.bind (gI shx σ2 6 p0 8) fun kind_20 =>
 Option.bind (rcv shx σ2 7 this (f_X7_put N σ2 this ((-1) - kind_20))) fun q21 =>
 Option.bind (rcv shx q21.1 6 p0 (f_X6_advance N q21.1 p0)) fun q22 =>
 some (q22.1, 0))))
set_option maxRecDepth 100000 in
set_option maxHeartbeats 4000000 in
theorem cB_X7_readUnit (l : Launch) (D : va_G) (ca : Nat → ClassId) (ra : Nat → Nat) (N d : Nat) (rec : (Nat → St → Nat → Nat → Int → Int → Int → Option (St × Int))) (hr0 : ∀ (σ : St) (this a : Nat) (b : Int) (c : Int) (e : Int), Ctr l (D, ca, ra, shx) false yX7_readLevel cX7_readLevel 5 none (rmR d) σ [ar this, ar a, ai b, ai c, ai e] (rec 0 σ this a b c e)) (hr1 : ∀ (σ : St) (this a : Nat) (b : Int) (c : Int) (e : Int), Ctr l (D, ca, ra, shx) false yX7_readJoined cX7_readJoined 8 none (rmR d) σ [ar this, ar a, ai b, ai c, ai e] (rec 1 σ this a b c e)) (hr2 : ∀ (σ : St) (this a : Nat) (b : Int) (e : Int), Ctr l (D, ca, ra, shx) false yX7_readNot cX7_readNot 4 none (rmR d) σ [ar this, ar a, ai b, ai e] (rec 2 σ this a b 0 e)) (hr3 : ∀ (σ : St) (this a : Nat) (b : Int) (e : Int), Ctr l (D, ca, ra, shx) false yX7_readUnit cX7_readUnit 4 none (rmR d) σ [ar this, ar a, ai b, ai e] (rec 3 σ this a b 0 e)) (σ : St) (this : Nat) (p0 : Nat) (p1 : Int) (p2 : Int) : Ctr l (D, ca, ra, shx) false yX7_readUnit cX7_readUnit 4 none (rmR (d + 1)) σ [ar this, ar p0, ai p1, ai p2] (B_X7_readUnit N rec σ this p0 p1 p2) := by
  refine ctr_of (by decide) (Nat.le_of_ble_eq_true rfl) (fun z C => ?_)
  show X z 0 0 σ 0 [(0, ar this), (1, ar p0), (2, ai p1), (3, ai p2)] [] _
  unfold B_X7_readUnit
  refine x_aload_n C 0 (i := 0) (k0 := 0) rfl rfl (by decide +kernel) ?_
  refine x_dup C rfl (by decide +kernel) ?_
  refine x_gI C fl_RX7_35 (fun _ _ _ => rfl) (by decide +kernel) (fun units_1 => ?_)
  refine x_iconst C (n := 1) (by decide +kernel) ?_
  refine x_iadd C (by decide +kernel) ?_
  refine x_pI C fl_RX7_35 rfl (fun q h => by cases h; rfl) (by decide +kernel) (fun σ2 => ?_)
  refine x_aload_n C 0 (i := 0) (k0 := 0) rfl rfl (by decide +kernel) ?_
  refine x_gI C fl_RX7_35 (fun _ _ _ => rfl) (by decide +kernel) (fun units_3 => ?_)
  show X z 0 0 σ2 14 [(0, ar this), (1, ar p0), (2, ai p1), (3, ai p2)] [ai units_3] _
  refine x_bipush C (n := 60) (by decide +kernel) (by decide +kernel) ?_
  refine x_ic_le C (tgt := 27) (off := 11) (by decide) (by decide +kernel) (fun h29 => ?_) (fun h29 => ?_)
  · skip
    refine x_aload_n C 1 (i := 1) (k0 := 1) rfl rfl (by decide +kernel) ?_
    refine x_gI C fl_RX7_52 (fun _ _ _ => rfl) (by decide +kernel) (fun kind_4 => ?_)
    refine x_bipush C (n := 101) (by decide +kernel) (by decide +kernel) ?_
    refine x_ic_ne C (tgt := 51) (off := 18) (by decide) (by decide +kernel) (fun h27 => ?_) (fun h27 => ?_)
    · skip
      refine x_iload_n C 2 (i := 2) (k0 := 2) rfl rfl (by decide +kernel) ?_
      refine x_aload_n C 1 (i := 1) (k0 := 1) rfl rfl (by decide +kernel) ?_
      refine x_gI C fl_RX7_52 (fun _ _ _ => rfl) (by decide +kernel) (fun kind_5 => ?_)
      refine x_callSp C (c_X7_mayAsk l D ca ra N σ2 p1 kind_5) (p_X7_mayAsk N σ2 p1 kind_5) mt_X7_mayAsk ms_X7_mayAsk ml_RX7_122 rfl (fun h => Bool.noConfusion h) ⟨by show 1 + 1 ≤ 12 + (d + 1); omega, by show 8 + (3 + 11) + 22 ≤ 300 + 40 * (d + 1); omega⟩ (Nat.le_of_ble_eq_true rfl) 0 0 ⟨rfl, rfl⟩ ⟨Nat.zero_le _, Nat.zero_le _⟩ (by decide +kernel) _ rfl (fun q6 => [ai q6.2]) (fun _ => rfl) (fun q6 => ?_)
      refine x_if_eq C (tgt := 79) (off := 20) (by decide) (by decide +kernel) (fun h23 => ?_) (fun h23 => ?_)
      · skip
        refine x_aload_n C 1 (i := 1) (k0 := 1) rfl rfl (by decide +kernel) ?_
        refine x_gI C fl_RX7_52 (fun _ _ _ => rfl) (by decide +kernel) (fun kind_7 => ?_)
        refine x_bipush C (n := 23) (by decide +kernel) (by decide +kernel) ?_
        refine x_bipush C (n := 33) (by decide +kernel) (by decide +kernel) ?_
        refine x_callSNp C (c_X11_within l D ca ra N σ2 kind_7 23 33) (p_X11_within N σ2 kind_7 23 33) mt_X11_within ms_X11_within (List.mem_of_getElem? (i := 10) rfl) rfl (fun h => Bool.noConfusion h) ⟨by show 0 + 1 ≤ 12 + (d + 1); omega, by show 8 + (3 + 11) + 0 ≤ 300 + 40 * (d + 1); omega⟩ (Nat.le_of_ble_eq_true rfl) 0 0 ⟨rfl, rfl⟩ ⟨Nat.zero_le _, Nat.zero_le _⟩ (by decide +kernel) _ rfl (fun q8 => [ai q8.2]) (fun _ => rfl) (fun q8 => ?_)
        refine x_if_eq C (tgt := 102) (off := 12) (by decide) (by decide +kernel) (fun h19 => ?_) (fun h19 => ?_)
        · skip
          refine x_aload_n C 1 (i := 1) (k0 := 1) rfl rfl (by decide +kernel) ?_
          refine x_gI C fl_RX7_52 (fun _ _ _ => rfl) (by decide +kernel) (fun kind_9 => ?_)
          refine x_bipush C (n := 40) (by decide +kernel) (by decide +kernel) ?_
          refine x_join (T := Unit) (fun t => σ2) 140 (fun t => [(1, ar p0)]) (fun t => []) (fun t10 => ?_) (fun J140_11 hJ140_11 => ?_)
          · show X z 0 0 σ2 140 [(1, ar p0)] [] _
            refine x_aload_n C 0 (i := 1) (k0 := 1) rfl rfl (by decide +kernel) ?_
            refine x_iconst C (n := 2) (by decide +kernel) ?_
            refine x_callV C (ci := 6) (c_X6_refuse l D ca ra N σ2 p0 2) mt_X6_refuse mv_X6_refuse rfl ml_RX7_89 rfl (fun h => Bool.noConfusion h) ⟨by show 0 + 1 ≤ 12 + (d + 1); omega, by show 8 + (2 + 11) + 0 ≤ 300 + 40 * (d + 1); omega⟩ (Nat.le_of_ble_eq_true rfl) 0 0 ⟨rfl, rfl⟩ ⟨Nat.zero_le _, Nat.zero_le _⟩ (by decide +kernel) _ rfl (fun q11 => []) (fun _ => rfl) (fun q11 => ?_)
            exact x_vret C ⟨Nat.zero_le _, Nat.zero_le _⟩ (by decide +kernel)
          · skip
            refine x_ic_ne C (tgt := 140) (off := 32) (by decide) (by decide +kernel) (fun h17 => ?_) (fun h17 => ?_)
            · skip
              refine x_sub [1] (lv2 := [(1, ar p0)]) rfl ?_
              exact hJ140_11 ()
            · skip
              refine x_iload_n C 3 (i := 3) (k0 := 3) rfl rfl (by decide +kernel) ?_
              refine x_bipush C (n := 6) (by decide +kernel) (by decide +kernel) ?_
              refine x_ic_gt C (tgt := 140) (off := 26) (by decide) (by decide +kernel) (fun h16 => ?_) (fun h16 => ?_)
              · skip
                refine x_sub [1] (lv2 := [(1, ar p0)]) rfl ?_
                exact hJ140_11 ()
              · skip
                refine x_aload_n C 1 (i := 1) (k0 := 1) rfl rfl (by decide +kernel) ?_
                refine x_callV C (ci := 6) (c_X6_advance l D ca ra N σ2 p0) mt_X6_advance mv_X6_advance rfl ml_RX7_93 rfl (fun h => Bool.noConfusion h) ⟨by show 1 + 1 ≤ 12 + (d + 1); omega, by show 8 + (1 + 11) + 21 ≤ 300 + 40 * (d + 1); omega⟩ (Nat.le_of_ble_eq_true rfl) 0 0 ⟨rfl, rfl⟩ ⟨Nat.zero_le _, Nat.zero_le _⟩ (by decide +kernel) _ rfl (fun q13 => []) (fun _ => rfl) (fun q13 => ?_)
                refine x_aload_n C 0 (i := 0) (k0 := 0) rfl rfl (by decide +kernel) ?_
                refine x_aload_n C 1 (i := 1) (k0 := 1) rfl rfl (by decide +kernel) ?_
                refine x_iload_n C 2 (i := 2) (k0 := 2) rfl rfl (by decide +kernel) ?_
                refine x_iconst C (n := 0) (by decide +kernel) ?_
                refine x_iload_n C 3 (i := 3) (k0 := 3) rfl rfl (by decide +kernel) ?_
                refine x_iconst C (n := 1) (by decide +kernel) ?_
                show X z 0 0 q13.1 127 [(0, ar this), (1, ar p0), (2, ai p1), (3, ai p2)] [ai 1, ai p2, ai 0, ai p1, ar p0, ar this] _
                refine x_iadd C (by decide +kernel) ?_
                refine x_callV C (ci := 7) (hr0 q13.1 this p0 p1 0 (p2 + 1)) mt_X7_readLevel mv_X7_readLevel rfl ml_RX7_99 rfl (fun h => Bool.noConfusion h) ⟨by show (12 + d) + 1 ≤ 12 + (d + 1); omega, by show 8 + (5 + 11) + (300 + 40 * d) ≤ 300 + 40 * (d + 1); omega⟩ (Nat.le_of_ble_eq_true rfl) 0 0 ⟨rfl, rfl⟩ ⟨Nat.zero_le _, Nat.zero_le _⟩ (by decide +kernel) _ rfl (fun q14 => []) (fun _ => rfl) (fun q14 => ?_)
                refine x_aload_n C 1 (i := 1) (k0 := 1) rfl rfl (by decide +kernel) ?_
                refine x_bipush C (n := 41) (by decide +kernel) (by decide +kernel) ?_
                refine x_callV C (ci := 6) (c_X6_expect l D ca ra N q14.1 p0 41) mt_X6_expect mv_X6_expect rfl ml_RX7_96 rfl (fun h => Bool.noConfusion h) ⟨by show 2 + 1 ≤ 12 + (d + 1); omega, by show 8 + (2 + 11) + 41 ≤ 300 + 40 * (d + 1); omega⟩ (Nat.le_of_ble_eq_true rfl) 0 0 ⟨rfl, rfl⟩ ⟨Nat.zero_le _, Nat.zero_le _⟩ (by decide +kernel) _ rfl (fun q15 => []) (fun _ => rfl) (fun q15 => ?_)
                refine x_goto C (tgt := 145) (off := 8) (by decide) (by decide +kernel) ?_
                exact x_vret C ⟨Nat.zero_le _, Nat.zero_le _⟩ (by decide +kernel)
        · skip
          refine x_aload_n C 1 (i := 1) (k0 := 1) rfl rfl (by decide +kernel) ?_
          refine x_bipush C (n := 7) (by decide +kernel) (by decide +kernel) ?_
          refine x_callV C (ci := 6) (c_X6_refuse l D ca ra N σ2 p0 7) mt_X6_refuse mv_X6_refuse rfl ml_RX7_89 rfl (fun h => Bool.noConfusion h) ⟨by show 0 + 1 ≤ 12 + (d + 1); omega, by show 8 + (2 + 11) + 0 ≤ 300 + 40 * (d + 1); omega⟩ (Nat.le_of_ble_eq_true rfl) 0 0 ⟨rfl, rfl⟩ ⟨Nat.zero_le _, Nat.zero_le _⟩ (by decide +kernel) _ rfl (fun q18 => []) (fun _ => rfl) (fun q18 => ?_)
          refine x_goto C (tgt := 145) (off := 46) (by decide) (by decide +kernel) ?_
          exact x_vret C ⟨Nat.zero_le _, Nat.zero_le _⟩ (by decide +kernel)
      · skip
        refine x_aload_n C 0 (i := 0) (k0 := 0) rfl rfl (by decide +kernel) ?_
        refine x_iconst C (n := (-1)) (by decide +kernel) ?_
        refine x_aload_n C 1 (i := 1) (k0 := 1) rfl rfl (by decide +kernel) ?_
        refine x_gI C fl_RX7_52 (fun _ _ _ => rfl) (by decide +kernel) (fun kind_20 => ?_)
        refine x_isub C (by decide +kernel) ?_
        refine x_callV C (ci := 7) (c_X7_put l D ca ra N σ2 this ((-1) - kind_20)) mt_X7_put mv_X7_put rfl ml_RX7_116 rfl (fun h => Bool.noConfusion h) ⟨by show 1 + 1 ≤ 12 + (d + 1); omega, by show 8 + (2 + 11) + 22 ≤ 300 + 40 * (d + 1); omega⟩ (Nat.le_of_ble_eq_true rfl) 0 0 ⟨rfl, rfl⟩ ⟨Nat.zero_le _, Nat.zero_le _⟩ (by decide +kernel) _ rfl (fun q21 => []) (fun _ => rfl) (fun q21 => ?_)
        refine x_aload_n C 1 (i := 1) (k0 := 1) rfl rfl (by decide +kernel) ?_
        refine x_callV C (ci := 6) (c_X6_advance l D ca ra N q21.1 p0) mt_X6_advance mv_X6_advance rfl ml_RX7_93 rfl (fun h => Bool.noConfusion h) ⟨by show 1 + 1 ≤ 12 + (d + 1); omega, by show 8 + (1 + 11) + 21 ≤ 300 + 40 * (d + 1); omega⟩ (Nat.le_of_ble_eq_true rfl) 0 0 ⟨rfl, rfl⟩ ⟨Nat.zero_le _, Nat.zero_le _⟩ (by decide +kernel) _ rfl (fun q22 => []) (fun _ => rfl) (fun q22 => ?_)
        show X z 0 0 q22.1 76 [(0, ar this), (1, ar p0), (2, ai p1), (3, ai p2)] [] _
        refine x_goto C (tgt := 145) (off := 69) (by decide) (by decide +kernel) ?_
        exact x_vret C ⟨Nat.zero_le _, Nat.zero_le _⟩ (by decide +kernel)
    · skip
      refine x_aload_n C 0 (i := 0) (k0 := 0) rfl rfl (by decide +kernel) ?_
      refine x_aload_n C 1 (i := 1) (k0 := 1) rfl rfl (by decide +kernel) ?_
      refine x_gI C fl_RX7_119 (fun _ _ _ => rfl) (by decide +kernel) (fun number_24 => ?_)
      refine x_callV C (ci := 7) (c_X7_put l D ca ra N σ2 this number_24) mt_X7_put mv_X7_put rfl ml_RX7_116 rfl (fun h => Bool.noConfusion h) ⟨by show 1 + 1 ≤ 12 + (d + 1); omega, by show 8 + (2 + 11) + 22 ≤ 300 + 40 * (d + 1); omega⟩ (Nat.le_of_ble_eq_true rfl) 0 0 ⟨rfl, rfl⟩ ⟨Nat.zero_le _, Nat.zero_le _⟩ (by decide +kernel) _ rfl (fun q25 => []) (fun _ => rfl) (fun q25 => ?_)
      refine x_aload_n C 1 (i := 1) (k0 := 1) rfl rfl (by decide +kernel) ?_
      refine x_callV C (ci := 6) (c_X6_advance l D ca ra N q25.1 p0) mt_X6_advance mv_X6_advance rfl ml_RX7_93 rfl (fun h => Bool.noConfusion h) ⟨by show 1 + 1 ≤ 12 + (d + 1); omega, by show 8 + (1 + 11) + 21 ≤ 300 + 40 * (d + 1); omega⟩ (Nat.le_of_ble_eq_true rfl) 0 0 ⟨rfl, rfl⟩ ⟨Nat.zero_le _, Nat.zero_le _⟩ (by decide +kernel) _ rfl (fun q26 => []) (fun _ => rfl) (fun q26 => ?_)
      refine x_goto C (tgt := 145) (off := 97) (by decide) (by decide +kernel) ?_
      exact x_vret C ⟨Nat.zero_le _, Nat.zero_le _⟩ (by decide +kernel)
  · skip
    refine x_aload_n C 1 (i := 1) (k0 := 1) rfl rfl (by decide +kernel) ?_
    refine x_iconst C (n := 2) (by decide +kernel) ?_
    refine x_callV C (ci := 6) (c_X6_refuse l D ca ra N σ2 p0 2) mt_X6_refuse mv_X6_refuse rfl ml_RX7_89 rfl (fun h => Bool.noConfusion h) ⟨by show 0 + 1 ≤ 12 + (d + 1); omega, by show 8 + (2 + 11) + 0 ≤ 300 + 40 * (d + 1); omega⟩ (Nat.le_of_ble_eq_true rfl) 0 0 ⟨rfl, rfl⟩ ⟨Nat.zero_le _, Nat.zero_le _⟩ (by decide +kernel) _ rfl (fun q28 => []) (fun _ => rfl) (fun q28 => ?_)
    refine x_goto C (tgt := 145) (off := 121) (by decide) (by decide +kernel) ?_
    exact x_vret C ⟨Nat.zero_le _, Nat.zero_le _⟩ (by decide +kernel)

theorem ctr_none {l : Launch} {w : Vt} {tg : Bool} {y : MethodName} {cc : ByteArray} {maxL : Nat} {ret : Option FieldType} {rm : Room} {σ : St} {av : List AV} : Ctr l w tg y cc maxL ret rm σ av none := fun _ _ _ _ _ h => by cases h
def f_R (N : Nat) : Nat → Nat → St → Nat → Nat → Int → Int → Int → Option (St × Int)
  | 0, _, _, _, _, _, _, _ => none
  | d + 1, w, σ, this, a, b, c, e => if w = 0 then B_X7_readLevel N (f_R N d) σ this a b c e else if w = 1 then B_X7_readJoined N (f_R N d) σ this a b c e else if w = 2 then B_X7_readNot N (f_R N d) σ this a b e else B_X7_readUnit N (f_R N d) σ this a b e
theorem c_R (l : Launch) (D : va_G) (ca : Nat → ClassId) (ra : Nat → Nat) (N : Nat) : ∀ d : Nat, (∀ (σ : St) (this a : Nat) (b : Int) (c : Int) (e : Int), Ctr l (D, ca, ra, shx) false yX7_readLevel cX7_readLevel 5 none (rmR d) σ [ar this, ar a, ai b, ai c, ai e] (f_R N d 0 σ this a b c e)) ∧ (∀ (σ : St) (this a : Nat) (b : Int) (c : Int) (e : Int), Ctr l (D, ca, ra, shx) false yX7_readJoined cX7_readJoined 8 none (rmR d) σ [ar this, ar a, ai b, ai c, ai e] (f_R N d 1 σ this a b c e)) ∧ (∀ (σ : St) (this a : Nat) (b : Int) (e : Int), Ctr l (D, ca, ra, shx) false yX7_readNot cX7_readNot 4 none (rmR d) σ [ar this, ar a, ai b, ai e] (f_R N d 2 σ this a b 0 e)) ∧ (∀ (σ : St) (this a : Nat) (b : Int) (e : Int), Ctr l (D, ca, ra, shx) false yX7_readUnit cX7_readUnit 4 none (rmR d) σ [ar this, ar a, ai b, ai e] (f_R N d 3 σ this a b 0 e)) := by
  intro d
  induction d with
  | zero => exact ⟨fun _ _ _ _ _ _ => ctr_none, fun _ _ _ _ _ _ => ctr_none, fun _ _ _ _ _ => ctr_none, fun _ _ _ _ _ => ctr_none⟩
  | succ d ih =>
    obtain ⟨i0, i1, i2, i3⟩ := ih
    exact ⟨fun σ this a b c e => cB_X7_readLevel l D ca ra N d (f_R N d) i0 i1 i2 i3 σ this a b c e, fun σ this a b c e => cB_X7_readJoined l D ca ra N d (f_R N d) i0 i1 i2 i3 σ this a b c e, fun σ this a b e => cB_X7_readNot l D ca ra N d (f_R N d) i0 i1 i2 i3 σ this a b e, fun σ this a b e => cB_X7_readUnit l D ca ra N d (f_R N d) i0 i1 i2 i3 σ this a b e⟩
def rm_X7_readLevel : Room := rmR 150
def f_X7_readLevel (N : Nat) (σ : St) (this : Nat) (p0 : Nat) (p1 : Int) (p2 : Int) (p3 : Int) : Option (St × Int) := f_R N 150 0 σ this p0 p1 p2 p3
theorem c_X7_readLevel (l : Launch) (D : va_G) (ca : Nat → ClassId) (ra : Nat → Nat) (N : Nat) (σ : St) (this : Nat) (p0 : Nat) (p1 : Int) (p2 : Int) (p3 : Int) : Ctr l (D, ca, ra, shx) false yX7_readLevel cX7_readLevel 5 none rm_X7_readLevel σ [ar this, ar p0, ai p1, ai p2, ai p3] (f_X7_readLevel N σ this p0 p1 p2 p3) := (c_R l D ca ra N 150).1 σ this p0 p1 p2 p3

def rm_X7_readLine : Room := { frames := 163, cells := 0, slots := 0, locals := 6324 }
def f_X7_readLine (N : Nat) (σ : St) (this : Nat) (p0 : Nat) : Option (St × Int) :=
 Option.bind (gI shx σ 6 p0 8) fun kind_1 =>
 Lt (kind_1 - 15) fun x2 =>
 Option.bind (f_X11_within N σ x2 0 3) fun q3 =>
 Jn (fun t4 : Unit => Option.bind (rcv shx σ 6 p0 (f_X6_refuse N σ p0 2)) fun q5 =>
 some (q5.1, 0)) fun J25_5 =>
 (if wr q3.2 = 0 then J25_5 () else Option.bind (rcv shx σ 7 this (f_X7_isTold N σ this x2)) fun q7 =>
 (if wr q7.2 = 0 then Option.bind (rcv shx σ 6 p0 (f_X6_advance N σ p0)) fun q8 =>
 Jn (fun t9 : St => Option.bind (gR shx t9 7 this 4) fun start_10 =>
 Option.bind (gI shx t9 7 this 2) fun length_11 =>
 Option.bind (sI shx t9 1 start_10 x2 length_11) fun σ12 =>
 Option.bind (rcv shx σ12 7 this (f_X7_readLevel N σ12 this p0 x2 0 0)) fun q13 =>
 Option.bind (gR shx q13.1 7 this 5) fun stop_14 =>
 Option.bind (gI shx q13.1 7 this 2) fun length_15 =>
 Option.bind (sI shx q13.1 1 stop_14 x2 length_15) fun σ16 =>
 Option.bind (rcv shx σ16 6 p0 (f_X6_expect N σ16 p0 59)) fun q17 =>
 some (q17.1, 0)) fun J45_17 =>
 (if wr x2 = 0 then J45_17 q8.1 else Option.bind (rcv shx q8.1 6 p0 (f_X6_expect N q8.1 p0 19)) fun q19 =>
 J45_17 q19.1) else J25_5 ()))
set_option maxRecDepth 100000 in
set_option maxHeartbeats 4000000 in
theorem c_X7_readLine (l : Launch) (D : va_G) (ca : Nat → ClassId) (ra : Nat → Nat) (N : Nat) (σ : St) (this : Nat) (p0 : Nat) : Ctr l (D, ca, ra, shx) false yX7_readLine cX7_readLine 3 none rm_X7_readLine σ [ar this, ar p0] (f_X7_readLine N σ this p0) := by
  refine ctr_of (by decide) (Nat.le_of_ble_eq_true rfl) (fun z C => ?_)
  show X z 0 0 σ 0 [(0, ar this), (1, ar p0)] [] _
  unfold f_X7_readLine
  refine x_aload_n C 1 (i := 1) (k0 := 1) rfl rfl (by decide +kernel) ?_
  refine x_gI C fl_RX7_52 (fun _ _ _ => rfl) (by decide +kernel) (fun kind_1 => ?_)
  refine x_bipush C (n := 15) (by decide +kernel) (by decide +kernel) ?_
  refine x_isub C (by decide +kernel) ?_
  refine x_istore_nL C (i := 2) (k0 := 2) rfl (Nat.le_of_ble_eq_true rfl) (by decide +kernel) (lv2 := fun x2 => [(2, ai x2), (0, ar this), (1, ar p0)]) (fun _ => rfl) (fun x2 => ?_)
  refine x_iload_n C 0 (i := 2) (k0 := 2) rfl rfl (by decide +kernel) ?_
  refine x_iconst C (n := 0) (by decide +kernel) ?_
  refine x_iconst C (n := 3) (by decide +kernel) ?_
  show X z 0 0 σ 11 [(2, ai x2), (0, ar this), (1, ar p0)] [ai 3, ai 0, ai x2] _
  refine x_callSNp C (c_X11_within l D ca ra N σ x2 0 3) (p_X11_within N σ x2 0 3) mt_X11_within ms_X11_within (List.mem_of_getElem? (i := 10) rfl) rfl (fun h => Bool.noConfusion h) ⟨Nat.le_of_ble_eq_true rfl, Nat.le_of_ble_eq_true rfl⟩ (Nat.le_of_ble_eq_true rfl) 0 0 ⟨rfl, rfl⟩ ⟨Nat.zero_le _, Nat.zero_le _⟩ (by decide +kernel) _ rfl (fun q3 => [ai q3.2]) (fun _ => rfl) (fun q3 => ?_)
  refine x_join (T := Unit) (fun t => σ) 25 (fun t => [(1, ar p0)]) (fun t => []) (fun t4 => ?_) (fun J25_5 hJ25_5 => ?_)
  · show X z 0 0 σ 25 [(1, ar p0)] [] _
    refine x_aload_n C 0 (i := 1) (k0 := 1) rfl rfl (by decide +kernel) ?_
    refine x_iconst C (n := 2) (by decide +kernel) ?_
    refine x_callV C (ci := 6) (c_X6_refuse l D ca ra N σ p0 2) mt_X6_refuse mv_X6_refuse rfl ml_RX7_89 rfl (fun h => Bool.noConfusion h) ⟨Nat.le_of_ble_eq_true rfl, Nat.le_of_ble_eq_true rfl⟩ (Nat.le_of_ble_eq_true rfl) 0 0 ⟨rfl, rfl⟩ ⟨Nat.zero_le _, Nat.zero_le _⟩ (by decide +kernel) _ rfl (fun q5 => []) (fun _ => rfl) (fun q5 => ?_)
    exact x_vret C ⟨Nat.zero_le _, Nat.zero_le _⟩ (by decide +kernel)
  · skip
    refine x_if_eq C (tgt := 25) (off := 11) (by decide) (by decide +kernel) (fun h22 => ?_) (fun h22 => ?_)
    · skip
      refine x_sub [2] (lv2 := [(1, ar p0)]) rfl ?_
      exact hJ25_5 ()
    · skip
      refine x_aload_n C 1 (i := 0) (k0 := 0) rfl rfl (by decide +kernel) ?_
      refine x_iload_n C 0 (i := 2) (k0 := 2) rfl rfl (by decide +kernel) ?_
      refine x_callVp C (ci := 7) (c_X7_isTold l D ca ra N σ this x2) (p_X7_isTold N σ this x2) mt_X7_isTold mv_X7_isTold rfl ml_RX7_63 rfl (fun h => Bool.noConfusion h) ⟨Nat.le_of_ble_eq_true rfl, Nat.le_of_ble_eq_true rfl⟩ (Nat.le_of_ble_eq_true rfl) 0 0 ⟨rfl, rfl⟩ ⟨Nat.zero_le _, Nat.zero_le _⟩ (by decide +kernel) _ rfl (fun q7 => [ai q7.2]) (fun _ => rfl) (fun q7 => ?_)
      refine x_if_eq C (tgt := 31) (off := 9) (by decide) (by decide +kernel) (fun h21 => ?_) (fun h21 => ?_)
      · skip
        refine x_aload_n C 2 (i := 1) (k0 := 1) rfl rfl (by decide +kernel) ?_
        refine x_callV C (ci := 6) (c_X6_advance l D ca ra N σ p0) mt_X6_advance mv_X6_advance rfl ml_RX7_93 rfl (fun h => Bool.noConfusion h) ⟨Nat.le_of_ble_eq_true rfl, Nat.le_of_ble_eq_true rfl⟩ (Nat.le_of_ble_eq_true rfl) 0 0 ⟨rfl, rfl⟩ ⟨Nat.zero_le _, Nat.zero_le _⟩ (by decide +kernel) _ rfl (fun q8 => []) (fun _ => rfl) (fun q8 => ?_)
        refine x_iload_n C 0 (i := 2) (k0 := 2) rfl rfl (by decide +kernel) ?_
        refine x_join (T := St) (fun t => t) 45 (fun t => [(0, ar this), (1, ar p0), (2, ai x2)]) (fun t => []) (fun t9 => ?_) (fun J45_17 hJ45_17 => ?_)
        · show X z 0 0 t9 45 [(0, ar this), (1, ar p0), (2, ai x2)] [] _
          refine x_aload_n C 0 (i := 0) (k0 := 0) rfl rfl (by decide +kernel) ?_
          refine x_gR C fl_RX7_17 (fun _ _ _ => rfl) (by decide +kernel) (fun start_10 => ?_)
          refine x_iload_n C 2 (i := 2) (k0 := 2) rfl rfl (by decide +kernel) ?_
          refine x_aload_n C 0 (i := 0) (k0 := 0) rfl rfl (by decide +kernel) ?_
          refine x_gI C fl_RX7_39 (fun _ _ _ => rfl) (by decide +kernel) (fun length_11 => ?_)
          refine x_astI C (by decide +kernel) (fun σ12 => ?_)
          refine x_aload_n C 0 (i := 0) (k0 := 0) rfl rfl (by decide +kernel) ?_
          refine x_aload_n C 1 (i := 1) (k0 := 1) rfl rfl (by decide +kernel) ?_
          show X z 0 0 σ12 57 [(0, ar this), (1, ar p0), (2, ai x2)] [ar p0, ar this] _
          refine x_iload_n C 2 (i := 2) (k0 := 2) rfl rfl (by decide +kernel) ?_
          refine x_iconst C (n := 0) (by decide +kernel) ?_
          refine x_iconst C (n := 0) (by decide +kernel) ?_
          refine x_callV C (ci := 7) (c_X7_readLevel l D ca ra N σ12 this p0 x2 0 0) mt_X7_readLevel mv_X7_readLevel rfl ml_RX7_99 rfl (fun h => Bool.noConfusion h) ⟨Nat.le_of_ble_eq_true rfl, Nat.le_of_ble_eq_true rfl⟩ (Nat.le_of_ble_eq_true rfl) 0 0 ⟨rfl, rfl⟩ ⟨Nat.zero_le _, Nat.zero_le _⟩ (by decide +kernel) _ rfl (fun q13 => []) (fun _ => rfl) (fun q13 => ?_)
          refine x_aload_n C 0 (i := 0) (k0 := 0) rfl rfl (by decide +kernel) ?_
          refine x_gR C fl_RX7_20 (fun _ _ _ => rfl) (by decide +kernel) (fun stop_14 => ?_)
          refine x_iload_n C 2 (i := 2) (k0 := 2) rfl rfl (by decide +kernel) ?_
          refine x_aload_n C 0 (i := 0) (k0 := 0) rfl rfl (by decide +kernel) ?_
          show X z 0 0 q13.1 69 [(0, ar this), (1, ar p0), (2, ai x2)] [ar this, ai x2, ar stop_14] _
          refine x_gI C fl_RX7_39 (fun _ _ _ => rfl) (by decide +kernel) (fun length_15 => ?_)
          refine x_astI C (by decide +kernel) (fun σ16 => ?_)
          refine x_aload_n C 1 (i := 1) (k0 := 1) rfl rfl (by decide +kernel) ?_
          refine x_bipush C (n := 59) (by decide +kernel) (by decide +kernel) ?_
          refine x_callV C (ci := 6) (c_X6_expect l D ca ra N σ16 p0 59) mt_X6_expect mv_X6_expect rfl ml_RX7_96 rfl (fun h => Bool.noConfusion h) ⟨Nat.le_of_ble_eq_true rfl, Nat.le_of_ble_eq_true rfl⟩ (Nat.le_of_ble_eq_true rfl) 0 0 ⟨rfl, rfl⟩ ⟨Nat.zero_le _, Nat.zero_le _⟩ (by decide +kernel) _ rfl (fun q17 => []) (fun _ => rfl) (fun q17 => ?_)
          exact x_vret C ⟨Nat.zero_le _, Nat.zero_le _⟩ (by decide +kernel)
        · skip
          refine x_if_eq C (tgt := 45) (off := 9) (by decide) (by decide +kernel) (fun h20 => ?_) (fun h20 => ?_)
          · skip
            refine x_sub [1, 2, 0] (lv2 := [(0, ar this), (1, ar p0), (2, ai x2)]) rfl ?_
            exact hJ45_17 q8.1
          · skip
            refine x_aload_n C 2 (i := 1) (k0 := 1) rfl rfl (by decide +kernel) ?_
            refine x_bipush C (n := 19) (by decide +kernel) (by decide +kernel) ?_
            refine x_callV C (ci := 6) (c_X6_expect l D ca ra N q8.1 p0 19) mt_X6_expect mv_X6_expect rfl ml_RX7_96 rfl (fun h => Bool.noConfusion h) ⟨Nat.le_of_ble_eq_true rfl, Nat.le_of_ble_eq_true rfl⟩ (Nat.le_of_ble_eq_true rfl) 0 0 ⟨rfl, rfl⟩ ⟨Nat.zero_le _, Nat.zero_le _⟩ (by decide +kernel) _ rfl (fun q19 => []) (fun _ => rfl) (fun q19 => ?_)
            refine x_sub [1, 2, 0] (lv2 := [(0, ar this), (1, ar p0), (2, ai x2)]) rfl ?_
            exact hJ45_17 q19.1
      · skip
        refine x_sub [2] (lv2 := [(1, ar p0)]) rfl ?_
        exact hJ25_5 ()

def L_X7_read_27 (N : Nat) (this : Nat) (p0 : Nat) (J69_8 : (St → Option (St × Int))) : St → Option (St × Int) := fixN N fun b27_10 t10 =>
 Option.bind (gI shx t10 7 this 0) fun lines_12 =>
 (if wr 4 < wr lines_12 then J69_8 t10 else Option.bind (rcv shx t10 6 p0 (f_X6_sound N t10 p0)) fun q13 =>
 (if wr q13.2 = 0 then J69_8 t10 else Option.bind (gI shx t10 6 p0 8) fun kind_14 =>
 (if wr kind_14 = wr 102 then J69_8 t10 else Option.bind (rcv shx t10 7 this (f_X7_readLine N t10 this p0)) fun q15 =>
 Option.bind (gI shx q15.1 7 this 0) fun lines_16 =>
 Option.bind (pI shx q15.1 7 this 0 (lines_16 + 1)) fun σ17 =>
 b27_10 σ17)))
def rm_X7_read : Room := { frames := 164, cells := 0, slots := 0, locals := 6346 }
def f_X7_read (N : Nat) (σ : St) (this : Nat) (p0 : Nat) : Option (St × Int) :=
 Option.bind (pI shx σ 7 this 1 0) fun σ1 =>
 Option.bind (pI shx σ1 7 this 2 0) fun σ2 =>
 Option.bind (gR shx σ2 7 this 4) fun start_3 =>
 Option.bind (f_J7_fill_53178 N σ2 start_3 (-1)) fun q4 =>
 Option.bind (rcv shx q4.1 6 p0 (f_X6_begin N q4.1 p0)) fun q5 =>
 Option.bind (pI shx q5.1 7 this 0 0) fun σ6 =>
 Jn (fun t7 : St => Option.bind (rcv shx t7 6 p0 (f_X6_sound N t7 p0)) fun q8 =>
 rZ t7 q8.2) fun J69_8 =>
 L_X7_read_27 N this p0 J69_8 σ6
set_option maxRecDepth 100000 in
set_option maxHeartbeats 4000000 in
theorem c_X7_read (l : Launch) (D : va_G) (ca : Nat → ClassId) (ra : Nat → Nat) (N : Nat) (σ : St) (this : Nat) (p0 : Nat) : Ctr l (D, ca, ra, shx) false yX7_read cX7_read 2 (some .boolean) rm_X7_read σ [ar this, ar p0] (f_X7_read N σ this p0) := by
  refine ctr_of (by decide) (Nat.le_of_ble_eq_true rfl) (fun z C => ?_)
  show X z 0 0 σ 0 [(0, ar this), (1, ar p0)] [] _
  unfold f_X7_read
  refine x_aload_n C 0 (i := 0) (k0 := 0) rfl rfl (by decide +kernel) ?_
  refine x_iconst C (n := 0) (by decide +kernel) ?_
  refine x_pI C fl_RX7_35 rfl (fun q h => by cases h; rfl) (by decide +kernel) (fun σ1 => ?_)
  refine x_aload_n C 0 (i := 0) (k0 := 0) rfl rfl (by decide +kernel) ?_
  refine x_iconst C (n := 0) (by decide +kernel) ?_
  refine x_pI C fl_RX7_39 rfl (fun q h => by cases h; rfl) (by decide +kernel) (fun σ2 => ?_)
  refine x_aload_n C 0 (i := 0) (k0 := 0) rfl rfl (by decide +kernel) ?_
  refine x_gR C fl_RX7_17 (fun _ _ _ => rfl) (by decide +kernel) (fun start_3 => ?_)
  show X z 0 0 σ2 14 [(0, ar this), (1, ar p0)] [ar start_3] _
  refine x_iconst C (n := (-1)) (by decide +kernel) ?_
  refine x_callS C (c_J7_fill_53178 l D ca ra N σ2 start_3 (-1)) mt_J7_fill_53178 ms_J7_fill_53178 ml_RX7_29 rfl (fun h => Bool.noConfusion h) ⟨Nat.le_of_ble_eq_true rfl, Nat.le_of_ble_eq_true rfl⟩ (Nat.le_of_ble_eq_true rfl) 0 0 ⟨rfl, rfl⟩ ⟨Nat.zero_le _, Nat.zero_le _⟩ (by decide +kernel) _ rfl (fun q4 => []) (fun _ => rfl) (fun q4 => ?_)
  refine x_aload_n C 1 (i := 1) (k0 := 1) rfl rfl (by decide +kernel) ?_
  refine x_callV C (ci := 6) (c_X6_begin l D ca ra N q4.1 p0) mt_X6_begin mv_X6_begin rfl ml_RX7_42 rfl (fun h => Bool.noConfusion h) ⟨Nat.le_of_ble_eq_true rfl, Nat.le_of_ble_eq_true rfl⟩ (Nat.le_of_ble_eq_true rfl) 0 0 ⟨rfl, rfl⟩ ⟨Nat.zero_le _, Nat.zero_le _⟩ (by decide +kernel) _ rfl (fun q5 => []) (fun _ => rfl) (fun q5 => ?_)
  refine x_aload_n C 0 (i := 0) (k0 := 0) rfl rfl (by decide +kernel) ?_
  refine x_iconst C (n := 0) (by decide +kernel) ?_
  refine x_pI C fl_RX7_45 rfl (fun q h => by cases h; rfl) (by decide +kernel) (fun σ6 => ?_)
  refine x_join (T := St) (fun t => t) 69 (fun t => [(1, ar p0)]) (fun t => []) (fun t7 => ?_) (fun J69_8 hJ69_8 => ?_)
  · show X z 0 0 t7 69 [(1, ar p0)] [] _
    refine x_aload_n C 0 (i := 1) (k0 := 1) rfl rfl (by decide +kernel) ?_
    refine x_callVp C (ci := 6) (c_X6_sound l D ca ra N t7 p0) (p_X6_sound N t7 p0) mt_X6_sound mv_X6_sound rfl ml_RX7_48 rfl (fun h => Bool.noConfusion h) ⟨Nat.le_of_ble_eq_true rfl, Nat.le_of_ble_eq_true rfl⟩ (Nat.le_of_ble_eq_true rfl) 0 0 ⟨rfl, rfl⟩ ⟨Nat.zero_le _, Nat.zero_le _⟩ (by decide +kernel) _ rfl (fun q8 => [ai q8.2]) (fun _ => rfl) (fun q8 => ?_)
    exact x_rZ C ⟨Nat.zero_le _, Nat.zero_le _⟩ (by decide +kernel)
  · skip
    -- LOOP L_X7_read_27 hb27_10
    refine x_loop (T := St) (fun t => t) (fun t => [(0, ar this), (1, ar p0)]) σ6 rfl (fun b27_10 hb27_10 t10 => ?_)
    show X z 0 0 t10 27 [(0, ar this), (1, ar p0)] [] _
    refine x_aload_n C 0 (i := 0) (k0 := 0) rfl rfl (by decide +kernel) ?_
    refine x_gI C fl_RX7_45 (fun _ _ _ => rfl) (by decide +kernel) (fun lines_12 => ?_)
    refine x_iconst C (n := 4) (by decide +kernel) ?_
    refine x_ic_gt C (tgt := 69) (off := 37) (by decide) (by decide +kernel) (fun h20 => ?_) (fun h20 => ?_)
    · skip
      refine x_sub [1] (lv2 := [(1, ar p0)]) rfl ?_
      exact hJ69_8 t10
    · skip
      refine x_aload_n C 1 (i := 1) (k0 := 1) rfl rfl (by decide +kernel) ?_
      refine x_callVp C (ci := 6) (c_X6_sound l D ca ra N t10 p0) (p_X6_sound N t10 p0) mt_X6_sound mv_X6_sound rfl ml_RX7_48 rfl (fun h => Bool.noConfusion h) ⟨Nat.le_of_ble_eq_true rfl, Nat.le_of_ble_eq_true rfl⟩ (Nat.le_of_ble_eq_true rfl) 0 0 ⟨rfl, rfl⟩ ⟨Nat.zero_le _, Nat.zero_le _⟩ (by decide +kernel) _ rfl (fun q13 => [ai q13.2]) (fun _ => rfl) (fun q13 => ?_)
      refine x_if_eq C (tgt := 69) (off := 30) (by decide) (by decide +kernel) (fun h19 => ?_) (fun h19 => ?_)
      · skip
        refine x_sub [1] (lv2 := [(1, ar p0)]) rfl ?_
        exact hJ69_8 t10
      · skip
        refine x_aload_n C 1 (i := 1) (k0 := 1) rfl rfl (by decide +kernel) ?_
        refine x_gI C fl_RX7_52 (fun _ _ _ => rfl) (by decide +kernel) (fun kind_14 => ?_)
        refine x_bipush C (n := 102) (by decide +kernel) (by decide +kernel) ?_
        refine x_ic_eq C (tgt := 69) (off := 21) (by decide) (by decide +kernel) (fun h18 => ?_) (fun h18 => ?_)
        · skip
          refine x_sub [1] (lv2 := [(1, ar p0)]) rfl ?_
          exact hJ69_8 t10
        · skip
          refine x_aload_n C 0 (i := 0) (k0 := 0) rfl rfl (by decide +kernel) ?_
          refine x_aload_n C 1 (i := 1) (k0 := 1) rfl rfl (by decide +kernel) ?_
          refine x_callV C (ci := 7) (c_X7_readLine l D ca ra N t10 this p0) mt_X7_readLine mv_X7_readLine rfl ml_RX7_55 rfl (fun h => Bool.noConfusion h) ⟨Nat.le_of_ble_eq_true rfl, Nat.le_of_ble_eq_true rfl⟩ (Nat.le_of_ble_eq_true rfl) 0 0 ⟨rfl, rfl⟩ ⟨Nat.zero_le _, Nat.zero_le _⟩ (by decide +kernel) _ rfl (fun q15 => []) (fun _ => rfl) (fun q15 => ?_)
          refine x_aload_n C 0 (i := 0) (k0 := 0) rfl rfl (by decide +kernel) ?_
          refine x_dup C rfl (by decide +kernel) ?_
          refine x_gI C fl_RX7_45 (fun _ _ _ => rfl) (by decide +kernel) (fun lines_16 => ?_)
          refine x_iconst C (n := 1) (by decide +kernel) ?_
          refine x_iadd C (by decide +kernel) ?_
          show X z 0 0 q15.1 63 [(0, ar this), (1, ar p0)] [ai (lines_16 + 1), ar this] _
          refine x_pI C fl_RX7_45 rfl (fun q h => by cases h; rfl) (by decide +kernel) (fun σ17 => ?_)
          refine x_goto C (tgt := 27) (off := (-39)) (by decide) (by decide +kernel) ?_
          exact hb27_10 σ17

def rm_X11_machine : Room := { frames := 7, cells := 0, slots := 0, locals := 155 }
def f_X11_machine (N : Nat) (σ : St) (this : Nat) : Option (St × Int) :=
 Option.bind (gR shx σ 11 this 2) fun spareMachine_1 =>
 Option.bind (gR shx σ 11 this 0) fun tape_2 =>
 Option.bind (rcv shx σ 3 spareMachine_1 (f_X3_read N σ spareMachine_1 tape_2)) fun q3 =>
 Option.bind (gR shx q3.1 11 this 0) fun tape_4 =>
 Option.bind (pI shx q3.1 6 tape_4 2 0) fun σ5 =>
 (if wr q3.2 = 0 then some (σ5, (-1)) else Option.bind (gR shx σ5 11 this 1) fun machine_6 =>
 Option.bind (gR shx σ5 11 this 2) fun spareMachine_7 =>
 Option.bind (pR shx σ5 11 this 1 spareMachine_7) fun σ8 =>
 Option.bind (pR shx σ8 11 this 2 machine_6) fun σ9 =>
 Option.bind (gR shx σ9 11 this 7) fun facts_10 =>
 Option.bind (rcv shx σ9 1 facts_10 (f_X1_forget N σ9 facts_10)) fun q11 =>
 Option.bind (gR shx q11.1 11 this 8) fun flight_12 =>
 Option.bind (rcv shx q11.1 2 flight_12 (f_X2_dropSteps N q11.1 flight_12)) fun q13 =>
 Option.bind (gR shx q13.1 11 this 11) fun works_14 =>
 Option.bind (rcv shx q13.1 10 works_14 (f_X10_forget N q13.1 works_14)) fun q15 =>
 Option.bind (gR shx q15.1 11 this 1) fun machine_16 =>
 Option.bind (gI shx q15.1 3 machine_16 0) fun lines_17 =>
 some (q15.1, lines_17))
set_option maxRecDepth 100000 in
set_option maxHeartbeats 4000000 in
theorem c_X11_machine (l : Launch) (D : va_G) (ca : Nat → ClassId) (ra : Nat → Nat) (N : Nat) (σ : St) (this : Nat) : Ctr l (D, ca, ra, shx) false yX11_machine cX11_machine 3 (some .int) rm_X11_machine σ [ar this] (f_X11_machine N σ this) := by
  refine ctr_of (by decide) (Nat.le_of_ble_eq_true rfl) (fun z C => ?_)
  show X z 0 0 σ 0 [(0, ar this)] [] _
  unfold f_X11_machine
  refine x_aload_n C 0 (i := 0) (k0 := 0) rfl rfl (by decide +kernel) ?_
  refine x_gR C fl_RX11_23 (fun _ _ _ => rfl) (by decide +kernel) (fun spareMachine_1 => ?_)
  refine x_aload_n C 0 (i := 0) (k0 := 0) rfl rfl (by decide +kernel) ?_
  refine x_gR C fl_RX11_10 (fun _ _ _ => rfl) (by decide +kernel) (fun tape_2 => ?_)
  refine x_callV C (ci := 3) (c_X3_read l D ca ra N σ spareMachine_1 tape_2) mt_X3_read mv_X3_read rfl ml_RX11_109 rfl (fun h => Bool.noConfusion h) ⟨Nat.le_of_ble_eq_true rfl, Nat.le_of_ble_eq_true rfl⟩ (Nat.le_of_ble_eq_true rfl) 0 0 ⟨rfl, rfl⟩ ⟨Nat.zero_le _, Nat.zero_le _⟩ (by decide +kernel) _ rfl (fun q3 => [ai q3.2]) (fun _ => rfl) (fun q3 => ?_)
  refine x_istore_n C (i := 1) (k0 := 1) rfl (Nat.le_of_ble_eq_true rfl) (by decide +kernel) (lv2 := [(1, ai q3.2), (0, ar this)]) rfl ?_
  refine x_aload_n C 1 (i := 0) (k0 := 0) rfl rfl (by decide +kernel) ?_
  refine x_gR C fl_RX11_10 (fun _ _ _ => rfl) (by decide +kernel) (fun tape_4 => ?_)
  show X z 0 0 q3.1 16 [(1, ai q3.2), (0, ar this)] [ar tape_4] _
  refine x_iconst C (n := 0) (by decide +kernel) ?_
  refine x_pI C fl_RX11_101 rfl (fun q h => by cases h; rfl) (by decide +kernel) (fun σ5 => ?_)
  refine x_iload_n C 0 (i := 1) (k0 := 1) rfl rfl (by decide +kernel) ?_
  refine x_if_ne C (tgt := 26) (off := 5) (by decide) (by decide +kernel) (fun h18 => ?_) (fun h18 => ?_)
  · skip
    refine x_aload_n C 1 (i := 0) (k0 := 0) rfl rfl (by decide +kernel) ?_
    refine x_gR C fl_RX11_19 (fun _ _ _ => rfl) (by decide +kernel) (fun machine_6 => ?_)
    refine x_astore_n C (i := 2) (k0 := 2) rfl (Nat.le_of_ble_eq_true rfl) (by decide +kernel) (lv2 := [(2, ar machine_6), (1, ai q3.2), (0, ar this)]) rfl ?_
    refine x_aload_n C 2 (i := 0) (k0 := 0) rfl rfl (by decide +kernel) ?_
    refine x_aload_n C 2 (i := 0) (k0 := 0) rfl rfl (by decide +kernel) ?_
    refine x_gR C fl_RX11_23 (fun _ _ _ => rfl) (by decide +kernel) (fun spareMachine_7 => ?_)
    refine x_pR C fl_RX11_19 (Or.inl ⟨_, rfl⟩) (Or.inl (fun q h => by cases h; rfl)) (by decide +kernel) (fun σ8 => ?_)
    refine x_aload_n C 2 (i := 0) (k0 := 0) rfl rfl (by decide +kernel) ?_
    show X z 0 0 σ8 40 [(2, ar machine_6), (1, ai q3.2), (0, ar this)] [ar this] _
    refine x_aload_n C 0 (i := 2) (k0 := 2) rfl rfl (by decide +kernel) ?_
    refine x_pR C fl_RX11_23 (Or.inl ⟨_, rfl⟩) (Or.inl (fun q h => by cases h; rfl)) (by decide +kernel) (fun σ9 => ?_)
    refine x_aload_n C 2 (i := 0) (k0 := 0) rfl rfl (by decide +kernel) ?_
    refine x_gR C fl_RX11_54 (fun _ _ _ => rfl) (by decide +kernel) (fun facts_10 => ?_)
    refine x_callV C (ci := 1) (c_X1_forget l D ca ra N σ9 facts_10) mt_X1_forget mv_X1_forget rfl ml_RX11_113 rfl (fun h => Bool.noConfusion h) ⟨Nat.le_of_ble_eq_true rfl, Nat.le_of_ble_eq_true rfl⟩ (Nat.le_of_ble_eq_true rfl) 0 0 ⟨rfl, rfl⟩ ⟨Nat.zero_le _, Nat.zero_le _⟩ (by decide +kernel) _ rfl (fun q11 => []) (fun _ => rfl) (fun q11 => ?_)
    refine x_aload_n C 2 (i := 0) (k0 := 0) rfl rfl (by decide +kernel) ?_
    refine x_gR C fl_RX11_61 (fun _ _ _ => rfl) (by decide +kernel) (fun flight_12 => ?_)
    refine x_callV C (ci := 2) (c_X2_dropSteps l D ca ra N q11.1 flight_12) mt_X2_dropSteps mv_X2_dropSteps rfl ml_RX11_116 rfl (fun h => Bool.noConfusion h) ⟨Nat.le_of_ble_eq_true rfl, Nat.le_of_ble_eq_true rfl⟩ (Nat.le_of_ble_eq_true rfl) 0 0 ⟨rfl, rfl⟩ ⟨Nat.zero_le _, Nat.zero_le _⟩ (by decide +kernel) _ rfl (fun q13 => [ai q13.2]) (fun _ => rfl) (fun q13 => ?_)
    show X z 0 0 q13.1 58 [(2, ar machine_6), (1, ai q3.2), (0, ar this)] [ai q13.2] _
    refine x_pop C rfl (by decide +kernel) ?_
    refine x_aload_n C 2 (i := 0) (k0 := 0) rfl rfl (by decide +kernel) ?_
    refine x_gR C fl_RX11_82 (fun _ _ _ => rfl) (by decide +kernel) (fun works_14 => ?_)
    refine x_callV C (ci := 10) (c_X10_forget l D ca ra N q13.1 works_14) mt_X10_forget mv_X10_forget rfl ml_RX11_120 rfl (fun h => Bool.noConfusion h) ⟨Nat.le_of_ble_eq_true rfl, Nat.le_of_ble_eq_true rfl⟩ (Nat.le_of_ble_eq_true rfl) 0 0 ⟨rfl, rfl⟩ ⟨Nat.zero_le _, Nat.zero_le _⟩ (by decide +kernel) _ rfl (fun q15 => []) (fun _ => rfl) (fun q15 => ?_)
    refine x_aload_n C 2 (i := 0) (k0 := 0) rfl rfl (by decide +kernel) ?_
    refine x_gR C fl_RX11_19 (fun _ _ _ => rfl) (by decide +kernel) (fun machine_16 => ?_)
    refine x_gI C fl_RX11_121 (fun _ _ _ => rfl) (by decide +kernel) (fun lines_17 => ?_)
    exact x_iret C ⟨Nat.zero_le _, Nat.zero_le _⟩ (by decide +kernel)
  · skip
    refine x_iconst C (n := (-1)) (by decide +kernel) ?_
    exact x_iret C ⟨Nat.zero_le _, Nat.zero_le _⟩ (by decide +kernel)

def rm_X11_treaty : Room := { frames := 165, cells := 0, slots := 0, locals := 6367 }
def f_X11_treaty (N : Nat) (σ : St) (this : Nat) (p0 : Int) : Option (St × Int) :=
 Option.bind (f_X11_isTongue N σ p0) fun q1 =>
 (if wr q1.2 = 0 then some (σ, (-2)) else Option.bind (gR shx σ 11 this 0) fun tape_2 =>
 Option.bind (gI shx σ 6 tape_2 2) fun length_3 =>
 (if wr 700 < wr length_3 then some (σ, (-2)) else Option.bind (gR shx σ 11 this 5) fun spareTreaty_4 =>
 Option.bind (gR shx σ 11 this 0) fun tape_5 =>
 Option.bind (rcv shx σ 7 spareTreaty_4 (f_X7_read N σ spareTreaty_4 tape_5)) fun q6 =>
 Option.bind (gR shx q6.1 11 this 0) fun tape_7 =>
 Option.bind (pI shx q6.1 6 tape_7 2 0) fun σ8 =>
 (if wr q6.2 = 0 then some (σ8, (-1)) else Option.bind (gR shx σ8 11 this 4) fun treaties_9 =>
 Option.bind (aR shx σ8 5 treaties_9 p0) fun r10 =>
 Option.bind (gR shx σ8 11 this 4) fun treaties_11 =>
 Option.bind (gR shx σ8 11 this 5) fun spareTreaty_12 =>
 Option.bind (sR shx σ8 5 treaties_11 p0 spareTreaty_12) fun σ13 =>
 Option.bind (pR shx σ13 11 this 5 r10) fun σ14 =>
 Option.bind (gR shx σ14 11 this 6) fun differences_15 =>
 Option.bind (rcv shx σ14 8 differences_15 (f_X8_forget N σ14 differences_15)) fun q16 =>
 Option.bind (gR shx q16.1 11 this 4) fun treaties_17 =>
 Option.bind (aR shx q16.1 5 treaties_17 p0) fun r18 =>
 Option.bind (gI shx q16.1 7 r18 0) fun lines_19 =>
 some (q16.1, lines_19))))
set_option maxRecDepth 100000 in
set_option maxHeartbeats 4000000 in
theorem c_X11_treaty (l : Launch) (D : va_G) (ca : Nat → ClassId) (ra : Nat → Nat) (N : Nat) (σ : St) (this : Nat) (p0 : Int) : Ctr l (D, ca, ra, shx) false yX11_treaty cX11_treaty 4 (some .int) rm_X11_treaty σ [ar this, ai p0] (f_X11_treaty N σ this p0) := by
  refine ctr_of (by decide) (Nat.le_of_ble_eq_true rfl) (fun z C => ?_)
  show X z 0 0 σ 0 [(0, ar this), (1, ai p0)] [] _
  unfold f_X11_treaty
  refine x_iload_n C 1 (i := 1) (k0 := 1) rfl rfl (by decide +kernel) ?_
  refine x_callSp C (c_X11_isTongue l D ca ra N σ p0) (p_X11_isTongue N σ p0) mt_X11_isTongue ms_X11_isTongue ml_RX11_124 rfl (fun h => Bool.noConfusion h) ⟨Nat.le_of_ble_eq_true rfl, Nat.le_of_ble_eq_true rfl⟩ (Nat.le_of_ble_eq_true rfl) 0 0 ⟨rfl, rfl⟩ ⟨Nat.zero_le _, Nat.zero_le _⟩ (by decide +kernel) _ rfl (fun q1 => [ai q1.2]) (fun _ => rfl) (fun q1 => ?_)
  refine x_if_eq C (tgt := 20) (off := 16) (by decide) (by decide +kernel) (fun h22 => ?_) (fun h22 => ?_)
  · skip
    refine x_bipush C (n := (-2)) (by decide +kernel) (by decide +kernel) ?_
    exact x_iret C ⟨Nat.zero_le _, Nat.zero_le _⟩ (by decide +kernel)
  · skip
    refine x_aload_n C 0 (i := 0) (k0 := 0) rfl rfl (by decide +kernel) ?_
    refine x_gR C fl_RX11_10 (fun _ _ _ => rfl) (by decide +kernel) (fun tape_2 => ?_)
    refine x_gI C fl_RX11_101 (fun _ _ _ => rfl) (by decide +kernel) (fun length_3 => ?_)
    refine x_sipush C (n := 700) (by decide +kernel) (by decide +kernel) ?_
    refine x_ic_le C (tgt := 23) (off := 6) (by decide) (by decide +kernel) (fun h21 => ?_) (fun h21 => ?_)
    · skip
      refine x_aload_n C 0 (i := 0) (k0 := 0) rfl rfl (by decide +kernel) ?_
      refine x_gR C fl_RX11_40 (fun _ _ _ => rfl) (by decide +kernel) (fun spareTreaty_4 => ?_)
      refine x_aload_n C 0 (i := 0) (k0 := 0) rfl rfl (by decide +kernel) ?_
      refine x_gR C fl_RX11_10 (fun _ _ _ => rfl) (by decide +kernel) (fun tape_5 => ?_)
      refine x_callV C (ci := 7) (c_X7_read l D ca ra N σ spareTreaty_4 tape_5) mt_X7_read mv_X7_read rfl ml_RX11_127 rfl (fun h => Bool.noConfusion h) ⟨Nat.le_of_ble_eq_true rfl, Nat.le_of_ble_eq_true rfl⟩ (Nat.le_of_ble_eq_true rfl) 0 0 ⟨rfl, rfl⟩ ⟨Nat.zero_le _, Nat.zero_le _⟩ (by decide +kernel) _ rfl (fun q6 => [ai q6.2]) (fun _ => rfl) (fun q6 => ?_)
      refine x_istore_n C (i := 2) (k0 := 2) rfl (Nat.le_of_ble_eq_true rfl) (by decide +kernel) (lv2 := [(2, ai q6.2), (0, ar this), (1, ai p0)]) rfl ?_
      refine x_aload_n C 1 (i := 0) (k0 := 0) rfl rfl (by decide +kernel) ?_
      refine x_gR C fl_RX11_10 (fun _ _ _ => rfl) (by decide +kernel) (fun tape_7 => ?_)
      show X z 0 0 q6.1 39 [(2, ai q6.2), (0, ar this), (1, ai p0)] [ar tape_7] _
      refine x_iconst C (n := 0) (by decide +kernel) ?_
      refine x_pI C fl_RX11_101 rfl (fun q h => by cases h; rfl) (by decide +kernel) (fun σ8 => ?_)
      refine x_iload_n C 0 (i := 2) (k0 := 2) rfl rfl (by decide +kernel) ?_
      refine x_if_ne C (tgt := 49) (off := 5) (by decide) (by decide +kernel) (fun h20 => ?_) (fun h20 => ?_)
      · skip
        refine x_aload_n C 1 (i := 0) (k0 := 0) rfl rfl (by decide +kernel) ?_
        refine x_gR C fl_RX11_35 (fun _ _ _ => rfl) (by decide +kernel) (fun treaties_9 => ?_)
        refine x_iload_n C 2 (i := 1) (k0 := 1) rfl rfl (by decide +kernel) ?_
        refine x_aldR5 C (by decide +kernel) (fun r10 => ?_)
        refine x_astore_n C (i := 3) (k0 := 3) rfl (Nat.le_of_ble_eq_true rfl) (by decide +kernel) (lv2 := [(3, ar r10), (2, ai q6.2), (0, ar this), (1, ai p0)]) rfl ?_
        refine x_aload_n C 2 (i := 0) (k0 := 0) rfl rfl (by decide +kernel) ?_
        refine x_gR C fl_RX11_35 (fun _ _ _ => rfl) (by decide +kernel) (fun treaties_11 => ?_)
        refine x_iload_n C 3 (i := 1) (k0 := 1) rfl rfl (by decide +kernel) ?_
        show X z 0 0 σ8 61 [(3, ar r10), (2, ai q6.2), (0, ar this), (1, ai p0)] [ai p0, ar treaties_11] _
        refine x_aload_n C 2 (i := 0) (k0 := 0) rfl rfl (by decide +kernel) ?_
        refine x_gR C fl_RX11_40 (fun _ _ _ => rfl) (by decide +kernel) (fun spareTreaty_12 => ?_)
        refine x_astR C (by decide +kernel) (fun σ13 => ?_)
        refine x_aload_n C 2 (i := 0) (k0 := 0) rfl rfl (by decide +kernel) ?_
        refine x_aload_n C 0 (i := 3) (k0 := 3) rfl rfl (by decide +kernel) ?_
        refine x_pR C fl_RX11_40 (Or.inl ⟨_, rfl⟩) (Or.inl (fun q h => by cases h; rfl)) (by decide +kernel) (fun σ14 => ?_)
        refine x_aload_n C 2 (i := 0) (k0 := 0) rfl rfl (by decide +kernel) ?_
        refine x_gR C fl_RX11_47 (fun _ _ _ => rfl) (by decide +kernel) (fun differences_15 => ?_)
        show X z 0 0 σ14 75 [(3, ar r10), (2, ai q6.2), (0, ar this), (1, ai p0)] [ar differences_15] _
        refine x_callV C (ci := 8) (c_X8_forget l D ca ra N σ14 differences_15) mt_X8_forget mv_X8_forget rfl ml_RX11_128 rfl (fun h => Bool.noConfusion h) ⟨Nat.le_of_ble_eq_true rfl, Nat.le_of_ble_eq_true rfl⟩ (Nat.le_of_ble_eq_true rfl) 0 0 ⟨rfl, rfl⟩ ⟨Nat.zero_le _, Nat.zero_le _⟩ (by decide +kernel) _ rfl (fun q16 => []) (fun _ => rfl) (fun q16 => ?_)
        refine x_aload_n C 2 (i := 0) (k0 := 0) rfl rfl (by decide +kernel) ?_
        refine x_gR C fl_RX11_35 (fun _ _ _ => rfl) (by decide +kernel) (fun treaties_17 => ?_)
        refine x_iload_n C 3 (i := 1) (k0 := 1) rfl rfl (by decide +kernel) ?_
        refine x_aldR5 C (by decide +kernel) (fun r18 => ?_)
        refine x_gI C fl_RX11_129 (fun _ _ _ => rfl) (by decide +kernel) (fun lines_19 => ?_)
        exact x_iret C ⟨Nat.zero_le _, Nat.zero_le _⟩ (by decide +kernel)
      · skip
        refine x_iconst C (n := (-1)) (by decide +kernel) ?_
        exact x_iret C ⟨Nat.zero_le _, Nat.zero_le _⟩ (by decide +kernel)
    · skip
      refine x_bipush C (n := (-2)) (by decide +kernel) (by decide +kernel) ?_
      exact x_iret C ⟨Nat.zero_le _, Nat.zero_le _⟩ (by decide +kernel)
