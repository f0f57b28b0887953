/-! a pure machine over whole numbers: states, cells, and what a heap holds of them -/
abbrev AV : Type := Int ⊕ (Int ⊕ (Nat ⊕ Nat))
abbrev ai (z : Int) : AV := .inl z
abbrev al (z : Int) : AV := .inr (.inl z)
abbrev ar (k : Nat) : AV := .inr (.inr (.inl k))
abbrev ao (k : Nat) : AV := .inr (.inr (.inr k))
def adr (b k : Nat) : Option Nat := if k = 0 then none else some (b + k)
def cv (b : Nat) (ra : Nat → Nat) (v : AV) : Value := match v with
  | .inl z => .int (Int32.ofInt z)
  | .inr (.inl z) => .long (Int64.ofInt z)
  | .inr (.inr (.inl k)) => va_rf (adr b k)
  | .inr (.inr (.inr k)) => .ref (ra k)
def cat (v : AV) : Nat := match v with
  | .inr (.inl _) => 2
  | _ => 1
theorem va_rf_cat (r : Option Nat) : (va_rf r).category = 1 := by cases r <;> rfl
theorem cv_cat (b : Nat) (ra : Nat → Nat) (v : AV) : (cv b ra v).category = cat v := by
  rcases v with z | z | k | k
  · rfl
  · rfl
  · exact va_rf_cat _
  · rfl
/-- cells so far, whole numbers in them, references in them (0: null, k: the k'th cell) -/
abbrev St : Type := Nat × (Nat → Int → Int) × (Nat → Int → Nat)
/-- a cell's shape: 0 and its class; or 1 int[], 2 long[], 3 boolean[], 4 byte[], 5 Treaty[], 6 int[][], and its length -/
abbrev Sp : Type := Nat × Nat
def shp (S : List Sp) (k : Nat) : Sp := S.getD k (9, 9)
def wr (z : Int) : Int := (z + 2147483648) % 4294967296 - 2147483648
def wl (z : Int) : Int := (z + 9223372036854775808) % 18446744073709551616 - 9223372036854775808
def wb (z : Int) : Int := (z + 128) % 256 - 128
def wz (z : Int) : Int := z % 2
theorem wr_i (z : Int) : (Int32.ofInt z).toInt = wr z := by
  rw [Int32.toInt_ofInt]
  unfold wr
  rw [Int.bmod_def, show (Int32.size : Int) = 4294967296 from rfl]
  split <;> omega
theorem wl_l (z : Int) : (Int64.ofInt z).toInt = wl z := by
  rw [Int64.toInt_ofInt]
  unfold wl
  rw [Int.bmod_def, show (Int64.size : Int) = 18446744073709551616 from rfl]
  split <;> omega
theorem i_wr (z : Int) : Int32.ofInt (wr z) = Int32.ofInt z := by
  rw [← wr_i]; exact Int32.ofInt_toInt _
theorem l_wl (z : Int) : Int64.ofInt (wl z) = Int64.ofInt z := by
  rw [← wl_l]; exact Int64.ofInt_toInt _
theorem wr_id {z : Int} (h1 : -2147483648 ≤ z) (h2 : z < 2147483648) : wr z = z := by unfold wr; omega
theorem wl_id {z : Int} (h1 : -9223372036854775808 ≤ z) (h2 : z < 9223372036854775808) : wl z = z := by unfold wl; omega
theorem wr_lo (z : Int) : -2147483648 ≤ wr z := by unfold wr; omega
theorem wr_hi (z : Int) : wr z < 2147483648 := by unfold wr; omega
theorem wr_wr (z : Int) : wr (wr z) = wr z := wr_id (wr_lo z) (wr_hi z)
/-- a place in a row -/
theorem vp_in_wr {z : Int} {n : Nat} (h0 : 0 ≤ wr z) (h1 : wr z < n) : vp_in (Int32.ofInt z) n := by
  rw [vp_in_iff, wr_i]; exact ⟨h0, h1⟩
theorem nat_wr {z : Int} (h0 : 0 ≤ wr z) : ((Int32.ofInt z).toNatClampNeg : Int) = wr z := by
  rw [← wr_i] at h0 ⊢
  unfold Int32.toNatClampNeg
  exact Int.toNat_of_nonneg h0
def nF (ci : Nat) : Nat := match classes[ci]? with
  | some q => q.2.2
  | none => 0
def fval (b : Nat) (ty : FieldType) (i : Int) (r : Nat) : Value := match ty with
  | .long => .long (Int64.ofInt i)
  | .object _ => va_rf (adr b r)
  | .array _ => va_rf (adr b r)
  | _ => .int (Int32.ofInt i)
def ofl (b ci : Nat) (I : Int → Int) (R : Int → Nat) : List Value := (List.range (nF ci)).map (fun j => fval b (tyC ci j) (I j) (R j))
def cellE (b : Nat) (ca : Nat → ClassId) (s : Sp) (I : Int → Int) (R : Int → Nat) : va_E := match s.1 with
  | 0 => .inr (s.2, ofl b s.2 I R)
  | 1 => .inl (ca 1, s.2, .inl (fun j => Int32.ofInt (I j)))
  | 2 => .inl (ca 2, s.2, .inr (.inl (fun j => Int64.ofInt (I j))))
  | 3 => .inl (ca 3, s.2, .inl (fun j => vp_nar .boolean (Int32.ofInt (I j))))
  | 4 => .inl (ca 4, s.2, .inl (fun j => vp_nar .byte (Int32.ofInt (I j))))
  | k => .inl (ca k, s.2, .inr (.inr (.inr (.inr (fun j => adr b (R j))))))
def TYS (ca : Nat → ClassId) : List (ClassId × FieldType) := [(ca 1, .int), (ca 2, .long), (ca 3, .boolean), (ca 4, .byte), (ca 5, .object "FastPlane$Treaty"), (ca 6, .array .int)]
/-- the k'th cell stands in the heap -/
def cAt (D : va_G) (ca : Nat → ClassId) (S : List Sp) (b : Nat) (σ : St) (k : Nat) (H : Heap) : Prop := va_at D classes (b + k, cellE b ca (shp S k) (σ.2.1 k) (σ.2.2 k)) H
def Rp (D : va_G) (ca : Nat → ClassId) (S : List Sp) (b hs : Nat) (σ : St) (H : Heap) : Prop := (b < hs ∧ shp S 0 = (9, 9)) ∧ H.size = hs + σ.1 ∧ ∀ k, 1 ≤ k → k ≤ σ.1 → cAt D ca S b σ k H
/-- where a method may write: the world's own range, and what is new -/
def zA (S : List Sp) (b sz : Nat) : Nat → Prop := fun q => (b < q ∧ q < b + S.length) ∨ sz ≤ q
/-- the nest mates' links -/
def nestL : List (String × Nat × MethodName × String) := [("FastPlane", 18, ⟨"FastPlane$Machine", "<init>", "()V"⟩, "FastPlane"), ("FastPlane", 28, ⟨"FastPlane$Mender", "<init>", "()V"⟩, "FastPlane"), ("FastPlane", 53, ⟨"FastPlane$Facts", "<init>", "()V"⟩, "FastPlane"), ("FastPlane", 60, ⟨"FastPlane$Flight", "<init>", "()V"⟩, "FastPlane"), ("FastPlane", 67, ⟨"FastPlane$Ways", "<init>", "()V"⟩, "FastPlane"), ("FastPlane", 74, ⟨"FastPlane$Airlines", "<init>", "()V"⟩, "FastPlane"), ("FastPlane", 81, ⟨"FastPlane$Works", "<init>", "()V"⟩, "FastPlane"), ("FastPlane", 88, ⟨"FastPlane$Stages", "<init>", "()V"⟩, "FastPlane"), ("FastPlane$Tape", 81, ⟨"FastPlane", "within", "(III)Z"⟩, "FastPlane"), ("FastPlane$Machine", 81, ⟨"FastPlane", "within", "(III)Z"⟩, "FastPlane"), ("FastPlane$Treaty", 59, ⟨"FastPlane", "within", "(III)Z"⟩, "FastPlane"), ("FastPlane$Mender", 61, ⟨"FastPlane", "within", "(III)Z"⟩, "FastPlane"), ("FastPlane$Unlike", 21, ⟨"FastPlane", "isTongue", "(I)Z"⟩, "FastPlane"), ("FastPlane$Facts", 39, ⟨"FastPlane", "within", "(III)Z"⟩, "FastPlane"), ("FastPlane$Flight", 38, ⟨"FastPlane", "within", "(III)Z"⟩, "FastPlane"), ("FastPlane$Ways", 31, ⟨"FastPlane", "within", "(III)Z"⟩, "FastPlane"), ("FastPlane$Airlines", 37, ⟨"FastPlane", "within", "(III)Z"⟩, "FastPlane"), ("FastPlane$Works", 27, ⟨"FastPlane", "within", "(III)Z"⟩, "FastPlane"), ("FastPlane$Stages", 23, ⟨"FastPlane", "within", "(III)Z"⟩, "FastPlane")]
def NWs (U : State) : Prop := ∀ q ∈ nestL, va_Nw (.methodLinkNest q.1 q.2.1 q.2.2.1 q.2.2.2) U
theorem NWs.warm {s U : State} (hW : s.WarmedH U.vm) (h : NWs s) : NWs U := fun q hq => (h q hq).warmM hW
theorem NWs.same {u U : State} (h : u.vm = U.vm) (hZ : NWs u) : NWs U := fun q hq => (hZ q hq).same rfl h

/-- what never changes: the texts, the weights, two statics of the library -/
def lenT : List Nat := [72, 103, 9]
def txtT (i : Nat) : String := match i with
  | 0 => "part by long cm inch grows costs join gap moves after tank at holds row "
  | 1 => "share leave fly keep when and or not land cost month over ground hour speed airline shown others price "
  | _ => ";()<>=+-*"
def bytT : List (List Int32) := [0, 1, 2].map (fun i => (txtT i).toList.map (fun c => Int32.ofNat c.toNat))
def wtT (j : Nat) : Value := .int (match j with
  | 0 => 16
  | 1 => 1
  | _ => 0)
def SF (A : Nat → Prop) (ra : Nat → Nat) (U : State) (H : Heap) : Prop :=
  vk_S 3 lenT bytT ra (fun i => ra (10 + i)) A U H ∧ (vk_R "FastPlane$Tape" 32 (txtT 0) (ra 0) U ∧ vk_R "FastPlane$Tape" 38 (txtT 1) (ra 1) U ∧ vk_R "FastPlane$Tape" 125 (txtT 2) (ra 2) U) ∧
  (va_Z "FastPlane$Flight" "WEIGHT" "[I" (.ref (ra 20)) A U H ∧ va_T .int (ra 20) 3 wtT A U H) ∧
  va_Z "java/lang/String" "COMPACT_STRINGS" "Z" (.int 1) A U H ∧ va_Zq "jdk/internal/util/Preconditions" "SIOOBE_FORMATTER" "Ljava/util/function/BiFunction;" A U H
theorem SF.go {A B : Nat → Prop} {ra : Nat → Nat} {s U : State} {H H1 : Heap} (hW : s.WarmedH U.vm) (hq : ∀ a : Nat, a < H.size → ¬ A a → H1[a]? = H[a]?) (hAB : ∀ q, B q → A q) (h : SF A ra s H) : SF B ra U H1 := by
  obtain ⟨h1, ⟨h2, h3, h4⟩, ⟨h5, h6⟩, h7, h8⟩ := h
  have hv := hW.alike
  exact ⟨((h1.kept hq).moved hv).narrow hAB, ⟨h2.warm hW, h3.warm hW, h4.warm hW⟩, ⟨((h5.kept hq).moved hv).narrow hAB, ((h6.kept hq).moved hv).narrow hAB⟩, ((h7.kept hq).moved hv).narrow hAB, ((h8.kept hq).moved hv).narrow hAB⟩
theorem SF.same {A : Nat → Prop} {ra : Nat → Nat} {u U : State} {H : Heap} (hv : u.vm = U.vm) (h : SF A ra u H) : SF A ra U H := by
  obtain ⟨h1, ⟨h2, h3, h4⟩, ⟨h5, h6⟩, h7, h8⟩ := h
  have ha : u.vm.Alike U.vm := by rw [hv]; exact Vm.Alike.refl _
  exact ⟨h1.moved ha, ⟨h2.same hv.symm, h3.same hv.symm, h4.same hv.symm⟩, ⟨h5.moved ha, h6.moved ha⟩, h7.moved ha, h8.moved ha⟩
def lcv (b : Nat) (ra : Nat → Nat) (l : List (Nat × AV)) : List (Nat × Value) := l.map (fun q => (q.1, cv b ra q.2))
def aargs : Nat → List AV → List (Nat × AV)
  | _, [] => []
  | i, v :: vs => (i, v) :: aargs (if cat v = 2 then i + 2 else i + 1) vs
theorem lcv_args (b : Nat) (ra : Nat → Nat) : ∀ (av : List AV) (i : Nat), lv_args i (av.map (cv b ra)) = lcv b ra (aargs i av)
  | [], _ => rfl
  | v :: vs, i => by
    show (i, cv b ra v) :: lv_args _ (vs.map (cv b ra)) = (i, cv b ra v) :: lcv b ra (aargs _ vs)
    rw [lcv_args b ra vs, cv_cat]
def asz (av : List AV) : Nat := (av.map cat).sum
theorem asz_sl (b : Nat) (ra : Nat → Nat) : ∀ av : List AV, (lg_sl (av.map (cv b ra))).length = asz av
  | [] => rfl
  | v :: vs => by
    have ih := asz_sl b ra vs
    unfold lg_sl at ih ⊢
    rw [List.map_cons, List.flatMap_cons, List.length_append, ih, cv_cat]
    unfold asz
    rw [List.map_cons, List.sum_cons]
    have : cat v = 1 ∨ cat v = 2 := by rcases v with z | z | k | k <;> simp [cat]
    rcases this with h | h <;> rw [h] <;> simp
/-- what a method answers -/
def cR (ret : Option FieldType) (r : Int) : Option Value := match ret with
  | none => none
  | some .long => some (.long (Int64.ofInt r))
  | some _ => some (.int (Int32.ofInt r))
def PcC (D : va_G) (ca : Nat → ClassId) (ra : Nat → Nat) (S : List Sp) (b hs : Nat) (σ : St) (av : List AV) : Array Value → State → Prop :=
  va_Pc (av.map (cv b ra)) (fun U => Rp D ca S b hs σ U.heap ∧ va_K D classes (TYS ca) U ∧ NWs U ∧ SF (zA S b U.heap.size) ra U U.heap)
def QcC (D : va_G) (ca : Nat → ClassId) (S : List Sp) (b hs : Nat) (ret : Option FieldType) (σ : St) (r : Int) : Array Value → State → Outcome → State → Prop :=
  fun _ st o t => o = .returned (cR ret r) ∧ Rp D ca S b hs σ t.heap ∧ va_F (zA S b st.heap.size) st t
def wsM (y : MethodName) (cc : ByteArray) (maxL : Nat) (ret : Option FieldType) : List Cond := .code y cc maxL ret :: TB
abbrev Vt : Type := va_G × (Nat → ClassId) × (Nat → Nat) × List Sp
/-- a method's contract: where its program answers, it returns, with that answer and that state -/
def Ctr (l : Launch) (w : Vt) (tg : Bool) (y : MethodName) (cc : ByteArray) (maxL : Nat) (ret : Option FieldType) (rm : Room) (σ : St) (av : List AV) (P : Option (St × Int)) : Prop :=
  ∀ (b hs : Nat), (tg = true → hs = b + 1) → ∀ (σ' : St) (r : Int), P = some (σ', r) → Met l y (wsM y cc maxL ret) rm (PcC w.1 w.2.1 w.2.2.1 w.2.2.2 b hs σ av) (QcC w.1 w.2.1 w.2.2.2 b hs ret σ' r) rm.cells rm.slots (zA w.2.2.2 b (hs + σ.1))
abbrev Zt : Type := Program × Launch × Env × Room × State × MethodId × Array Value × List Frame × Method × Code × Vt × Nat × Nat × Nat × Option FieldType
def X (z : Zt) (cs ss : Nat) (σ : St) (pc : Nat) (l : List (Nat × AV)) (st : List AV) (P : Option (St × Int)) : Prop := match z with
  | (p, le, e, R, s, m, args, below, meth, c, (D, ca, ra, S), b, hs, nL, ret) => ∀ (σ' : St) (r : Int), P = some (σ', r) → ∀ (H : Heap) (locs : List Loc) (ls : Array Slot), Rp D ca S b hs σ H → va_S (zA S b s.heap.size) s.heap H locs → lv_has ls nL (lcv b ra l) →
    W p le e R s m args below meth c H locs cs ss (MQ below (QcC D ca S b hs ret σ' r) args s R.cells R.slots (zA S b s.heap.size)) (F0 m pc ls (st.map (cv b ra)))
def Cx (z : Zt) (l : Launch) (w : Vt) (y : MethodName) (cc : ByteArray) (nL0 : Nat) (ret0 : Option FieldType) (tg : Bool) (rm : Room) : Prop := match z with
  | (p, le, e, R, s, m, args, below, meth, c, (D, ca, ra, S), b, hs, nL, ret) => (p.tables.exec = Jvm.exec ∧ c.code = cc ∧ c.maxLocals = nL ∧ s.vm.findClass y.cls = some m.cls) ∧ (∀ w ∈ TB, w.before args s = true) ∧ (meth.sig.returnType = ret ∧ meth.locks = false ∧ meth.name = y.name) ∧ (va_K D classes (TYS ca) s ∧ NWs s ∧ SF (zA S b s.heap.size) ra s s.heap) ∧ (nL = nL0 ∧ ret = ret0 ∧ R = rm ∧ le = l ∧ w = (D, ca, ra, S)) ∧ (tg = true → hs = b + 1)
theorem ctr_of {l : Launch} {w : Vt} {tg : Bool} {y : MethodName} {cc : ByteArray} {maxL : Nat} {ret : Option FieldType} {rm : Room} {σ : St} {av : List AV} {P : Option (St × Int)} (hy : plainName y.cls = true) (ha : asz av ≤ maxL)
    (h : ∀ z : Zt, Cx z l w y cc maxL ret tg rm → X z 0 0 σ 0 (aargs 0 av) [] P) : Ctr l w tg y cc maxL ret rm σ av P := by
  obtain ⟨D, ca, ra, S⟩ := w
  intro b hs htg σ' r hP
  refine Met.ofW (cc := cc) (maxL := maxL) (ret := ret) hy rfl ?_
  intro p e s m args below meth c s₁ B hml hv
  obtain ⟨rfl, hR, hK, hN, hF⟩ := hv
  have hts := atoms_spec (ws := wsM y cc maxL ret) B.pre
  have hz : s.heap.size = hs + σ.1 := hR.2.1
  have hl := lv_entry (av.map (cv b ra)) (n := maxL) (by rw [asz_sl]; exact ha)
  rw [lcv_args] at hl
  have k := h (p, l, e, (headSpec (wsM y cc maxL ret) rm).room, s, m, _, below, meth, c, (D, ca, ra, S), b, hs, maxL, ret)
    ⟨⟨B.exec, B.bytes, hml, findClass_of_methodNamed B.named⟩, fun w hw => hts w (List.mem_cons_of_mem _ hw), ⟨B.returns, B.notSynchronized, (name_of_methodNamed B.named B.method).1⟩, ⟨hK, hN, hF⟩, ⟨rfl, rfl, rfl, rfl, rfl⟩, htg⟩ σ' r hP s.heap [] _ hR va_S.rf hl
  rw [lg_entry_eq, ← hz]
  exact k
