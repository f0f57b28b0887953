/-! rows of new cells and of constructors -/
def AOs (U : State) : Prop := va_AO "FastPlane$Treaty" U ∧ (Cond.arrayOver (.array .int)).before #[] U = true
theorem AOs.moved {s U : State} (hvm : s.vm.Alike U.vm) (h : AOs s) : AOs U := by
  refine ⟨va_AO.moved hvm h.1, ?_⟩
  have e := Cond.arrayOver_setVmC (args := #[]) hvm (.array .int)
  have h2 : (Cond.arrayOver (.array .int)).before #[] (s.setVm U.vm) = true := by rw [e]; exact h.2
  exact h2
def AOz (z : Zt) : Prop := match z with
  | (_, _, _, _, s, _) => AOs s
def PcN (D : va_G) (ca : Nat → ClassId) (ra : Nat → Nat) (S : List Sp) (b hs : Nat) (σ : St) (av : List AV) : Array Value → State → Prop := fun v U => PcC D ca ra S b hs σ av v U ∧ AOs U
def CtrN (l : Launch) (w : Vt) (y : MethodName) (cc : ByteArray) (maxL : Nat) (ret : Option FieldType) (rm : Room) (σ : St) (av : List AV) (P : Option (St × Int)) : Prop :=
  ∀ (b hs : Nat), hs = b + 1 → ∀ (σ' : St) (r : Int), P = some (σ', r) → Met l y (wsM y cc maxL ret) rm (PcN w.1 w.2.1 w.2.2.1 w.2.2.2 b hs σ av) (QcC w.1 w.2.1 w.2.2.2 b hs ret σ' r) rm.cells rm.slots (zA w.2.2.2 b (hs + σ.1))
theorem ctrN_of {l : Launch} {w : Vt} {y : MethodName} {cc : ByteArray} {maxL : Nat} {ret : Option FieldType} {rm : Room} {σ : St} {av : List AV} {P : Option (St × Int)} (hy : plainName y.cls = true) (ha : asz av ≤ maxL)
    (h : ∀ z : Zt, Cx z l w y cc maxL ret true rm → AOz z → X z 0 0 σ 0 (aargs 0 av) [] P) : CtrN l w y cc maxL ret rm σ av P := by
  obtain ⟨D, ca, ra, S⟩ := w
  intro b hs htg σ' r hP
  refine Met.ofW (cc := cc) (maxL := maxL) (ret := ret) hy rfl ?_
  intro p e s m args below meth c s₁ B hml hv
  obtain ⟨⟨rfl, hR, hK, hN, hF⟩, hO⟩ := hv
  have hts := atoms_spec (ws := wsM y cc maxL ret) B.pre
  have hz : s.heap.size = hs + σ.1 := hR.2.1
  have hl := lv_entry (av.map (cv b ra)) (n := maxL) (by rw [asz_sl]; exact ha)
  rw [lcv_args] at hl
  have k := h (p, l, e, (headSpec (wsM y cc maxL ret) rm).room, s, m, _, below, meth, c, (D, ca, ra, S), b, hs, maxL, ret)
    ⟨⟨B.exec, B.bytes, hml, findClass_of_methodNamed B.named⟩, fun w hw => hts w (List.mem_cons_of_mem _ hw), ⟨B.returns, B.notSynchronized, (name_of_methodNamed B.named B.method).1⟩, ⟨hK, hN, hF⟩, ⟨rfl, rfl, rfl, rfl, rfl⟩, fun _ => htg⟩ hO σ' r hP s.heap [] _ hR va_S.rf hl
  rw [lg_entry_eq, ← hz]
  exact k
/-- a new cell -/
def nwC (S : List Sp) (σ : St) (sp : Sp) : Option St := if shp S (σ.1 + 1) = sp then some (σ.1 + 1, (fun k j => if k = σ.1 + 1 then 0 else σ.2.1 k j), fun k j => if k = σ.1 + 1 then 0 else σ.2.2 k j) else none
theorem Rp.new {D : va_G} {ca : Nat → ClassId} {S : List Sp} {b hs : Nat} {σ τ : St} {H H1 : Heap} (h : Rp D ca S b hs σ H) (h1 : τ.1 = σ.1 + 1) (hI : ∀ k, k ≤ σ.1 → τ.2.1 k = σ.2.1 k) (hRr : ∀ k, k ≤ σ.1 → τ.2.2 k = σ.2.2 k) (hz : H1.size = H.size + 1) (hq : ∀ q : Nat, q < H.size → H1[q]? = H[q]?) (hk : cAt D ca S b τ (σ.1 + 1) H1) : Rp D ca S b hs τ H1 := by
  refine ⟨h.1, by rw [hz, h1, h.2.1]; omega, fun k a1 a2 => ?_⟩
  by_cases e : k = σ.1 + 1
  · rw [e]; exact hk
  · have hk1 : k ≤ σ.1 := by omega
    have h3 := h.2.2 k a1 hk1
    unfold cAt at h3 ⊢
    rw [hI k hk1, hRr k hk1]
    exact va_at.kept h3 (hq _ (va_at.lt h3))
theorem va_S.new1 {A : Nat → Prop} {H0 H H1 : Heap} {locs : List Loc} (h : va_S A H0 H locs) (hz : H.size ≤ H1.size) (hq : ∀ q : Nat, q < H.size → H1[q]? = H[q]?) : va_S A H0 H1 locs :=
  ⟨Nat.le_trans h.1 hz, fun q h1 h2 => (hq q (Nat.lt_of_lt_of_le h1 h.1)).trans (h.2.1 q h1 h2), h.2.2⟩
theorem fval_def {ty : FieldType} {b : Nat} (h : ty ≠ .float ∧ ty ≠ .double) : fval b ty 0 0 = defaultValue ty := by
  cases ty <;> first | rfl | exact absurd rfl h.1 | exact absurd rfl h.2
def NWk (own : String) (index ci N : Nat) : Prop := ∃ q : vw_C, classes[ci]? = some q ∧ q.2.2 = N ∧ Cond.classLink own index q.1 ∈ TB ∧ Cond.instantiable q.1 N ∈ TB ∧ Cond.initialized q.1 ∈ TB ∧ ∀ j, j < N → tyC ci j ≠ .float ∧ tyC ci j ≠ .double
def OIk (own : String) (index : Nat) : Prop := Cond.methodLink own index Lib.objectInit ∈ TB ∧ Cond.instanceMethod Lib.objectInit ∈ TB ∧ Cond.code Lib.objectInit ⟨#[0xb1]⟩ 1 none ∈ TB
section Rows
variable {z : Zt} {l : Launch} {w : Vt} {y : MethodName} {cc : ByteArray} {nL : Nat} {ret : Option FieldType} {tg : Bool} {rm : Room} {cs ss pc : Nat} {σ : St} {lv : List (Nat × AV)} {st : List AV} {P : Option (St × Int)}
theorem x_widen {cs2 ss2 : Nat} (h : cs ≤ cs2 ∧ ss ≤ ss2) (k : X z cs2 ss2 σ pc lv st P) : X z cs ss σ pc lv st P := by
  obtain ⟨p, le, e, R, s, m, args, below, meth, c, ⟨D, ca, ra, S⟩, b, hs, nL1, rt⟩ := z
  intro σ' r hP H locs ls hR hS hl
  exact W.widen h.1 h.2 (k σ' r hP H locs ls hR hS hl)
theorem x_loopC {T : Type} {N : Nat} {F : (T → Option (St × Int)) → T → Option (St × Int)} (sg : T → St) (lv : T → List (Nat × AV)) (csF ssF : T → Nat) (Inv : T → Prop) (t : T) (hi : Inv t) (hP : P = fixN N F t) (h : ∀ (back : T → Option (St × Int)), (∀ t, Inv t → X z (csF t) (ssF t) (sg t) pc (lv t) [] (back t)) → ∀ t, Inv t → X z (csF t) (ssF t) (sg t) pc (lv t) [] (F back t)) : X z (csF t) (ssF t) (sg t) pc (lv t) [] P := by
  subst hP
  induction N generalizing t with
  | zero => exact x_no
  | succ n ih => exact h _ (fun t ht => ih t ht) t hi
theorem x_objInit (C : Cx z l w y cc nL ret tg rm) {index k : Nat} (hq : OIk y.cls index) (hk : k ≠ 0) (hRm : 1 ≤ rm.frames ∧ (st.map cat).sum + 12 ≤ rm.locals) (hd : decode cc pc = .ok (.invokespecial index, 3)) (kk : X z cs ss σ (pc + 3) lv st P) : X z cs ss σ pc lv (ar k :: st) P := by
  obtain ⟨p, le, e, R, s, m, args, below, meth, c, ⟨D, ca, ra, S⟩, b, hs, nL1, rt⟩ := z
  obtain ⟨⟨hx, hb, hml, hown⟩, hts, ⟨hr, hlk, hnm⟩, ⟨hK, hN, hF⟩, ⟨rfl, rfl, rfl, rfl, rfl⟩, htg⟩ := C
  intro σ' r hP H locs ls hR hS hl
  rw [List.map_cons, cv_ar hk]
  exact W.objInit hx hb hown (hts _ hq.1) (hts _ hq.2.1) (hts _ hq.2.2) rfl (hl.1.trans hml.symm) rfl hd hRm.1 (by show 2 * 0 + _ + 12 ≤ _; rw [List.map_map, show ((fun v : Value => v.category) ∘ cv b ra) = cat from funext (cv_cat b ra)]; have := hRm.2; omega) (kk σ' r hP H locs ls hR hS hl)
theorem x_new (C : Cx z l w y cc nL ret true rm) {index ci N : Nat} {f : St → Option (St × Int)} (hq : NWk y.cls index ci N) (cs2 ss2 : Nat) (hcs2 : cs + 1 = cs2 ∧ ss + N = ss2) (hcs3 : cs2 ≤ rm.cells ∧ ss2 ≤ rm.slots) (hd : decode cc pc = .ok (.new index, 3)) (kk : ∀ τ : St, τ.1 ≠ 0 → X z cs2 ss2 τ (pc + 3) lv (ar τ.1 :: st) (f τ)) : X z cs ss σ pc lv st (Option.bind (nwC w.2.2.2 σ (0, ci)) f) := by
  obtain ⟨rfl, rfl⟩ := hcs2
  unfold nwC
  by_cases h : shp w.2.2.2 (σ.1 + 1) = (0, ci)
  · rw [if_pos h]
    have k1 := kk (σ.1 + 1, (fun k j => if k = σ.1 + 1 then 0 else σ.2.1 k j), fun k j => if k = σ.1 + 1 then 0 else σ.2.2 k j) (Nat.succ_ne_zero _)
    obtain ⟨p, le, e, R, s, m, args, below, meth, c, ⟨D, ca, ra, S⟩, b, hs, nL1, rt⟩ := z
    obtain ⟨⟨hx, hb, hml, hown⟩, hts, ⟨hr, hlk, hnm⟩, ⟨hK, hN, hF⟩, ⟨rfl, rfl, rfl, rfl, rfl⟩, htg⟩ := C
    intro σ' r hP H locs ls hR hS hl
    obtain ⟨q, hq1, hq2, hq3, hq4, hq5, hq6⟩ := hq
    subst hq2
    obtain ⟨hty, -, hin⟩ := ty_all ci q hq1
    have hhs := htg rfl
    have hKn := hK.1 ci _ hq1
    refine W.newcK hx hb hown (hts _ hq3) (hts _ hq4) (hts _ hq5) rfl hd hcs3.1 hcs3.2 hKn.2.1 rfl fun H1 kC hkC e1 z1 o1 => ?_
    have hadr : H.size = b + (σ.1 + 1) := by rw [hR.2.1]; omega
    have hk9 : ∀ k, k ≤ σ.1 → ¬ k = σ.1 + 1 := fun k hk => by omega
    have k2 := k1 σ' r hP H1 locs ls (hR.new rfl (fun k hk => funext fun j => if_neg (hk9 k hk)) (fun k hk => funext fun j => if_neg (hk9 k hk)) z1 o1 ?_) (hS.new1 (by omega) o1) hl
    · rw [List.map_cons, cv_ar (Nat.succ_ne_zero _), ← hadr] at k2
      exact k2
    · unfold cAt
      rw [cell_obj h, ← hadr]
      refine ⟨_, hq1, (u_born (tyC ci) hts hin hKn hkC e1 hty).to (fun j hj => ?_)⟩
      have hjn : j < nF ci := by rw [nF_eq hq1]; exact hj
      show _ = (ofl b ci _ _).getD j .null
      rw [List.getD_eq_getElem?_getD, ofl_at hjn]
      show defaultValue (tyC ci j) = fval b (tyC ci j) (if σ.1 + 1 = σ.1 + 1 then 0 else σ.2.1 (σ.1 + 1) j) (if σ.1 + 1 = σ.1 + 1 then 0 else σ.2.2 (σ.1 + 1) j)
      rw [if_pos rfl, if_pos rfl, fval_def (hq6 j hj)]
  · rw [if_neg h]; exact x_no
theorem x_newarr (C : Cx z l w y cc nL ret true rm) {t N : Nat} {n : Int} {at9 : ArrayType} {f : St → Option (St × Int)} (ht : (t = 1 ∧ at9 = .int) ∨ (t = 2 ∧ at9 = .long) ∨ (t = 3 ∧ at9 = .boolean) ∨ (t = 4 ∧ at9 = .byte)) (hw : Cond.arrayClass (newarray.typeOf at9) ∈ TB) (hn : wr n = (N : Int)) (hN : N ≤ 1000000) (cs2 ss2 : Nat) (hcs2 : cs + 1 = cs2 ∧ ss + N = ss2) (hcs3 : cs2 ≤ rm.cells ∧ ss2 ≤ rm.slots) (hd : decode cc pc = .ok (.newarray at9, 2)) (kk : ∀ τ : St, X z cs2 ss2 τ (pc + 2) lv (ar τ.1 :: st) (f τ)) : X z cs ss σ pc lv (ai n :: st) (Option.bind (nwC w.2.2.2 σ (t, N)) f) := by
  obtain ⟨rfl, rfl⟩ := hcs2
  unfold nwC
  by_cases h : shp w.2.2.2 (σ.1 + 1) = (t, N)
  · rw [if_pos h]
    have k1 := kk (σ.1 + 1, (fun k j => if k = σ.1 + 1 then 0 else σ.2.1 k j), fun k j => if k = σ.1 + 1 then 0 else σ.2.2 k j)
    obtain ⟨p, le, e, R, s, m, args, below, meth, c, ⟨D, ca, ra, S⟩, b, hs, nL1, rt⟩ := z
    obtain ⟨⟨hx, hb, hml, hown⟩, hts, ⟨hr, hlk, hnm⟩, ⟨hK, hN9, hF⟩, ⟨rfl, rfl, rfl, rfl, rfl⟩, htg⟩ := C
    intro σ' r hP H locs ls hR hS hl
    have hhs := htg rfl
    have hcl : (Int32.ofInt n).toNatClampNeg = N := by
      have := nat_wr (z := n) (by omega)
      omega
    have hneg : ¬ Int32.ofInt n < 0 := by
      rw [show (0 : Int32) = Int32.ofInt 0 from rfl, i_lt, hn, show wr 0 = 0 from rfl]; omega
    refine va_newaK hx hb (hts _ hw) rfl hd rfl hneg hcl (by rcases ht with ⟨-, rfl⟩ | ⟨-, rfl⟩ | ⟨-, rfl⟩ | ⟨-, rfl⟩ <;> (show N * _ ≤ _; simp only [newarray.typeOf, componentBytes]; omega)) hcs3.1 hcs3.2 rfl fun H1 cA9 e1 z1 o1 hAr hNm => ?_
    have hadr : H.size = b + (σ.1 + 1) := by rw [hR.2.1]; omega
    have hk9 : ∀ k, k ≤ σ.1 → ¬ k = σ.1 + 1 := fun k hk => by omega
    have k2 := k1 σ' r hP H1 locs ls (hR.new rfl (fun k hk => funext fun j => if_neg (hk9 k hk)) (fun k hk => funext fun j => if_neg (hk9 k hk)) z1 o1 ?_) (hS.new1 (by omega) o1) hl
    · rw [List.map_cons, cv_ar (Nat.succ_ne_zero _), ← hadr] at k2
      exact k2
    · have h1 : (shp S (σ.1 + 1)).1 = t := by rw [h]
      have ht4 : t = 1 ∨ t = 2 ∨ t = 3 ∨ t = 4 := by rcases ht with ⟨q, -⟩ | ⟨q, -⟩ | ⟨q, -⟩ | ⟨q, -⟩ <;> omega
      refine (at_arr h1 ht4).mpr ?_
      rw [← hadr, e1, h]
      have ec : cA9 = ca t := by
        rcases ht with ⟨rfl, rfl⟩ | ⟨rfl, rfl⟩ | ⟨rfl, rfl⟩ | ⟨rfl, rfl⟩
        · exact Option.some.inj (hNm.symm.trans (hK.2 0 _ rfl).2)
        · exact Option.some.inj (hNm.symm.trans (hK.2 1 _ rfl).2)
        · exact Option.some.inj (hNm.symm.trans (hK.2 2 _ rfl).2)
        · exact Option.some.inj (hNm.symm.trans (hK.2 3 _ rfl).2)
      subst ec
      congr 2
      funext j
      show _ = cA t (if σ.1 + 1 = σ.1 + 1 then 0 else σ.2.1 (σ.1 + 1) j)
      rw [if_pos rfl]
      rcases ht with ⟨rfl, rfl⟩ | ⟨rfl, rfl⟩ | ⟨rfl, rfl⟩ | ⟨rfl, rfl⟩ <;> rfl
  · rw [if_neg h]; exact x_no
theorem x_newTr (C : Cx z l w y cc nL ret true rm) (O : AOz z) {index N : Nat} {n : Int} {f : St → Option (St × Int)} (hw : Cond.classLink y.cls index "FastPlane$Treaty" ∈ TB) (hn : wr n = (N : Int)) (hN : N ≤ 1000000) (cs2 ss2 : Nat) (hcs2 : cs + 1 = cs2 ∧ ss + N = ss2) (hcs3 : cs2 ≤ rm.cells ∧ ss2 ≤ rm.slots) (hd : decode cc pc = .ok (.anewarray index, 3)) (kk : ∀ τ : St, X z cs2 ss2 τ (pc + 3) lv (ar τ.1 :: st) (f τ)) : X z cs ss σ pc lv (ai n :: st) (Option.bind (nwC w.2.2.2 σ (5, N)) f) := by
  obtain ⟨rfl, rfl⟩ := hcs2
  unfold nwC
  by_cases h : shp w.2.2.2 (σ.1 + 1) = (5, N)
  · rw [if_pos h]
    have k1 := kk (σ.1 + 1, (fun k j => if k = σ.1 + 1 then 0 else σ.2.1 k j), fun k j => if k = σ.1 + 1 then 0 else σ.2.2 k j)
    obtain ⟨p, le, e, R, s, m, args, below, meth, c, ⟨D, ca, ra, S⟩, b, hs, nL1, rt⟩ := z
    obtain ⟨⟨hx, hb, hml, hown⟩, hts, ⟨hr, hlk, hnm⟩, ⟨hK, hN9, hF⟩, ⟨rfl, rfl, rfl, rfl, rfl⟩, htg⟩ := C
    intro σ' r hP H locs ls hR hS hl
    have hhs := htg rfl
    have hcl : (Int32.ofInt n).toNatClampNeg = N := by
      have := nat_wr (z := n) (by omega)
      omega
    have hneg : ¬ Int32.ofInt n < 0 := by
      rw [show (0 : Int32) = Int32.ofInt 0 from rfl, i_lt, hn, show wr 0 = 0 from rfl]; omega
    subst hcl
    refine W.anew hx hb hown (hts _ hw) (va_AO.use O.1) rfl hd rfl hneg (by omega) hcs3.1 hcs3.2 fun cA9 kA comp f1 f2 f3 f4 => ?_
    generalize hH1 : H.push ({ cls := cA9, slots := Array.replicate (Int32.ofInt n).toNatClampNeg .null, vm := .none } : Cell) = H1
    have z1 : H1.size = H.size + 1 := by rw [← hH1, Array.size_push]
    have e1 : H1[H.size]? = some (arrV cA9 (Int32.ofInt n).toNatClampNeg (fun _ => .null)) := by rw [← hH1, Array.getElem?_push_size, ← arrV_new]
    have o1 : ∀ q : Nat, q < H.size → H1[q]? = H[q]? := fun q hq => by rw [← hH1, Array.getElem?_push, if_neg (Nat.ne_of_lt hq)]
    have hadr : H.size = b + (σ.1 + 1) := by rw [hR.2.1]; omega
    have hk9 : ∀ k, k ≤ σ.1 → ¬ k = σ.1 + 1 := fun k hk => by omega
    have k2 := k1 σ' r hP H1 locs ls (hR.new rfl (fun k hk => funext fun j => if_neg (hk9 k hk)) (fun k hk => funext fun j => if_neg (hk9 k hk)) z1 o1 ?_) (hS.new1 (by omega) o1) hl
    · rw [List.map_cons, cv_ar (Nat.succ_ne_zero _), ← hadr] at k2
      exact k2
    · have h1 : (shp S (σ.1 + 1)).1 = 5 := by rw [h]
      refine (at_arrR h1 (Or.inl rfl)).mpr ?_
      rw [← hadr, e1, h]
      obtain ⟨kA9, comp9, -, -, -, h49⟩ := (hK.2 4 _ rfl).2
      have ec : cA9 = ca 5 := Option.some.inj (f1.symm.trans h49)
      subst ec
      congr 2
      funext j
      show _ = va_rf (adr b (if σ.1 + 1 = σ.1 + 1 then 0 else σ.2.2 (σ.1 + 1) j))
      rw [if_pos rfl]; rfl
  · rw [if_neg h]; exact x_no
end Rows
