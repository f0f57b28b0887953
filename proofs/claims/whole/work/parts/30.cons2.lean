/-! rows of int[n][m], of calls of constructors -/
def nwM (S : List Sp) (σ : St) (N K : Nat) : Option St := if shp S (σ.1 + 1) = (6, N) ∧ ∀ i, i < N → shp S (σ.1 + 2 + i) = (1, K) then some (σ.1 + 1 + N, (fun k j => if σ.1 < k then 0 else σ.2.1 k j), fun k j => if k = σ.1 + 1 ∧ 0 ≤ j ∧ j < N then σ.1 + 2 + j.toNat else if σ.1 < k then 0 else σ.2.2 k j) else none
theorem PcN.blind {D : va_G} {ca : Nat → ClassId} {ra : Nat → Nat} {S : List Sp} {b hs : Nat} {σ : St} {av : List AV} : FrameBlind (PcN D ca ra S b hs σ av) := by
  intro a U g mk q
  exact ⟨PcC.blind a U g mk q.1, AOs.moved (s := U) (U := U.calling g mk a) (Vm.Alike.refl U.vm) q.2⟩
section Rows
variable {z : Zt} {l : Launch} {w : Vt} {y : MethodName} {cc : ByteArray} {nL : Nat} {ret : Option FieldType} {tg : Bool} {rm : Room} {cs ss pc : Nat} {σ : St} {lv : List (Nat × AV)} {st : List AV} {P : Option (St × Int)}
variable {y2 : MethodName} {cc2 : ByteArray} {maxL2 n2 index ci : Nat} {rm2 : Room} {k : Nat} {As : List AV} {P2 : Option (St × Int)} {f : St × Int → Option (St × Int)}
theorem x_callI (C : Cx z l w y cc nL ret true rm) (O : AOz z) (hC : CtrN l w y2 cc2 maxL2 none rm2 σ (ar k :: As) P2) (hm : MtB y2 cc2 maxL2 none n2) (hv : Cond.instanceMethod y2 ∈ TB ∧ y2.name = "<init>") (hl : Cond.methodLink y.cls index y2 ∈ TB) (hk : k ≠ 0) (hn : As.length = n2) (hRm : rm2.frames + 1 ≤ rm.frames ∧ 8 + (maxL2 + 11) + rm2.locals ≤ rm.locals) (hst : (st.map cat).sum ≤ 8) (cs2 ss2 : Nat) (hcs2 : cs + rm2.cells = cs2 ∧ ss + rm2.slots = ss2) (hcs3 : cs2 ≤ rm.cells ∧ ss2 ≤ rm.slots) (hd : decode cc pc = .ok (.invokespecial index, 3)) (args' : List AV) (hargs : args' = As.reverse ++ ar k :: st)
    (kk : ∀ q : St × Int, X z cs2 ss2 q.1 (pc + 3) lv st (f q)) : X z cs ss σ pc lv args' (Option.bind P2 f) := by
  subst hargs
  obtain ⟨rfl, rfl⟩ := hcs2
  have hcs := hcs3
  obtain ⟨p, le, e, R, s, m, args, below, meth, c, ⟨D, ca, ra, S⟩, b, hs, nL1, rt⟩ := z
  obtain ⟨⟨hx, hb, hml, hown⟩, hts, ⟨hr, hlk, hnm⟩, ⟨hK, hN, hF⟩, ⟨rfl, rfl, rfl, rfl, rfl⟩, htg⟩ := C
  intro σ' r hP H locs ls hR hS hl1
  cases hP2 : P2 with
  | none => rw [hP2] at hP; cases hP
  | some q =>
    obtain ⟨τ, r0⟩ := q
    rw [hP2] at hP
    have hM := hC b hs (htg rfl) τ r0 hP2
    have e0 : (As.reverse ++ ar k :: st).map (cv b ra) = (As.map (cv b ra)).reverse ++ .ref (b + k) :: st.map (cv b ra) := by
      rw [List.map_append, List.map_cons, List.map_reverse, cv_ar hk]
    rw [e0]
    refine run_W hR hS (va_runI (As := As.map (cv b ra)) (rest := st.map (cv b ra)) ⟨hx, hb, hml, hown, hts⟩ hM ⟨call_B hts hm hl hRm, hv.2, hts _ hv.1⟩ ⟨PcN.blind, fun U hU hW => ⟨PcC.at (by rw [List.map_cons, cv_ar hk]) hR hK hN hF hS hU hW, AOs.moved hW.alike O⟩⟩ rfl (by rw [List.length_map]; exact hn) hl1.1 rfl (lv_room (by rw [List.map_map]; rw [show ((fun v : Value => v.category) ∘ cv b ra) = cat from funext (cv_cat b ra)]; exact hst)) hd hcs) (fun H1 locs1 hR1 hS1 => ?_)
    exact kk (τ, r0) σ' r hP H1 locs1 ls hR1 hS1 hl1
theorem x_callIN {host : String} (C : Cx z l w y cc nL ret true rm) (O : AOz z) (hC : CtrN l w y2 cc2 maxL2 none rm2 σ (ar k :: As) P2) (hm : MtB y2 cc2 maxL2 none n2) (hv : Cond.instanceMethod y2 ∈ TB ∧ y2.name = "<init>") (hl : (y.cls, index, y2, host) ∈ nestL) (hk : k ≠ 0) (hn : As.length = n2) (hRm : rm2.frames + 1 ≤ rm.frames ∧ 8 + (maxL2 + 11) + rm2.locals ≤ rm.locals) (hst : (st.map cat).sum ≤ 8) (cs2 ss2 : Nat) (hcs2 : cs + rm2.cells = cs2 ∧ ss + rm2.slots = ss2) (hcs3 : cs2 ≤ rm.cells ∧ ss2 ≤ rm.slots) (hd : decode cc pc = .ok (.invokespecial index, 3)) (args' : List AV) (hargs : args' = As.reverse ++ ar k :: st)
    (kk : ∀ q : St × Int, X z cs2 ss2 q.1 (pc + 3) lv st (f q)) : X z cs ss σ pc lv args' (Option.bind P2 f) := by
  subst hargs
  obtain ⟨rfl, rfl⟩ := hcs2
  have hcs := hcs3
  obtain ⟨p, le, e, R, s, m, args, below, meth, c, ⟨D, ca, ra, S⟩, b, hs, nL1, rt⟩ := z
  obtain ⟨⟨hx, hb, hml, hown⟩, hts, ⟨hr, hlk, hnm⟩, ⟨hK, hN, hF⟩, ⟨rfl, rfl, rfl, rfl, rfl⟩, htg⟩ := C
  intro σ' r hP H locs ls hR hS hl1
  cases hP2 : P2 with
  | none => rw [hP2] at hP; cases hP
  | some q =>
    obtain ⟨τ, r0⟩ := q
    rw [hP2] at hP
    have hM := hC b hs (htg rfl) τ r0 hP2
    have e0 : (As.reverse ++ ar k :: st).map (cv b ra) = (As.map (cv b ra)).reverse ++ .ref (b + k) :: st.map (cv b ra) := by
      rw [List.map_append, List.map_cons, List.map_reverse, cv_ar hk]
    rw [e0]
    refine run_W hR hS (va_runIN (As := As.map (cv b ra)) (rest := st.map (cv b ra)) ⟨hx, hb, hml, hown, hts⟩ hM ⟨call_N hts hm hN hl hRm, hv.2, hts _ hv.1⟩ ⟨PcN.blind, fun U hU hW => ⟨PcC.at (by rw [List.map_cons, cv_ar hk]) hR hK hN hF hS hU hW, AOs.moved hW.alike O⟩⟩ rfl (by rw [List.length_map]; exact hn) hl1.1 rfl (lv_room (by rw [List.map_map]; rw [show ((fun v : Value => v.category) ∘ cv b ra) = cat from funext (cv_cat b ra)]; exact hst)) hd hcs) (fun H1 locs1 hR1 hS1 => ?_)
    exact kk (τ, r0) σ' r hP H1 locs1 ls hR1 hS1 hl1
theorem x_iincE (C : Cx z l w y cc nL ret tg rm) (j : Nat) {i : Nat} {x n : Int} {g : Int → Option (St × Int)} {lv2 : Int → List (Nat × AV)} (hn : i < nL) (hj : lv[j]? = some (i, ai x)) (hd : decode cc pc = .ok (.iinc i n, 3)) (hq : ∀ v, set1 i (ai v) lv = lv2 v) (k : ∀ v, v = x + n → X z cs ss σ (pc + 3) (lv2 v) st (g v)) : X z cs ss σ pc lv st (Lt (x + n) g) := by
  have k9 := k (x + n) rfl
  obtain ⟨p, le, e, R, s, m, args, below, meth, c, ⟨D, ca, ra, S⟩, b, hs, nL1, rt⟩ := z
  obtain ⟨⟨hx, hb, hml, hown⟩, hts, ⟨hr, hlk, hnm⟩, ⟨hK, hN, hF⟩, ⟨rfl, rfl, rfl, rfl, rfl⟩, htg⟩ := C
  intro σ' r hP H locs ls hR hS hl
  have hq := hq (x + n)
  exact lv_iinc (v := Int32.ofInt (x + n)) hx hb hd hl (k := j) (lcv_at hj) (Int32.ofInt_add _ _).symm hn (lcv_set1 (v := ai (x + n))) (fun ls hl => k9 σ' r hP H locs ls hR hS (by rw [← hq]; exact hl))
end Rows
