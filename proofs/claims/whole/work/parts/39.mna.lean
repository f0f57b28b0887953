section Rows
variable {z : Zt} {l : Launch} {w : Vt} {y : MethodName} {cc : ByteArray} {nL : Nat} {ret : Option FieldType} {tg : Bool} {rm : Room} {cs ss pc : Nat} {σ : St} {lv : List (Nat × AV)} {st : List AV} {P : Option (St × Int)}
theorem x_mna (C : Cx z l w y cc nL ret true rm) (O : AOz z) {index N K : Nat} {n k : Int} {f : St → Option (St × Int)} (hw : Cond.classLink y.cls index "[[I" ∈ TB) (hai : Cond.arrayClass .int ∈ TB) (hn : wr n = (N : Int)) (hk : wr k = (K : Int)) (hN : N ≤ 1000) (hK9 : K ≤ 10000) (cs2 ss2 : Nat) (hcs2 : cs + 1 + N = cs2 ∧ ss + N + N * K = ss2) (hcs3 : cs2 ≤ rm.cells ∧ ss2 ≤ rm.slots) (hd : decode cc pc = .ok (.multianewarray index 2, 4)) (kk : ∀ τ : St, X z cs2 ss2 τ (pc + 4) lv (ar (σ.1 + 1) :: st) (f τ)) : X z cs ss σ pc lv (ai k :: ai n :: st) (Option.bind (nwM w.2.2.2 σ N K) f) := by
  obtain ⟨rfl, rfl⟩ := hcs2
  unfold nwM
  by_cases h : shp w.2.2.2 (σ.1 + 1) = (6, N) ∧ ∀ i, i < N → shp w.2.2.2 (σ.1 + 2 + i) = (1, K)
  · rw [if_pos h]
    generalize hτ : ((σ.1 + 1 + N, (fun k j => if σ.1 < k then 0 else σ.2.1 k j), fun k j => if k = σ.1 + 1 ∧ 0 ≤ j ∧ j < (N : Int) then σ.1 + 2 + j.toNat else if σ.1 < k then 0 else σ.2.2 k j) : St) = τ
    have k1 := kk τ
    have t1 : τ.1 = σ.1 + 1 + N := by rw [← hτ]
    have tI : ∀ k j, τ.2.1 k j = if σ.1 < k then 0 else σ.2.1 k j := fun k j => by rw [← hτ]
    have tR : ∀ k j, τ.2.2 k j = if k = σ.1 + 1 ∧ 0 ≤ j ∧ j < (N : Int) then σ.1 + 2 + j.toNat else if σ.1 < k then 0 else σ.2.2 k j := fun k j => by rw [← hτ]
    obtain ⟨p, le, e, R, s, m, args, below, meth, c, ⟨D, ca, ra, S⟩, b, hs, nL1, rt⟩ := z
    obtain ⟨⟨hx, hb, hml, hown⟩, hts, ⟨hr, hlk, hnm⟩, ⟨hK, hN9, hF⟩, ⟨rfl, rfl, rfl, rfl, rfl⟩, htg⟩ := C
    intro σ' r hP H locs ls hR hS hl
    have hhs := htg rfl
    have hcl : (Int32.ofInt n).toNatClampNeg = N := by
      have := nat_wr (z := n) (by omega)
      omega
    have hck : (Int32.ofInt k).toNatClampNeg = K := by
      have := nat_wr (z := k) (by omega)
      omega
    have hneg : ∀ (v : Int) (M : Nat), wr v = (M : Int) → ¬ Int32.ofInt v < 0 := fun v M hv => by
      rw [show (0 : Int32) = Int32.ofInt 0 from rfl, i_lt, hv, show wr 0 = 0 from rfl]; omega
    have hadr : H.size = b + (σ.1 + 1) := by rw [hR.2.1]; omega
    intro T hT Xs
    obtain ⟨vm₁, cA, comp, -, fA, fC, -, -, X', step⟩ := Jvm.Stand.multianewarray2F Xs hx hown (hts _ hw) O.2 (hts _ hai) (g := F0 m pc ls ((ai k :: ai n :: st).map (cv b ra))) rfl (by rw [hb]; exact hd) rfl (hneg n N hn) (hneg k K hk) (by rw [hcl]; omega) (by rw [hck]; show K * 4 ≤ _; omega) (by rw [hck]; omega) rfl rfl (by rw [hcl]; have := hcs3.1; omega) (by rw [hcl, hck]; have := hcs3.2; omega)
    have ecA : cA = ca 6 := Option.some.inj (fA.symm.trans (hK.2 5 _ rfl).2)
    have ecC : comp = ca 1 := Option.some.inj (fC.symm.trans (hK.2 0 _ rfl).2)
    subst ecA
    subst ecC
    rw [hcl, hck] at X' step
    generalize hFF : Jvm.Free.Multi.fill (T.setVm vm₁) (ca 6) (ca 1) N K (defaultValue .int) N = F at X' step
    have hTh : (T.setVm vm₁).heap = H := hT
    obtain ⟨f1, f2, -, -⟩ := Jvm.Free.Multi.fill_facts (T.setVm vm₁) (ca 6) (ca 1) N K (defaultValue .int) N
    rw [hFF, hTh] at f1 f2
    have hold : ∀ x : Nat, x < H.size → F.heap[x]? = H[x]? := fun x hx => by
      have := Jvm.Free.Multi.fill_old (T.setVm vm₁) (ca 6) (ca 1) N K (defaultValue .int) (a := x) (by rw [hTh]; exact hx) N
      rw [hFF, hTh] at this
      exact this
    have hrow : ∀ j : Nat, j < N → F.heap[H.size + 1 + j]? = some (Jvm.Free.Multi.innerC (ca 1) K (defaultValue .int)) := fun j hj => by
      have := Jvm.Free.Multi.fill_inner (T.setVm vm₁) (ca 6) (ca 1) N K (defaultValue .int) N j hj
      rw [hFF, hTh] at this
      exact this
    have hout : ∀ i : Nat, Jvm.Free.Multi.outerC (ca 6) N H.size i = arrV (ca 6) N (fun j => va_rf (if j < i then some (H.size + 1 + j) else none)) := by
      intro i
      induction i with
      | zero =>
        show ({ cls := ca 6, slots := Array.replicate N .null, vm := .none } : Cell) = _
        rw [arrV_new]
        refine congrArg (arrV (ca 6) N) (funext fun j => ?_)
        simp [va_rf]
      | succ i ih =>
        show (Jvm.Free.Multi.outerC (ca 6) N H.size i).setSlot i (.ref (H.size + 1 + i)) = _
        rw [ih, arrV_store]
        refine congrArg (arrV (ca 6) N) (funext fun j => ?_)
        by_cases e : j = i
        · subst e
          simp [updV, va_rf]
        · by_cases h : j < i
          · simp [updV, e, h, Nat.lt_succ_of_lt h]
          · simp [updV, e, h, show ¬ j < i + 1 by omega]
    have hR1 : Rp D ca S b hs τ F.heap := by
      refine ⟨hR.1, by rw [f1, t1, hR.2.1]; omega, fun k9 a1 a2 => ?_⟩
      by_cases e1 : k9 ≤ σ.1
      · have h3 := hR.2.2 k9 a1 e1
        unfold cAt at h3 ⊢
        have eI : τ.2.1 k9 = σ.2.1 k9 := funext fun j => by rw [tI, if_neg (by omega)]
        have eR : τ.2.2 k9 = σ.2.2 k9 := funext fun j => by rw [tR, if_neg (by omega), if_neg (by omega)]
        rw [eI, eR]
        exact va_at.kept h3 (hold _ (va_at.lt h3))
      · by_cases e2 : k9 = σ.1 + 1
        · subst e2
          refine (at_arrR (by rw [h.1]) (Or.inr rfl)).mpr ?_
          rw [← hadr, f2, hout N, h.1]
          congr 2
          funext j
          rw [tR]
          by_cases hj : j < N
          · rw [if_pos hj, if_pos ⟨rfl, by omega, by omega⟩, adr_pos (by omega)]
            congr 2
            omega
          · rw [if_neg hj, if_neg (by omega), if_pos (by omega)]; rfl
        · obtain ⟨i, rfl⟩ : ∃ i, k9 = σ.1 + 2 + i := ⟨k9 - (σ.1 + 2), by omega⟩
          have hi : i < N := by rw [t1] at a2; omega
          have hsh := h.2 i hi
          refine (at_arr (by rw [hsh]) (Or.inl rfl)).mpr ?_
          have hr9 := hrow i hi
          rw [show b + (σ.1 + 2 + i) = H.size + 1 + i by omega, hr9, hsh]
          show some ({ cls := ca 1, slots := Array.replicate K (.int 0), vm := .none } : Cell) = _
          rw [arrV_new]
          congr 2
          funext j
          rw [tI, if_pos (by omega)]; rfl
    have hS1 : va_S (zA S b s.heap.size) s.heap F.heap locs := hS.new1 (by rw [f1]; omega) hold
    have k2 := k1 σ' r hP F.heap locs ls hR1 hS1 hl
    rw [List.map_cons, cv_ar (Nat.succ_ne_zero _), ← hadr] at k2
    obtain ⟨t9, a9, b9⟩ := k2 F rfl X'
    refine ⟨t9, step t9 ?_, b9⟩
    have e9 : T.heap.size = H.size := by rw [hT]
    rw [e9]
    exact a9
  · rw [if_neg h]; exact x_no
end Rows
