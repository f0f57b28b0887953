/-! the pure part: the first states -/
def NN : Nat := 100000000
def okB {α : Type} (o : Option α) (p : α → Bool) : Bool := match o with
  | some v => p v
  | none => false
theorem okB_of {α : Type} {o : Option α} {p : α → Bool} (h : okB o p = true) : ∃ v, o = some v ∧ p v = true := by
  cases o with
  | none => exact absurd (show false = true from h) Bool.false_ne_true
  | some v => exact ⟨v, rfl, h⟩
set_option maxRecDepth 100000 in
theorem initM_1 : okB (f_X12_init NN z1 1) (fun q => q.1.1 == 51 && (List.range 100).all fun j => match rmT j with
  | some v => q.1.2.2 1 (j : Int) == v
  | none => true) = true := by decide +kernel
set_option maxRecDepth 100000 in
theorem initX_1 : okB (f_X11_init NN z1 1) (fun q => q.1.1 == 113 && (List.range 114).all fun k => (List.range 20).all fun j => match rxT k j with
  | some v => q.1.2.2 k (j : Int) == v
  | none => true) = true := by decide +kernel
set_option maxRecDepth 100000 in
theorem rxT_lt {k j v : Nat} (h : rxT k j = some v) : k < 114 ∧ j < 20 := by
  unfold rxT at h
  split at h <;> first | exact ⟨by decide, by decide⟩ | exact absurd h (by simp)
theorem rmT_lt {j v : Nat} (h : rmT j = some v) : j < 100 := by
  unfold rmT at h
  split at h <;> first | decide | exact absurd h (by simp)
theorem initX_2 : ∃ σ r, f_X11_init NN z1 1 = some (σ, r) ∧ WXr σ.1 σ.2.2 := by
  obtain ⟨⟨σ, r⟩, e, h⟩ := okB_of initX_1
  dsimp only at h
  rw [Bool.and_eq_true] at h
  refine ⟨σ, r, e, eq_of_beq h.1, fun k j v q => ?_⟩
  have lt := rxT_lt q
  have a := List.all_eq_true.mp h.2 k (List.mem_range.mpr lt.1)
  have b := List.all_eq_true.mp a j (List.mem_range.mpr lt.2)
  rw [q] at b
  exact eq_of_beq b
theorem initM_2 : ∃ σ r, f_X12_init NN z1 1 = some (σ, r) ∧ WMr σ.1 σ.2.2 := by
  obtain ⟨⟨σ, r⟩, e, h⟩ := okB_of initM_1
  dsimp only at h
  rw [Bool.and_eq_true] at h
  refine ⟨σ, r, e, eq_of_beq h.1, fun j v q => ?_⟩
  have b := List.all_eq_true.mp h.2 j (List.mem_range.mpr (rmT_lt q))
  rw [q] at b
  exact eq_of_beq b
