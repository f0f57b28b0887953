/-! the pure part: all calls, and the start -/
def InvW : St → St → Prop := InvV OWr
theorem InvW_cells : ∀ σx σm : St, InvW σx σm → σx.1 = 113 ∧ σm.1 = 51 := fun σx σm h => by
  obtain ⟨m, bk, t, sp, h1, _⟩ := h
  exact ⟨h1.1.1.1, h1.1.2.1⟩
theorem machine_ok : ∀ σx σm : St, InvV OWr σx σm → OK2 (InvV OWr) (f_X11_machine NN σx 1) (f_X12_machine NN σm 1) := fun σx σm h => by
  obtain ⟨m, bk, t, sp, h1, h2, h3⟩ := h
  refine ok2_of (ok2_mono (gl_machine (N := NN) h1 h2 h3 NN_big) fun v w q => ⟨q.1, ?_⟩)
  obtain ⟨_, m', bk', q1, q2, q3⟩ := q
  exact ⟨m', bk', t, sp, q1, q2, by rw [q3]; exact h3⟩
theorem treaty_ok : ∀ σx σm : St, InvV OWr σx σm → ∀ (a0 : Int), wr a0 = a0 → OK2 (InvV OWr) (f_X11_treaty NN σx 1 a0) (f_X12_treaty NN σm 1 a0) := fun σx σm h a0 ha => by
  obtain ⟨m, bk, t, sp, h1, h2, h3⟩ := h
  refine ok2_of (ok2_mono (gl_treaty (N := NN) h1 h3 ha NN_big) fun v w q => ⟨q.1, ?_⟩)
  obtain ⟨_, t', sp', q1, q2, q3⟩ := q
  exact ⟨m, bk, t', sp', q1, q2.trans h2, by rw [q3]; exact h3⟩
theorem sim_all : Sims InvW NN := sims_of machine_ok treaty_ok
theorem init_all : ∃ (σx σm : St) (r r2 : Int), f_X11_init NN z1 1 = some (σx, r) ∧ f_X12_init NN z1 1 = some (σm, r2) ∧ InvW σx σm := by
  obtain ⟨σ, σm, r, r2, e1, e2, h1, h2⟩ := init_R
  obtain ⟨⟨σ', r'⟩, e, g⟩ := okB_of initX_own
  rw [e1] at e
  cases e
  dsimp only at g
  refine ⟨σ, σm, r, r2, e1, e2, 8, 0, tF, 58, h1, h2, fun j a b => ?_⟩
  have := List.all_eq_true.mp g j.toNat (List.mem_range.mpr (by omega))
  have e3 := eq_of_beq this
  rw [show ((j.toNat : Nat) : Int) = j by omega] at e3
  exact e3
