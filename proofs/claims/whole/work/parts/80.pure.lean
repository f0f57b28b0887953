/-! the pure part -/
def NN : Nat := 100000000
def InvW (σx σm : St) : Prop := σx.1 = 113 ∧ σm.1 = 51
theorem InvW_cells : ∀ σx σm : St, InvW σx σm → σx.1 = 113 ∧ σm.1 = 51 := fun _ _ h => h
theorem sim_all : Sims InvW NN := sorry
theorem init_all : ∃ (σx σm : St) (r r2 : Int), f_X11_init NN z1 1 = some (σx, r) ∧ f_X12_init NN z1 1 = some (σm, r2) ∧ InvW σx σm := sorry
