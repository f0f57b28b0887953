/-! facts of the tables: fields, methods, constants -/
theorem ml_RL_12 : Cond.methodLink RL 12 yX12_init ∈ TB := tb1 (i := 1258) (by decide +kernel) rfl
theorem ml_RL_9 : Cond.methodLink RL 9 yX11_init ∈ TB := tb1 (i := 23) (by decide +kernel) rfl
theorem nk_RL_10 : NWk RL 10 12 94 := ⟨_, rfl, rfl, tb1 (i := 1256) (by decide +kernel) rfl, tb1 (i := 1257) (by decide +kernel) rfl, tb1 (i := 18) (by decide +kernel) rfl, by decide +kernel⟩
theorem nk_RL_7 : NWk RL 7 11 13 := ⟨_, rfl, rfl, tb1 (i := 21) (by decide +kernel) rfl, tb1 (i := 22) (by decide +kernel) rfl, tb1 (i := 1) (by decide +kernel) rfl, by decide +kernel⟩
theorem mt_X11_init : MtB yX11_init cX11_init 2 none 0 := ⟨tb1 (i := 25) (by decide +kernel) rfl, tb1 (i := 1) (by decide +kernel) rfl, ⟨by decide, by decide⟩, by decide +kernel⟩
theorem mi_X11_init : Cond.instanceMethod yX11_init ∈ TB ∧ yX11_init.name = "<init>" := ⟨tb1 (i := 24) (by decide +kernel) rfl, rfl⟩
theorem mt_X12_init : MtB yX12_init cX12_init 1 none 0 := ⟨tb1 (i := 1260) (by decide +kernel) rfl, tb1 (i := 18) (by decide +kernel) rfl, ⟨by decide, by decide⟩, by decide +kernel⟩
theorem mi_X12_init : Cond.instanceMethod yX12_init ∈ TB ∧ yX12_init.name = "<init>" := ⟨tb1 (i := 1259) (by decide +kernel) rfl, rfl⟩
