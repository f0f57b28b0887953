theorem ac_int : Cond.arrayClass .int ∈ TB := tb1 (i := 146) (by decide +kernel) rfl
theorem ac_long : Cond.arrayClass .long ∈ TB := tb1 (i := 145) (by decide +kernel) rfl
theorem ac_boolean : Cond.arrayClass .boolean ∈ TB := tb1 (i := 389) (by decide +kernel) rfl
theorem ac_byte : Cond.arrayClass .byte ∈ TB := tb1 (i := 147) (by decide +kernel) rfl
/-! facts of the tables: fields, methods, constants -/
theorem ml_RX6_34 : Cond.methodLink RX6 34 yX6_putOwnWords ∈ TB := tb1 (i := 36) (by decide +kernel) rfl
theorem oi_RX0_3 : OIk RX0 3 := ⟨tb1 (i := 395) (by decide +kernel) rfl, tb1 (i := 27) (by decide +kernel) rfl, tb1 (i := 28) (by decide +kernel) rfl⟩
theorem oi_RX10_5 : OIk RX10 5 := ⟨tb1 (i := 415) (by decide +kernel) rfl, tb1 (i := 27) (by decide +kernel) rfl, tb1 (i := 28) (by decide +kernel) rfl⟩
theorem oi_RX12_1 : OIk RX12 1 := ⟨tb1 (i := 1261) (by decide +kernel) rfl, tb1 (i := 27) (by decide +kernel) rfl, tb1 (i := 28) (by decide +kernel) rfl⟩
theorem oi_RX1_3 : OIk RX1 3 := ⟨tb1 (i := 310) (by decide +kernel) rfl, tb1 (i := 27) (by decide +kernel) rfl, tb1 (i := 28) (by decide +kernel) rfl⟩
theorem oi_RX3_3 : OIk RX3 3 := ⟨tb1 (i := 153) (by decide +kernel) rfl, tb1 (i := 27) (by decide +kernel) rfl, tb1 (i := 28) (by decide +kernel) rfl⟩
theorem oi_RX4_3 : OIk RX4 3 := ⟨tb1 (i := 241) (by decide +kernel) rfl, tb1 (i := 27) (by decide +kernel) rfl, tb1 (i := 28) (by decide +kernel) rfl⟩
theorem oi_RX6_3 : OIk RX6 3 := ⟨tb1 (i := 34) (by decide +kernel) rfl, tb1 (i := 27) (by decide +kernel) rfl, tb1 (i := 28) (by decide +kernel) rfl⟩
theorem oi_RX7_7 : OIk RX7 7 := ⟨tb1 (i := 264) (by decide +kernel) rfl, tb1 (i := 27) (by decide +kernel) rfl, tb1 (i := 28) (by decide +kernel) rfl⟩
theorem oi_RX8_3 : OIk RX8 3 := ⟨tb1 (i := 299) (by decide +kernel) rfl, tb1 (i := 27) (by decide +kernel) rfl, tb1 (i := 28) (by decide +kernel) rfl⟩
theorem kc_RX12_134 : Cond.constant RX12 134 53248 ∈ TB := tb1 (i := 1262) (by decide +kernel) rfl
theorem kc_RX12_168 : Cond.constant RX12 168 302715 ∈ TB := tb1 (i := 1263) (by decide +kernel) rfl
theorem mt_X6_putOwnWords : MtB yX6_putOwnWords cX6_putOwnWords 8 none 2 := ⟨tb1 (i := 39) (by decide +kernel) rfl, tb1 (i := 2) (by decide +kernel) rfl, ⟨by decide, by decide⟩, by decide +kernel⟩
theorem mv_X6_putOwnWords : MtV yX6_putOwnWords := ⟨tb1 (i := 38) (by decide +kernel) rfl, tb0 (i := 0) (by decide +kernel) rfl⟩
