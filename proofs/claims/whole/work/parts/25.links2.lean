/-! facts of the tables: fields, methods, constants -/
theorem fl_RX3_63 : FLk RX3 63 3 0 := ⟨_, rfl, by decide, tb1 (i := 154) (by decide +kernel) rfl, rfl⟩
theorem ml_RJ0_1059 : Cond.methodLink RJ0 1059 yJ3_checkIndex_8e157 ∈ TB := tb1 (i := 66) (by decide +kernel) rfl
theorem ml_RJ0_335 : Cond.methodLink RJ0 335 yJ0_coder_7d493 ∈ TB := tb1 (i := 44) (by decide +kernel) rfl
theorem ml_RJ0_492 : Cond.methodLink RJ0 492 yJ0_isLatin1_aae02 ∈ TB := tb1 (i := 54) (by decide +kernel) rfl
theorem ml_RJ0_495 : Cond.methodLink RJ0 495 yJ1_charAt_3b067 ∈ TB := tb1 (i := 58) (by decide +kernel) rfl
theorem ml_RJ0_505 : Cond.methodLink RJ0 505 yJ0_length_8abf5 ∈ TB := tb1 (i := 581) (by decide +kernel) rfl
theorem ml_RJ0_633 : Cond.methodLink RJ0 633 yJ0_indexOf_7cf53 ∈ TB := tb1 (i := 577) (by decide +kernel) rfl
theorem ml_RJ0_637 : Cond.methodLink RJ0 637 yJ1_indexOf_4cfef ∈ TB := tb1 (i := 582) (by decide +kernel) rfl
theorem ml_RJ1_38 : Cond.methodLink RJ1 38 Lib.Math.min.name ∈ TB := tb1 (i := 591) (by decide +kernel) rfl
theorem ml_RJ1_88 : Cond.methodLink RJ1 88 yJ1_canEncode_9a6ad ∈ TB := tb1 (i := 585) (by decide +kernel) rfl
theorem ml_RJ1_9 : Cond.methodLink RJ1 9 yJ0_checkIndex_df160 ∈ TB := tb1 (i := 61) (by decide +kernel) rfl
theorem ml_RJ1_92 : Cond.methodLink RJ1 92 Lib.Math.max.name ∈ TB := tb1 (i := 588) (by decide +kernel) rfl
theorem ml_RJ1_95 : Cond.methodLink RJ1 95 yJ1_indexOfChar_4cfef ∈ TB := tb1 (i := 594) (by decide +kernel) rfl
theorem ml_RX3_55 : Cond.methodLink RX3 55 yX3_clear ∈ TB := tb1 (i := 530) (by decide +kernel) rfl
theorem ml_RX3_58 : Cond.methodLink RX3 58 yX6_begin ∈ TB := tb1 (i := 535) (by decide +kernel) rfl
theorem ml_RX3_74 : Cond.methodLink RX3 74 yX3_readLine ∈ TB := tb1 (i := 641) (by decide +kernel) rfl
theorem ml_RX6_100 : Cond.methodLink RX6 100 yJ0_charAt_5068e ∈ TB := tb1 (i := 50) (by decide +kernel) rfl
theorem ml_RX6_116 : Cond.methodLink RX6 116 yX6_splitWord ∈ TB := tb1 (i := 551) (by decide +kernel) rfl
theorem ml_RX6_122 : Cond.methodLink RX6 122 yX6_splitNumber ∈ TB := tb1 (i := 566) (by decide +kernel) rfl
theorem ml_RX6_127 : Cond.methodLink RX6 127 yJ0_indexOf_0f7a4 ∈ TB := tb1 (i := 573) (by decide +kernel) rfl
theorem ml_RX6_46 : Cond.methodLink RX6 46 yX6_split ∈ TB := tb1 (i := 539) (by decide +kernel) rfl
theorem ml_RX6_95 : Cond.methodLink RX6 95 yJ0_length_8abf5 ∈ TB := tb1 (i := 40) (by decide +kernel) rfl
theorem sf_RJ0_1053 : Cond.fieldLink RJ0 1053 "jdk/internal/util/Preconditions" "SIOOBE_FORMATTER" "Ljava/util/function/BiFunction;" ∈ TB := tb1 (i := 64) (by decide +kernel) rfl
theorem sf_RJ0_15 : Cond.fieldLink RJ0 15 "java/lang/String" "coder" "B" ∈ TB := tb1 (i := 2018) (by decide +kernel) rfl
theorem sf_RJ0_38 : Cond.fieldLink RJ0 38 "java/lang/String" "COMPACT_STRINGS" "Z" ∈ TB := tb1 (i := 48) (by decide +kernel) rfl
theorem sf_RJ0_9 : Cond.fieldLink RJ0 9 "java/lang/String" "value" "[B" ∈ TB := tb1 (i := 2017) (by decide +kernel) rfl
theorem mt_J0_charAt_5068e : MtB yJ0_charAt_5068e cJ0_charAt_5068e 2 (some .char) 1 := ⟨tb1 (i := 53) (by decide +kernel) rfl, tb1 (i := 3) (by decide +kernel) rfl, ⟨by decide, by decide⟩, by decide +kernel⟩
theorem mv_J0_charAt_5068e : MtV yJ0_charAt_5068e := ⟨tb1 (i := 51) (by decide +kernel) rfl, tb1 (i := 52) (by decide +kernel) rfl⟩
theorem mt_J0_checkIndex_df160 : MtB yJ0_checkIndex_df160 cJ0_checkIndex_df160 2 none 2 := ⟨tb1 (i := 63) (by decide +kernel) rfl, tb1 (i := 3) (by decide +kernel) rfl, ⟨by decide, by decide⟩, by decide +kernel⟩
theorem ms_J0_checkIndex_df160 : Cond.static yJ0_checkIndex_df160 ∈ TB := tb1 (i := 62) (by decide +kernel) rfl
theorem mt_J0_coder_7d493 : MtB yJ0_coder_7d493 cJ0_coder_7d493 1 (some .byte) 0 := ⟨tb1 (i := 47) (by decide +kernel) rfl, tb1 (i := 3) (by decide +kernel) rfl, ⟨by decide, by decide⟩, by decide +kernel⟩
theorem mv_J0_coder_7d493 : MtV yJ0_coder_7d493 := ⟨tb1 (i := 45) (by decide +kernel) rfl, tb1 (i := 46) (by decide +kernel) rfl⟩
theorem mt_J0_indexOf_0f7a4 : MtB yJ0_indexOf_0f7a4 cJ0_indexOf_0f7a4 2 (some .int) 1 := ⟨tb1 (i := 576) (by decide +kernel) rfl, tb1 (i := 3) (by decide +kernel) rfl, ⟨by decide, by decide⟩, by decide +kernel⟩
theorem mv_J0_indexOf_0f7a4 : MtV yJ0_indexOf_0f7a4 := ⟨tb1 (i := 574) (by decide +kernel) rfl, tb1 (i := 575) (by decide +kernel) rfl⟩
theorem mt_J0_indexOf_7cf53 : MtB yJ0_indexOf_7cf53 cJ0_indexOf_7cf53 3 (some .int) 2 := ⟨tb1 (i := 580) (by decide +kernel) rfl, tb1 (i := 3) (by decide +kernel) rfl, ⟨by decide, by decide⟩, by decide +kernel⟩
theorem mv_J0_indexOf_7cf53 : MtV yJ0_indexOf_7cf53 := ⟨tb1 (i := 578) (by decide +kernel) rfl, tb1 (i := 579) (by decide +kernel) rfl⟩
theorem mt_J0_isLatin1_aae02 : MtB yJ0_isLatin1_aae02 cJ0_isLatin1_aae02 1 (some .boolean) 0 := ⟨tb1 (i := 57) (by decide +kernel) rfl, tb1 (i := 3) (by decide +kernel) rfl, ⟨by decide, by decide⟩, by decide +kernel⟩
theorem mv_J0_isLatin1_aae02 : MtV yJ0_isLatin1_aae02 := ⟨tb1 (i := 55) (by decide +kernel) rfl, tb1 (i := 56) (by decide +kernel) rfl⟩
theorem mt_J0_length_8abf5 : MtB yJ0_length_8abf5 cJ0_length_8abf5 1 (some .int) 0 := ⟨tb1 (i := 43) (by decide +kernel) rfl, tb1 (i := 3) (by decide +kernel) rfl, ⟨by decide, by decide⟩, by decide +kernel⟩
theorem mv_J0_length_8abf5 : MtV yJ0_length_8abf5 := ⟨tb1 (i := 41) (by decide +kernel) rfl, tb1 (i := 42) (by decide +kernel) rfl⟩
theorem mt_J1_canEncode_9a6ad : MtB yJ1_canEncode_9a6ad cJ1_canEncode_9a6ad 1 (some .boolean) 1 := ⟨tb1 (i := 587) (by decide +kernel) rfl, tb1 (i := 4) (by decide +kernel) rfl, ⟨by decide, by decide⟩, by decide +kernel⟩
theorem ms_J1_canEncode_9a6ad : Cond.static yJ1_canEncode_9a6ad ∈ TB := tb1 (i := 586) (by decide +kernel) rfl
theorem mt_J1_charAt_3b067 : MtB yJ1_charAt_3b067 cJ1_charAt_3b067 2 (some .char) 2 := ⟨tb1 (i := 60) (by decide +kernel) rfl, tb1 (i := 4) (by decide +kernel) rfl, ⟨by decide, by decide⟩, by decide +kernel⟩
theorem ms_J1_charAt_3b067 : Cond.static yJ1_charAt_3b067 ∈ TB := tb1 (i := 59) (by decide +kernel) rfl
theorem mt_J1_indexOfChar_4cfef : MtB yJ1_indexOfChar_4cfef cJ1_indexOfChar_4cfef 6 (some .int) 4 := ⟨tb1 (i := 596) (by decide +kernel) rfl, tb1 (i := 4) (by decide +kernel) rfl, ⟨by decide, by decide⟩, by decide +kernel⟩
theorem ms_J1_indexOfChar_4cfef : Cond.static yJ1_indexOfChar_4cfef ∈ TB := tb1 (i := 595) (by decide +kernel) rfl
theorem mt_J1_indexOf_4cfef : MtB yJ1_indexOf_4cfef cJ1_indexOf_4cfef 4 (some .int) 4 := ⟨tb1 (i := 584) (by decide +kernel) rfl, tb1 (i := 4) (by decide +kernel) rfl, ⟨by decide, by decide⟩, by decide +kernel⟩
theorem ms_J1_indexOf_4cfef : Cond.static yJ1_indexOf_4cfef ∈ TB := tb1 (i := 583) (by decide +kernel) rfl
theorem mt_J3_checkIndex_8e157 : MtB yJ3_checkIndex_8e157 cJ3_checkIndex_8e157 3 (some .int) 3 := ⟨tb1 (i := 68) (by decide +kernel) rfl, tb1 (i := 5) (by decide +kernel) rfl, ⟨by decide, by decide⟩, by decide +kernel⟩
theorem ms_J3_checkIndex_8e157 : Cond.static yJ3_checkIndex_8e157 ∈ TB := tb1 (i := 67) (by decide +kernel) rfl
theorem mt_X3_clear : MtB yX3_clear cX3_clear 1 none 0 := ⟨tb1 (i := 533) (by decide +kernel) rfl, tb1 (i := 7) (by decide +kernel) rfl, ⟨by decide, by decide⟩, by decide +kernel⟩
theorem mv_X3_clear : MtV yX3_clear := ⟨tb1 (i := 532) (by decide +kernel) rfl, tb0 (i := 1) (by decide +kernel) rfl⟩
theorem mt_X3_readLine : MtB yX3_readLine cX3_readLine 2 none 1 := ⟨tb1 (i := 644) (by decide +kernel) rfl, tb1 (i := 7) (by decide +kernel) rfl, ⟨by decide, by decide⟩, by decide +kernel⟩
theorem mv_X3_readLine : MtV yX3_readLine := ⟨tb1 (i := 643) (by decide +kernel) rfl, tb0 (i := 8) (by decide +kernel) rfl⟩
theorem mt_X6_begin : MtB yX6_begin cX6_begin 1 none 0 := ⟨tb1 (i := 538) (by decide +kernel) rfl, tb1 (i := 2) (by decide +kernel) rfl, ⟨by decide, by decide⟩, by decide +kernel⟩
theorem mv_X6_begin : MtV yX6_begin := ⟨tb1 (i := 536) (by decide +kernel) rfl, tb1 (i := 537) (by decide +kernel) rfl⟩
theorem mt_X6_split : MtB yX6_split cX6_split 4 none 0 := ⟨tb1 (i := 542) (by decide +kernel) rfl, tb1 (i := 2) (by decide +kernel) rfl, ⟨by decide, by decide⟩, by decide +kernel⟩
theorem mv_X6_split : MtV yX6_split := ⟨tb1 (i := 541) (by decide +kernel) rfl, tb0 (i := 2) (by decide +kernel) rfl⟩
theorem mt_X6_splitNumber : MtB yX6_splitNumber cX6_splitNumber 6 (some .int) 1 := ⟨tb1 (i := 569) (by decide +kernel) rfl, tb1 (i := 2) (by decide +kernel) rfl, ⟨by decide, by decide⟩, by decide +kernel⟩
theorem mv_X6_splitNumber : MtV yX6_splitNumber := ⟨tb1 (i := 568) (by decide +kernel) rfl, tb0 (i := 7) (by decide +kernel) rfl⟩
theorem mt_X6_splitWord : MtB yX6_splitWord cX6_splitWord 5 (some .int) 1 := ⟨tb1 (i := 554) (by decide +kernel) rfl, tb1 (i := 2) (by decide +kernel) rfl, ⟨by decide, by decide⟩, by decide +kernel⟩
theorem mv_X6_splitWord : MtV yX6_splitWord := ⟨tb1 (i := 553) (by decide +kernel) rfl, tb0 (i := 4) (by decide +kernel) rfl⟩
