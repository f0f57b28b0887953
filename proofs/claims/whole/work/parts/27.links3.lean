/-! facts of the tables: fields, methods, constants -/
theorem fl_RX11_121 : FLk RX11 121 3 0 := ⟨_, rfl, by decide, tb1 (i := 155) (by decide +kernel) rfl, rfl⟩
theorem fl_RX11_23 : FLk RX11 23 11 2 := ⟨_, rfl, by decide, tb1 (i := 465) (by decide +kernel) rfl, rfl⟩
theorem fl_RX11_40 : FLk RX11 40 11 5 := ⟨_, rfl, by decide, tb1 (i := 468) (by decide +kernel) rfl, rfl⟩
theorem fl_RX7_119 : FLk RX7 119 6 10 := ⟨_, rfl, by decide, tb1 (i := 109) (by decide +kernel) rfl, rfl⟩
theorem fl_RX7_35 : FLk RX7 35 7 1 := ⟨_, rfl, by decide, tb1 (i := 270) (by decide +kernel) rfl, rfl⟩
theorem fl_RX7_45 : FLk RX7 45 7 0 := ⟨_, rfl, by decide, tb1 (i := 268) (by decide +kernel) rfl, rfl⟩
theorem fl_RX7_52 : FLk RX7 52 6 8 := ⟨_, rfl, by decide, tb1 (i := 104) (by decide +kernel) rfl, rfl⟩
theorem ml_RX11_109 : Cond.methodLink RX11 109 yX3_read ∈ TB := tb1 (i := 526) (by decide +kernel) rfl
theorem ml_RX11_113 : Cond.methodLink RX11 113 yX1_forget ∈ TB := tb1 (i := 712) (by decide +kernel) rfl
theorem ml_RX11_120 : Cond.methodLink RX11 120 yX10_forget ∈ TB := tb1 (i := 720) (by decide +kernel) rfl
theorem ml_RX11_127 : Cond.methodLink RX11 127 yX7_read ∈ TB := tb1 (i := 731) (by decide +kernel) rfl
theorem ml_RX11_128 : Cond.methodLink RX11 128 yX8_forget ∈ TB := tb1 (i := 775) (by decide +kernel) rfl
theorem ml_RX7_103 : Cond.methodLink RX7 103 yX7_readUnit ∈ TB := tb1 (i := 753) (by decide +kernel) rfl
theorem ml_RX7_107 : Cond.methodLink RX7 107 yX7_readNot ∈ TB := tb1 (i := 764) (by decide +kernel) rfl
theorem ml_RX7_110 : Cond.methodLink RX7 110 yX7_readJoined ∈ TB := tb1 (i := 768) (by decide +kernel) rfl
theorem ml_RX7_113 : Cond.methodLink RX7 113 yX7_levelOf ∈ TB := tb1 (i := 772) (by decide +kernel) rfl
theorem ml_RX7_116 : Cond.methodLink RX7 116 yX7_put ∈ TB := tb1 (i := 757) (by decide +kernel) rfl
theorem ml_RX7_122 : Cond.methodLink RX7 122 yX7_mayAsk ∈ TB := tb1 (i := 761) (by decide +kernel) rfl
theorem ml_RX7_29 : Cond.methodLink RX7 29 yJ7_fill_53178 ∈ TB := tb1 (i := 265) (by decide +kernel) rfl
theorem ml_RX7_42 : Cond.methodLink RX7 42 yX6_begin ∈ TB := tb1 (i := 735) (by decide +kernel) rfl
theorem ml_RX7_48 : Cond.methodLink RX7 48 yX6_sound ∈ TB := tb1 (i := 736) (by decide +kernel) rfl
theorem ml_RX7_55 : Cond.methodLink RX7 55 yX7_readLine ∈ TB := tb1 (i := 737) (by decide +kernel) rfl
theorem ml_RX7_89 : Cond.methodLink RX7 89 yX6_refuse ∈ TB := tb1 (i := 746) (by decide +kernel) rfl
theorem ml_RX7_93 : Cond.methodLink RX7 93 yX6_advance ∈ TB := tb1 (i := 747) (by decide +kernel) rfl
theorem ml_RX7_96 : Cond.methodLink RX7 96 yX6_expect ∈ TB := tb1 (i := 748) (by decide +kernel) rfl
theorem ml_RX7_99 : Cond.methodLink RX7 99 yX7_readLevel ∈ TB := tb1 (i := 749) (by decide +kernel) rfl
theorem mt_X10_forget : MtB yX10_forget cX10_forget 1 none 0 := ⟨tb1 (i := 723) (by decide +kernel) rfl, tb1 (i := 16) (by decide +kernel) rfl, ⟨by decide, by decide⟩, by decide +kernel⟩
theorem mv_X10_forget : MtV yX10_forget := ⟨tb1 (i := 721) (by decide +kernel) rfl, tb1 (i := 722) (by decide +kernel) rfl⟩
theorem mt_X1_forget : MtB yX1_forget cX1_forget 1 none 0 := ⟨tb1 (i := 715) (by decide +kernel) rfl, tb1 (i := 12) (by decide +kernel) rfl, ⟨by decide, by decide⟩, by decide +kernel⟩
theorem mv_X1_forget : MtV yX1_forget := ⟨tb1 (i := 713) (by decide +kernel) rfl, tb1 (i := 714) (by decide +kernel) rfl⟩
theorem mt_X3_read : MtB yX3_read cX3_read 2 (some .boolean) 1 := ⟨tb1 (i := 529) (by decide +kernel) rfl, tb1 (i := 7) (by decide +kernel) rfl, ⟨by decide, by decide⟩, by decide +kernel⟩
theorem mv_X3_read : MtV yX3_read := ⟨tb1 (i := 527) (by decide +kernel) rfl, tb1 (i := 528) (by decide +kernel) rfl⟩
theorem mt_X7_levelOf : MtB yX7_levelOf cX7_levelOf 1 (some .int) 1 := ⟨tb1 (i := 774) (by decide +kernel) rfl, tb1 (i := 9) (by decide +kernel) rfl, ⟨by decide, by decide⟩, by decide +kernel⟩
theorem ms_X7_levelOf : Cond.static yX7_levelOf ∈ TB := tb1 (i := 773) (by decide +kernel) rfl
theorem mt_X7_mayAsk : MtB yX7_mayAsk cX7_mayAsk 3 (some .boolean) 2 := ⟨tb1 (i := 763) (by decide +kernel) rfl, tb1 (i := 9) (by decide +kernel) rfl, ⟨by decide, by decide⟩, by decide +kernel⟩
theorem ms_X7_mayAsk : Cond.static yX7_mayAsk ∈ TB := tb1 (i := 762) (by decide +kernel) rfl
theorem mt_X7_put : MtB yX7_put cX7_put 2 none 1 := ⟨tb1 (i := 760) (by decide +kernel) rfl, tb1 (i := 9) (by decide +kernel) rfl, ⟨by decide, by decide⟩, by decide +kernel⟩
theorem mv_X7_put : MtV yX7_put := ⟨tb1 (i := 759) (by decide +kernel) rfl, tb0 (i := 23) (by decide +kernel) rfl⟩
theorem mt_X7_read : MtB yX7_read cX7_read 2 (some .boolean) 1 := ⟨tb1 (i := 734) (by decide +kernel) rfl, tb1 (i := 9) (by decide +kernel) rfl, ⟨by decide, by decide⟩, by decide +kernel⟩
theorem mv_X7_read : MtV yX7_read := ⟨tb1 (i := 732) (by decide +kernel) rfl, tb1 (i := 733) (by decide +kernel) rfl⟩
theorem mt_X7_readJoined : MtB yX7_readJoined cX7_readJoined 8 none 4 := ⟨tb1 (i := 771) (by decide +kernel) rfl, tb1 (i := 9) (by decide +kernel) rfl, ⟨by decide, by decide⟩, by decide +kernel⟩
theorem mv_X7_readJoined : MtV yX7_readJoined := ⟨tb1 (i := 770) (by decide +kernel) rfl, tb0 (i := 25) (by decide +kernel) rfl⟩
theorem mt_X7_readLevel : MtB yX7_readLevel cX7_readLevel 5 none 4 := ⟨tb1 (i := 752) (by decide +kernel) rfl, tb1 (i := 9) (by decide +kernel) rfl, ⟨by decide, by decide⟩, by decide +kernel⟩
theorem mv_X7_readLevel : MtV yX7_readLevel := ⟨tb1 (i := 751) (by decide +kernel) rfl, tb0 (i := 21) (by decide +kernel) rfl⟩
theorem mt_X7_readLine : MtB yX7_readLine cX7_readLine 3 none 1 := ⟨tb1 (i := 740) (by decide +kernel) rfl, tb1 (i := 9) (by decide +kernel) rfl, ⟨by decide, by decide⟩, by decide +kernel⟩
theorem mv_X7_readLine : MtV yX7_readLine := ⟨tb1 (i := 739) (by decide +kernel) rfl, tb0 (i := 19) (by decide +kernel) rfl⟩
theorem mt_X7_readNot : MtB yX7_readNot cX7_readNot 4 none 3 := ⟨tb1 (i := 767) (by decide +kernel) rfl, tb1 (i := 9) (by decide +kernel) rfl, ⟨by decide, by decide⟩, by decide +kernel⟩
theorem mv_X7_readNot : MtV yX7_readNot := ⟨tb1 (i := 766) (by decide +kernel) rfl, tb0 (i := 24) (by decide +kernel) rfl⟩
theorem mt_X7_readUnit : MtB yX7_readUnit cX7_readUnit 4 none 3 := ⟨tb1 (i := 756) (by decide +kernel) rfl, tb1 (i := 9) (by decide +kernel) rfl, ⟨by decide, by decide⟩, by decide +kernel⟩
theorem mv_X7_readUnit : MtV yX7_readUnit := ⟨tb1 (i := 755) (by decide +kernel) rfl, tb0 (i := 22) (by decide +kernel) rfl⟩
theorem mt_X8_forget : MtB yX8_forget cX8_forget 1 none 0 := ⟨tb1 (i := 778) (by decide +kernel) rfl, tb1 (i := 11) (by decide +kernel) rfl, ⟨by decide, by decide⟩, by decide +kernel⟩
theorem mv_X8_forget : MtV yX8_forget := ⟨tb1 (i := 776) (by decide +kernel) rfl, tb1 (i := 777) (by decide +kernel) rfl⟩
