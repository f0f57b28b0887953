def R_law : String := "FastPlaneLaw"
def lw_P (b : Addr) (xs : List Int32) (args : Array Value) (s : State) : Prop := args = #[.ref b] ∧ s.IntsAt b xs ∧ xs.length ≤ 3584 ∧ (Jvm.Cond.and given_1 narrow_1).before args s = true
def lw_Q (_ : Array Value) (s : State) (o : Outcome) (t : State) : Prop := o = .returned (some (.int 1)) ∧ Framed s o t [] 600000 7302250
def lw_Z (below : List Frame) (a : Array Value) (s : State) : State → Prop := fun t => ∃ o, t.status = .running ∧ Ended t below o ∧ lw_Q a s o t
/-- the law's own end, with 1 on the stack, nothing written that was there before, its room as the claim has it -/
theorem lw_ret {p : Program} {l : Launch} {e : Env} {s : State} {m : MethodId} {below : List Frame} {meth : Method} {c : Code} {b : Nat} (hx : p.tables.exec = Jvm.exec) (hb : c.code = code) (hr : meth.sig.returnType = ret) (hlocks : meth.locks = false) {pc : Nat} {H : Heap} {ls : Array Slot} (hdg : decode code pc = .ok (.ireturn, 1)) : W p l e room_1 s m #[Value.ref b] below meth c H [] 600000 7302250 (lw_Z below #[Value.ref b] s) (F0 m pc ls [.int 1]) := by
  intro T hT X
  obtain ⟨fs, hret, hrun, hended, hW, hframe⟩ := X.leave (v := some (.int 1)) (hlocks := hlocks) (fun h => by rw [hr] at h; cases h)
  have hmeth' : T.vm.method? m = some meth := X.method'
  refine ⟨T.setFrames fs, ?_, .returned (some (.int 1)), hrun, hended, rfl, ⟨_, rfl⟩, hW, hframe⟩
  jvm_step X.here [X.here.top, hx, hb, hdg, hmeth', hr, ret, narrow_b1]
  (try refine ⟨rfl, ?_⟩); (try refine ⟨rfl, ?_⟩)
  first | (intro acts; rw [hret _ acts rfl rfl rfl]) | rw [hret _ _ rfl rfl rfl]
  exact Steps.refl _
/-- what holds at the law's entry: the machine, the code, the tables' words (any of lw_tbl by 'hts w (by decide +kernel)'), the script of L ints xs at the cell b, what the Statement gives of the start (any of its parts by flat_of_before) -/
def lw_At (p : Program) (s : State) (m : MethodId) (meth : Method) (c : Code) (b L : Nat) (xs : Nat → Int32) : Prop :=
  p.tables.exec = Jvm.exec ∧ c.code = code ∧ meth.sig.returnType = ret ∧ c.maxLocals = 4 ∧ s.vm.findClass R_law = some m.cls ∧ (∀ w ∈ lw_tbl, w.before #[Value.ref b] s = true) ∧ va_X b L xs s s.heap ∧ b < s.heap.size ∧ meth.locks = false ∧ (Jvm.Cond.and given_1 narrow_1).before #[Value.ref b] s = true
/-! facts of the tables: fields, methods, constants -/
theorem ml_RL_100 : Cond.methodLink RL 100 yX11_bounds ∈ TB := tb1 (i := 997) (by decide +kernel) rfl
theorem ml_RL_103 : Cond.methodLink RL 103 yX12_bounds ∈ TB := tb1 (i := 1865) (by decide +kernel) rfl
theorem ml_RL_104 : Cond.methodLink RL 104 yX11_land ∈ TB := tb1 (i := 1006) (by decide +kernel) rfl
theorem ml_RL_107 : Cond.methodLink RL 107 yX12_land ∈ TB := tb1 (i := 1869) (by decide +kernel) rfl
theorem ml_RL_108 : Cond.methodLink RL 108 yX11_pump ∈ TB := tb1 (i := 1010) (by decide +kernel) rfl
theorem ml_RL_111 : Cond.methodLink RL 111 yX12_pump ∈ TB := tb1 (i := 1873) (by decide +kernel) rfl
theorem ml_RL_112 : Cond.methodLink RL 112 yX11_plan ∈ TB := tb1 (i := 1018) (by decide +kernel) rfl
theorem ml_RL_115 : Cond.methodLink RL 115 yX12_plan ∈ TB := tb1 (i := 1877) (by decide +kernel) rfl
theorem ml_RL_116 : Cond.methodLink RL 116 yX11_move ∈ TB := tb1 (i := 1068) (by decide +kernel) rfl
theorem ml_RL_120 : Cond.methodLink RL 120 yX12_move ∈ TB := tb1 (i := 1913) (by decide +kernel) rfl
theorem ml_RL_121 : Cond.methodLink RL 121 yX11_soonest ∈ TB := tb1 (i := 1092) (by decide +kernel) rfl
theorem ml_RL_125 : Cond.methodLink RL 125 yX12_soonest ∈ TB := tb1 (i := 1917) (by decide +kernel) rfl
theorem ml_RL_126 : Cond.methodLink RL 126 yX11_airline ∈ TB := tb1 (i := 1121) (by decide +kernel) rfl
theorem ml_RL_129 : Cond.methodLink RL 129 yX12_airline ∈ TB := tb1 (i := 1925) (by decide +kernel) rfl
theorem ml_RL_13 : Cond.methodLink RL 13 yX11_feed ∈ TB := tb1 (i := 503) (by decide +kernel) rfl
theorem ml_RL_130 : Cond.methodLink RL 130 yX11_hold ∈ TB := tb1 (i := 1129) (by decide +kernel) rfl
theorem ml_RL_133 : Cond.methodLink RL 133 yX12_hold ∈ TB := tb1 (i := 1929) (by decide +kernel) rfl
theorem ml_RL_134 : Cond.methodLink RL 134 yX11_lapse ∈ TB := tb1 (i := 1151) (by decide +kernel) rfl
theorem ml_RL_137 : Cond.methodLink RL 137 yX12_lapse ∈ TB := tb1 (i := 1937) (by decide +kernel) rfl
theorem ml_RL_138 : Cond.methodLink RL 138 yX11_shared ∈ TB := tb1 (i := 1160) (by decide +kernel) rfl
theorem ml_RL_141 : Cond.methodLink RL 141 yX12_shared ∈ TB := tb1 (i := 1942) (by decide +kernel) rfl
theorem ml_RL_142 : Cond.methodLink RL 142 yX11_maker ∈ TB := tb1 (i := 1181) (by decide +kernel) rfl
theorem ml_RL_145 : Cond.methodLink RL 145 yX12_maker ∈ TB := tb1 (i := 1954) (by decide +kernel) rfl
theorem ml_RL_146 : Cond.methodLink RL 146 yX11_stage ∈ TB := tb1 (i := 1190) (by decide +kernel) rfl
theorem ml_RL_149 : Cond.methodLink RL 149 yX12_stage ∈ TB := tb1 (i := 1959) (by decide +kernel) rfl
theorem ml_RL_150 : Cond.methodLink RL 150 yX11_grant ∈ TB := tb1 (i := 1199) (by decide +kernel) rfl
theorem ml_RL_154 : Cond.methodLink RL 154 yX12_grant ∈ TB := tb1 (i := 1963) (by decide +kernel) rfl
theorem ml_RL_155 : Cond.methodLink RL 155 yX11_safe ∈ TB := tb1 (i := 1207) (by decide +kernel) rfl
theorem ml_RL_158 : Cond.methodLink RL 158 yX12_safe ∈ TB := tb1 (i := 1967) (by decide +kernel) rfl
theorem ml_RL_159 : Cond.methodLink RL 159 yX11_bears ∈ TB := tb1 (i := 1240) (by decide +kernel) rfl
theorem ml_RL_162 : Cond.methodLink RL 162 yX12_bears ∈ TB := tb1 (i := 1996) (by decide +kernel) rfl
theorem ml_RL_163 : Cond.methodLink RL 163 yX11_should ∈ TB := tb1 (i := 1244) (by decide +kernel) rfl
theorem ml_RL_166 : Cond.methodLink RL 166 yX12_should ∈ TB := tb1 (i := 2000) (by decide +kernel) rfl
theorem ml_RL_167 : Cond.methodLink RL 167 yX11_about ∈ TB := tb1 (i := 1252) (by decide +kernel) rfl
theorem ml_RL_17 : Cond.methodLink RL 17 yX12_feed ∈ TB := tb1 (i := 2009) (by decide +kernel) rfl
theorem ml_RL_170 : Cond.methodLink RL 170 yX12_about ∈ TB := tb1 (i := 2005) (by decide +kernel) rfl
theorem ml_RL_18 : Cond.methodLink RL 18 yX11_end ∈ TB := tb1 (i := 515) (by decide +kernel) rfl
theorem ml_RL_22 : Cond.methodLink RL 22 yX12_end ∈ TB := tb1 (i := 2013) (by decide +kernel) rfl
theorem ml_RL_23 : Cond.methodLink RL 23 yX11_machine ∈ TB := tb1 (i := 522) (by decide +kernel) rfl
theorem ml_RL_27 : Cond.methodLink RL 27 yX12_machine ∈ TB := tb1 (i := 1547) (by decide +kernel) rfl
theorem ml_RL_28 : Cond.methodLink RL 28 yX11_treaty ∈ TB := tb1 (i := 724) (by decide +kernel) rfl
theorem ml_RL_31 : Cond.methodLink RL 31 yX12_treaty ∈ TB := tb1 (i := 1725) (by decide +kernel) rfl
theorem ml_RL_32 : Cond.methodLink RL 32 yX11_fault ∈ TB := tb1 (i := 779) (by decide +kernel) rfl
theorem ml_RL_35 : Cond.methodLink RL 35 yX12_fault ∈ TB := tb1 (i := 1669) (by decide +kernel) rfl
theorem ml_RL_36 : Cond.methodLink RL 36 yX11_mm ∈ TB := tb1 (i := 783) (by decide +kernel) rfl
theorem ml_RL_40 : Cond.methodLink RL 40 yX12_mm ∈ TB := tb1 (i := 1673) (by decide +kernel) rfl
theorem ml_RL_41 : Cond.methodLink RL 41 yX11_clash ∈ TB := tb1 (i := 796) (by decide +kernel) rfl
theorem ml_RL_44 : Cond.methodLink RL 44 yX12_clash ∈ TB := tb1 (i := 1693) (by decide +kernel) rfl
theorem ml_RL_45 : Cond.methodLink RL 45 yX11_breaks ∈ TB := tb1 (i := 808) (by decide +kernel) rfl
theorem ml_RL_48 : Cond.methodLink RL 48 yX12_breaks ∈ TB := tb1 (i := 1709) (by decide +kernel) rfl
theorem ml_RL_49 : Cond.methodLink RL 49 yX11_mend ∈ TB := tb1 (i := 812) (by decide +kernel) rfl
theorem ml_RL_52 : Cond.methodLink RL 52 yX12_mend ∈ TB := tb1 (i := 1713) (by decide +kernel) rfl
theorem ml_RL_53 : Cond.methodLink RL 53 yX11_unlike ∈ TB := tb1 (i := 838) (by decide +kernel) rfl
theorem ml_RL_57 : Cond.methodLink RL 57 yX12_unlike ∈ TB := tb1 (i := 1772) (by decide +kernel) rfl
theorem ml_RL_58 : Cond.methodLink RL 58 yX11_change ∈ TB := tb1 (i := 890) (by decide +kernel) rfl
theorem ml_RL_61 : Cond.methodLink RL 61 yX12_change ∈ TB := tb1 (i := 1799) (by decide +kernel) rfl
theorem ml_RL_62 : Cond.methodLink RL 62 yX11_estimate ∈ TB := tb1 (i := 901) (by decide +kernel) rfl
theorem ml_RL_65 : Cond.methodLink RL 65 yX12_estimate ∈ TB := tb1 (i := 1810) (by decide +kernel) rfl
theorem ml_RL_66 : Cond.methodLink RL 66 yX11_show ∈ TB := tb1 (i := 906) (by decide +kernel) rfl
theorem ml_RL_69 : Cond.methodLink RL 69 yX12_show ∈ TB := tb1 (i := 1815) (by decide +kernel) rfl
theorem ml_RL_70 : Cond.methodLink RL 70 yX11_untell ∈ TB := tb1 (i := 910) (by decide +kernel) rfl
theorem ml_RL_74 : Cond.methodLink RL 74 yX12_untell ∈ TB := tb1 (i := 1819) (by decide +kernel) rfl
theorem ml_RL_75 : Cond.methodLink RL 75 yX11_later ∈ TB := tb1 (i := 919) (by decide +kernel) rfl
theorem ml_RL_78 : Cond.methodLink RL 78 yX12_later ∈ TB := tb1 (i := 1823) (by decide +kernel) rfl
theorem ml_RL_79 : Cond.methodLink RL 79 yX11_moves ∈ TB := tb1 (i := 928) (by decide +kernel) rfl
theorem ml_RL_82 : Cond.methodLink RL 82 yX12_moves ∈ TB := tb1 (i := 1828) (by decide +kernel) rfl
theorem ml_RL_83 : Cond.methodLink RL 83 yX11_cost ∈ TB := tb1 (i := 954) (by decide +kernel) rfl
theorem ml_RL_86 : Cond.methodLink RL 86 yX12_cost ∈ TB := tb1 (i := 1841) (by decide +kernel) rfl
theorem ml_RL_87 : Cond.methodLink RL 87 yX11_pays ∈ TB := tb1 (i := 962) (by decide +kernel) rfl
theorem ml_RL_91 : Cond.methodLink RL 91 yX12_pays ∈ TB := tb1 (i := 1849) (by decide +kernel) rfl
theorem ml_RL_92 : Cond.methodLink RL 92 yX11_over ∈ TB := tb1 (i := 978) (by decide +kernel) rfl
theorem ml_RL_95 : Cond.methodLink RL 95 yX12_over ∈ TB := tb1 (i := 1853) (by decide +kernel) rfl
theorem ml_RL_96 : Cond.methodLink RL 96 yX11_leave ∈ TB := tb1 (i := 992) (by decide +kernel) rfl
theorem ml_RL_99 : Cond.methodLink RL 99 yX12_leave ∈ TB := tb1 (i := 1861) (by decide +kernel) rfl
theorem mt_X11_about : MtB yX11_about cX11_about 2 (some .int) 1 := ⟨tb1 (i := 1255) (by decide +kernel) rfl, tb1 (i := 1) (by decide +kernel) rfl, ⟨by decide, by decide⟩, by decide +kernel⟩
theorem mv_X11_about : MtV yX11_about := ⟨tb1 (i := 1253) (by decide +kernel) rfl, tb1 (i := 1254) (by decide +kernel) rfl⟩
theorem mt_X11_airline : MtB yX11_airline cX11_airline 3 (some .int) 2 := ⟨tb1 (i := 1124) (by decide +kernel) rfl, tb1 (i := 1) (by decide +kernel) rfl, ⟨by decide, by decide⟩, by decide +kernel⟩
theorem mv_X11_airline : MtV yX11_airline := ⟨tb1 (i := 1122) (by decide +kernel) rfl, tb1 (i := 1123) (by decide +kernel) rfl⟩
theorem mt_X11_bears : MtB yX11_bears cX11_bears 4 (some .int) 2 := ⟨tb1 (i := 1243) (by decide +kernel) rfl, tb1 (i := 1) (by decide +kernel) rfl, ⟨by decide, by decide⟩, by decide +kernel⟩
theorem mv_X11_bears : MtV yX11_bears := ⟨tb1 (i := 1241) (by decide +kernel) rfl, tb1 (i := 1242) (by decide +kernel) rfl⟩
theorem mt_X11_bounds : MtB yX11_bounds cX11_bounds 3 (some .int) 2 := ⟨tb1 (i := 1000) (by decide +kernel) rfl, tb1 (i := 1) (by decide +kernel) rfl, ⟨by decide, by decide⟩, by decide +kernel⟩
theorem mv_X11_bounds : MtV yX11_bounds := ⟨tb1 (i := 998) (by decide +kernel) rfl, tb1 (i := 999) (by decide +kernel) rfl⟩
theorem mt_X11_breaks : MtB yX11_breaks cX11_breaks 3 (some .int) 1 := ⟨tb1 (i := 811) (by decide +kernel) rfl, tb1 (i := 1) (by decide +kernel) rfl, ⟨by decide, by decide⟩, by decide +kernel⟩
theorem mv_X11_breaks : MtV yX11_breaks := ⟨tb1 (i := 809) (by decide +kernel) rfl, tb1 (i := 810) (by decide +kernel) rfl⟩
theorem mt_X11_change : MtB yX11_change cX11_change 3 (some .int) 2 := ⟨tb1 (i := 893) (by decide +kernel) rfl, tb1 (i := 1) (by decide +kernel) rfl, ⟨by decide, by decide⟩, by decide +kernel⟩
theorem mv_X11_change : MtV yX11_change := ⟨tb1 (i := 891) (by decide +kernel) rfl, tb1 (i := 892) (by decide +kernel) rfl⟩
theorem mt_X11_clash : MtB yX11_clash cX11_clash 4 (some .int) 1 := ⟨tb1 (i := 799) (by decide +kernel) rfl, tb1 (i := 1) (by decide +kernel) rfl, ⟨by decide, by decide⟩, by decide +kernel⟩
theorem mv_X11_clash : MtV yX11_clash := ⟨tb1 (i := 797) (by decide +kernel) rfl, tb1 (i := 798) (by decide +kernel) rfl⟩
theorem mt_X11_cost : MtB yX11_cost cX11_cost 3 (some .int) 2 := ⟨tb1 (i := 957) (by decide +kernel) rfl, tb1 (i := 1) (by decide +kernel) rfl, ⟨by decide, by decide⟩, by decide +kernel⟩
theorem mv_X11_cost : MtV yX11_cost := ⟨tb1 (i := 955) (by decide +kernel) rfl, tb1 (i := 956) (by decide +kernel) rfl⟩
theorem mt_X11_end : MtB yX11_end cX11_end 2 (some .int) 1 := ⟨tb1 (i := 518) (by decide +kernel) rfl, tb1 (i := 1) (by decide +kernel) rfl, ⟨by decide, by decide⟩, by decide +kernel⟩
theorem mv_X11_end : MtV yX11_end := ⟨tb1 (i := 516) (by decide +kernel) rfl, tb1 (i := 517) (by decide +kernel) rfl⟩
theorem mt_X11_estimate : MtB yX11_estimate cX11_estimate 3 (some .int) 2 := ⟨tb1 (i := 904) (by decide +kernel) rfl, tb1 (i := 1) (by decide +kernel) rfl, ⟨by decide, by decide⟩, by decide +kernel⟩
theorem mv_X11_estimate : MtV yX11_estimate := ⟨tb1 (i := 902) (by decide +kernel) rfl, tb1 (i := 903) (by decide +kernel) rfl⟩
theorem mt_X11_fault : MtB yX11_fault cX11_fault 2 (some .int) 1 := ⟨tb1 (i := 782) (by decide +kernel) rfl, tb1 (i := 1) (by decide +kernel) rfl, ⟨by decide, by decide⟩, by decide +kernel⟩
theorem mv_X11_fault : MtV yX11_fault := ⟨tb1 (i := 780) (by decide +kernel) rfl, tb1 (i := 781) (by decide +kernel) rfl⟩
theorem mt_X11_feed : MtB yX11_feed cX11_feed 6 (some .int) 5 := ⟨tb1 (i := 506) (by decide +kernel) rfl, tb1 (i := 1) (by decide +kernel) rfl, ⟨by decide, by decide⟩, by decide +kernel⟩
theorem mv_X11_feed : MtV yX11_feed := ⟨tb1 (i := 504) (by decide +kernel) rfl, tb1 (i := 505) (by decide +kernel) rfl⟩
theorem mt_X11_grant : MtB yX11_grant cX11_grant 3 (some .boolean) 2 := ⟨tb1 (i := 1202) (by decide +kernel) rfl, tb1 (i := 1) (by decide +kernel) rfl, ⟨by decide, by decide⟩, by decide +kernel⟩
theorem mv_X11_grant : MtV yX11_grant := ⟨tb1 (i := 1200) (by decide +kernel) rfl, tb1 (i := 1201) (by decide +kernel) rfl⟩
theorem mt_X11_hold : MtB yX11_hold cX11_hold 4 (some .int) 3 := ⟨tb1 (i := 1132) (by decide +kernel) rfl, tb1 (i := 1) (by decide +kernel) rfl, ⟨by decide, by decide⟩, by decide +kernel⟩
theorem mv_X11_hold : MtV yX11_hold := ⟨tb1 (i := 1130) (by decide +kernel) rfl, tb1 (i := 1131) (by decide +kernel) rfl⟩
theorem mt_X11_land : MtB yX11_land cX11_land 1 (some .int) 0 := ⟨tb1 (i := 1009) (by decide +kernel) rfl, tb1 (i := 1) (by decide +kernel) rfl, ⟨by decide, by decide⟩, by decide +kernel⟩
theorem mv_X11_land : MtV yX11_land := ⟨tb1 (i := 1007) (by decide +kernel) rfl, tb1 (i := 1008) (by decide +kernel) rfl⟩
theorem mt_X11_lapse : MtB yX11_lapse cX11_lapse 5 (some .int) 4 := ⟨tb1 (i := 1154) (by decide +kernel) rfl, tb1 (i := 1) (by decide +kernel) rfl, ⟨by decide, by decide⟩, by decide +kernel⟩
theorem mv_X11_lapse : MtV yX11_lapse := ⟨tb1 (i := 1152) (by decide +kernel) rfl, tb1 (i := 1153) (by decide +kernel) rfl⟩
theorem mt_X11_later : MtB yX11_later cX11_later 2 (some .int) 1 := ⟨tb1 (i := 922) (by decide +kernel) rfl, tb1 (i := 1) (by decide +kernel) rfl, ⟨by decide, by decide⟩, by decide +kernel⟩
theorem mv_X11_later : MtV yX11_later := ⟨tb1 (i := 920) (by decide +kernel) rfl, tb1 (i := 921) (by decide +kernel) rfl⟩
theorem mt_X11_leave : MtB yX11_leave cX11_leave 4 (some .int) 3 := ⟨tb1 (i := 995) (by decide +kernel) rfl, tb1 (i := 1) (by decide +kernel) rfl, ⟨by decide, by decide⟩, by decide +kernel⟩
theorem mv_X11_leave : MtV yX11_leave := ⟨tb1 (i := 993) (by decide +kernel) rfl, tb1 (i := 994) (by decide +kernel) rfl⟩
theorem mt_X11_machine : MtB yX11_machine cX11_machine 3 (some .int) 0 := ⟨tb1 (i := 525) (by decide +kernel) rfl, tb1 (i := 1) (by decide +kernel) rfl, ⟨by decide, by decide⟩, by decide +kernel⟩
theorem mv_X11_machine : MtV yX11_machine := ⟨tb1 (i := 523) (by decide +kernel) rfl, tb1 (i := 524) (by decide +kernel) rfl⟩
theorem mt_X11_maker : MtB yX11_maker cX11_maker 3 (some .int) 2 := ⟨tb1 (i := 1184) (by decide +kernel) rfl, tb1 (i := 1) (by decide +kernel) rfl, ⟨by decide, by decide⟩, by decide +kernel⟩
theorem mv_X11_maker : MtV yX11_maker := ⟨tb1 (i := 1182) (by decide +kernel) rfl, tb1 (i := 1183) (by decide +kernel) rfl⟩
theorem mt_X11_mend : MtB yX11_mend cX11_mend 2 (some .int) 1 := ⟨tb1 (i := 815) (by decide +kernel) rfl, tb1 (i := 1) (by decide +kernel) rfl, ⟨by decide, by decide⟩, by decide +kernel⟩
theorem mv_X11_mend : MtV yX11_mend := ⟨tb1 (i := 813) (by decide +kernel) rfl, tb1 (i := 814) (by decide +kernel) rfl⟩
theorem mt_X11_mm : MtB yX11_mm cX11_mm 3 (some .int) 2 := ⟨tb1 (i := 786) (by decide +kernel) rfl, tb1 (i := 1) (by decide +kernel) rfl, ⟨by decide, by decide⟩, by decide +kernel⟩
theorem mv_X11_mm : MtV yX11_mm := ⟨tb1 (i := 784) (by decide +kernel) rfl, tb1 (i := 785) (by decide +kernel) rfl⟩
theorem mt_X11_move : MtB yX11_move cX11_move 5 (some .int) 4 := ⟨tb1 (i := 1071) (by decide +kernel) rfl, tb1 (i := 1) (by decide +kernel) rfl, ⟨by decide, by decide⟩, by decide +kernel⟩
theorem mv_X11_move : MtV yX11_move := ⟨tb1 (i := 1069) (by decide +kernel) rfl, tb1 (i := 1070) (by decide +kernel) rfl⟩
theorem mt_X11_moves : MtB yX11_moves cX11_moves 3 (some .int) 2 := ⟨tb1 (i := 931) (by decide +kernel) rfl, tb1 (i := 1) (by decide +kernel) rfl, ⟨by decide, by decide⟩, by decide +kernel⟩
theorem mv_X11_moves : MtV yX11_moves := ⟨tb1 (i := 929) (by decide +kernel) rfl, tb1 (i := 930) (by decide +kernel) rfl⟩
theorem mt_X11_over : MtB yX11_over cX11_over 3 (some .int) 2 := ⟨tb1 (i := 981) (by decide +kernel) rfl, tb1 (i := 1) (by decide +kernel) rfl, ⟨by decide, by decide⟩, by decide +kernel⟩
theorem mv_X11_over : MtV yX11_over := ⟨tb1 (i := 979) (by decide +kernel) rfl, tb1 (i := 980) (by decide +kernel) rfl⟩
theorem mt_X11_pays : MtB yX11_pays cX11_pays 4 (some .int) 3 := ⟨tb1 (i := 965) (by decide +kernel) rfl, tb1 (i := 1) (by decide +kernel) rfl, ⟨by decide, by decide⟩, by decide +kernel⟩
theorem mv_X11_pays : MtV yX11_pays := ⟨tb1 (i := 963) (by decide +kernel) rfl, tb1 (i := 964) (by decide +kernel) rfl⟩
theorem mt_X11_plan : MtB yX11_plan cX11_plan 4 (some .int) 3 := ⟨tb1 (i := 1021) (by decide +kernel) rfl, tb1 (i := 1) (by decide +kernel) rfl, ⟨by decide, by decide⟩, by decide +kernel⟩
theorem mv_X11_plan : MtV yX11_plan := ⟨tb1 (i := 1019) (by decide +kernel) rfl, tb1 (i := 1020) (by decide +kernel) rfl⟩
theorem mt_X11_pump : MtB yX11_pump cX11_pump 2 (some .boolean) 1 := ⟨tb1 (i := 1013) (by decide +kernel) rfl, tb1 (i := 1) (by decide +kernel) rfl, ⟨by decide, by decide⟩, by decide +kernel⟩
theorem mv_X11_pump : MtV yX11_pump := ⟨tb1 (i := 1011) (by decide +kernel) rfl, tb1 (i := 1012) (by decide +kernel) rfl⟩
theorem mt_X11_safe : MtB yX11_safe cX11_safe 4 (some .int) 3 := ⟨tb1 (i := 1210) (by decide +kernel) rfl, tb1 (i := 1) (by decide +kernel) rfl, ⟨by decide, by decide⟩, by decide +kernel⟩
theorem mv_X11_safe : MtV yX11_safe := ⟨tb1 (i := 1208) (by decide +kernel) rfl, tb1 (i := 1209) (by decide +kernel) rfl⟩
theorem mt_X11_shared : MtB yX11_shared cX11_shared 2 (some .int) 1 := ⟨tb1 (i := 1163) (by decide +kernel) rfl, tb1 (i := 1) (by decide +kernel) rfl, ⟨by decide, by decide⟩, by decide +kernel⟩
theorem mv_X11_shared : MtV yX11_shared := ⟨tb1 (i := 1161) (by decide +kernel) rfl, tb1 (i := 1162) (by decide +kernel) rfl⟩
theorem mt_X11_should : MtB yX11_should cX11_should 4 (some .int) 3 := ⟨tb1 (i := 1247) (by decide +kernel) rfl, tb1 (i := 1) (by decide +kernel) rfl, ⟨by decide, by decide⟩, by decide +kernel⟩
theorem mv_X11_should : MtV yX11_should := ⟨tb1 (i := 1245) (by decide +kernel) rfl, tb1 (i := 1246) (by decide +kernel) rfl⟩
theorem mt_X11_show : MtB yX11_show cX11_show 3 (some .int) 2 := ⟨tb1 (i := 909) (by decide +kernel) rfl, tb1 (i := 1) (by decide +kernel) rfl, ⟨by decide, by decide⟩, by decide +kernel⟩
theorem mv_X11_show : MtV yX11_show := ⟨tb1 (i := 907) (by decide +kernel) rfl, tb1 (i := 908) (by decide +kernel) rfl⟩
theorem mt_X11_soonest : MtB yX11_soonest cX11_soonest 7 (some .int) 6 := ⟨tb1 (i := 1095) (by decide +kernel) rfl, tb1 (i := 1) (by decide +kernel) rfl, ⟨by decide, by decide⟩, by decide +kernel⟩
theorem mv_X11_soonest : MtV yX11_soonest := ⟨tb1 (i := 1093) (by decide +kernel) rfl, tb1 (i := 1094) (by decide +kernel) rfl⟩
theorem mt_X11_stage : MtB yX11_stage cX11_stage 3 (some .int) 2 := ⟨tb1 (i := 1193) (by decide +kernel) rfl, tb1 (i := 1) (by decide +kernel) rfl, ⟨by decide, by decide⟩, by decide +kernel⟩
theorem mv_X11_stage : MtV yX11_stage := ⟨tb1 (i := 1191) (by decide +kernel) rfl, tb1 (i := 1192) (by decide +kernel) rfl⟩
theorem mt_X11_treaty : MtB yX11_treaty cX11_treaty 4 (some .int) 1 := ⟨tb1 (i := 727) (by decide +kernel) rfl, tb1 (i := 1) (by decide +kernel) rfl, ⟨by decide, by decide⟩, by decide +kernel⟩
theorem mv_X11_treaty : MtV yX11_treaty := ⟨tb1 (i := 725) (by decide +kernel) rfl, tb1 (i := 726) (by decide +kernel) rfl⟩
theorem mt_X11_unlike : MtB yX11_unlike cX11_unlike 4 (some .int) 3 := ⟨tb1 (i := 841) (by decide +kernel) rfl, tb1 (i := 1) (by decide +kernel) rfl, ⟨by decide, by decide⟩, by decide +kernel⟩
theorem mv_X11_unlike : MtV yX11_unlike := ⟨tb1 (i := 839) (by decide +kernel) rfl, tb1 (i := 840) (by decide +kernel) rfl⟩
theorem mt_X11_untell : MtB yX11_untell cX11_untell 2 (some .boolean) 1 := ⟨tb1 (i := 913) (by decide +kernel) rfl, tb1 (i := 1) (by decide +kernel) rfl, ⟨by decide, by decide⟩, by decide +kernel⟩
theorem mv_X11_untell : MtV yX11_untell := ⟨tb1 (i := 911) (by decide +kernel) rfl, tb1 (i := 912) (by decide +kernel) rfl⟩
theorem mt_X12_about : MtB yX12_about cX12_about 2 (some .int) 1 := ⟨tb1 (i := 2008) (by decide +kernel) rfl, tb1 (i := 18) (by decide +kernel) rfl, ⟨by decide, by decide⟩, by decide +kernel⟩
theorem mv_X12_about : MtV yX12_about := ⟨tb1 (i := 2006) (by decide +kernel) rfl, tb1 (i := 2007) (by decide +kernel) rfl⟩
theorem mt_X12_airline : MtB yX12_airline cX12_airline 3 (some .int) 2 := ⟨tb1 (i := 1928) (by decide +kernel) rfl, tb1 (i := 18) (by decide +kernel) rfl, ⟨by decide, by decide⟩, by decide +kernel⟩
theorem mv_X12_airline : MtV yX12_airline := ⟨tb1 (i := 1926) (by decide +kernel) rfl, tb1 (i := 1927) (by decide +kernel) rfl⟩
theorem mt_X12_bears : MtB yX12_bears cX12_bears 4 (some .int) 2 := ⟨tb1 (i := 1999) (by decide +kernel) rfl, tb1 (i := 18) (by decide +kernel) rfl, ⟨by decide, by decide⟩, by decide +kernel⟩
theorem mv_X12_bears : MtV yX12_bears := ⟨tb1 (i := 1997) (by decide +kernel) rfl, tb1 (i := 1998) (by decide +kernel) rfl⟩
theorem mt_X12_bounds : MtB yX12_bounds cX12_bounds 3 (some .int) 2 := ⟨tb1 (i := 1868) (by decide +kernel) rfl, tb1 (i := 18) (by decide +kernel) rfl, ⟨by decide, by decide⟩, by decide +kernel⟩
theorem mv_X12_bounds : MtV yX12_bounds := ⟨tb1 (i := 1866) (by decide +kernel) rfl, tb1 (i := 1867) (by decide +kernel) rfl⟩
theorem mt_X12_breaks : MtB yX12_breaks cX12_breaks 3 (some .int) 1 := ⟨tb1 (i := 1712) (by decide +kernel) rfl, tb1 (i := 18) (by decide +kernel) rfl, ⟨by decide, by decide⟩, by decide +kernel⟩
theorem mv_X12_breaks : MtV yX12_breaks := ⟨tb1 (i := 1710) (by decide +kernel) rfl, tb1 (i := 1711) (by decide +kernel) rfl⟩
theorem mt_X12_change : MtB yX12_change cX12_change 3 (some .int) 2 := ⟨tb1 (i := 1802) (by decide +kernel) rfl, tb1 (i := 18) (by decide +kernel) rfl, ⟨by decide, by decide⟩, by decide +kernel⟩
theorem mv_X12_change : MtV yX12_change := ⟨tb1 (i := 1800) (by decide +kernel) rfl, tb1 (i := 1801) (by decide +kernel) rfl⟩
theorem mt_X12_clash : MtB yX12_clash cX12_clash 4 (some .int) 1 := ⟨tb1 (i := 1696) (by decide +kernel) rfl, tb1 (i := 18) (by decide +kernel) rfl, ⟨by decide, by decide⟩, by decide +kernel⟩
theorem mv_X12_clash : MtV yX12_clash := ⟨tb1 (i := 1694) (by decide +kernel) rfl, tb1 (i := 1695) (by decide +kernel) rfl⟩
theorem mt_X12_cost : MtB yX12_cost cX12_cost 3 (some .int) 2 := ⟨tb1 (i := 1844) (by decide +kernel) rfl, tb1 (i := 18) (by decide +kernel) rfl, ⟨by decide, by decide⟩, by decide +kernel⟩
theorem mv_X12_cost : MtV yX12_cost := ⟨tb1 (i := 1842) (by decide +kernel) rfl, tb1 (i := 1843) (by decide +kernel) rfl⟩
theorem mt_X12_end : MtB yX12_end cX12_end 2 (some .int) 1 := ⟨tb1 (i := 2016) (by decide +kernel) rfl, tb1 (i := 18) (by decide +kernel) rfl, ⟨by decide, by decide⟩, by decide +kernel⟩
theorem mv_X12_end : MtV yX12_end := ⟨tb1 (i := 2014) (by decide +kernel) rfl, tb1 (i := 2015) (by decide +kernel) rfl⟩
theorem mt_X12_estimate : MtB yX12_estimate cX12_estimate 3 (some .int) 2 := ⟨tb1 (i := 1813) (by decide +kernel) rfl, tb1 (i := 18) (by decide +kernel) rfl, ⟨by decide, by decide⟩, by decide +kernel⟩
theorem mv_X12_estimate : MtV yX12_estimate := ⟨tb1 (i := 1811) (by decide +kernel) rfl, tb1 (i := 1812) (by decide +kernel) rfl⟩
theorem mt_X12_fault : MtB yX12_fault cX12_fault 2 (some .int) 1 := ⟨tb1 (i := 1672) (by decide +kernel) rfl, tb1 (i := 18) (by decide +kernel) rfl, ⟨by decide, by decide⟩, by decide +kernel⟩
theorem mv_X12_fault : MtV yX12_fault := ⟨tb1 (i := 1670) (by decide +kernel) rfl, tb1 (i := 1671) (by decide +kernel) rfl⟩
theorem mt_X12_feed : MtB yX12_feed cX12_feed 8 (some .int) 5 := ⟨tb1 (i := 2012) (by decide +kernel) rfl, tb1 (i := 18) (by decide +kernel) rfl, ⟨by decide, by decide⟩, by decide +kernel⟩
theorem mv_X12_feed : MtV yX12_feed := ⟨tb1 (i := 2010) (by decide +kernel) rfl, tb1 (i := 2011) (by decide +kernel) rfl⟩
theorem mt_X12_grant : MtB yX12_grant cX12_grant 3 (some .boolean) 2 := ⟨tb1 (i := 1966) (by decide +kernel) rfl, tb1 (i := 18) (by decide +kernel) rfl, ⟨by decide, by decide⟩, by decide +kernel⟩
theorem mv_X12_grant : MtV yX12_grant := ⟨tb1 (i := 1964) (by decide +kernel) rfl, tb1 (i := 1965) (by decide +kernel) rfl⟩
theorem mt_X12_land : MtB yX12_land cX12_land 2 (some .int) 0 := ⟨tb1 (i := 1872) (by decide +kernel) rfl, tb1 (i := 18) (by decide +kernel) rfl, ⟨by decide, by decide⟩, by decide +kernel⟩
theorem mv_X12_land : MtV yX12_land := ⟨tb1 (i := 1870) (by decide +kernel) rfl, tb1 (i := 1871) (by decide +kernel) rfl⟩
theorem mt_X12_lapse : MtB yX12_lapse cX12_lapse 5 (some .int) 4 := ⟨tb1 (i := 1940) (by decide +kernel) rfl, tb1 (i := 18) (by decide +kernel) rfl, ⟨by decide, by decide⟩, by decide +kernel⟩
theorem mv_X12_lapse : MtV yX12_lapse := ⟨tb1 (i := 1938) (by decide +kernel) rfl, tb1 (i := 1939) (by decide +kernel) rfl⟩
theorem mt_X12_later : MtB yX12_later cX12_later 2 (some .int) 1 := ⟨tb1 (i := 1826) (by decide +kernel) rfl, tb1 (i := 18) (by decide +kernel) rfl, ⟨by decide, by decide⟩, by decide +kernel⟩
theorem mv_X12_later : MtV yX12_later := ⟨tb1 (i := 1824) (by decide +kernel) rfl, tb1 (i := 1825) (by decide +kernel) rfl⟩
theorem mt_X12_leave : MtB yX12_leave cX12_leave 4 (some .int) 3 := ⟨tb1 (i := 1864) (by decide +kernel) rfl, tb1 (i := 18) (by decide +kernel) rfl, ⟨by decide, by decide⟩, by decide +kernel⟩
theorem mv_X12_leave : MtV yX12_leave := ⟨tb1 (i := 1862) (by decide +kernel) rfl, tb1 (i := 1863) (by decide +kernel) rfl⟩
theorem mt_X12_machine : MtB yX12_machine cX12_machine 2 (some .int) 0 := ⟨tb1 (i := 1550) (by decide +kernel) rfl, tb1 (i := 18) (by decide +kernel) rfl, ⟨by decide, by decide⟩, by decide +kernel⟩
theorem mv_X12_machine : MtV yX12_machine := ⟨tb1 (i := 1548) (by decide +kernel) rfl, tb1 (i := 1549) (by decide +kernel) rfl⟩
theorem mt_X12_maker : MtB yX12_maker cX12_maker 3 (some .int) 2 := ⟨tb1 (i := 1957) (by decide +kernel) rfl, tb1 (i := 18) (by decide +kernel) rfl, ⟨by decide, by decide⟩, by decide +kernel⟩
theorem mv_X12_maker : MtV yX12_maker := ⟨tb1 (i := 1955) (by decide +kernel) rfl, tb1 (i := 1956) (by decide +kernel) rfl⟩
theorem mt_X12_mend : MtB yX12_mend cX12_mend 2 (some .int) 1 := ⟨tb1 (i := 1716) (by decide +kernel) rfl, tb1 (i := 18) (by decide +kernel) rfl, ⟨by decide, by decide⟩, by decide +kernel⟩
theorem mv_X12_mend : MtV yX12_mend := ⟨tb1 (i := 1714) (by decide +kernel) rfl, tb1 (i := 1715) (by decide +kernel) rfl⟩
theorem mt_X12_mm : MtB yX12_mm cX12_mm 3 (some .int) 2 := ⟨tb1 (i := 1676) (by decide +kernel) rfl, tb1 (i := 18) (by decide +kernel) rfl, ⟨by decide, by decide⟩, by decide +kernel⟩
theorem mv_X12_mm : MtV yX12_mm := ⟨tb1 (i := 1674) (by decide +kernel) rfl, tb1 (i := 1675) (by decide +kernel) rfl⟩
theorem mt_X12_move : MtB yX12_move cX12_move 8 (some .int) 4 := ⟨tb1 (i := 1916) (by decide +kernel) rfl, tb1 (i := 18) (by decide +kernel) rfl, ⟨by decide, by decide⟩, by decide +kernel⟩
theorem mv_X12_move : MtV yX12_move := ⟨tb1 (i := 1914) (by decide +kernel) rfl, tb1 (i := 1915) (by decide +kernel) rfl⟩
theorem mt_X12_moves : MtB yX12_moves cX12_moves 3 (some .int) 2 := ⟨tb1 (i := 1831) (by decide +kernel) rfl, tb1 (i := 18) (by decide +kernel) rfl, ⟨by decide, by decide⟩, by decide +kernel⟩
theorem mv_X12_moves : MtV yX12_moves := ⟨tb1 (i := 1829) (by decide +kernel) rfl, tb1 (i := 1830) (by decide +kernel) rfl⟩
theorem mt_X12_over : MtB yX12_over cX12_over 3 (some .int) 2 := ⟨tb1 (i := 1856) (by decide +kernel) rfl, tb1 (i := 18) (by decide +kernel) rfl, ⟨by decide, by decide⟩, by decide +kernel⟩
theorem mv_X12_over : MtV yX12_over := ⟨tb1 (i := 1854) (by decide +kernel) rfl, tb1 (i := 1855) (by decide +kernel) rfl⟩
theorem mt_X12_pays : MtB yX12_pays cX12_pays 8 (some .int) 3 := ⟨tb1 (i := 1852) (by decide +kernel) rfl, tb1 (i := 18) (by decide +kernel) rfl, ⟨by decide, by decide⟩, by decide +kernel⟩
theorem mv_X12_pays : MtV yX12_pays := ⟨tb1 (i := 1850) (by decide +kernel) rfl, tb1 (i := 1851) (by decide +kernel) rfl⟩
theorem mt_X12_plan : MtB yX12_plan cX12_plan 4 (some .int) 3 := ⟨tb1 (i := 1880) (by decide +kernel) rfl, tb1 (i := 18) (by decide +kernel) rfl, ⟨by decide, by decide⟩, by decide +kernel⟩
theorem mv_X12_plan : MtV yX12_plan := ⟨tb1 (i := 1878) (by decide +kernel) rfl, tb1 (i := 1879) (by decide +kernel) rfl⟩
theorem mt_X12_pump : MtB yX12_pump cX12_pump 2 (some .boolean) 1 := ⟨tb1 (i := 1876) (by decide +kernel) rfl, tb1 (i := 18) (by decide +kernel) rfl, ⟨by decide, by decide⟩, by decide +kernel⟩
theorem mv_X12_pump : MtV yX12_pump := ⟨tb1 (i := 1874) (by decide +kernel) rfl, tb1 (i := 1875) (by decide +kernel) rfl⟩
theorem mt_X12_should : MtB yX12_should cX12_should 4 (some .int) 3 := ⟨tb1 (i := 2003) (by decide +kernel) rfl, tb1 (i := 18) (by decide +kernel) rfl, ⟨by decide, by decide⟩, by decide +kernel⟩
theorem mv_X12_should : MtV yX12_should := ⟨tb1 (i := 2001) (by decide +kernel) rfl, tb1 (i := 2002) (by decide +kernel) rfl⟩
theorem mt_X12_show : MtB yX12_show cX12_show 3 (some .int) 2 := ⟨tb1 (i := 1818) (by decide +kernel) rfl, tb1 (i := 18) (by decide +kernel) rfl, ⟨by decide, by decide⟩, by decide +kernel⟩
theorem mv_X12_show : MtV yX12_show := ⟨tb1 (i := 1816) (by decide +kernel) rfl, tb1 (i := 1817) (by decide +kernel) rfl⟩
theorem mt_X12_soonest : MtB yX12_soonest cX12_soonest 10 (some .int) 6 := ⟨tb1 (i := 1920) (by decide +kernel) rfl, tb1 (i := 18) (by decide +kernel) rfl, ⟨by decide, by decide⟩, by decide +kernel⟩
theorem mv_X12_soonest : MtV yX12_soonest := ⟨tb1 (i := 1918) (by decide +kernel) rfl, tb1 (i := 1919) (by decide +kernel) rfl⟩
theorem mt_X12_stage : MtB yX12_stage cX12_stage 3 (some .int) 2 := ⟨tb1 (i := 1962) (by decide +kernel) rfl, tb1 (i := 18) (by decide +kernel) rfl, ⟨by decide, by decide⟩, by decide +kernel⟩
theorem mv_X12_stage : MtV yX12_stage := ⟨tb1 (i := 1960) (by decide +kernel) rfl, tb1 (i := 1961) (by decide +kernel) rfl⟩
theorem mt_X12_treaty : MtB yX12_treaty cX12_treaty 3 (some .int) 1 := ⟨tb1 (i := 1728) (by decide +kernel) rfl, tb1 (i := 18) (by decide +kernel) rfl, ⟨by decide, by decide⟩, by decide +kernel⟩
theorem mv_X12_treaty : MtV yX12_treaty := ⟨tb1 (i := 1726) (by decide +kernel) rfl, tb1 (i := 1727) (by decide +kernel) rfl⟩
theorem mt_X12_unlike : MtB yX12_unlike cX12_unlike 6 (some .int) 3 := ⟨tb1 (i := 1775) (by decide +kernel) rfl, tb1 (i := 18) (by decide +kernel) rfl, ⟨by decide, by decide⟩, by decide +kernel⟩
theorem mv_X12_unlike : MtV yX12_unlike := ⟨tb1 (i := 1773) (by decide +kernel) rfl, tb1 (i := 1774) (by decide +kernel) rfl⟩
theorem mt_X12_untell : MtB yX12_untell cX12_untell 2 (some .boolean) 1 := ⟨tb1 (i := 1822) (by decide +kernel) rfl, tb1 (i := 18) (by decide +kernel) rfl, ⟨by decide, by decide⟩, by decide +kernel⟩
theorem mv_X12_untell : MtV yX12_untell := ⟨tb1 (i := 1820) (by decide +kernel) rfl, tb1 (i := 1821) (by decide +kernel) rfl⟩
