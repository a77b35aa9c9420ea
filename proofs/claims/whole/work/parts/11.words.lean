/-! words of the tables, facts of fields and methods -/
theorem thr_tb1 : (vx_at0 RX9 85 (exN 1) xNames).all (fun w => (goodWord w && decide (w ∈ lw_tbl)) || decide (w ∈ fxW)) = true := by decide +kernel
theorem thr_in1 : ∀ w ∈ vx_at0 RX9 85 (exN 1) xNames, w ∈ W0 ∨ w ∈ fxW := fun w h => by
  have h1 := List.all_eq_true.mp thr_tb1 w h
  simp only [Bool.and_eq_true, Bool.or_eq_true, decide_eq_true_eq] at h1
  rcases h1 with h2 | h2
  · exact Or.inl (List.mem_filter.mpr ⟨h2.2, h2.1⟩)
  · exact Or.inr h2
theorem thr_tb0 : (vx_at0 RX9 136 (exN 0) xNames).all (fun w => (goodWord w && decide (w ∈ lw_tbl)) || decide (w ∈ fxW)) = true := by decide +kernel
theorem thr_in0 : ∀ w ∈ vx_at0 RX9 136 (exN 0) xNames, w ∈ W0 ∨ w ∈ fxW := fun w h => by
  have h1 := List.all_eq_true.mp thr_tb0 w h
  simp only [Bool.and_eq_true, Bool.or_eq_true, decide_eq_true_eq] at h1
  rcases h1 with h2 | h2
  · exact Or.inl (List.mem_filter.mpr ⟨h2.2, h2.1⟩)
  · exact Or.inr h2
theorem w_0 : (Cond.fieldLink RX0 27 (clT 0 2).1 (clT 0 2).2.1 (clT 0 2).2.2.1) ∈ W0 := wt1 _ (List.mem_of_getElem? (i := 239) rfl) rfl
theorem w_1 : (Cond.fieldLink RX0 31 (clT 0 3).1 (clT 0 3).2.1 (clT 0 3).2.2.1) ∈ W0 := wt2 _ (List.mem_of_getElem? (i := 1) rfl) rfl
theorem w_2 : (Cond.fieldLink RX2 35 (clT 2 8).1 (clT 2 8).2.1 (clT 2 8).2.2.1) ∈ W0 := wt1 _ (List.mem_of_getElem? (i := 201) rfl) rfl
theorem w_3 : (Cond.fieldLink RX8 22 (clT 8 8).1 (clT 8 8).2.1 (clT 8 8).2.2.1) ∈ W0 := wt1 _ (List.mem_of_getElem? (i := 99) rfl) rfl
theorem w_4 : (Cond.code yX9_at cX9_at 2 (some .int)) ∈ W0 := wt2 _ (List.mem_of_getElem? (i := 198) rfl) rfl
theorem w_5 : (Cond.initialized RX9) ∈ W0 := wt1 _ (List.mem_of_getElem? (i := 1) rfl) rfl
theorem w_6 : (Cond.static yX9_at) ∈ W0 := wt2 _ (List.mem_of_getElem? (i := 197) rfl) rfl
theorem w_7 : (Cond.code yX8_ofKind cX8_ofKind 3 (some .int)) ∈ W0 := wt4 _ (List.mem_of_getElem? (i := 48) rfl) rfl
theorem w_8 : (Cond.initialized RX8) ∈ W0 := wt1 _ (List.mem_of_getElem? (i := 4) rfl) rfl
theorem w_9 : (Cond.methodLink RX8 60 yX8_ofKind) ∈ W0 := wt4 _ (List.mem_of_getElem? (i := 45) rfl) rfl
theorem w_10 : (Cond.instanceMethod yX8_ofKind) ∈ W0 := wt4 _ (List.mem_of_getElem? (i := 46) rfl) rfl
theorem w_11 : (Cond.selects yX8_ofKind.cls yX8_ofKind yX8_ofKind) ∈ W0 := wt4 _ (List.mem_of_getElem? (i := 47) rfl) rfl
theorem w_12 : (Cond.code yX0_planOf cX0_planOf 5 (some (.object "SeatHall$Plan"))) ∈ W0 := wt2 _ (List.mem_of_getElem? (i := 206) rfl) rfl
theorem w_13 : (Cond.initialized RX0) ∈ W0 := wt1 _ (List.mem_of_getElem? (i := 5) rfl) rfl
theorem w_14 : (Cond.methodLink RX0 42 yX0_planOf) ∈ W0 := wt2 _ (List.mem_of_getElem? (i := 203) rfl) rfl
theorem w_15 : (Cond.instanceMethod yX0_planOf) ∈ W0 := wt2 _ (List.mem_of_getElem? (i := 204) rfl) rfl
theorem w_16 : (Cond.selects yX0_planOf.cls yX0_planOf yX0_planOf) ∈ W0 := wt2 _ (List.mem_of_getElem? (i := 205) rfl) rfl
theorem w_17 : (Cond.code yX2_value cX2_value 1 (some .long)) ∈ W0 := wt4 _ (List.mem_of_getElem? (i := 102) rfl) rfl
theorem w_18 : (Cond.initialized RX2) ∈ W0 := wt1 _ (List.mem_of_getElem? (i := 6) rfl) rfl
theorem w_19 : (Cond.methodLink RX0 60 yX2_value) ∈ W0 := wt4 _ (List.mem_of_getElem? (i := 99) rfl) rfl
theorem w_20 : (Cond.instanceMethod yX2_value) ∈ W0 := wt4 _ (List.mem_of_getElem? (i := 100) rfl) rfl
theorem w_21 : (Cond.selects yX2_value.cls yX2_value yX2_value) ∈ W0 := wt4 _ (List.mem_of_getElem? (i := 101) rfl) rfl
theorem w_22 : (Cond.constantLong RX0 80 (1000)) ∈ W0 := wt2 _ (List.mem_of_getElem? (i := 218) rfl) rfl
theorem w_23 : (Cond.fieldLink RX0 18 (clT 0 1).1 (clT 0 1).2.1 (clT 0 1).2.2.1) ∈ W0 := wt1 _ (List.mem_of_getElem? (i := 236) rfl) rfl
theorem w_24 : (Cond.code yX8_isYoung cX8_isYoung 2 (some .boolean)) ∈ W0 := wt4 _ (List.mem_of_getElem? (i := 110) rfl) rfl
theorem w_25 : (Cond.methodLink RX0 76 yX8_isYoung) ∈ W0 := wt4 _ (List.mem_of_getElem? (i := 107) rfl) rfl
theorem w_26 : (Cond.instanceMethod yX8_isYoung) ∈ W0 := wt4 _ (List.mem_of_getElem? (i := 108) rfl) rfl
theorem w_27 : (Cond.selects yX8_isYoung.cls yX8_isYoung yX8_isYoung) ∈ W0 := wt4 _ (List.mem_of_getElem? (i := 109) rfl) rfl
theorem w_28 : (Cond.fieldLink RX2 22 (clT 2 0).1 (clT 2 0).2.1 (clT 2 0).2.2.1) ∈ W0 := wt1 _ (List.mem_of_getElem? (i := 193) rfl) rfl
theorem w_29 : (Cond.fieldLink RX2 56 (clT 2 7).1 (clT 2 7).2.1 (clT 2 7).2.2.1) ∈ W0 := wt1 _ (List.mem_of_getElem? (i := 200) rfl) rfl
theorem w_30 : (Cond.fieldLink RX8 15 (clT 8 6).1 (clT 8 6).2.1 (clT 8 6).2.2.1) ∈ W0 := wt1 _ (List.mem_of_getElem? (i := 93) rfl) rfl
theorem w_31 : (Cond.code yX8_ofEvening cX8_ofEvening 3 (some .int)) ∈ W0 := wt2 _ (List.mem_of_getElem? (i := 215) rfl) rfl
theorem w_32 : (Cond.methodLink RX2 83 yX8_ofEvening) ∈ W0 := wt4 _ (List.mem_of_getElem? (i := 56) rfl) rfl
theorem w_33 : (Cond.instanceMethod yX8_ofEvening) ∈ W0 := wt2 _ (List.mem_of_getElem? (i := 213) rfl) rfl
theorem w_34 : (Cond.selects yX8_ofEvening.cls yX8_ofEvening yX8_ofEvening) ∈ W0 := wt2 _ (List.mem_of_getElem? (i := 214) rfl) rfl
theorem w_35 : (Cond.methodLink RX2 87 yX8_ofKind) ∈ W0 := wt4 _ (List.mem_of_getElem? (i := 57) rfl) rfl
theorem w_36 : (Cond.fieldLink RX2 32 (clT 2 5).1 (clT 2 5).2.1 (clT 2 5).2.2.1) ∈ W0 := wt1 _ (List.mem_of_getElem? (i := 198) rfl) rfl
theorem w_37 : (Cond.code yX9_atWide cX9_atWide 2 (some .long)) ∈ W0 := wt4 _ (List.mem_of_getElem? (i := 61) rfl) rfl
theorem w_38 : (Cond.static yX9_atWide) ∈ W0 := wt4 _ (List.mem_of_getElem? (i := 60) rfl) rfl
theorem w_39 : (Cond.methodLink RX2 92 Lib.Math.max.name) ∈ W0 := wt4 _ (List.mem_of_getElem? (i := 62) rfl) rfl
theorem w_40 : (Cond.constantLong RX2 97 (1000000)) ∈ W0 := wt4 _ (List.mem_of_getElem? (i := 65) rfl) rfl
theorem w_41 : (Cond.code yX9_putWide cX9_putWide 4 none) ∈ W0 := wt4 _ (List.mem_of_getElem? (i := 68) rfl) rfl
theorem w_42 : (Cond.static yX9_putWide) ∈ W0 := wt4 _ (List.mem_of_getElem? (i := 67) rfl) rfl
theorem w_43 : (Cond.fieldLink RX2 29 (clT 2 2).1 (clT 2 2).2.1 (clT 2 2).2.2.1) ∈ W0 := wt1 _ (List.mem_of_getElem? (i := 195) rfl) rfl
theorem w_44 : (Cond.fieldLink RX2 26 (clT 2 1).1 (clT 2 1).2.1 (clT 2 1).2.2.1) ∈ W0 := wt1 _ (List.mem_of_getElem? (i := 194) rfl) rfl
theorem w_45 : (Cond.constantLong RX2 90 (1000)) ∈ W0 := wt4 _ (List.mem_of_getElem? (i := 58) rfl) rfl
theorem w_46 : (Cond.constantLong RX8 64 (1000000)) ∈ W0 := wt4 _ (List.mem_of_getElem? (i := 49) rfl) rfl
theorem w_47 : (Cond.methodLink RX8 66 yX8_ofEvening) ∈ W0 := wt4 _ (List.mem_of_getElem? (i := 50) rfl) rfl
theorem w_48 : (Cond.constantLong RX8 69 (1000)) ∈ W0 := wt4 _ (List.mem_of_getElem? (i := 51) rfl) rfl
theorem w_49 : (Cond.fieldLink RX2 59 (clT 8 5).1 (clT 8 5).2.1 (clT 8 5).2.2.1) ∈ W0 := wt1 _ (List.mem_of_getElem? (i := 91) rfl) rfl
theorem w_50 : (Cond.code yX9_fillWide cX9_fillWide 4 none) ∈ W0 := wt4 _ (List.mem_of_getElem? (i := 40) rfl) rfl
theorem w_51 : (Cond.static yX9_fillWide) ∈ W0 := wt4 _ (List.mem_of_getElem? (i := 39) rfl) rfl
theorem w_52 : (Cond.fieldLink RX2 68 (clT 8 2).1 (clT 8 2).2.1 (clT 8 2).2.2.1) ∈ W0 := wt1 _ (List.mem_of_getElem? (i := 76) rfl) rfl
theorem w_53 : (Cond.code yX8_likely cX8_likely 8 (some .int)) ∈ W0 := wt4 _ (List.mem_of_getElem? (i := 44) rfl) rfl
theorem w_54 : (Cond.methodLink RX2 71 yX8_likely) ∈ W0 := wt4 _ (List.mem_of_getElem? (i := 41) rfl) rfl
theorem w_55 : (Cond.instanceMethod yX8_likely) ∈ W0 := wt4 _ (List.mem_of_getElem? (i := 42) rfl) rfl
theorem w_56 : (Cond.selects yX8_likely.cls yX8_likely yX8_likely) ∈ W0 := wt4 _ (List.mem_of_getElem? (i := 43) rfl) rfl
theorem w_57 : (Cond.code yX2_weigh cX2_weigh 22 none) ∈ W0 := wt4 _ (List.mem_of_getElem? (i := 55) rfl) rfl
theorem w_58 : (Cond.methodLink RX2 75 yX2_weigh) ∈ W0 := wt4 _ (List.mem_of_getElem? (i := 52) rfl) rfl
theorem w_59 : (Cond.instanceMethod yX2_weigh) ∈ W0 := wt4 _ (List.mem_of_getElem? (i := 54) rfl) rfl
theorem w_60 : (Cond.selects yX2_weigh.cls yX2_weigh yX2_weigh) ∈ W0 := w0_sel (yX2_weigh, 12) (List.mem_of_getElem? (i := 24) rfl) rfl
theorem w_61 : (Cond.code yX2_leftOfTen cX2_leftOfTen 2 (some .int)) ∈ W0 := wt4 _ (List.mem_of_getElem? (i := 72) rfl) rfl
theorem w_62 : (Cond.methodLink RX2 79 yX2_leftOfTen) ∈ W0 := wt4 _ (List.mem_of_getElem? (i := 69) rfl) rfl
theorem w_63 : (Cond.instanceMethod yX2_leftOfTen) ∈ W0 := wt4 _ (List.mem_of_getElem? (i := 70) rfl) rfl
theorem w_64 : (Cond.selects yX2_leftOfTen.cls yX2_leftOfTen yX2_leftOfTen) ∈ W0 := wt4 _ (List.mem_of_getElem? (i := 71) rfl) rfl
theorem w_65 : (Cond.fieldLink RX2 19 (clT 2 6).1 (clT 2 6).2.1 (clT 2 6).2.2.1) ∈ W0 := wt1 _ (List.mem_of_getElem? (i := 199) rfl) rfl
theorem w_66 : (Cond.code yX2_takes cX2_takes 5 (some .boolean)) ∈ W0 := wt4 _ (List.mem_of_getElem? (i := 93) rfl) rfl
theorem w_67 : (Cond.methodLink RX2 125 yX2_takes) ∈ W0 := wt4 _ (List.mem_of_getElem? (i := 90) rfl) rfl
theorem w_68 : (Cond.instanceMethod yX2_takes) ∈ W0 := wt4 _ (List.mem_of_getElem? (i := 91) rfl) rfl
theorem w_69 : (Cond.selects yX2_takes.cls yX2_takes yX2_takes) ∈ W0 := wt4 _ (List.mem_of_getElem? (i := 92) rfl) rfl
theorem w_70 : (Cond.fieldLink RX2 42 (clT 2 10).1 (clT 2 10).2.1 (clT 2 10).2.2.1) ∈ W0 := wt1 _ (List.mem_of_getElem? (i := 203) rfl) rfl
theorem w_71 : (Cond.constantLong RX2 107 (1000000000)) ∈ W0 := wt4 _ (List.mem_of_getElem? (i := 81) rfl) rfl
theorem w_72 : (Cond.fieldLink RX2 39 (clT 2 9).1 (clT 2 9).2.1 (clT 2 9).2.2.1) ∈ W0 := wt1 _ (List.mem_of_getElem? (i := 202) rfl) rfl
theorem w_73 : (Cond.code yX2_isOfHabit cX2_isOfHabit 1 (some .boolean)) ∈ W0 := wt4 _ (List.mem_of_getElem? (i := 85) rfl) rfl
theorem w_74 : (Cond.methodLink RX2 109 yX2_isOfHabit) ∈ W0 := wt4 _ (List.mem_of_getElem? (i := 82) rfl) rfl
theorem w_75 : (Cond.instanceMethod yX2_isOfHabit) ∈ W0 := wt4 _ (List.mem_of_getElem? (i := 83) rfl) rfl
theorem w_76 : (Cond.selects yX2_isOfHabit.cls yX2_isOfHabit yX2_isOfHabit) ∈ W0 := wt4 _ (List.mem_of_getElem? (i := 84) rfl) rfl
theorem w_77 : (Cond.code yX2_move cX2_move 9 (some .long)) ∈ W0 := wt4 _ (List.mem_of_getElem? (i := 89) rfl) rfl
theorem w_78 : (Cond.methodLink RX2 113 yX2_move) ∈ W0 := wt4 _ (List.mem_of_getElem? (i := 86) rfl) rfl
theorem w_79 : (Cond.instanceMethod yX2_move) ∈ W0 := wt4 _ (List.mem_of_getElem? (i := 88) rfl) rfl
theorem w_80 : (Cond.selects yX2_move.cls yX2_move yX2_move) ∈ W0 := w0_sel (yX2_move, 12) (List.mem_of_getElem? (i := 26) rfl) rfl
theorem w_81 : (Cond.fieldLink RX2 9 (clT 2 3).1 (clT 2 3).2.1 (clT 2 3).2.2.1) ∈ W0 := wt1 _ (List.mem_of_getElem? (i := 196) rfl) rfl
theorem w_82 : (Cond.code yX9_put cX9_put 3 none) ∈ W0 := wt2 _ (List.mem_of_getElem? (i := 183) rfl) rfl
theorem w_83 : (Cond.static yX9_put) ∈ W0 := wt2 _ (List.mem_of_getElem? (i := 182) rfl) rfl
theorem w_84 : (Cond.fieldLink RX2 15 (clT 2 4).1 (clT 2 4).2.1 (clT 2 4).2.2.1) ∈ W0 := wt1 _ (List.mem_of_getElem? (i := 197) rfl) rfl
theorem w_85 : (Cond.code yX2_left cX2_left 4 (some .long)) ∈ W0 := wt4 _ (List.mem_of_getElem? (i := 98) rfl) rfl
theorem w_86 : (Cond.methodLink RX2 121 yX2_left) ∈ W0 := wt4 _ (List.mem_of_getElem? (i := 95) rfl) rfl
theorem w_87 : (Cond.instanceMethod yX2_left) ∈ W0 := wt4 _ (List.mem_of_getElem? (i := 97) rfl) rfl
theorem w_88 : (Cond.selects yX2_left.cls yX2_left yX2_left) ∈ W0 := w0_sel (yX2_left, 12) (List.mem_of_getElem? (i := 27) rfl) rfl
theorem w_89 : (Cond.code yX2_flow cX2_flow 10 none) ∈ W0 := wt4 _ (List.mem_of_getElem? (i := 80) rfl) rfl
theorem w_90 : (Cond.methodLink RX2 103 yX2_flow) ∈ W0 := wt4 _ (List.mem_of_getElem? (i := 77) rfl) rfl
theorem w_91 : (Cond.instanceMethod yX2_flow) ∈ W0 := wt4 _ (List.mem_of_getElem? (i := 79) rfl) rfl
theorem w_92 : (Cond.selects yX2_flow.cls yX2_flow yX2_flow) ∈ W0 := w0_sel (yX2_flow, 12) (List.mem_of_getElem? (i := 25) rfl) rfl
theorem w_93 : (Cond.fieldLink RX2 45 (clT 2 11).1 (clT 2 11).2.1 (clT 2 11).2.2.1) ∈ W0 := wt1 _ (List.mem_of_getElem? (i := 204) rfl) rfl
theorem w_94 : (Cond.fieldLink RX0 38 (clT 8 3).1 (clT 8 3).2.1 (clT 8 3).2.2.1) ∈ W0 := wt1 _ (List.mem_of_getElem? (i := 77) rfl) rfl
theorem w_95 : (Cond.fieldLink RX0 46 (clT 8 7).1 (clT 8 7).2.1 (clT 8 7).2.2.1) ∈ W0 := wt1 _ (List.mem_of_getElem? (i := 96) rfl) rfl
theorem w_96 : (Cond.code yX2_make cX2_make 9 none) ∈ W0 := wt4 _ (List.mem_of_getElem? (i := 37) rfl) rfl
theorem w_97 : (Cond.methodLink RX0 49 yX2_make) ∈ W0 := wt4 _ (List.mem_of_getElem? (i := 34) rfl) rfl
theorem w_98 : (Cond.instanceMethod yX2_make) ∈ W0 := wt4 _ (List.mem_of_getElem? (i := 35) rfl) rfl
theorem w_99 : (Cond.selects yX2_make.cls yX2_make yX2_make) ∈ W0 := wt4 _ (List.mem_of_getElem? (i := 36) rfl) rfl
theorem w_100 : (Cond.code yX2_use cX2_use 3 none) ∈ W0 := wt4 _ (List.mem_of_getElem? (i := 76) rfl) rfl
theorem w_101 : (Cond.methodLink RX0 53 yX2_use) ∈ W0 := wt4 _ (List.mem_of_getElem? (i := 73) rfl) rfl
theorem w_102 : (Cond.instanceMethod yX2_use) ∈ W0 := wt4 _ (List.mem_of_getElem? (i := 74) rfl) rfl
theorem w_103 : (Cond.selects yX2_use.cls yX2_use yX2_use) ∈ W0 := wt4 _ (List.mem_of_getElem? (i := 75) rfl) rfl
theorem w_104 : (Cond.fieldLink RX0 9 (clT 0 0).1 (clT 0 0).2.1 (clT 0 0).2.2.1) ∈ W0 := wt1 _ (List.mem_of_getElem? (i := 232) rfl) rfl
theorem w_105 : (Cond.fieldLink RX0 57 (clT 8 12).1 (clT 8 12).2.1 (clT 8 12).2.2.1) ∈ W0 := wt1 _ (List.mem_of_getElem? (i := 116) rfl) rfl
theorem w_106 : (Cond.code yX0_choose cX0_choose 15 (some .int)) ∈ W0 := wt4 _ (List.mem_of_getElem? (i := 106) rfl) rfl
theorem w_107 : (Cond.methodLink RX0 64 yX0_choose) ∈ W0 := wt4 _ (List.mem_of_getElem? (i := 103) rfl) rfl
theorem w_108 : (Cond.instanceMethod yX0_choose) ∈ W0 := wt4 _ (List.mem_of_getElem? (i := 104) rfl) rfl
theorem w_109 : (Cond.selects yX0_choose.cls yX0_choose yX0_choose) ∈ W0 := wt4 _ (List.mem_of_getElem? (i := 105) rfl) rfl
theorem w_110 : (Cond.fieldLink RX0 86 (clT 8 2).1 (clT 8 2).2.1 (clT 8 2).2.2.1) ∈ W0 := wt1 _ (List.mem_of_getElem? (i := 75) rfl) rfl
theorem w_111 : (Cond.code yX2_comingOn cX2_comingOn 2 (some .int)) ∈ W0 := wt2 _ (List.mem_of_getElem? (i := 210) rfl) rfl
theorem w_112 : (Cond.methodLink RX0 89 yX2_comingOn) ∈ W0 := wt2 _ (List.mem_of_getElem? (i := 207) rfl) rfl
theorem w_113 : (Cond.instanceMethod yX2_comingOn) ∈ W0 := wt2 _ (List.mem_of_getElem? (i := 208) rfl) rfl
theorem w_114 : (Cond.selects yX2_comingOn.cls yX2_comingOn yX2_comingOn) ∈ W0 := wt2 _ (List.mem_of_getElem? (i := 209) rfl) rfl
theorem w_115 : (Cond.methodLink RX0 93 yX8_ofEvening) ∈ W0 := wt2 _ (List.mem_of_getElem? (i := 212) rfl) rfl
theorem w_116 : (Cond.constantLong RX0 97 (1000000)) ∈ W0 := wt2 _ (List.mem_of_getElem? (i := 217) rfl) rfl
theorem w_117 : (Cond.code yX0_doorTakings cX0_doorTakings 8 (some .long)) ∈ W0 := wt2 _ (List.mem_of_getElem? (i := 202) rfl) rfl
theorem w_118 : (Cond.methodLink RX0 82 yX0_doorTakings) ∈ W0 := wt2 _ (List.mem_of_getElem? (i := 199) rfl) rfl
theorem w_119 : (Cond.instanceMethod yX0_doorTakings) ∈ W0 := wt2 _ (List.mem_of_getElem? (i := 201) rfl) rfl
theorem w_120 : (Cond.selects yX0_doorTakings.cls yX0_doorTakings yX0_doorTakings) ∈ W0 := w0_sel (yX0_doorTakings, 5) (List.mem_of_getElem? (i := 0) rfl) rfl
theorem w_121 : (Cond.fieldLink RX0 99 (clT 8 9).1 (clT 8 9).2.1 (clT 8 9).2.2.1) ∈ W0 := wt1 _ (List.mem_of_getElem? (i := 107) rfl) rfl
theorem w_122 : (Cond.code yX0_fullOf cX0_fullOf 4 (some .long)) ∈ W0 := wt5 _ (List.mem_of_getElem? (i := 49) rfl) rfl
theorem w_123 : (Cond.methodLink RX0 102 yX0_fullOf) ∈ W0 := wt5 _ (List.mem_of_getElem? (i := 46) rfl) rfl
theorem w_124 : (Cond.instanceMethod yX0_fullOf) ∈ W0 := wt5 _ (List.mem_of_getElem? (i := 48) rfl) rfl
theorem w_125 : (Cond.selects yX0_fullOf.cls yX0_fullOf yX0_fullOf) ∈ W0 := w0_sel (yX0_fullOf, 5) (List.mem_of_getElem? (i := 33) rfl) rfl
theorem w_126 : (Cond.code yX0_planBoughtBy cX0_planBoughtBy 2 (some (.object "SeatHall$Plan"))) ∈ W0 := wt3 _ (List.mem_of_getElem? (i := 5) rfl) rfl
theorem w_127 : (Cond.methodLink RX0 106 yX0_planBoughtBy) ∈ W0 := wt5 _ (List.mem_of_getElem? (i := 19) rfl) rfl
theorem w_128 : (Cond.instanceMethod yX0_planBoughtBy) ∈ W0 := wt3 _ (List.mem_of_getElem? (i := 3) rfl) rfl
theorem w_129 : (Cond.selects yX0_planBoughtBy.cls yX0_planBoughtBy yX0_planBoughtBy) ∈ W0 := wt3 _ (List.mem_of_getElem? (i := 4) rfl) rfl
theorem w_130 : (Cond.methodLink RX0 110 yX2_isOfHabit) ∈ W0 := wt5 _ (List.mem_of_getElem? (i := 156) rfl) rfl
theorem w_131 : (Cond.code yX0_hasSeat cX0_hasSeat 2 (some .boolean)) ∈ W0 := wt5 _ (List.mem_of_getElem? (i := 155) rfl) rfl
theorem w_132 : (Cond.methodLink RX0 114 yX0_hasSeat) ∈ W0 := wt5 _ (List.mem_of_getElem? (i := 152) rfl) rfl
theorem w_133 : (Cond.instanceMethod yX0_hasSeat) ∈ W0 := wt5 _ (List.mem_of_getElem? (i := 154) rfl) rfl
theorem w_134 : (Cond.selects yX0_hasSeat.cls yX0_hasSeat yX0_hasSeat) ∈ W0 := w0_sel (yX0_hasSeat, 5) (List.mem_of_getElem? (i := 41) rfl) rfl
theorem w_135 : (Cond.fieldLink RX0 117 (clT 8 0).1 (clT 8 0).2.1 (clT 8 0).2.2.1) ∈ W0 := wt1 _ (List.mem_of_getElem? (i := 65) rfl) rfl
theorem w_136 : (Cond.code yX0_seatHolders cX0_seatHolders 3 (some .int)) ∈ W0 := wt5 _ (List.mem_of_getElem? (i := 151) rfl) rfl
theorem w_137 : (Cond.methodLink RX0 120 yX0_seatHolders) ∈ W0 := wt5 _ (List.mem_of_getElem? (i := 148) rfl) rfl
theorem w_138 : (Cond.instanceMethod yX0_seatHolders) ∈ W0 := wt5 _ (List.mem_of_getElem? (i := 150) rfl) rfl
theorem w_139 : (Cond.selects yX0_seatHolders.cls yX0_seatHolders yX0_seatHolders) ∈ W0 := w0_sel (yX0_seatHolders, 5) (List.mem_of_getElem? (i := 40) rfl) rfl
theorem w_140 : (Cond.methodLink RX0 124 Lib.Math.max.name) ∈ W0 := wt5 _ (List.mem_of_getElem? (i := 157) rfl) rfl
theorem w_141 : (Cond.methodLink RX0 129 Lib.MathLoose.max_long.x) ∈ W0 := wt5 _ (List.mem_of_getElem? (i := 158) rfl) rfl
theorem w_142 : (Cond.code yX2_gone cX2_gone 1 (some .long)) ∈ W0 := wt3 _ (List.mem_of_getElem? (i := 9) rfl) rfl
theorem w_143 : (Cond.methodLink RX0 132 yX2_gone) ∈ W0 := wt5 _ (List.mem_of_getElem? (i := 20) rfl) rfl
theorem w_144 : (Cond.instanceMethod yX2_gone) ∈ W0 := wt3 _ (List.mem_of_getElem? (i := 7) rfl) rfl
theorem w_145 : (Cond.selects yX2_gone.cls yX2_gone yX2_gone) ∈ W0 := wt3 _ (List.mem_of_getElem? (i := 8) rfl) rfl
theorem w_146 : (Cond.constantLong RX0 135 (-1)) ∈ W0 := wt5 _ (List.mem_of_getElem? (i := 21) rfl) rfl
theorem w_147 : (Cond.constantLong RX0 137 (1000000000)) ∈ W0 := wt5 _ (List.mem_of_getElem? (i := 22) rfl) rfl
theorem w_148 : (Cond.code yX0_valueByChance cX0_valueByChance 6 (some .long)) ∈ W0 := wt5 _ (List.mem_of_getElem? (i := 30) rfl) rfl
theorem w_149 : (Cond.methodLink RX0 139 yX0_valueByChance) ∈ W0 := wt5 _ (List.mem_of_getElem? (i := 27) rfl) rfl
theorem w_150 : (Cond.instanceMethod yX0_valueByChance) ∈ W0 := wt5 _ (List.mem_of_getElem? (i := 29) rfl) rfl
theorem w_151 : (Cond.selects yX0_valueByChance.cls yX0_valueByChance yX0_valueByChance) ∈ W0 := w0_sel (yX0_valueByChance, 5) (List.mem_of_getElem? (i := 32) rfl) rfl
theorem w_152 : (Cond.constantLong RX0 143 (9999)) ∈ W0 := wt5 _ (List.mem_of_getElem? (i := 31) rfl) rfl
theorem w_153 : (Cond.methodLink RX0 145 Lib.MathLoose.min_long.x) ∈ W0 := wt5 _ (List.mem_of_getElem? (i := 32) rfl) rfl
theorem w_154 : (Cond.fieldLink RX0 35 (clT 0 4).1 (clT 0 4).2.1 (clT 0 4).2.2.1) ∈ W0 := wt2 _ (List.mem_of_getElem? (i := 2) rfl) rfl
theorem w_155 : (Cond.code yX9_copyRow cX9_copyRow 3 none) ∈ W0 := wt3 _ (List.mem_of_getElem? (i := 20) rfl) rfl
theorem w_156 : (Cond.static yX9_copyRow) ∈ W0 := wt3 _ (List.mem_of_getElem? (i := 19) rfl) rfl
theorem w_157 : (Cond.code yX0_takings cX0_takings 10 (some .long)) ∈ W0 := wt2 _ (List.mem_of_getElem? (i := 195) rfl) rfl
theorem w_158 : (Cond.methodLink RX0 152 yX0_takings) ∈ W0 := wt5 _ (List.mem_of_getElem? (i := 206) rfl) rfl
theorem w_159 : (Cond.instanceMethod yX0_takings) ∈ W0 := wt2 _ (List.mem_of_getElem? (i := 193) rfl) rfl
theorem w_160 : (Cond.selects yX0_takings.cls yX0_takings yX0_takings) ∈ W0 := wt2 _ (List.mem_of_getElem? (i := 194) rfl) rfl
theorem w_161 : (Cond.code yX0_growUp cX0_growUp 5 none) ∈ W0 := wt5 _ (List.mem_of_getElem? (i := 210) rfl) rfl
theorem w_162 : (Cond.methodLink RX0 156 yX0_growUp) ∈ W0 := wt5 _ (List.mem_of_getElem? (i := 207) rfl) rfl
theorem w_163 : (Cond.instanceMethod yX0_growUp) ∈ W0 := wt5 _ (List.mem_of_getElem? (i := 209) rfl) rfl
theorem w_164 : (Cond.selects yX0_growUp.cls yX0_growUp yX0_growUp) ∈ W0 := w0_sel (yX0_growUp, 5) (List.mem_of_getElem? (i := 43) rfl) rfl
theorem w_165 : (Cond.fieldLink RX8 44 (clT 8 2).1 (clT 8 2).2.1 (clT 8 2).2.2.1) ∈ W0 := wt1 _ (List.mem_of_getElem? (i := 70) rfl) rfl
theorem w_166 : (Cond.fieldLink RX8 19 (clT 8 7).1 (clT 8 7).2.1 (clT 8 7).2.2.1) ∈ W0 := wt1 _ (List.mem_of_getElem? (i := 95) rfl) rfl
theorem w_167 : (Cond.code yX8_setFrom cX8_setFrom 4 (some .int)) ∈ W0 := wt5 _ (List.mem_of_getElem? (i := 236) rfl) rfl
theorem w_168 : (Cond.methodLink RX0 167 yX8_setFrom) ∈ W0 := wt5 _ (List.mem_of_getElem? (i := 233) rfl) rfl
theorem w_169 : (Cond.instanceMethod yX8_setFrom) ∈ W0 := wt5 _ (List.mem_of_getElem? (i := 234) rfl) rfl
theorem w_170 : (Cond.selects yX8_setFrom.cls yX8_setFrom yX8_setFrom) ∈ W0 := wt5 _ (List.mem_of_getElem? (i := 235) rfl) rfl
theorem w_171 : (Cond.fieldLink RX0 160 (clT 8 5).1 (clT 8 5).2.1 (clT 8 5).2.2.1) ∈ W0 := wt1 _ (List.mem_of_getElem? (i := 92) rfl) rfl
theorem w_172 : (Cond.code yX2_leftBehind cX2_leftBehind 2 (some .long)) ∈ W0 := wt5 _ (List.mem_of_getElem? (i := 232) rfl) rfl
theorem w_173 : (Cond.methodLink RX0 163 yX2_leftBehind) ∈ W0 := wt5 _ (List.mem_of_getElem? (i := 229) rfl) rfl
theorem w_174 : (Cond.instanceMethod yX2_leftBehind) ∈ W0 := wt5 _ (List.mem_of_getElem? (i := 230) rfl) rfl
theorem w_175 : (Cond.selects yX2_leftBehind.cls yX2_leftBehind yX2_leftBehind) ∈ W0 := wt5 _ (List.mem_of_getElem? (i := 231) rfl) rfl
theorem w_176 : (Cond.fieldLink RX1 19 (clT 1 4).1 (clT 1 4).2.1 (clT 1 4).2.2.1) ∈ W0 := wt2 _ (List.mem_of_getElem? (i := 24) rfl) rfl
theorem w_177 : (Cond.code yX9_fillRow cX9_fillRow 3 none) ∈ W0 := wt1 _ (List.mem_of_getElem? (i := 60) rfl) rfl
theorem w_178 : (Cond.static yX9_fillRow) ∈ W0 := wt1 _ (List.mem_of_getElem? (i := 59) rfl) rfl
theorem w_179 : (Cond.fieldLink RX1 15 (clT 1 3).1 (clT 1 3).2.1 (clT 1 3).2.2.1) ∈ W0 := wt2 _ (List.mem_of_getElem? (i := 23) rfl) rfl
theorem w_180 : (Cond.fieldLink RX1 95 (clT 1 1).1 (clT 1 1).2.1 (clT 1 1).2.2.1) ∈ W0 := wt2 _ (List.mem_of_getElem? (i := 21) rfl) rfl
theorem w_181 : (Cond.methodLink RX1 79 Lib.Math.max.name) ∈ W0 := wt5 _ (List.mem_of_getElem? (i := 76) rfl) rfl
theorem w_182 : (Cond.fieldLink RX1 98 (clT 1 2).1 (clT 1 2).2.1 (clT 1 2).2.2.1) ∈ W0 := wt2 _ (List.mem_of_getElem? (i := 22) rfl) rfl
theorem w_183 : (Cond.fieldLink RX1 9 (clT 1 0).1 (clT 1 0).2.1 (clT 1 0).2.2.1) ∈ W0 := wt2 _ (List.mem_of_getElem? (i := 20) rfl) rfl
theorem w_184 : (Cond.methodLink RX1 101 Lib.Math.min.name) ∈ W0 := wt5 _ (List.mem_of_getElem? (i := 68) rfl) rfl
theorem w_185 : (Cond.constant RX1 108 (1000000)) ∈ W0 := wt5 _ (List.mem_of_getElem? (i := 70) rfl) rfl
theorem w_186 : (Cond.constantLong RX1 109 (1000000)) ∈ W0 := wt5 _ (List.mem_of_getElem? (i := 71) rfl) rfl
theorem w_187 : (Cond.constantLong RX1 89 (1000000000)) ∈ W0 := wt5 _ (List.mem_of_getElem? (i := 59) rfl) rfl
theorem w_188 : (Cond.code yX1_clear cX1_clear 1 none) ∈ W0 := wt5 _ (List.mem_of_getElem? (i := 57) rfl) rfl
theorem w_189 : (Cond.initialized RX1) ∈ W0 := wt1 _ (List.mem_of_getElem? (i := 7) rfl) rfl
theorem w_190 : (Cond.methodLink RX1 26 yX1_clear) ∈ W0 := wt5 _ (List.mem_of_getElem? (i := 54) rfl) rfl
theorem w_191 : (Cond.instanceMethod yX1_clear) ∈ W0 := wt5 _ (List.mem_of_getElem? (i := 56) rfl) rfl
theorem w_192 : (Cond.selects yX1_clear.cls yX1_clear yX1_clear) ∈ W0 := w0_sel (yX1_clear, 5) (List.mem_of_getElem? (i := 34) rfl) rfl
theorem w_193 : (Cond.fieldLink RX1 29 (clT 8 3).1 (clT 8 3).2.1 (clT 8 3).2.2.1) ∈ W0 := wt1 _ (List.mem_of_getElem? (i := 79) rfl) rfl
theorem w_194 : (Cond.methodLink RX1 35 yX0_planBoughtBy) ∈ W0 := wt5 _ (List.mem_of_getElem? (i := 61) rfl) rfl
theorem w_195 : (Cond.methodLink RX1 41 yX2_comingOn) ∈ W0 := wt5 _ (List.mem_of_getElem? (i := 62) rfl) rfl
theorem w_196 : (Cond.fieldLink RX1 47 (clT 8 9).1 (clT 8 9).2.1 (clT 8 9).2.2.1) ∈ W0 := wt1 _ (List.mem_of_getElem? (i := 102) rfl) rfl
theorem w_197 : (Cond.code yX1_add cX1_add 7 none) ∈ W0 := wt5 _ (List.mem_of_getElem? (i := 67) rfl) rfl
theorem w_198 : (Cond.methodLink RX1 54 yX1_add) ∈ W0 := wt5 _ (List.mem_of_getElem? (i := 64) rfl) rfl
theorem w_199 : (Cond.instanceMethod yX1_add) ∈ W0 := wt5 _ (List.mem_of_getElem? (i := 66) rfl) rfl
theorem w_200 : (Cond.selects yX1_add.cls yX1_add yX1_add) ∈ W0 := w0_sel (yX1_add, 5) (List.mem_of_getElem? (i := 35) rfl) rfl
theorem w_201 : (Cond.fieldLink RX1 58 (clT 8 0).1 (clT 8 0).2.1 (clT 8 0).2.2.1) ∈ W0 := wt1 _ (List.mem_of_getElem? (i := 62) rfl) rfl
theorem w_202 : (Cond.code yX1_above cX1_above 5 (some .int)) ∈ W0 := wt5 _ (List.mem_of_getElem? (i := 75) rfl) rfl
theorem w_203 : (Cond.methodLink RX1 61 yX1_above) ∈ W0 := wt5 _ (List.mem_of_getElem? (i := 72) rfl) rfl
theorem w_204 : (Cond.instanceMethod yX1_above) ∈ W0 := wt5 _ (List.mem_of_getElem? (i := 74) rfl) rfl
theorem w_205 : (Cond.selects yX1_above.cls yX1_above yX1_above) ∈ W0 := w0_sel (yX1_above, 5) (List.mem_of_getElem? (i := 36) rfl) rfl
theorem w_206 : (Cond.methodLink RX1 72 yX0_planOf) ∈ W0 := wt5 _ (List.mem_of_getElem? (i := 136) rfl) rfl
theorem w_207 : (Cond.fieldLink RX1 76 (clT 8 2).1 (clT 8 2).2.1 (clT 8 2).2.2.1) ∈ W0 := wt1 _ (List.mem_of_getElem? (i := 72) rfl) rfl
theorem w_208 : (Cond.code yX1_lookAt cX1_lookAt 9 none) ∈ W0 := wt5 _ (List.mem_of_getElem? (i := 134) rfl) rfl
theorem w_209 : (Cond.methodLink RX1 64 yX1_lookAt) ∈ W0 := wt5 _ (List.mem_of_getElem? (i := 131) rfl) rfl
theorem w_210 : (Cond.instanceMethod yX1_lookAt) ∈ W0 := wt5 _ (List.mem_of_getElem? (i := 133) rfl) rfl
theorem w_211 : (Cond.selects yX1_lookAt.cls yX1_lookAt yX1_lookAt) ∈ W0 := w0_sel (yX1_lookAt, 5) (List.mem_of_getElem? (i := 39) rfl) rfl
theorem w_212 : (Cond.fieldLink RX3 29 (clT 3 9).1 (clT 3 9).2.1 (clT 3 9).2.2.1) ∈ W0 := wt1 _ (List.mem_of_getElem? (i := 157) rfl) rfl
theorem w_213 : (Cond.fieldLink RX3 45 (clT 3 8).1 (clT 3 8).2.1 (clT 3 8).2.2.1) ∈ W0 := wt1 _ (List.mem_of_getElem? (i := 156) rfl) rfl
theorem w_214 : (Cond.fieldLink RX3 39 (clT 3 6).1 (clT 3 6).2.1 (clT 3 6).2.2.1) ∈ W0 := wt1 _ (List.mem_of_getElem? (i := 154) rfl) rfl
theorem w_215 : (Cond.fieldLink RX3 193 (clT 3 5).1 (clT 3 5).2.1 (clT 3 5).2.2.1) ∈ W0 := wt1 _ (List.mem_of_getElem? (i := 153) rfl) rfl
theorem w_216 : (Cond.fieldLink RX3 36 (clT 3 3).1 (clT 3 3).2.1 (clT 3 3).2.2.1) ∈ W0 := wt1 _ (List.mem_of_getElem? (i := 151) rfl) rfl
theorem w_217 : (Cond.fieldLink RX3 18 (clT 3 1).1 (clT 3 1).2.1 (clT 3 1).2.2.1) ∈ W0 := wt1 _ (List.mem_of_getElem? (i := 149) rfl) rfl
theorem w_218 : (Cond.fieldLink RX3 66 (clT 3 4).1 (clT 3 4).2.1 (clT 3 4).2.2.1) ∈ W0 := wt1 _ (List.mem_of_getElem? (i := 152) rfl) rfl
theorem w_219 : (Cond.methodLink RX3 196 Lib.Math.min.name) ∈ W0 := wt3 _ (List.mem_of_getElem? (i := 138) rfl) rfl
theorem w_220 : (Cond.methodLink RX3 201 yJ0_length_8abf5) ∈ W0 := wt3 _ (List.mem_of_getElem? (i := 148) rfl) rfl
theorem w_221 : (Cond.fieldLink RX3 12 (clT 3 0).1 (clT 3 0).2.1 (clT 3 0).2.2.1) ∈ W0 := wt1 _ (List.mem_of_getElem? (i := 147) rfl) rfl
theorem w_222 : (Cond.fieldLink RX3 48 (clT 7 0).1 (clT 7 0).2.1 (clT 7 0).2.2.1) ∈ W0 := wt1 _ (List.mem_of_getElem? (i := 43) rfl) rfl
theorem w_223 : (Cond.methodLink RX3 205 yJ0_charAt_5068e) ∈ W0 := wt3 _ (List.mem_of_getElem? (i := 158) rfl) rfl
theorem w_224 : (Cond.code yX3_refuse cX3_refuse 2 none) ∈ W0 := wt3 _ (List.mem_of_getElem? (i := 203) rfl) rfl
theorem w_225 : (Cond.initialized RX3) ∈ W0 := wt1 _ (List.mem_of_getElem? (i := 2) rfl) rfl
theorem w_226 : (Cond.methodLink RX3 124 yX3_refuse) ∈ W0 := wt3 _ (List.mem_of_getElem? (i := 200) rfl) rfl
theorem w_227 : (Cond.instanceMethod yX3_refuse) ∈ W0 := wt3 _ (List.mem_of_getElem? (i := 202) rfl) rfl
theorem w_228 : (Cond.selects yX3_refuse.cls yX3_refuse yX3_refuse) ∈ W0 := w0_sel (yX3_refuse, 10) (List.mem_of_getElem? (i := 12) rfl) rfl
theorem w_229 : (Cond.code yX3_advance cX3_advance 2 none) ∈ W0 := wt3 _ (List.mem_of_getElem? (i := 137) rfl) rfl
theorem w_230 : (Cond.methodLink RX3 63 yX3_advance) ∈ W0 := wt3 _ (List.mem_of_getElem? (i := 134) rfl) rfl
theorem w_231 : (Cond.instanceMethod yX3_advance) ∈ W0 := wt3 _ (List.mem_of_getElem? (i := 136) rfl) rfl
theorem w_232 : (Cond.selects yX3_advance.cls yX3_advance yX3_advance) ∈ W0 := w0_sel (yX3_advance, 10) (List.mem_of_getElem? (i := 8) rfl) rfl
theorem w_233 : (Cond.code yX3_number cX3_number 3 (some .int)) ∈ W0 := wt3 _ (List.mem_of_getElem? (i := 211) rfl) rfl
theorem w_234 : (Cond.methodLink RX3 186 yX3_number) ∈ W0 := wt3 _ (List.mem_of_getElem? (i := 208) rfl) rfl
theorem w_235 : (Cond.instanceMethod yX3_number) ∈ W0 := wt3 _ (List.mem_of_getElem? (i := 210) rfl) rfl
theorem w_236 : (Cond.selects yX3_number.cls yX3_number yX3_number) ∈ W0 := w0_sel (yX3_number, 10) (List.mem_of_getElem? (i := 14) rfl) rfl
theorem w_237 : (Cond.code yX3_isWord cX3_isWord 3 (some .boolean)) ∈ W0 := wt3 _ (List.mem_of_getElem? (i := 147) rfl) rfl
theorem w_238 : (Cond.methodLink RX3 74 yX3_isWord) ∈ W0 := wt3 _ (List.mem_of_getElem? (i := 144) rfl) rfl
theorem w_239 : (Cond.instanceMethod yX3_isWord) ∈ W0 := wt3 _ (List.mem_of_getElem? (i := 146) rfl) rfl
theorem w_240 : (Cond.selects yX3_isWord.cls yX3_isWord yX3_isWord) ∈ W0 := w0_sel (yX3_isWord, 10) (List.mem_of_getElem? (i := 10) rfl) rfl
theorem w_241 : (Cond.fieldLink RX3 25 (clT 3 2).1 (clT 3 2).2.1 (clT 3 2).2.2.1) ∈ W0 := wt1 _ (List.mem_of_getElem? (i := 150) rfl) rfl
theorem w_242 : (Cond.fieldLink RX3 130 (clT 8 2).1 (clT 8 2).2.1 (clT 8 2).2.2.1) ∈ W0 := wt1 _ (List.mem_of_getElem? (i := 71) rfl) rfl
theorem w_243 : (Cond.code yX3_tellNext cX3_tellNext 3 none) ∈ W0 := wt3 _ (List.mem_of_getElem? (i := 221) rfl) rfl
theorem w_244 : (Cond.methodLink RX3 133 yX3_tellNext) ∈ W0 := wt3 _ (List.mem_of_getElem? (i := 218) rfl) rfl
theorem w_245 : (Cond.instanceMethod yX3_tellNext) ∈ W0 := wt3 _ (List.mem_of_getElem? (i := 220) rfl) rfl
theorem w_246 : (Cond.selects yX3_tellNext.cls yX3_tellNext yX3_tellNext) ∈ W0 := w0_sel (yX3_tellNext, 10) (List.mem_of_getElem? (i := 16) rfl) rfl
theorem w_247 : (Cond.fieldLink RX3 137 (clT 8 6).1 (clT 8 6).2.1 (clT 8 6).2.2.1) ∈ W0 := wt1 _ (List.mem_of_getElem? (i := 94) rfl) rfl
theorem w_248 : (Cond.code yX3_takeNumber cX3_takeNumber 4 (some .int)) ∈ W0 := wt3 _ (List.mem_of_getElem? (i := 207) rfl) rfl
theorem w_249 : (Cond.methodLink RX3 82 yX3_takeNumber) ∈ W0 := wt3 _ (List.mem_of_getElem? (i := 204) rfl) rfl
theorem w_250 : (Cond.instanceMethod yX3_takeNumber) ∈ W0 := wt3 _ (List.mem_of_getElem? (i := 206) rfl) rfl
theorem w_251 : (Cond.selects yX3_takeNumber.cls yX3_takeNumber yX3_takeNumber) ∈ W0 := w0_sel (yX3_takeNumber, 10) (List.mem_of_getElem? (i := 13) rfl) rfl
theorem w_252 : (Cond.code yX3_takesWord cX3_takesWord 3 (some .boolean)) ∈ W0 := wt3 _ (List.mem_of_getElem? (i := 226) rfl) rfl
theorem w_253 : (Cond.methodLink RX3 142 yX3_takesWord) ∈ W0 := wt3 _ (List.mem_of_getElem? (i := 223) rfl) rfl
theorem w_254 : (Cond.instanceMethod yX3_takesWord) ∈ W0 := wt3 _ (List.mem_of_getElem? (i := 225) rfl) rfl
theorem w_255 : (Cond.selects yX3_takesWord.cls yX3_takesWord yX3_takesWord) ∈ W0 := w0_sel (yX3_takesWord, 10) (List.mem_of_getElem? (i := 17) rfl) rfl
theorem w_256 : (Cond.fieldLink RX3 145 (clT 8 3).1 (clT 8 3).2.1 (clT 8 3).2.2.1) ∈ W0 := wt1 _ (List.mem_of_getElem? (i := 84) rfl) rfl
theorem w_257 : (Cond.fieldLink RX3 148 (clT 8 9).1 (clT 8 9).2.1 (clT 8 9).2.2.1) ∈ W0 := wt1 _ (List.mem_of_getElem? (i := 106) rfl) rfl
theorem w_258 : (Cond.fieldLink RX3 151 (clT 8 8).1 (clT 8 8).2.1 (clT 8 8).2.2.1) ∈ W0 := wt1 _ (List.mem_of_getElem? (i := 100) rfl) rfl
theorem w_259 : (Cond.code yX3_needWord cX3_needWord 2 none) ∈ W0 := wt3 _ (List.mem_of_getElem? (i := 236) rfl) rfl
theorem w_260 : (Cond.methodLink RX3 156 yX3_needWord) ∈ W0 := wt3 _ (List.mem_of_getElem? (i := 233) rfl) rfl
theorem w_261 : (Cond.instanceMethod yX3_needWord) ∈ W0 := wt3 _ (List.mem_of_getElem? (i := 235) rfl) rfl
theorem w_262 : (Cond.selects yX3_needWord.cls yX3_needWord yX3_needWord) ∈ W0 := w0_sel (yX3_needWord, 10) (List.mem_of_getElem? (i := 19) rfl) rfl
theorem w_263 : (Cond.fieldLink RX3 172 (clT 8 4).1 (clT 8 4).2.1 (clT 8 4).2.2.1) ∈ W0 := wt1 _ (List.mem_of_getElem? (i := 88) rfl) rfl
theorem w_264 : (Cond.fieldLink RX3 175 (clT 8 10).1 (clT 8 10).2.1 (clT 8 10).2.2.1) ∈ W0 := wt1 _ (List.mem_of_getElem? (i := 111) rfl) rfl
theorem w_265 : (Cond.fieldLink RX3 179 (clT 8 11).1 (clT 8 11).2.1 (clT 8 11).2.2.1) ∈ W0 := wt1 _ (List.mem_of_getElem? (i := 114) rfl) rfl
theorem w_266 : (Cond.fieldLink RX3 190 (clT 8 7).1 (clT 8 7).2.1 (clT 8 7).2.2.1) ∈ W0 := wt1 _ (List.mem_of_getElem? (i := 98) rfl) rfl
theorem w_267 : (Cond.fieldLink RX3 42 (clT 3 7).1 (clT 3 7).2.1 (clT 3 7).2.2.1) ∈ W0 := wt1 _ (List.mem_of_getElem? (i := 155) rfl) rfl
theorem w_268 : (Cond.code yX3_tellOnce cX3_tellOnce 2 none) ∈ W0 := wt3 _ (List.mem_of_getElem? (i := 199) rfl) rfl
theorem w_269 : (Cond.methodLink RX3 78 yX3_tellOnce) ∈ W0 := wt3 _ (List.mem_of_getElem? (i := 196) rfl) rfl
theorem w_270 : (Cond.instanceMethod yX3_tellOnce) ∈ W0 := wt3 _ (List.mem_of_getElem? (i := 198) rfl) rfl
theorem w_271 : (Cond.selects yX3_tellOnce.cls yX3_tellOnce yX3_tellOnce) ∈ W0 := w0_sel (yX3_tellOnce, 10) (List.mem_of_getElem? (i := 11) rfl) rfl
theorem w_272 : (Cond.fieldLink RX3 109 (clT 8 12).1 (clT 8 12).2.1 (clT 8 12).2.2.1) ∈ W0 := wt1 _ (List.mem_of_getElem? (i := 118) rfl) rfl
theorem w_273 : (Cond.code yX3_takeSetEvening cX3_takeSetEvening 2 none) ∈ W0 := wt4 _ (List.mem_of_getElem? (i := 20) rfl) rfl
theorem w_274 : (Cond.methodLink RX3 183 yX3_takeSetEvening) ∈ W0 := wt4 _ (List.mem_of_getElem? (i := 17) rfl) rfl
theorem w_275 : (Cond.instanceMethod yX3_takeSetEvening) ∈ W0 := wt4 _ (List.mem_of_getElem? (i := 19) rfl) rfl
theorem w_276 : (Cond.selects yX3_takeSetEvening.cls yX3_takeSetEvening yX3_takeSetEvening) ∈ W0 := w0_sel (yX3_takeSetEvening, 10) (List.mem_of_getElem? (i := 22) rfl) rfl
theorem w_277 : (Cond.code yX3_needStop cX3_needStop 1 none) ∈ W0 := wt4 _ (List.mem_of_getElem? (i := 25) rfl) rfl
theorem w_278 : (Cond.methodLink RX3 127 yX3_needStop) ∈ W0 := wt4 _ (List.mem_of_getElem? (i := 22) rfl) rfl
theorem w_279 : (Cond.instanceMethod yX3_needStop) ∈ W0 := wt4 _ (List.mem_of_getElem? (i := 24) rfl) rfl
theorem w_280 : (Cond.selects yX3_needStop.cls yX3_needStop yX3_needStop) ∈ W0 := w0_sel (yX3_needStop, 10) (List.mem_of_getElem? (i := 23) rfl) rfl
theorem w_281 : (Cond.code yX3_readSet cX3_readSet 2 none) ∈ W0 := wt4 _ (List.mem_of_getElem? (i := 15) rfl) rfl
theorem w_282 : (Cond.methodLink RX3 119 yX3_readSet) ∈ W0 := wt4 _ (List.mem_of_getElem? (i := 12) rfl) rfl
theorem w_283 : (Cond.instanceMethod yX3_readSet) ∈ W0 := wt4 _ (List.mem_of_getElem? (i := 14) rfl) rfl
theorem w_284 : (Cond.selects yX3_readSet.cls yX3_readSet yX3_readSet) ∈ W0 := w0_sel (yX3_readSet, 10) (List.mem_of_getElem? (i := 21) rfl) rfl
theorem w_285 : (Cond.fieldLink RX3 114 (clT 8 5).1 (clT 8 5).2.1 (clT 8 5).2.2.1) ∈ W0 := wt1 _ (List.mem_of_getElem? (i := 90) rfl) rfl
theorem w_286 : (Cond.code yX3_readSeats cX3_readSeats 1 none) ∈ W0 := wt4 _ (List.mem_of_getElem? (i := 7) rfl) rfl
theorem w_287 : (Cond.methodLink RX3 104 yX3_readSeats) ∈ W0 := wt4 _ (List.mem_of_getElem? (i := 4) rfl) rfl
theorem w_288 : (Cond.instanceMethod yX3_readSeats) ∈ W0 := wt4 _ (List.mem_of_getElem? (i := 6) rfl) rfl
theorem w_289 : (Cond.selects yX3_readSeats.cls yX3_readSeats yX3_readSeats) ∈ W0 := w0_sel (yX3_readSeats, 10) (List.mem_of_getElem? (i := 20) rfl) rfl
theorem w_290 : (Cond.code yX3_readPeople cX3_readPeople 5 none) ∈ W0 := wt3 _ (List.mem_of_getElem? (i := 231) rfl) rfl
theorem w_291 : (Cond.methodLink RX3 99 yX3_readPeople) ∈ W0 := wt3 _ (List.mem_of_getElem? (i := 228) rfl) rfl
theorem w_292 : (Cond.instanceMethod yX3_readPeople) ∈ W0 := wt3 _ (List.mem_of_getElem? (i := 230) rfl) rfl
theorem w_293 : (Cond.selects yX3_readPeople.cls yX3_readPeople yX3_readPeople) ∈ W0 := w0_sel (yX3_readPeople, 10) (List.mem_of_getElem? (i := 18) rfl) rfl
theorem w_294 : (Cond.code yX3_readEvening cX3_readEvening 2 none) ∈ W0 := wt3 _ (List.mem_of_getElem? (i := 217) rfl) rfl
theorem w_295 : (Cond.methodLink RX3 94 yX3_readEvening) ∈ W0 := wt3 _ (List.mem_of_getElem? (i := 214) rfl) rfl
theorem w_296 : (Cond.instanceMethod yX3_readEvening) ∈ W0 := wt3 _ (List.mem_of_getElem? (i := 216) rfl) rfl
theorem w_297 : (Cond.selects yX3_readEvening.cls yX3_readEvening yX3_readEvening) ∈ W0 := w0_sel (yX3_readEvening, 10) (List.mem_of_getElem? (i := 15) rfl) rfl
theorem w_298 : (Cond.fieldLink RX3 90 (clT 8 1).1 (clT 8 1).2.1 (clT 8 1).2.2.1) ∈ W0 := wt1 _ (List.mem_of_getElem? (i := 67) rfl) rfl
theorem w_299 : (Cond.fieldLink RX3 86 (clT 8 0).1 (clT 8 0).2.1 (clT 8 0).2.2.1) ∈ W0 := wt1 _ (List.mem_of_getElem? (i := 63) rfl) rfl
theorem w_300 : (Cond.fieldLink RX8 9 (clT 8 0).1 (clT 8 0).2.1 (clT 8 0).2.2.1) ∈ W0 := wt1 _ (List.mem_of_getElem? (i := 61) rfl) rfl
theorem w_301 : (Cond.fieldLink RX8 41 (clT 8 1).1 (clT 8 1).2.1 (clT 8 1).2.2.1) ∈ W0 := wt1 _ (List.mem_of_getElem? (i := 66) rfl) rfl
theorem w_302 : (Cond.fieldLink RX8 47 (clT 8 3).1 (clT 8 3).2.1 (clT 8 3).2.2.1) ∈ W0 := wt1 _ (List.mem_of_getElem? (i := 78) rfl) rfl
theorem w_303 : (Cond.fieldLink RX8 50 (clT 8 4).1 (clT 8 4).2.1 (clT 8 4).2.2.1) ∈ W0 := wt1 _ (List.mem_of_getElem? (i := 85) rfl) rfl
theorem w_304 : (Cond.fieldLink RX8 53 (clT 8 5).1 (clT 8 5).2.1 (clT 8 5).2.2.1) ∈ W0 := wt1 _ (List.mem_of_getElem? (i := 89) rfl) rfl
theorem w_305 : (Cond.fieldLink RX8 25 (clT 8 9).1 (clT 8 9).2.1 (clT 8 9).2.2.1) ∈ W0 := wt1 _ (List.mem_of_getElem? (i := 101) rfl) rfl
theorem w_306 : (Cond.fieldLink RX8 28 (clT 8 10).1 (clT 8 10).2.1 (clT 8 10).2.2.1) ∈ W0 := wt1 _ (List.mem_of_getElem? (i := 109) rfl) rfl
theorem w_307 : (Cond.fieldLink RX8 31 (clT 8 11).1 (clT 8 11).2.1 (clT 8 11).2.2.1) ∈ W0 := wt1 _ (List.mem_of_getElem? (i := 112) rfl) rfl
theorem w_308 : (Cond.fieldLink RX8 34 (clT 8 12).1 (clT 8 12).2.1 (clT 8 12).2.2.1) ∈ W0 := wt1 _ (List.mem_of_getElem? (i := 115) rfl) rfl
theorem w_309 : (Cond.code yX8_clear cX8_clear 1 none) ∈ W0 := wt3 _ (List.mem_of_getElem? (i := 128) rfl) rfl
theorem w_310 : (Cond.methodLink RX3 33 yX8_clear) ∈ W0 := wt3 _ (List.mem_of_getElem? (i := 125) rfl) rfl
theorem w_311 : (Cond.instanceMethod yX8_clear) ∈ W0 := wt3 _ (List.mem_of_getElem? (i := 126) rfl) rfl
theorem w_312 : (Cond.selects yX8_clear.cls yX8_clear yX8_clear) ∈ W0 := wt3 _ (List.mem_of_getElem? (i := 127) rfl) rfl
theorem w_313 : (Cond.code yX3_typeOf cX3_typeOf 1 (some .int)) ∈ W0 := wt3 _ (List.mem_of_getElem? (i := 132) rfl) rfl
theorem w_314 : (Cond.methodLink RX3 55 yX3_typeOf) ∈ W0 := wt3 _ (List.mem_of_getElem? (i := 130) rfl) rfl
theorem w_315 : (Cond.static yX3_typeOf) ∈ W0 := wt3 _ (List.mem_of_getElem? (i := 131) rfl) rfl
theorem w_316 : (Cond.code yX3_readLine cX3_readLine 1 none) ∈ W0 := wt3 _ (List.mem_of_getElem? (i := 142) rfl) rfl
theorem w_317 : (Cond.methodLink RX3 69 yX3_readLine) ∈ W0 := wt3 _ (List.mem_of_getElem? (i := 139) rfl) rfl
theorem w_318 : (Cond.instanceMethod yX3_readLine) ∈ W0 := wt3 _ (List.mem_of_getElem? (i := 141) rfl) rfl
theorem w_319 : (Cond.selects yX3_readLine.cls yX3_readLine yX3_readLine) ∈ W0 := w0_sel (yX3_readLine, 10) (List.mem_of_getElem? (i := 9) rfl) rfl
theorem w_320 : (Cond.fieldLink RX4 21 (clT 4 0).1 (clT 4 0).2.1 (clT 4 0).2.2.1) ∈ W0 := wt2 _ (List.mem_of_getElem? (i := 109) rfl) rfl
theorem w_321 : (Cond.fieldLink RX4 25 (clT 4 1).1 (clT 4 1).2.1 (clT 4 1).2.2.1) ∈ W0 := wt2 _ (List.mem_of_getElem? (i := 111) rfl) rfl
theorem w_322 : (Cond.fieldLink RX4 29 (clT 4 2).1 (clT 4 2).2.1 (clT 4 2).2.2.1) ∈ W0 := wt2 _ (List.mem_of_getElem? (i := 113) rfl) rfl
theorem w_323 : (Cond.fieldLink RX4 9 (clT 4 3).1 (clT 4 3).2.1 (clT 4 3).2.2.1) ∈ W0 := wt2 _ (List.mem_of_getElem? (i := 114) rfl) rfl
theorem w_324 : (Cond.fieldLink RX4 15 (clT 4 4).1 (clT 4 4).2.1 (clT 4 4).2.2.1) ∈ W0 := wt2 _ (List.mem_of_getElem? (i := 115) rfl) rfl
theorem w_325 : (Cond.fieldLink RX4 18 (clT 4 5).1 (clT 4 5).2.1 (clT 4 5).2.2.1) ∈ W0 := wt2 _ (List.mem_of_getElem? (i := 116) rfl) rfl
theorem w_326 : (Cond.constant RX4 99 (1103515245)) ∈ W0 := wt6 _ (List.mem_of_getElem? (i := 16) rfl) rfl
theorem w_327 : (Cond.methodLink RX4 82 yX8_ofKind) ∈ W0 := wt6 _ (List.mem_of_getElem? (i := 25) rfl) rfl
theorem w_328 : (Cond.code yX4_draw cX4_draw 1 (some .int)) ∈ W0 := wt6 _ (List.mem_of_getElem? (i := 15) rfl) rfl
theorem w_329 : (Cond.initialized RX4) ∈ W0 := wt1 _ (List.mem_of_getElem? (i := 10) rfl) rfl
theorem w_330 : (Cond.methodLink RX4 44 yX4_draw) ∈ W0 := wt6 _ (List.mem_of_getElem? (i := 12) rfl) rfl
theorem w_331 : (Cond.instanceMethod yX4_draw) ∈ W0 := wt6 _ (List.mem_of_getElem? (i := 14) rfl) rfl
theorem w_332 : (Cond.selects yX4_draw.cls yX4_draw yX4_draw) ∈ W0 := w0_sel (yX4_draw, 6) (List.mem_of_getElem? (i := 45) rfl) rfl
theorem w_333 : (Cond.methodLink RX4 85 yX2_leftOfTen) ∈ W0 := wt6 _ (List.mem_of_getElem? (i := 30) rfl) rfl
theorem w_334 : (Cond.methodLink RX4 91 yX2_takes) ∈ W0 := wt6 _ (List.mem_of_getElem? (i := 31) rfl) rfl
theorem w_335 : (Cond.methodLink RX4 95 yX2_isOfHabit) ∈ W0 := wt6 _ (List.mem_of_getElem? (i := 32) rfl) rfl
theorem w_336 : (Cond.methodLink RX4 48 yX8_ofEvening) ∈ W0 := wt6 _ (List.mem_of_getElem? (i := 17) rfl) rfl
theorem w_337 : (Cond.fieldLink RX4 58 (clT 8 3).1 (clT 8 3).2.1 (clT 8 3).2.2.1) ∈ W0 := wt1 _ (List.mem_of_getElem? (i := 82) rfl) rfl
theorem w_338 : (Cond.methodLink RX4 61 yX0_planBoughtBy) ∈ W0 := wt6 _ (List.mem_of_getElem? (i := 19) rfl) rfl
theorem w_339 : (Cond.fieldLink RX4 67 (clT 8 9).1 (clT 8 9).2.1 (clT 8 9).2.2.1) ∈ W0 := wt1 _ (List.mem_of_getElem? (i := 105) rfl) rfl
theorem w_340 : (Cond.code yX4_canCome cX4_canCome 5 (some .boolean)) ∈ W0 := wt6 _ (List.mem_of_getElem? (i := 24) rfl) rfl
theorem w_341 : (Cond.methodLink RX4 74 yX4_canCome) ∈ W0 := wt6 _ (List.mem_of_getElem? (i := 21) rfl) rfl
theorem w_342 : (Cond.instanceMethod yX4_canCome) ∈ W0 := wt6 _ (List.mem_of_getElem? (i := 23) rfl) rfl
theorem w_343 : (Cond.selects yX4_canCome.cls yX4_canCome yX4_canCome) ∈ W0 := w0_sel (yX4_canCome, 6) (List.mem_of_getElem? (i := 46) rfl) rfl
theorem w_344 : (Cond.code yX4_comes cX4_comes 6 (some .boolean)) ∈ W0 := wt6 _ (List.mem_of_getElem? (i := 29) rfl) rfl
theorem w_345 : (Cond.methodLink RX4 78 yX4_comes) ∈ W0 := wt6 _ (List.mem_of_getElem? (i := 26) rfl) rfl
theorem w_346 : (Cond.instanceMethod yX4_comes) ∈ W0 := wt6 _ (List.mem_of_getElem? (i := 28) rfl) rfl
theorem w_347 : (Cond.selects yX4_comes.cls yX4_comes yX4_comes) ∈ W0 := w0_sel (yX4_comes, 6) (List.mem_of_getElem? (i := 47) rfl) rfl
theorem w_348 : (Cond.code yX4_play cX4_play 11 none) ∈ W0 := wt6 _ (List.mem_of_getElem? (i := 11) rfl) rfl
theorem w_349 : (Cond.methodLink RX4 40 yX4_play) ∈ W0 := wt6 _ (List.mem_of_getElem? (i := 8) rfl) rfl
theorem w_350 : (Cond.instanceMethod yX4_play) ∈ W0 := wt6 _ (List.mem_of_getElem? (i := 10) rfl) rfl
theorem w_351 : (Cond.selects yX4_play.cls yX4_play yX4_play) ∈ W0 := w0_sel (yX4_play, 6) (List.mem_of_getElem? (i := 44) rfl) rfl
theorem w_352 : (Cond.code yX4_cameOf cX4_cameOf 3 (some .int)) ∈ W0 := wt6 _ (List.mem_of_getElem? (i := 47) rfl) rfl
theorem w_353 : (Cond.methodLink RX4 100 yX4_cameOf) ∈ W0 := wt6 _ (List.mem_of_getElem? (i := 44) rfl) rfl
theorem w_354 : (Cond.instanceMethod yX4_cameOf) ∈ W0 := wt6 _ (List.mem_of_getElem? (i := 45) rfl) rfl
theorem w_355 : (Cond.selects yX4_cameOf.cls yX4_cameOf yX4_cameOf) ∈ W0 := wt6 _ (List.mem_of_getElem? (i := 46) rfl) rfl
theorem w_356 : (Cond.fieldLink RX4 103 (clT 0 0).1 (clT 0 0).2.1 (clT 0 0).2.2.1) ∈ W0 := wt1 _ (List.mem_of_getElem? (i := 235) rfl) rfl
theorem w_357 : (Cond.fieldLink RX5 25 (clT 5 4).1 (clT 5 4).2.1 (clT 5 4).2.2.1) ∈ W0 := wt2 _ (List.mem_of_getElem? (i := 47) rfl) rfl
theorem w_358 : (Cond.fieldLink RX5 29 (clT 5 5).1 (clT 5 5).2.1 (clT 5 5).2.2.1) ∈ W0 := wt2 _ (List.mem_of_getElem? (i := 49) rfl) rfl
theorem w_359 : (Cond.fieldLink RX5 21 (clT 5 3).1 (clT 5 3).2.1 (clT 5 3).2.2.1) ∈ W0 := wt2 _ (List.mem_of_getElem? (i := 45) rfl) rfl
theorem w_360 : (Cond.fieldLink RX5 32 (clT 0 1).1 (clT 0 1).2.1 (clT 0 1).2.2.1) ∈ W0 := wt1 _ (List.mem_of_getElem? (i := 238) rfl) rfl
theorem w_361 : (Cond.fieldLink RX5 65 (clT 8 3).1 (clT 8 3).2.1 (clT 8 3).2.2.1) ∈ W0 := wt1 _ (List.mem_of_getElem? (i := 80) rfl) rfl
theorem w_362 : (Cond.fieldLink RX5 15 (clT 5 1).1 (clT 5 1).2.1 (clT 5 1).2.2.1) ∈ W0 := wt2 _ (List.mem_of_getElem? (i := 43) rfl) rfl
theorem w_363 : (Cond.fieldLink RX5 9 (clT 5 0).1 (clT 5 0).2.1 (clT 5 0).2.2.1) ∈ W0 := wt2 _ (List.mem_of_getElem? (i := 42) rfl) rfl
theorem w_364 : (Cond.methodLink RX5 69 yX0_planOf) ∈ W0 := wt5 _ (List.mem_of_getElem? (i := 96) rfl) rfl
theorem w_365 : (Cond.methodLink RX5 73 yX2_value) ∈ W0 := wt5 _ (List.mem_of_getElem? (i := 97) rfl) rfl
theorem w_366 : (Cond.methodLink RX5 79 yX0_choose) ∈ W0 := wt5 _ (List.mem_of_getElem? (i := 98) rfl) rfl
theorem w_367 : (Cond.fieldLink RX5 83 (clT 8 9).1 (clT 8 9).2.1 (clT 8 9).2.2.1) ∈ W0 := wt1 _ (List.mem_of_getElem? (i := 104) rfl) rfl
theorem w_368 : (Cond.methodLink RX5 86 yX0_takings) ∈ W0 := wt5 _ (List.mem_of_getElem? (i := 99) rfl) rfl
theorem w_369 : (Cond.code yX0_fullOfAll cX0_fullOfAll 6 (some .long)) ∈ W0 := wt5 _ (List.mem_of_getElem? (i := 103) rfl) rfl
theorem w_370 : (Cond.methodLink RX5 90 yX0_fullOfAll) ∈ W0 := wt5 _ (List.mem_of_getElem? (i := 100) rfl) rfl
theorem w_371 : (Cond.instanceMethod yX0_fullOfAll) ∈ W0 := wt5 _ (List.mem_of_getElem? (i := 101) rfl) rfl
theorem w_372 : (Cond.selects yX0_fullOfAll.cls yX0_fullOfAll yX0_fullOfAll) ∈ W0 := wt5 _ (List.mem_of_getElem? (i := 102) rfl) rfl
theorem w_373 : (Cond.code yX5_keepBetter cX5_keepBetter 5 none) ∈ W0 := wt5 _ (List.mem_of_getElem? (i := 107) rfl) rfl
theorem w_374 : (Cond.initialized RX5) ∈ W0 := wt1 _ (List.mem_of_getElem? (i := 8) rfl) rfl
theorem w_375 : (Cond.methodLink RX5 94 yX5_keepBetter) ∈ W0 := wt5 _ (List.mem_of_getElem? (i := 104) rfl) rfl
theorem w_376 : (Cond.instanceMethod yX5_keepBetter) ∈ W0 := wt5 _ (List.mem_of_getElem? (i := 106) rfl) rfl
theorem w_377 : (Cond.selects yX5_keepBetter.cls yX5_keepBetter yX5_keepBetter) ∈ W0 := w0_sel (yX5_keepBetter, 8) (List.mem_of_getElem? (i := 38) rfl) rfl
theorem w_378 : (Cond.constantLong RX5 45 (-1)) ∈ W0 := wt5 _ (List.mem_of_getElem? (i := 89) rfl) rfl
theorem w_379 : (Cond.constantLong RX5 102 (1000)) ∈ W0 := wt5 _ (List.mem_of_getElem? (i := 109) rfl) rfl
theorem w_380 : (Cond.fieldLink RX5 104 (clT 8 1).1 (clT 8 1).2.1 (clT 8 1).2.2.1) ∈ W0 := wt1 _ (List.mem_of_getElem? (i := 68) rfl) rfl
theorem w_381 : (Cond.fieldLink RX5 38 (clT 8 12).1 (clT 8 12).2.1 (clT 8 12).2.2.1) ∈ W0 := wt1 _ (List.mem_of_getElem? (i := 117) rfl) rfl
theorem w_382 : (Cond.code yX5_weigh cX5_weigh 8 none) ∈ W0 := wt5 _ (List.mem_of_getElem? (i := 95) rfl) rfl
theorem w_383 : (Cond.methodLink RX5 55 yX5_weigh) ∈ W0 := wt5 _ (List.mem_of_getElem? (i := 92) rfl) rfl
theorem w_384 : (Cond.instanceMethod yX5_weigh) ∈ W0 := wt5 _ (List.mem_of_getElem? (i := 94) rfl) rfl
theorem w_385 : (Cond.selects yX5_weigh.cls yX5_weigh yX5_weigh) ∈ W0 := w0_sel (yX5_weigh, 8) (List.mem_of_getElem? (i := 37) rfl) rfl
theorem w_386 : (Cond.methodLink RX5 59 Lib.Math.min.name) ∈ W0 := wt5 _ (List.mem_of_getElem? (i := 110) rfl) rfl
theorem w_387 : (Cond.fieldLink RX5 124 (clT 0 2).1 (clT 0 2).2.1 (clT 0 2).2.2.1) ∈ W0 := wt2 _ (List.mem_of_getElem? (i := 0) rfl) rfl
theorem w_388 : (Cond.fieldLink RX5 18 (clT 5 2).1 (clT 5 2).2.1 (clT 5 2).2.2.1) ∈ W0 := wt2 _ (List.mem_of_getElem? (i := 44) rfl) rfl
theorem w_389 : (Cond.methodLink RX5 128 yX2_make) ∈ W0 := wt5 _ (List.mem_of_getElem? (i := 186) rfl) rfl
theorem w_390 : (Cond.fieldLink RX5 111 (clT 8 2).1 (clT 8 2).2.1 (clT 8 2).2.2.1) ∈ W0 := wt1 _ (List.mem_of_getElem? (i := 74) rfl) rfl
theorem w_391 : (Cond.code yX5_earnedBySet cX5_earnedBySet 4 (some .long)) ∈ W0 := wt5 _ (List.mem_of_getElem? (i := 185) rfl) rfl
theorem w_392 : (Cond.methodLink RX5 114 yX5_earnedBySet) ∈ W0 := wt5 _ (List.mem_of_getElem? (i := 182) rfl) rfl
theorem w_393 : (Cond.instanceMethod yX5_earnedBySet) ∈ W0 := wt5 _ (List.mem_of_getElem? (i := 184) rfl) rfl
theorem w_394 : (Cond.selects yX5_earnedBySet.cls yX5_earnedBySet yX5_earnedBySet) ∈ W0 := w0_sel (yX5_earnedBySet, 8) (List.mem_of_getElem? (i := 42) rfl) rfl
theorem w_395 : (Cond.fieldLink RX5 118 (clT 5 6).1 (clT 5 6).2.1 (clT 5 6).2.2.1) ∈ W0 := wt2 _ (List.mem_of_getElem? (i := 51) rfl) rfl
theorem w_396 : (Cond.fieldLink RX5 121 (clT 5 7).1 (clT 5 7).2.1 (clT 5 7).2.2.1) ∈ W0 := wt2 _ (List.mem_of_getElem? (i := 53) rfl) rfl
theorem w_397 : (Cond.fieldLink RX6 21 (clT 6 0).1 (clT 6 0).2.1 (clT 6 0).2.2.1) ∈ W0 := wt2 _ (List.mem_of_getElem? (i := 78) rfl) rfl
theorem w_398 : (Cond.fieldLink RX6 47 (clT 6 1).1 (clT 6 1).2.1 (clT 6 1).2.2.1) ∈ W0 := wt2 _ (List.mem_of_getElem? (i := 80) rfl) rfl
theorem w_399 : (Cond.fieldLink RX6 51 (clT 8 3).1 (clT 8 3).2.1 (clT 8 3).2.2.1) ∈ W0 := wt1 _ (List.mem_of_getElem? (i := 81) rfl) rfl
theorem w_400 : (Cond.fieldLink RX6 56 (clT 0 0).1 (clT 0 0).2.1 (clT 0 0).2.2.1) ∈ W0 := wt1 _ (List.mem_of_getElem? (i := 233) rfl) rfl
theorem w_401 : (Cond.fieldLink RX6 65 (clT 8 9).1 (clT 8 9).2.1 (clT 8 9).2.2.1) ∈ W0 := wt1 _ (List.mem_of_getElem? (i := 103) rfl) rfl
theorem w_402 : (Cond.fieldLink RX6 15 (clT 6 3).1 (clT 6 3).2.1 (clT 6 3).2.2.1) ∈ W0 := wt2 _ (List.mem_of_getElem? (i := 84) rfl) rfl
theorem w_403 : (Cond.fieldLink RX6 78 (clT 6 5).1 (clT 6 5).2.1 (clT 6 5).2.2.1) ∈ W0 := wt2 _ (List.mem_of_getElem? (i := 86) rfl) rfl
theorem w_404 : (Cond.fieldLink RX6 72 (clT 8 4).1 (clT 8 4).2.1 (clT 8 4).2.2.1) ∈ W0 := wt1 _ (List.mem_of_getElem? (i := 86) rfl) rfl
theorem w_405 : (Cond.fieldLink RX6 84 (clT 6 6).1 (clT 6 6).2.1 (clT 6 6).2.2.1) ∈ W0 := wt2 _ (List.mem_of_getElem? (i := 87) rfl) rfl
theorem w_406 : (Cond.methodLink RX6 101 Lib.Math.min.name) ∈ W0 := wt3 _ (List.mem_of_getElem? (i := 14) rfl) rfl
theorem w_407 : (Cond.fieldLink RX6 75 (clT 8 11).1 (clT 8 11).2.1 (clT 8 11).2.2.1) ∈ W0 := wt1 _ (List.mem_of_getElem? (i := 113) rfl) rfl
theorem w_408 : (Cond.fieldLink RX6 18 (clT 6 4).1 (clT 6 4).2.1 (clT 6 4).2.2.1) ∈ W0 := wt2 _ (List.mem_of_getElem? (i := 85) rfl) rfl
theorem w_409 : (Cond.constantLong RX6 107 (1000000)) ∈ W0 := wt3 _ (List.mem_of_getElem? (i := 17) rfl) rfl
theorem w_410 : (Cond.fieldLink RX6 81 (clT 8 10).1 (clT 8 10).2.1 (clT 8 10).2.2.1) ∈ W0 := wt1 _ (List.mem_of_getElem? (i := 110) rfl) rfl
theorem w_411 : (Cond.methodLink RX6 87 yX0_planBoughtBy) ∈ W0 := wt3 _ (List.mem_of_getElem? (i := 2) rfl) rfl
theorem w_412 : (Cond.methodLink RX6 91 yX2_gone) ∈ W0 := wt3 _ (List.mem_of_getElem? (i := 6) rfl) rfl
theorem w_413 : (Cond.code yX6_seat cX6_seat 10 (some .long)) ∈ W0 := wt3 _ (List.mem_of_getElem? (i := 13) rfl) rfl
theorem w_414 : (Cond.initialized RX6) ∈ W0 := wt1 _ (List.mem_of_getElem? (i := 9) rfl) rfl
theorem w_415 : (Cond.methodLink RX6 97 yX6_seat) ∈ W0 := wt3 _ (List.mem_of_getElem? (i := 10) rfl) rfl
theorem w_416 : (Cond.instanceMethod yX6_seat) ∈ W0 := wt3 _ (List.mem_of_getElem? (i := 12) rfl) rfl
theorem w_417 : (Cond.selects yX6_seat.cls yX6_seat yX6_seat) ∈ W0 := w0_sel (yX6_seat, 7) (List.mem_of_getElem? (i := 4) rfl) rfl
theorem w_418 : (Cond.code yX6_swap cX6_swap 4 none) ∈ W0 := wt3 _ (List.mem_of_getElem? (i := 28) rfl) rfl
theorem w_419 : (Cond.methodLink RX6 109 yX6_swap) ∈ W0 := wt3 _ (List.mem_of_getElem? (i := 25) rfl) rfl
theorem w_420 : (Cond.instanceMethod yX6_swap) ∈ W0 := wt3 _ (List.mem_of_getElem? (i := 27) rfl) rfl
theorem w_421 : (Cond.selects yX6_swap.cls yX6_swap yX6_swap) ∈ W0 := w0_sel (yX6_swap, 7) (List.mem_of_getElem? (i := 6) rfl) rfl
theorem w_422 : (Cond.code yX6_collect cX6_collect 6 none) ∈ W0 := wt2 _ (List.mem_of_getElem? (i := 230) rfl) rfl
theorem w_423 : (Cond.methodLink RX6 25 yX6_collect) ∈ W0 := wt2 _ (List.mem_of_getElem? (i := 227) rfl) rfl
theorem w_424 : (Cond.instanceMethod yX6_collect) ∈ W0 := wt2 _ (List.mem_of_getElem? (i := 229) rfl) rfl
theorem w_425 : (Cond.selects yX6_collect.cls yX6_collect yX6_collect) ∈ W0 := w0_sel (yX6_collect, 7) (List.mem_of_getElem? (i := 1) rfl) rfl
theorem w_426 : (Cond.code yX6_rankRows cX6_rankRows 6 none) ∈ W0 := wt2 _ (List.mem_of_getElem? (i := 236) rfl) rfl
theorem w_427 : (Cond.methodLink RX6 29 yX6_rankRows) ∈ W0 := wt2 _ (List.mem_of_getElem? (i := 233) rfl) rfl
theorem w_428 : (Cond.instanceMethod yX6_rankRows) ∈ W0 := wt2 _ (List.mem_of_getElem? (i := 235) rfl) rfl
theorem w_429 : (Cond.selects yX6_rankRows.cls yX6_rankRows yX6_rankRows) ∈ W0 := w0_sel (yX6_rankRows, 7) (List.mem_of_getElem? (i := 2) rfl) rfl
theorem w_430 : (Cond.constantLong RX6 33 (-1)) ∈ W0 := wt2 _ (List.mem_of_getElem? (i := 237) rfl) rfl
theorem w_431 : (Cond.code yX6_gain cX6_gain 7 (some .long)) ∈ W0 := wt3 _ (List.mem_of_getElem? (i := 1) rfl) rfl
theorem w_432 : (Cond.methodLink RX6 35 yX6_gain) ∈ W0 := wt2 _ (List.mem_of_getElem? (i := 238) rfl) rfl
theorem w_433 : (Cond.instanceMethod yX6_gain) ∈ W0 := wt3 _ (List.mem_of_getElem? (i := 0) rfl) rfl
theorem w_434 : (Cond.selects yX6_gain.cls yX6_gain yX6_gain) ∈ W0 := w0_sel (yX6_gain, 7) (List.mem_of_getElem? (i := 3) rfl) rfl
theorem w_435 : (Cond.code yX6_nextRow cX6_nextRow 5 (some .boolean)) ∈ W0 := wt3 _ (List.mem_of_getElem? (i := 24) rfl) rfl
theorem w_436 : (Cond.methodLink RX6 43 yX6_nextRow) ∈ W0 := wt3 _ (List.mem_of_getElem? (i := 21) rfl) rfl
theorem w_437 : (Cond.instanceMethod yX6_nextRow) ∈ W0 := wt3 _ (List.mem_of_getElem? (i := 23) rfl) rfl
theorem w_438 : (Cond.selects yX6_nextRow.cls yX6_nextRow yX6_nextRow) ∈ W0 := w0_sel (yX6_nextRow, 7) (List.mem_of_getElem? (i := 5) rfl) rfl
theorem w_439 : (Cond.fieldLink RX6 9 (clT 6 2).1 (clT 6 2).2.1 (clT 6 2).2.2.1) ∈ W0 := wt2 _ (List.mem_of_getElem? (i := 82) rfl) rfl
theorem w_440 : (Cond.fieldLink RX7 15 (clT 7 1).1 (clT 7 1).2.1 (clT 7 1).2.2.1) ∈ W0 := wt1 _ (List.mem_of_getElem? (i := 45) rfl) rfl
theorem w_441 : (Cond.fieldLink RX7 9 (clT 7 0).1 (clT 7 0).2.1 (clT 7 0).2.2.1) ∈ W0 := wt1 _ (List.mem_of_getElem? (i := 42) rfl) rfl
theorem w_442 : (Cond.fieldLink RX9 20 (clT 9 1).1 (clT 9 1).2.1 (clT 9 1).2.2.1) ∈ W0 := wt2 _ (List.mem_of_getElem? (i := 134) rfl) rfl
theorem w_443 : (Cond.fieldLink RX9 74 (clT 7 1).1 (clT 7 1).2.1 (clT 7 1).2.2.1) ∈ W0 := wt1 _ (List.mem_of_getElem? (i := 44) rfl) rfl
theorem w_444 : (Cond.code yX7_add cX7_add 3 none) ∈ W0 := wt2 _ (List.mem_of_getElem? (i := 180) rfl) rfl
theorem w_445 : (Cond.initialized RX7) ∈ W0 := wt1 _ (List.mem_of_getElem? (i := 3) rfl) rfl
theorem w_446 : (Cond.methodLink RX9 79 yX7_add) ∈ W0 := wt2 _ (List.mem_of_getElem? (i := 177) rfl) rfl
theorem w_447 : (Cond.instanceMethod yX7_add) ∈ W0 := wt2 _ (List.mem_of_getElem? (i := 178) rfl) rfl
theorem w_448 : (Cond.selects yX7_add.cls yX7_add yX7_add) ∈ W0 := wt2 _ (List.mem_of_getElem? (i := 179) rfl) rfl
theorem w_449 : (Cond.fieldLink RX9 10 (clT 9 0).1 (clT 9 0).2.1 (clT 9 0).2.2.1) ∈ W0 := wt2 _ (List.mem_of_getElem? (i := 133) rfl) rfl
theorem w_450 : (Cond.fieldLink RX9 67 (clT 9 9).1 (clT 9 9).2.1 (clT 9 9).2.2.1) ∈ W0 := wt2 _ (List.mem_of_getElem? (i := 142) rfl) rfl
theorem w_451 : (Cond.code yX3_read cX3_read 4 (some .int)) ∈ W0 := wt3 _ (List.mem_of_getElem? (i := 124) rfl) rfl
theorem w_452 : (Cond.methodLink RX9 86 yX3_read) ∈ W0 := wt3 _ (List.mem_of_getElem? (i := 121) rfl) rfl
theorem w_453 : (Cond.instanceMethod yX3_read) ∈ W0 := wt3 _ (List.mem_of_getElem? (i := 122) rfl) rfl
theorem w_454 : (Cond.selects yX3_read.cls yX3_read yX3_read) ∈ W0 := wt3 _ (List.mem_of_getElem? (i := 123) rfl) rfl
theorem w_455 : (Cond.fieldLink RX9 70 (clT 9 10).1 (clT 9 10).2.1 (clT 9 10).2.2.1) ∈ W0 := wt2 _ (List.mem_of_getElem? (i := 143) rfl) rfl
theorem w_456 : (Cond.fieldLink RX9 63 (clT 9 8).1 (clT 9 8).2.1 (clT 9 8).2.2.1) ∈ W0 := wt2 _ (List.mem_of_getElem? (i := 141) rfl) rfl
theorem w_457 : (Cond.fieldLink RX9 24 (clT 9 2).1 (clT 9 2).2.1 (clT 9 2).2.2.1) ∈ W0 := wt2 _ (List.mem_of_getElem? (i := 135) rfl) rfl
theorem w_458 : (Cond.code yX0_open cX0_open 5 none) ∈ W0 := wt4 _ (List.mem_of_getElem? (i := 33) rfl) rfl
theorem w_459 : (Cond.methodLink RX9 97 yX0_open) ∈ W0 := wt4 _ (List.mem_of_getElem? (i := 30) rfl) rfl
theorem w_460 : (Cond.instanceMethod yX0_open) ∈ W0 := wt4 _ (List.mem_of_getElem? (i := 31) rfl) rfl
theorem w_461 : (Cond.selects yX0_open.cls yX0_open yX0_open) ∈ W0 := wt4 _ (List.mem_of_getElem? (i := 32) rfl) rfl
theorem w_462 : (Cond.fieldLink RX9 31 (clT 9 3).1 (clT 9 3).2.1 (clT 9 3).2.2.1) ∈ W0 := wt2 _ (List.mem_of_getElem? (i := 136) rfl) rfl
theorem w_463 : (Cond.code yX1_forget cX1_forget 1 none) ∈ W0 := wt4 _ (List.mem_of_getElem? (i := 115) rfl) rfl
theorem w_464 : (Cond.methodLink RX9 101 yX1_forget) ∈ W0 := wt4 _ (List.mem_of_getElem? (i := 112) rfl) rfl
theorem w_465 : (Cond.instanceMethod yX1_forget) ∈ W0 := wt4 _ (List.mem_of_getElem? (i := 113) rfl) rfl
theorem w_466 : (Cond.selects yX1_forget.cls yX1_forget yX1_forget) ∈ W0 := wt4 _ (List.mem_of_getElem? (i := 114) rfl) rfl
theorem w_467 : (Cond.fieldLink RX9 38 (clT 9 4).1 (clT 9 4).2.1 (clT 9 4).2.2.1) ∈ W0 := wt2 _ (List.mem_of_getElem? (i := 137) rfl) rfl
theorem w_468 : (Cond.code yX5_forget cX5_forget 1 none) ∈ W0 := wt4 _ (List.mem_of_getElem? (i := 120) rfl) rfl
theorem w_469 : (Cond.methodLink RX9 104 yX5_forget) ∈ W0 := wt4 _ (List.mem_of_getElem? (i := 117) rfl) rfl
theorem w_470 : (Cond.instanceMethod yX5_forget) ∈ W0 := wt4 _ (List.mem_of_getElem? (i := 118) rfl) rfl
theorem w_471 : (Cond.selects yX5_forget.cls yX5_forget yX5_forget) ∈ W0 := wt4 _ (List.mem_of_getElem? (i := 119) rfl) rfl
theorem w_472 : (Cond.fieldLink RX9 45 (clT 9 5).1 (clT 9 5).2.1 (clT 9 5).2.2.1) ∈ W0 := wt2 _ (List.mem_of_getElem? (i := 138) rfl) rfl
theorem w_473 : (Cond.code yX6_forget cX6_forget 1 none) ∈ W0 := wt4 _ (List.mem_of_getElem? (i := 124) rfl) rfl
theorem w_474 : (Cond.methodLink RX9 105 yX6_forget) ∈ W0 := wt4 _ (List.mem_of_getElem? (i := 121) rfl) rfl
theorem w_475 : (Cond.instanceMethod yX6_forget) ∈ W0 := wt4 _ (List.mem_of_getElem? (i := 122) rfl) rfl
theorem w_476 : (Cond.selects yX6_forget.cls yX6_forget yX6_forget) ∈ W0 := wt4 _ (List.mem_of_getElem? (i := 123) rfl) rfl
theorem w_477 : (Cond.fieldLink RX9 52 (clT 9 6).1 (clT 9 6).2.1 (clT 9 6).2.2.1) ∈ W0 := wt2 _ (List.mem_of_getElem? (i := 139) rfl) rfl
theorem w_478 : (Cond.fieldLink RX9 106 (clT 4 0).1 (clT 4 0).2.1 (clT 4 0).2.2.1) ∈ W0 := wt2 _ (List.mem_of_getElem? (i := 110) rfl) rfl
theorem w_479 : (Cond.fieldLink RX9 56 (clT 9 7).1 (clT 9 7).2.1 (clT 9 7).2.2.1) ∈ W0 := wt2 _ (List.mem_of_getElem? (i := 140) rfl) rfl
theorem w_480 : (Cond.code yX3_place cX3_place 1 (some .int)) ∈ W0 := wt4 _ (List.mem_of_getElem? (i := 29) rfl) rfl
theorem w_481 : (Cond.methodLink RX9 90 yX3_place) ∈ W0 := wt4 _ (List.mem_of_getElem? (i := 26) rfl) rfl
theorem w_482 : (Cond.instanceMethod yX3_place) ∈ W0 := wt4 _ (List.mem_of_getElem? (i := 27) rfl) rfl
theorem w_483 : (Cond.selects yX3_place.cls yX3_place yX3_place) ∈ W0 := wt4 _ (List.mem_of_getElem? (i := 28) rfl) rfl
theorem w_484 : (Cond.fieldLink RX9 94 (clT 9 11).1 (clT 9 11).2.1 (clT 9 11).2.2.1) ∈ W0 := wt2 _ (List.mem_of_getElem? (i := 144) rfl) rfl
theorem w_485 : (Cond.fieldLink RX9 131 (clT 9 12).1 (clT 9 12).2.1 (clT 9 12).2.2.1) ∈ W0 := wt2 _ (List.mem_of_getElem? (i := 145) rfl) rfl
theorem w_486 : (Cond.code yX8_ticketBits cX8_ticketBits 3 (some .int)) ∈ W0 := wt4 _ (List.mem_of_getElem? (i := 141) rfl) rfl
theorem w_487 : (Cond.methodLink RX9 128 yX8_ticketBits) ∈ W0 := wt4 _ (List.mem_of_getElem? (i := 138) rfl) rfl
theorem w_488 : (Cond.instanceMethod yX8_ticketBits) ∈ W0 := wt4 _ (List.mem_of_getElem? (i := 139) rfl) rfl
theorem w_489 : (Cond.selects yX8_ticketBits.cls yX8_ticketBits yX8_ticketBits) ∈ W0 := wt4 _ (List.mem_of_getElem? (i := 140) rfl) rfl
theorem w_490 : (Cond.fieldLink RX9 125 (clT 8 4).1 (clT 8 4).2.1 (clT 8 4).2.2.1) ∈ W0 := wt1 _ (List.mem_of_getElem? (i := 87) rfl) rfl
theorem w_491 : (Cond.code yX8_people cX8_people 3 (some .int)) ∈ W0 := wt4 _ (List.mem_of_getElem? (i := 137) rfl) rfl
theorem w_492 : (Cond.methodLink RX9 122 yX8_people) ∈ W0 := wt4 _ (List.mem_of_getElem? (i := 134) rfl) rfl
theorem w_493 : (Cond.instanceMethod yX8_people) ∈ W0 := wt4 _ (List.mem_of_getElem? (i := 135) rfl) rfl
theorem w_494 : (Cond.selects yX8_people.cls yX8_people yX8_people) ∈ W0 := wt4 _ (List.mem_of_getElem? (i := 136) rfl) rfl
theorem w_495 : (Cond.fieldLink RX9 119 (clT 8 3).1 (clT 8 3).2.1 (clT 8 3).2.2.1) ∈ W0 := wt1 _ (List.mem_of_getElem? (i := 83) rfl) rfl
theorem w_496 : (Cond.fieldLink RX9 116 (clT 8 2).1 (clT 8 2).2.1 (clT 8 2).2.2.1) ∈ W0 := wt1 _ (List.mem_of_getElem? (i := 73) rfl) rfl
theorem w_497 : (Cond.fieldLink RX9 113 (clT 8 1).1 (clT 8 1).2.1 (clT 8 1).2.2.1) ∈ W0 := wt1 _ (List.mem_of_getElem? (i := 69) rfl) rfl
theorem w_498 : (Cond.fieldLink RX9 110 (clT 8 0).1 (clT 8 0).2.1 (clT 8 0).2.2.1) ∈ W0 := wt1 _ (List.mem_of_getElem? (i := 64) rfl) rfl
theorem w_499 : (Cond.code yX9_needEvening cX9_needEvening 2 none) ∈ W0 := wt4 _ (List.mem_of_getElem? (i := 167) rfl) rfl
theorem w_500 : (Cond.methodLink RX9 137 yX9_needEvening) ∈ W0 := wt4 _ (List.mem_of_getElem? (i := 164) rfl) rfl
theorem w_501 : (Cond.instanceMethod yX9_needEvening) ∈ W0 := wt4 _ (List.mem_of_getElem? (i := 166) rfl) rfl
theorem w_502 : (Cond.selects yX9_needEvening.cls yX9_needEvening yX9_needEvening) ∈ W0 := w0_sel (yX9_needEvening, 13) (List.mem_of_getElem? (i := 28) rfl) rfl
theorem w_503 : (Cond.code yX9_needWhat cX9_needWhat 3 none) ∈ W0 := wt4 _ (List.mem_of_getElem? (i := 171) rfl) rfl
theorem w_504 : (Cond.methodLink RX9 140 yX9_needWhat) ∈ W0 := wt4 _ (List.mem_of_getElem? (i := 168) rfl) rfl
theorem w_505 : (Cond.instanceMethod yX9_needWhat) ∈ W0 := wt4 _ (List.mem_of_getElem? (i := 170) rfl) rfl
theorem w_506 : (Cond.selects yX9_needWhat.cls yX9_needWhat yX9_needWhat) ∈ W0 := w0_sel (yX9_needWhat, 13) (List.mem_of_getElem? (i := 29) rfl) rfl
theorem w_507 : (Cond.methodLink RX9 152 yX8_ofEvening) ∈ W0 := wt4 _ (List.mem_of_getElem? (i := 173) rfl) rfl
theorem w_508 : (Cond.fieldLink RX9 144 (clT 8 7).1 (clT 8 7).2.1 (clT 8 7).2.2.1) ∈ W0 := wt1 _ (List.mem_of_getElem? (i := 97) rfl) rfl
theorem w_509 : (Cond.methodLink RX9 148 yX9_at) ∈ W0 := wt4 _ (List.mem_of_getElem? (i := 172) rfl) rfl
theorem w_510 : (Cond.code yX9_needKind cX9_needKind 2 none) ∈ W0 := wt4 _ (List.mem_of_getElem? (i := 184) rfl) rfl
theorem w_511 : (Cond.methodLink RX9 156 yX9_needKind) ∈ W0 := wt4 _ (List.mem_of_getElem? (i := 181) rfl) rfl
theorem w_512 : (Cond.instanceMethod yX9_needKind) ∈ W0 := wt4 _ (List.mem_of_getElem? (i := 183) rfl) rfl
theorem w_513 : (Cond.selects yX9_needKind.cls yX9_needKind yX9_needKind) ∈ W0 := w0_sel (yX9_needKind, 13) (List.mem_of_getElem? (i := 30) rfl) rfl
theorem w_514 : (Cond.methodLink RX9 159 yX8_ofKind) ∈ W0 := wt4 _ (List.mem_of_getElem? (i := 185) rfl) rfl
theorem w_515 : (Cond.code yX9_needTicket cX9_needTicket 2 none) ∈ W0 := wt4 _ (List.mem_of_getElem? (i := 196) rfl) rfl
theorem w_516 : (Cond.methodLink RX9 162 yX9_needTicket) ∈ W0 := wt4 _ (List.mem_of_getElem? (i := 193) rfl) rfl
theorem w_517 : (Cond.instanceMethod yX9_needTicket) ∈ W0 := wt4 _ (List.mem_of_getElem? (i := 195) rfl) rfl
theorem w_518 : (Cond.selects yX9_needTicket.cls yX9_needTicket yX9_needTicket) ∈ W0 := w0_sel (yX9_needTicket, 13) (List.mem_of_getElem? (i := 31) rfl) rfl
theorem w_519 : (Cond.fieldLink RX9 165 (clT 8 12).1 (clT 8 12).2.1 (clT 8 12).2.2.1) ∈ W0 := wt1 _ (List.mem_of_getElem? (i := 119) rfl) rfl
theorem w_520 : (Cond.methodLink RX9 168 yX8_likely) ∈ W0 := wt4 _ (List.mem_of_getElem? (i := 204) rfl) rfl
theorem w_521 : (Cond.methodLink RX9 172 yX0_planOf) ∈ W0 := wt4 _ (List.mem_of_getElem? (i := 212) rfl) rfl
theorem w_522 : (Cond.methodLink RX9 176 yX2_value) ∈ W0 := wt4 _ (List.mem_of_getElem? (i := 213) rfl) rfl
theorem w_523 : (Cond.constantLong RX9 182 (1000)) ∈ W0 := wt4 _ (List.mem_of_getElem? (i := 214) rfl) rfl
theorem w_524 : (Cond.fieldLink RX9 184 (clT 0 0).1 (clT 0 0).2.1 (clT 0 0).2.2.1) ∈ W0 := wt1 _ (List.mem_of_getElem? (i := 234) rfl) rfl
theorem w_525 : (Cond.methodLink RX9 187 yX0_planBoughtBy) ∈ W0 := wt4 _ (List.mem_of_getElem? (i := 229) rfl) rfl
theorem w_526 : (Cond.methodLink RX9 191 yX2_takes) ∈ W0 := wt4 _ (List.mem_of_getElem? (i := 230) rfl) rfl
theorem w_527 : (Cond.methodLink RX9 195 yX2_comingOn) ∈ W0 := wt4 _ (List.mem_of_getElem? (i := 238) rfl) rfl
theorem w_528 : (Cond.code yX0_kinder cX0_kinder 6 (some .long)) ∈ W0 := wt5 _ (List.mem_of_getElem? (i := 26) rfl) rfl
theorem w_529 : (Cond.methodLink RX9 212 yX0_kinder) ∈ W0 := wt5 _ (List.mem_of_getElem? (i := 23) rfl) rfl
theorem w_530 : (Cond.instanceMethod yX0_kinder) ∈ W0 := wt5 _ (List.mem_of_getElem? (i := 24) rfl) rfl
theorem w_531 : (Cond.selects yX0_kinder.cls yX0_kinder yX0_kinder) ∈ W0 := wt5 _ (List.mem_of_getElem? (i := 25) rfl) rfl
theorem w_532 : (Cond.code yX0_pays cX0_pays 5 (some .long)) ∈ W0 := wt5 _ (List.mem_of_getElem? (i := 18) rfl) rfl
theorem w_533 : (Cond.methodLink RX9 208 yX0_pays) ∈ W0 := wt5 _ (List.mem_of_getElem? (i := 15) rfl) rfl
theorem w_534 : (Cond.instanceMethod yX0_pays) ∈ W0 := wt5 _ (List.mem_of_getElem? (i := 16) rfl) rfl
theorem w_535 : (Cond.selects yX0_pays.cls yX0_pays yX0_pays) ∈ W0 := wt5 _ (List.mem_of_getElem? (i := 17) rfl) rfl
theorem w_536 : (Cond.code yX2_thoughtGone cX2_thoughtGone 1 (some .long)) ∈ W0 := wt5 _ (List.mem_of_getElem? (i := 14) rfl) rfl
theorem w_537 : (Cond.methodLink RX9 205 yX2_thoughtGone) ∈ W0 := wt5 _ (List.mem_of_getElem? (i := 11) rfl) rfl
theorem w_538 : (Cond.instanceMethod yX2_thoughtGone) ∈ W0 := wt5 _ (List.mem_of_getElem? (i := 12) rfl) rfl
theorem w_539 : (Cond.selects yX2_thoughtGone.cls yX2_thoughtGone yX2_thoughtGone) ∈ W0 := wt5 _ (List.mem_of_getElem? (i := 13) rfl) rfl
theorem w_540 : (Cond.code yX2_sunk cX2_sunk 1 (some .long)) ∈ W0 := wt5 _ (List.mem_of_getElem? (i := 10) rfl) rfl
theorem w_541 : (Cond.methodLink RX9 202 yX2_sunk) ∈ W0 := wt5 _ (List.mem_of_getElem? (i := 7) rfl) rfl
theorem w_542 : (Cond.instanceMethod yX2_sunk) ∈ W0 := wt5 _ (List.mem_of_getElem? (i := 8) rfl) rfl
theorem w_543 : (Cond.selects yX2_sunk.cls yX2_sunk yX2_sunk) ∈ W0 := wt5 _ (List.mem_of_getElem? (i := 9) rfl) rfl
theorem w_544 : (Cond.methodLink RX9 199 yX2_gone) ∈ W0 := wt5 _ (List.mem_of_getElem? (i := 6) rfl) rfl
theorem w_545 : (Cond.code yX1_standing cX1_standing 8 (some .int)) ∈ W0 := wt5 _ (List.mem_of_getElem? (i := 53) rfl) rfl
theorem w_546 : (Cond.methodLink RX9 219 yX1_standing) ∈ W0 := wt5 _ (List.mem_of_getElem? (i := 50) rfl) rfl
theorem w_547 : (Cond.instanceMethod yX1_standing) ∈ W0 := wt5 _ (List.mem_of_getElem? (i := 51) rfl) rfl
theorem w_548 : (Cond.selects yX1_standing.cls yX1_standing yX1_standing) ∈ W0 := wt5 _ (List.mem_of_getElem? (i := 52) rfl) rfl
theorem w_549 : (Cond.code yX0_fullOn cX0_fullOn 6 (some .long)) ∈ W0 := wt5 _ (List.mem_of_getElem? (i := 45) rfl) rfl
theorem w_550 : (Cond.methodLink RX9 215 yX0_fullOn) ∈ W0 := wt5 _ (List.mem_of_getElem? (i := 42) rfl) rfl
theorem w_551 : (Cond.instanceMethod yX0_fullOn) ∈ W0 := wt5 _ (List.mem_of_getElem? (i := 43) rfl) rfl
theorem w_552 : (Cond.selects yX0_fullOn.cls yX0_fullOn yX0_fullOn) ∈ W0 := wt5 _ (List.mem_of_getElem? (i := 44) rfl) rfl
theorem w_553 : (Cond.fieldLink RX9 223 (clT 8 9).1 (clT 8 9).2.1 (clT 8 9).2.2.1) ∈ W0 := wt1 _ (List.mem_of_getElem? (i := 108) rfl) rfl
theorem w_554 : (Cond.methodLink RX9 226 yX0_takings) ∈ W0 := wt2 _ (List.mem_of_getElem? (i := 192) rfl) rfl
theorem w_555 : (Cond.code yX5_throughPrices cX5_throughPrices 8 (some .int)) ∈ W0 := wt5 _ (List.mem_of_getElem? (i := 87) rfl) rfl
theorem w_556 : (Cond.methodLink RX9 230 yX5_throughPrices) ∈ W0 := wt5 _ (List.mem_of_getElem? (i := 84) rfl) rfl
theorem w_557 : (Cond.instanceMethod yX5_throughPrices) ∈ W0 := wt5 _ (List.mem_of_getElem? (i := 85) rfl) rfl
theorem w_558 : (Cond.selects yX5_throughPrices.cls yX5_throughPrices yX5_throughPrices) ∈ W0 := wt5 _ (List.mem_of_getElem? (i := 86) rfl) rfl
theorem w_559 : (Cond.fieldLink RX9 234 (clT 5 4).1 (clT 5 4).2.1 (clT 5 4).2.2.1) ∈ W0 := wt2 _ (List.mem_of_getElem? (i := 48) rfl) rfl
theorem w_560 : (Cond.fieldLink RX9 237 (clT 5 3).1 (clT 5 3).2.1 (clT 5 3).2.2.1) ∈ W0 := wt2 _ (List.mem_of_getElem? (i := 46) rfl) rfl
theorem w_561 : (Cond.methodLink RX9 241 yX9_atWide) ∈ W0 := wt5 _ (List.mem_of_getElem? (i := 118) rfl) rfl
theorem w_562 : (Cond.constant RX9 245 (1000000000)) ∈ W0 := wt5 _ (List.mem_of_getElem? (i := 126) rfl) rfl
theorem w_563 : (Cond.code yX1_mostBelow cX1_mostBelow 6 (some .int)) ∈ W0 := wt5 _ (List.mem_of_getElem? (i := 130) rfl) rfl
theorem w_564 : (Cond.methodLink RX9 246 yX1_mostBelow) ∈ W0 := wt5 _ (List.mem_of_getElem? (i := 127) rfl) rfl
theorem w_565 : (Cond.instanceMethod yX1_mostBelow) ∈ W0 := wt5 _ (List.mem_of_getElem? (i := 128) rfl) rfl
theorem w_566 : (Cond.selects yX1_mostBelow.cls yX1_mostBelow yX1_mostBelow) ∈ W0 := wt5 _ (List.mem_of_getElem? (i := 129) rfl) rfl
theorem w_567 : (Cond.code yX0_turnedAway cX0_turnedAway 7 (some .long)) ∈ W0 := wt5 _ (List.mem_of_getElem? (i := 147) rfl) rfl
theorem w_568 : (Cond.methodLink RX9 250 yX0_turnedAway) ∈ W0 := wt5 _ (List.mem_of_getElem? (i := 144) rfl) rfl
theorem w_569 : (Cond.instanceMethod yX0_turnedAway) ∈ W0 := wt5 _ (List.mem_of_getElem? (i := 145) rfl) rfl
theorem w_570 : (Cond.selects yX0_turnedAway.cls yX0_turnedAway yX0_turnedAway) ∈ W0 := wt5 _ (List.mem_of_getElem? (i := 146) rfl) rfl
theorem w_571 : (Cond.code yX0_emptySeats cX0_emptySeats 5 (some .long)) ∈ W0 := wt5 _ (List.mem_of_getElem? (i := 164) rfl) rfl
theorem w_572 : (Cond.methodLink RX9 253 yX0_emptySeats) ∈ W0 := wt5 _ (List.mem_of_getElem? (i := 161) rfl) rfl
theorem w_573 : (Cond.instanceMethod yX0_emptySeats) ∈ W0 := wt5 _ (List.mem_of_getElem? (i := 162) rfl) rfl
theorem w_574 : (Cond.selects yX0_emptySeats.cls yX0_emptySeats yX0_emptySeats) ∈ W0 := wt5 _ (List.mem_of_getElem? (i := 163) rfl) rfl
theorem w_575 : (Cond.methodLink RX9 256 Lib.MathLoose.min_long.x) ∈ W0 := wt5 _ (List.mem_of_getElem? (i := 165) rfl) rfl
theorem w_576 : (Cond.code yJ9_floorDiv_f86c9 cJ9_floorDiv_f86c9 6 (some .long)) ∈ W0 := wt5 _ (List.mem_of_getElem? (i := 168) rfl) rfl
theorem w_577 : (Cond.initialized RJ9) ∈ W0 := wt1 _ (List.mem_of_getElem? (i := 16) rfl) rfl
theorem w_578 : (Cond.methodLink RX9 262 yJ9_floorDiv_f86c9) ∈ W0 := wt5 _ (List.mem_of_getElem? (i := 166) rfl) rfl
theorem w_579 : (Cond.static yJ9_floorDiv_f86c9) ∈ W0 := wt5 _ (List.mem_of_getElem? (i := 167) rfl) rfl
theorem w_580 : (Cond.code yX5_throughPairs cX5_throughPairs 9 (some .long)) ∈ W0 := wt5 _ (List.mem_of_getElem? (i := 180) rfl) rfl
theorem w_581 : (Cond.methodLink RX9 267 yX5_throughPairs) ∈ W0 := wt5 _ (List.mem_of_getElem? (i := 177) rfl) rfl
theorem w_582 : (Cond.instanceMethod yX5_throughPairs) ∈ W0 := wt5 _ (List.mem_of_getElem? (i := 178) rfl) rfl
theorem w_583 : (Cond.selects yX5_throughPairs.cls yX5_throughPairs yX5_throughPairs) ∈ W0 := wt5 _ (List.mem_of_getElem? (i := 179) rfl) rfl
theorem w_584 : (Cond.constantLong RX9 265 (-1)) ∈ W0 := wt5 _ (List.mem_of_getElem? (i := 176) rfl) rfl
theorem w_585 : (Cond.fieldLink RX9 271 (clT 5 5).1 (clT 5 5).2.1 (clT 5 5).2.2.1) ∈ W0 := wt2 _ (List.mem_of_getElem? (i := 50) rfl) rfl
theorem w_586 : (Cond.fieldLink RX9 277 (clT 5 7).1 (clT 5 7).2.1 (clT 5 7).2.2.1) ∈ W0 := wt2 _ (List.mem_of_getElem? (i := 54) rfl) rfl
theorem w_587 : (Cond.fieldLink RX9 274 (clT 5 6).1 (clT 5 6).2.1 (clT 5 6).2.2.1) ∈ W0 := wt2 _ (List.mem_of_getElem? (i := 52) rfl) rfl
theorem w_588 : (Cond.code yX0_throughYears cX0_throughYears 10 (some .long)) ∈ W0 := wt5 _ (List.mem_of_getElem? (i := 204) rfl) rfl
theorem w_589 : (Cond.methodLink RX9 280 yX0_throughYears) ∈ W0 := wt5 _ (List.mem_of_getElem? (i := 201) rfl) rfl
theorem w_590 : (Cond.instanceMethod yX0_throughYears) ∈ W0 := wt5 _ (List.mem_of_getElem? (i := 202) rfl) rfl
theorem w_591 : (Cond.selects yX0_throughYears.cls yX0_throughYears yX0_throughYears) ∈ W0 := wt5 _ (List.mem_of_getElem? (i := 203) rfl) rfl
theorem w_592 : (Cond.code yX6_arrange cX6_arrange 9 (some .long)) ∈ W0 := wt2 _ (List.mem_of_getElem? (i := 226) rfl) rfl
theorem w_593 : (Cond.methodLink RX9 284 yX6_arrange) ∈ W0 := wt2 _ (List.mem_of_getElem? (i := 223) rfl) rfl
theorem w_594 : (Cond.instanceMethod yX6_arrange) ∈ W0 := wt2 _ (List.mem_of_getElem? (i := 224) rfl) rfl
theorem w_595 : (Cond.selects yX6_arrange.cls yX6_arrange yX6_arrange) ∈ W0 := wt2 _ (List.mem_of_getElem? (i := 225) rfl) rfl
theorem w_596 : (Cond.fieldLink RX9 288 (clT 6 0).1 (clT 6 0).2.1 (clT 6 0).2.2.1) ∈ W0 := wt2 _ (List.mem_of_getElem? (i := 79) rfl) rfl
theorem w_597 : (Cond.fieldLink RX9 289 (clT 6 1).1 (clT 6 1).2.1 (clT 6 1).2.2.1) ∈ W0 := wt2 _ (List.mem_of_getElem? (i := 81) rfl) rfl
theorem w_598 : (Cond.fieldLink RX9 290 (clT 6 2).1 (clT 6 2).2.1 (clT 6 2).2.2.1) ∈ W0 := wt2 _ (List.mem_of_getElem? (i := 83) rfl) rfl
theorem w_599 : (Cond.code yX0_owing cX0_owing 11 (some .long)) ∈ W0 := wt5 _ (List.mem_of_getElem? (i := 228) rfl) rfl
theorem w_600 : (Cond.methodLink RX9 292 yX0_owing) ∈ W0 := wt5 _ (List.mem_of_getElem? (i := 225) rfl) rfl
theorem w_601 : (Cond.instanceMethod yX0_owing) ∈ W0 := wt5 _ (List.mem_of_getElem? (i := 226) rfl) rfl
theorem w_602 : (Cond.selects yX0_owing.cls yX0_owing yX0_owing) ∈ W0 := wt5 _ (List.mem_of_getElem? (i := 227) rfl) rfl
theorem w_603 : (Cond.code yX4_start cX4_start 2 none) ∈ W0 := wt3 _ (List.mem_of_getElem? (i := 36) rfl) rfl
theorem w_604 : (Cond.methodLink RX9 296 yX4_start) ∈ W0 := wt3 _ (List.mem_of_getElem? (i := 33) rfl) rfl
theorem w_605 : (Cond.instanceMethod yX4_start) ∈ W0 := wt3 _ (List.mem_of_getElem? (i := 34) rfl) rfl
theorem w_606 : (Cond.selects yX4_start.cls yX4_start yX4_start) ∈ W0 := wt3 _ (List.mem_of_getElem? (i := 35) rfl) rfl
theorem w_607 : (Cond.fieldLink RX9 299 (clT 4 1).1 (clT 4 1).2.1 (clT 4 1).2.2.1) ∈ W0 := wt2 _ (List.mem_of_getElem? (i := 112) rfl) rfl
theorem w_608 : (Cond.code yX4_goOn cX4_goOn 5 none) ∈ W0 := wt6 _ (List.mem_of_getElem? (i := 7) rfl) rfl
theorem w_609 : (Cond.methodLink RX9 302 yX4_goOn) ∈ W0 := wt6 _ (List.mem_of_getElem? (i := 4) rfl) rfl
theorem w_610 : (Cond.instanceMethod yX4_goOn) ∈ W0 := wt6 _ (List.mem_of_getElem? (i := 5) rfl) rfl
theorem w_611 : (Cond.selects yX4_goOn.cls yX4_goOn yX4_goOn) ∈ W0 := wt6 _ (List.mem_of_getElem? (i := 6) rfl) rfl
theorem w_612 : (Cond.methodLink RX9 318 yX4_cameOf) ∈ W0 := wt6 _ (List.mem_of_getElem? (i := 53) rfl) rfl
theorem w_613 : (Cond.fieldLink RX9 315 (clT 4 5).1 (clT 4 5).2.1 (clT 4 5).2.2.1) ∈ W0 := wt2 _ (List.mem_of_getElem? (i := 117) rfl) rfl
theorem w_614 : (Cond.code yX4_coinsOn cX4_coinsOn 6 (some .int)) ∈ W0 := wt6 _ (List.mem_of_getElem? (i := 52) rfl) rfl
theorem w_615 : (Cond.methodLink RX9 312 yX4_coinsOn) ∈ W0 := wt6 _ (List.mem_of_getElem? (i := 49) rfl) rfl
theorem w_616 : (Cond.instanceMethod yX4_coinsOn) ∈ W0 := wt6 _ (List.mem_of_getElem? (i := 50) rfl) rfl
theorem w_617 : (Cond.selects yX4_coinsOn.cls yX4_coinsOn yX4_coinsOn) ∈ W0 := wt6 _ (List.mem_of_getElem? (i := 51) rfl) rfl
theorem w_618 : (Cond.code yX4_cameOn cX4_cameOn 4 (some .int)) ∈ W0 := wt6 _ (List.mem_of_getElem? (i := 43) rfl) rfl
theorem w_619 : (Cond.methodLink RX9 306 yX4_cameOn) ∈ W0 := wt6 _ (List.mem_of_getElem? (i := 40) rfl) rfl
theorem w_620 : (Cond.instanceMethod yX4_cameOn) ∈ W0 := wt6 _ (List.mem_of_getElem? (i := 41) rfl) rfl
theorem w_621 : (Cond.selects yX4_cameOn.cls yX4_cameOn yX4_cameOn) ∈ W0 := wt6 _ (List.mem_of_getElem? (i := 42) rfl) rfl
theorem w_622 : (Cond.methodLink RX9 309 Lib.Math.max.name) ∈ W0 := wt6 _ (List.mem_of_getElem? (i := 48) rfl) rfl
theorem w_623 : (Cond.code yX4_copy cX4_copy 2 none) ∈ W0 := wt3 _ (List.mem_of_getElem? (i := 45) rfl) rfl
theorem w_624 : (Cond.methodLink RX9 321 yX4_copy) ∈ W0 := wt3 _ (List.mem_of_getElem? (i := 42) rfl) rfl
theorem w_625 : (Cond.instanceMethod yX4_copy) ∈ W0 := wt3 _ (List.mem_of_getElem? (i := 43) rfl) rfl
theorem w_626 : (Cond.selects yX4_copy.cls yX4_copy yX4_copy) ∈ W0 := wt3 _ (List.mem_of_getElem? (i := 44) rfl) rfl
theorem w_627 : (Cond.fieldLink RX10 133 (clT 10 0).1 (clT 10 0).2.1 (clT 10 0).2.2.1) ∈ W0 := wt6 _ (List.mem_of_getElem? (i := 60) rfl) rfl
theorem w_628 : (Cond.fieldLink RX10 26 (clT 10 11).1 (clT 10 11).2.1 (clT 10 11).2.2.1) ∈ W0 := wt6 _ (List.mem_of_getElem? (i := 71) rfl) rfl
theorem w_629 : (Cond.fieldLink RX10 136 (clT 10 12).1 (clT 10 12).2.1 (clT 10 12).2.2.1) ∈ W0 := wt6 _ (List.mem_of_getElem? (i := 72) rfl) rfl
theorem w_630 : (Cond.code yX10_lays cX10_lays 3 none) ∈ W0 := wt7 _ (List.mem_of_getElem? (i := 37) rfl) rfl
theorem w_631 : (Cond.initialized RX10) ∈ W0 := wt1 _ (List.mem_of_getElem? (i := 11) rfl) rfl
theorem w_632 : (Cond.methodLink RX10 139 yX10_lays) ∈ W0 := wt7 _ (List.mem_of_getElem? (i := 34) rfl) rfl
theorem w_633 : (Cond.instanceMethod yX10_lays) ∈ W0 := wt7 _ (List.mem_of_getElem? (i := 36) rfl) rfl
theorem w_634 : (Cond.selects yX10_lays.cls yX10_lays yX10_lays) ∈ W0 := w0_sel (yX10_lays, 68) (List.mem_of_getElem? (i := 48) rfl) rfl
theorem w_635 : (Cond.fieldLink RX10 143 (clT 10 16).1 (clT 10 16).2.1 (clT 10 16).2.2.1) ∈ W0 := wt6 _ (List.mem_of_getElem? (i := 76) rfl) rfl
theorem w_636 : (Cond.fieldLink RX10 146 (clT 10 17).1 (clT 10 17).2.1 (clT 10 17).2.2.1) ∈ W0 := wt6 _ (List.mem_of_getElem? (i := 77) rfl) rfl
theorem w_637 : (Cond.code yX10_byteAt cX10_byteAt 2 (some .int)) ∈ W0 := wt7 _ (List.mem_of_getElem? (i := 53) rfl) rfl
theorem w_638 : (Cond.methodLink RX10 149 yX10_byteAt) ∈ W0 := wt7 _ (List.mem_of_getElem? (i := 50) rfl) rfl
theorem w_639 : (Cond.instanceMethod yX10_byteAt) ∈ W0 := wt7 _ (List.mem_of_getElem? (i := 52) rfl) rfl
theorem w_640 : (Cond.selects yX10_byteAt.cls yX10_byteAt yX10_byteAt) ∈ W0 := w0_sel (yX10_byteAt, 68) (List.mem_of_getElem? (i := 51) rfl) rfl
theorem w_641 : (Cond.fieldLink RX10 153 (clT 10 19).1 (clT 10 19).2.1 (clT 10 19).2.2.1) ∈ W0 := wt6 _ (List.mem_of_getElem? (i := 79) rfl) rfl
theorem w_642 : (Cond.fieldLink RX10 156 (clT 10 22).1 (clT 10 22).2.1 (clT 10 22).2.2.1) ∈ W0 := wt6 _ (List.mem_of_getElem? (i := 82) rfl) rfl
theorem w_643 : (Cond.fieldLink RX10 160 (clT 10 21).1 (clT 10 21).2.1 (clT 10 21).2.2.1) ∈ W0 := wt6 _ (List.mem_of_getElem? (i := 81) rfl) rfl
theorem w_644 : (Cond.code yX10_isLetter cX10_isLetter 1 (some .boolean)) ∈ W0 := wt7 _ (List.mem_of_getElem? (i := 56) rfl) rfl
theorem w_645 : (Cond.methodLink RX10 166 yX10_isLetter) ∈ W0 := wt7 _ (List.mem_of_getElem? (i := 54) rfl) rfl
theorem w_646 : (Cond.static yX10_isLetter) ∈ W0 := wt7 _ (List.mem_of_getElem? (i := 55) rfl) rfl
theorem w_647 : (Cond.code yX10_isDigit cX10_isDigit 1 (some .boolean)) ∈ W0 := wt7 _ (List.mem_of_getElem? (i := 59) rfl) rfl
theorem w_648 : (Cond.methodLink RX10 170 yX10_isDigit) ∈ W0 := wt7 _ (List.mem_of_getElem? (i := 57) rfl) rfl
theorem w_649 : (Cond.static yX10_isDigit) ∈ W0 := wt7 _ (List.mem_of_getElem? (i := 58) rfl) rfl
theorem w_650 : (Cond.fieldLink RX10 163 (clT 10 18).1 (clT 10 18).2.1 (clT 10 18).2.2.1) ∈ W0 := wt6 _ (List.mem_of_getElem? (i := 78) rfl) rfl
theorem w_651 : (Cond.fieldLink RX10 173 (clT 10 20).1 (clT 10 20).2.1 (clT 10 20).2.2.1) ∈ W0 := wt6 _ (List.mem_of_getElem? (i := 80) rfl) rfl
theorem w_652 : (Cond.code yX10_spelled cX10_spelled 9 (some .long)) ∈ W0 := wt7 _ (List.mem_of_getElem? (i := 81) rfl) rfl
theorem w_653 : (Cond.methodLink RX10 176 yX10_spelled) ∈ W0 := wt7 _ (List.mem_of_getElem? (i := 79) rfl) rfl
theorem w_654 : (Cond.static yX10_spelled) ∈ W0 := wt7 _ (List.mem_of_getElem? (i := 80) rfl) rfl
theorem w_655 : (Cond.code yX10_letters cX10_letters 1 (some .long)) ∈ W0 := wt7 _ (List.mem_of_getElem? (i := 78) rfl) rfl
theorem w_656 : (Cond.methodLink RX10 180 yX10_letters) ∈ W0 := wt7 _ (List.mem_of_getElem? (i := 76) rfl) rfl
theorem w_657 : (Cond.static yX10_letters) ∈ W0 := wt7 _ (List.mem_of_getElem? (i := 77) rfl) rfl
theorem w_658 : (Cond.fieldLink RX10 184 (clT 10 13).1 (clT 10 13).2.1 (clT 10 13).2.2.1) ∈ W0 := wt6 _ (List.mem_of_getElem? (i := 73) rfl) rfl
theorem w_659 : (Cond.fieldLink RX10 29 (clT 10 14).1 (clT 10 14).2.1 (clT 10 14).2.2.1) ∈ W0 := wt6 _ (List.mem_of_getElem? (i := 74) rfl) rfl
theorem w_660 : (Cond.code yX10_isGood cX10_isGood 1 (some .boolean)) ∈ W0 := wt7 _ (List.mem_of_getElem? (i := 63) rfl) rfl
theorem w_661 : (Cond.methodLink RX10 187 yX10_isGood) ∈ W0 := wt7 _ (List.mem_of_getElem? (i := 60) rfl) rfl
theorem w_662 : (Cond.instanceMethod yX10_isGood) ∈ W0 := wt7 _ (List.mem_of_getElem? (i := 62) rfl) rfl
theorem w_663 : (Cond.selects yX10_isGood.cls yX10_isGood yX10_isGood) ∈ W0 := w0_sel (yX10_isGood, 68) (List.mem_of_getElem? (i := 52) rfl) rfl
theorem w_664 : (Cond.code yX10_wrong cX10_wrong 2 none) ∈ W0 := wt7 _ (List.mem_of_getElem? (i := 85) rfl) rfl
theorem w_665 : (Cond.methodLink RX10 194 yX10_wrong) ∈ W0 := wt7 _ (List.mem_of_getElem? (i := 82) rfl) rfl
theorem w_666 : (Cond.instanceMethod yX10_wrong) ∈ W0 := wt7 _ (List.mem_of_getElem? (i := 84) rfl) rfl
theorem w_667 : (Cond.selects yX10_wrong.cls yX10_wrong yX10_wrong) ∈ W0 := w0_sel (yX10_wrong, 68) (List.mem_of_getElem? (i := 56) rfl) rfl
theorem w_668 : (Cond.code yX10_steps cX10_steps 2 none) ∈ W0 := wt7 _ (List.mem_of_getElem? (i := 49) rfl) rfl
theorem w_669 : (Cond.methodLink RX10 191 yX10_steps) ∈ W0 := wt7 _ (List.mem_of_getElem? (i := 46) rfl) rfl
theorem w_670 : (Cond.instanceMethod yX10_steps) ∈ W0 := wt7 _ (List.mem_of_getElem? (i := 48) rfl) rfl
theorem w_671 : (Cond.selects yX10_steps.cls yX10_steps yX10_steps) ∈ W0 := w0_sel (yX10_steps, 68) (List.mem_of_getElem? (i := 50) rfl) rfl
theorem w_672 : (Cond.code yX10_is cX10_is 2 (some .boolean)) ∈ W0 := wt7 _ (List.mem_of_getElem? (i := 75) rfl) rfl
theorem w_673 : (Cond.methodLink RX10 197 yX10_is) ∈ W0 := wt7 _ (List.mem_of_getElem? (i := 72) rfl) rfl
theorem w_674 : (Cond.instanceMethod yX10_is) ∈ W0 := wt7 _ (List.mem_of_getElem? (i := 74) rfl) rfl
theorem w_675 : (Cond.selects yX10_is.cls yX10_is yX10_is) ∈ W0 := w0_sel (yX10_is, 68) (List.mem_of_getElem? (i := 55) rfl) rfl
theorem w_676 : (Cond.code yX10_need cX10_need 2 none) ∈ W0 := wt7 _ (List.mem_of_getElem? (i := 105) rfl) rfl
theorem w_677 : (Cond.methodLink RX10 200 yX10_need) ∈ W0 := wt7 _ (List.mem_of_getElem? (i := 102) rfl) rfl
theorem w_678 : (Cond.instanceMethod yX10_need) ∈ W0 := wt7 _ (List.mem_of_getElem? (i := 104) rfl) rfl
theorem w_679 : (Cond.selects yX10_need.cls yX10_need yX10_need) ∈ W0 := w0_sel (yX10_need, 68) (List.mem_of_getElem? (i := 61) rfl) rfl
theorem w_680 : (Cond.code yX10_number cX10_number 4 (some .int)) ∈ W0 := wt7 _ (List.mem_of_getElem? (i := 93) rfl) rfl
theorem w_681 : (Cond.methodLink RX10 204 yX10_number) ∈ W0 := wt7 _ (List.mem_of_getElem? (i := 90) rfl) rfl
theorem w_682 : (Cond.instanceMethod yX10_number) ∈ W0 := wt7 _ (List.mem_of_getElem? (i := 92) rfl) rfl
theorem w_683 : (Cond.selects yX10_number.cls yX10_number yX10_number) ∈ W0 := w0_sel (yX10_number, 68) (List.mem_of_getElem? (i := 58) rfl) rfl
theorem w_684 : (Cond.code yX10_named cX10_named 4 (some .int)) ∈ W0 := wt7 _ (List.mem_of_getElem? (i := 101) rfl) rfl
theorem w_685 : (Cond.methodLink RX10 208 yX10_named) ∈ W0 := wt7 _ (List.mem_of_getElem? (i := 98) rfl) rfl
theorem w_686 : (Cond.instanceMethod yX10_named) ∈ W0 := wt7 _ (List.mem_of_getElem? (i := 100) rfl) rfl
theorem w_687 : (Cond.selects yX10_named.cls yX10_named yX10_named) ∈ W0 := w0_sel (yX10_named, 68) (List.mem_of_getElem? (i := 60) rfl) rfl
theorem w_688 : (Cond.fieldLink RX10 212 (clT 10 25).1 (clT 10 25).2.1 (clT 10 25).2.2.1) ∈ W0 := wt6 _ (List.mem_of_getElem? (i := 85) rfl) rfl
theorem w_689 : (Cond.fieldLink RX10 35 (clT 10 30).1 (clT 10 30).2.1 (clT 10 30).2.2.1) ∈ W0 := wt6 _ (List.mem_of_getElem? (i := 90) rfl) rfl
theorem w_690 : (Cond.code yX10_perhaps cX10_perhaps 5 (some .int)) ∈ W0 := wt7 _ (List.mem_of_getElem? (i := 97) rfl) rfl
theorem w_691 : (Cond.methodLink RX10 215 yX10_perhaps) ∈ W0 := wt7 _ (List.mem_of_getElem? (i := 94) rfl) rfl
theorem w_692 : (Cond.instanceMethod yX10_perhaps) ∈ W0 := wt7 _ (List.mem_of_getElem? (i := 96) rfl) rfl
theorem w_693 : (Cond.selects yX10_perhaps.cls yX10_perhaps yX10_perhaps) ∈ W0 := w0_sel (yX10_perhaps, 68) (List.mem_of_getElem? (i := 59) rfl) rfl
theorem w_694 : (Cond.fieldLink RX10 219 (clT 10 26).1 (clT 10 26).2.1 (clT 10 26).2.2.1) ∈ W0 := wt6 _ (List.mem_of_getElem? (i := 86) rfl) rfl
theorem w_695 : (Cond.fieldLink RX10 38 (clT 10 31).1 (clT 10 31).2.1 (clT 10 31).2.2.1) ∈ W0 := wt6 _ (List.mem_of_getElem? (i := 91) rfl) rfl
theorem w_696 : (Cond.fieldLink RX10 222 (clT 10 27).1 (clT 10 27).2.1 (clT 10 27).2.2.1) ∈ W0 := wt6 _ (List.mem_of_getElem? (i := 87) rfl) rfl
theorem w_697 : (Cond.fieldLink RX10 41 (clT 10 32).1 (clT 10 32).2.1 (clT 10 32).2.2.1) ∈ W0 := wt6 _ (List.mem_of_getElem? (i := 92) rfl) rfl
theorem w_698 : (Cond.code yX10_lineWord cX10_lineWord 2 (some .int)) ∈ W0 := wt7 _ (List.mem_of_getElem? (i := 71) rfl) rfl
theorem w_699 : (Cond.methodLink RX10 225 yX10_lineWord) ∈ W0 := wt7 _ (List.mem_of_getElem? (i := 68) rfl) rfl
theorem w_700 : (Cond.instanceMethod yX10_lineWord) ∈ W0 := wt7 _ (List.mem_of_getElem? (i := 70) rfl) rfl
theorem w_701 : (Cond.selects yX10_lineWord.cls yX10_lineWord yX10_lineWord) ∈ W0 := w0_sel (yX10_lineWord, 68) (List.mem_of_getElem? (i := 54) rfl) rfl
theorem w_702 : (Cond.fieldLink RX10 238 (clT 10 29).1 (clT 10 29).2.1 (clT 10 29).2.2.1) ∈ W0 := wt6 _ (List.mem_of_getElem? (i := 89) rfl) rfl
theorem w_703 : (Cond.fieldLink RX10 44 (clT 10 33).1 (clT 10 33).2.1 (clT 10 33).2.2.1) ∈ W0 := wt6 _ (List.mem_of_getElem? (i := 93) rfl) rfl
theorem w_704 : (Cond.code yX10_member cX10_member 1 none) ∈ W0 := wt7 _ (List.mem_of_getElem? (i := 117) rfl) rfl
theorem w_705 : (Cond.methodLink RX10 250 yX10_member) ∈ W0 := wt7 _ (List.mem_of_getElem? (i := 114) rfl) rfl
theorem w_706 : (Cond.instanceMethod yX10_member) ∈ W0 := wt7 _ (List.mem_of_getElem? (i := 116) rfl) rfl
theorem w_707 : (Cond.selects yX10_member.cls yX10_member yX10_member) ∈ W0 := w0_sel (yX10_member, 68) (List.mem_of_getElem? (i := 64) rfl) rfl
theorem w_708 : (Cond.fieldLink RX10 247 (clT 10 28).1 (clT 10 28).2.1 (clT 10 28).2.2.1) ∈ W0 := wt6 _ (List.mem_of_getElem? (i := 88) rfl) rfl
theorem w_709 : (Cond.fieldLink RX10 244 (clT 10 24).1 (clT 10 24).2.1 (clT 10 24).2.2.1) ∈ W0 := wt6 _ (List.mem_of_getElem? (i := 84) rfl) rfl
theorem w_710 : (Cond.fieldLink RX10 241 (clT 10 23).1 (clT 10 23).2.1 (clT 10 23).2.2.1) ∈ W0 := wt6 _ (List.mem_of_getElem? (i := 83) rfl) rfl
theorem w_711 : (Cond.code yX10_readsSeats cX10_readsSeats 1 none) ∈ W0 := wt7 _ (List.mem_of_getElem? (i := 113) rfl) rfl
theorem w_712 : (Cond.methodLink RX10 235 yX10_readsSeats) ∈ W0 := wt7 _ (List.mem_of_getElem? (i := 110) rfl) rfl
theorem w_713 : (Cond.instanceMethod yX10_readsSeats) ∈ W0 := wt7 _ (List.mem_of_getElem? (i := 112) rfl) rfl
theorem w_714 : (Cond.selects yX10_readsSeats.cls yX10_readsSeats yX10_readsSeats) ∈ W0 := w0_sel (yX10_readsSeats, 68) (List.mem_of_getElem? (i := 63) rfl) rfl
theorem w_715 : (Cond.code yX10_readsPeople cX10_readsPeople 3 none) ∈ W0 := wt7 _ (List.mem_of_getElem? (i := 109) rfl) rfl
theorem w_716 : (Cond.methodLink RX10 232 yX10_readsPeople) ∈ W0 := wt7 _ (List.mem_of_getElem? (i := 106) rfl) rfl
theorem w_717 : (Cond.instanceMethod yX10_readsPeople) ∈ W0 := wt7 _ (List.mem_of_getElem? (i := 108) rfl) rfl
theorem w_718 : (Cond.selects yX10_readsPeople.cls yX10_readsPeople yX10_readsPeople) ∈ W0 := w0_sel (yX10_readsPeople, 68) (List.mem_of_getElem? (i := 62) rfl) rfl
theorem w_719 : (Cond.code yX10_readsEvening cX10_readsEvening 2 none) ∈ W0 := wt7 _ (List.mem_of_getElem? (i := 89) rfl) rfl
theorem w_720 : (Cond.methodLink RX10 229 yX10_readsEvening) ∈ W0 := wt7 _ (List.mem_of_getElem? (i := 86) rfl) rfl
theorem w_721 : (Cond.instanceMethod yX10_readsEvening) ∈ W0 := wt7 _ (List.mem_of_getElem? (i := 88) rfl) rfl
theorem w_722 : (Cond.selects yX10_readsEvening.cls yX10_readsEvening yX10_readsEvening) ∈ W0 := w0_sel (yX10_readsEvening, 68) (List.mem_of_getElem? (i := 57) rfl) rfl
theorem w_723 : (Cond.fieldLink RX10 271 (clT 10 6).1 (clT 10 6).2.1 (clT 10 6).2.2.1) ∈ W0 := wt6 _ (List.mem_of_getElem? (i := 66) rfl) rfl
theorem w_724 : (Cond.fieldLink RX10 54 (clT 10 36).1 (clT 10 36).2.1 (clT 10 36).2.2.1) ∈ W0 := wt6 _ (List.mem_of_getElem? (i := 96) rfl) rfl
theorem w_725 : (Cond.code yX10_first cX10_first 2 (some .int)) ∈ W0 := wt7 _ (List.mem_of_getElem? (i := 150) rfl) rfl
theorem w_726 : (Cond.methodLink RX10 328 yX10_first) ∈ W0 := wt7 _ (List.mem_of_getElem? (i := 147) rfl) rfl
theorem w_727 : (Cond.instanceMethod yX10_first) ∈ W0 := wt7 _ (List.mem_of_getElem? (i := 149) rfl) rfl
theorem w_728 : (Cond.selects yX10_first.cls yX10_first yX10_first) ∈ W0 := w0_sel (yX10_first, 68) (List.mem_of_getElem? (i := 71) rfl) rfl
theorem w_729 : (Cond.constantLong RX10 331 (1000000000)) ∈ W0 := wt7 _ (List.mem_of_getElem? (i := 155) rfl) rfl
theorem w_730 : (Cond.fieldLink RX10 17 (clT 10 8).1 (clT 10 8).2.1 (clT 10 8).2.2.1) ∈ W0 := wt6 _ (List.mem_of_getElem? (i := 68) rfl) rfl
theorem w_731 : (Cond.code yX10_of cX10_of 3 (some .int)) ∈ W0 := wt7 _ (List.mem_of_getElem? (i := 137) rfl) rfl
theorem w_732 : (Cond.methodLink RX10 292 yX10_of) ∈ W0 := wt7 _ (List.mem_of_getElem? (i := 134) rfl) rfl
theorem w_733 : (Cond.instanceMethod yX10_of) ∈ W0 := wt7 _ (List.mem_of_getElem? (i := 136) rfl) rfl
theorem w_734 : (Cond.selects yX10_of.cls yX10_of yX10_of) ∈ W0 := w0_sel (yX10_of, 68) (List.mem_of_getElem? (i := 69) rfl) rfl
theorem w_735 : (Cond.constantLong RX10 308 (1000000)) ∈ W0 := wt7 _ (List.mem_of_getElem? (i := 138) rfl) rfl
theorem w_736 : (Cond.fieldLink RX10 13 (clT 10 7).1 (clT 10 7).2.1 (clT 10 7).2.2.1) ∈ W0 := wt6 _ (List.mem_of_getElem? (i := 67) rfl) rfl
theorem w_737 : (Cond.constantLong RX10 310 (1000)) ∈ W0 := wt7 _ (List.mem_of_getElem? (i := 139) rfl) rfl
theorem w_738 : (Cond.fieldLink RX10 47 (clT 10 34).1 (clT 10 34).2.1 (clT 10 34).2.2.1) ∈ W0 := wt6 _ (List.mem_of_getElem? (i := 94) rfl) rfl
theorem w_739 : (Cond.fieldLink RX10 262 (clT 10 3).1 (clT 10 3).2.1 (clT 10 3).2.2.1) ∈ W0 := wt6 _ (List.mem_of_getElem? (i := 63) rfl) rfl
theorem w_740 : (Cond.code yX10_chanceOf cX10_chanceOf 4 (some .long)) ∈ W0 := wt7 _ (List.mem_of_getElem? (i := 133) rfl) rfl
theorem w_741 : (Cond.methodLink RX10 312 yX10_chanceOf) ∈ W0 := wt7 _ (List.mem_of_getElem? (i := 130) rfl) rfl
theorem w_742 : (Cond.instanceMethod yX10_chanceOf) ∈ W0 := wt7 _ (List.mem_of_getElem? (i := 132) rfl) rfl
theorem w_743 : (Cond.selects yX10_chanceOf.cls yX10_chanceOf yX10_chanceOf) ∈ W0 := w0_sel (yX10_chanceOf, 68) (List.mem_of_getElem? (i := 68) rfl) rfl
theorem w_744 : (Cond.code yX10_at cX10_at 3 (some .int)) ∈ W0 := wt7 _ (List.mem_of_getElem? (i := 142) rfl) rfl
theorem w_745 : (Cond.methodLink RX10 316 yX10_at) ∈ W0 := wt7 _ (List.mem_of_getElem? (i := 140) rfl) rfl
theorem w_746 : (Cond.static yX10_at) ∈ W0 := wt7 _ (List.mem_of_getElem? (i := 141) rfl) rfl
theorem w_747 : (Cond.code yX10_mayGo cX10_mayGo 4 (some .boolean)) ∈ W0 := wt7 _ (List.mem_of_getElem? (i := 146) rfl) rfl
theorem w_748 : (Cond.methodLink RX10 319 yX10_mayGo) ∈ W0 := wt7 _ (List.mem_of_getElem? (i := 143) rfl) rfl
theorem w_749 : (Cond.instanceMethod yX10_mayGo) ∈ W0 := wt7 _ (List.mem_of_getElem? (i := 145) rfl) rfl
theorem w_750 : (Cond.selects yX10_mayGo.cls yX10_mayGo yX10_mayGo) ∈ W0 := w0_sel (yX10_mayGo, 68) (List.mem_of_getElem? (i := 70) rfl) rfl
theorem w_751 : (Cond.fieldLink RX10 50 (clT 10 35).1 (clT 10 35).2.1 (clT 10 35).2.2.1) ∈ W0 := wt6 _ (List.mem_of_getElem? (i := 95) rfl) rfl
theorem w_752 : (Cond.fieldLink RX10 322 (clT 10 38).1 (clT 10 38).2.1 (clT 10 38).2.2.1) ∈ W0 := wt6 _ (List.mem_of_getElem? (i := 98) rfl) rfl
theorem w_753 : (Cond.fieldLink RX10 325 (clT 10 39).1 (clT 10 39).2.1 (clT 10 39).2.2.1) ∈ W0 := wt6 _ (List.mem_of_getElem? (i := 99) rfl) rfl
theorem w_754 : (Cond.fieldLink RX10 58 (clT 10 37).1 (clT 10 37).2.1 (clT 10 37).2.2.1) ∈ W0 := wt6 _ (List.mem_of_getElem? (i := 97) rfl) rfl
theorem w_755 : (Cond.code yX10_plans cX10_plans 15 none) ∈ W0 := wt7 _ (List.mem_of_getElem? (i := 129) rfl) rfl
theorem w_756 : (Cond.methodLink RX10 333 yX10_plans) ∈ W0 := wt7 _ (List.mem_of_getElem? (i := 126) rfl) rfl
theorem w_757 : (Cond.instanceMethod yX10_plans) ∈ W0 := wt7 _ (List.mem_of_getElem? (i := 128) rfl) rfl
theorem w_758 : (Cond.selects yX10_plans.cls yX10_plans yX10_plans) ∈ W0 := w0_sel (yX10_plans, 68) (List.mem_of_getElem? (i := 67) rfl) rfl
theorem w_759 : (Cond.fieldLink RX10 61 (clT 10 40).1 (clT 10 40).2.1 (clT 10 40).2.2.1) ∈ W0 := wt6 _ (List.mem_of_getElem? (i := 100) rfl) rfl
theorem w_760 : (Cond.fieldLink RX10 67 (clT 10 42).1 (clT 10 42).2.1 (clT 10 42).2.2.1) ∈ W0 := wt6 _ (List.mem_of_getElem? (i := 102) rfl) rfl
theorem w_761 : (Cond.fieldLink RX10 70 (clT 10 43).1 (clT 10 43).2.1 (clT 10 43).2.2.1) ∈ W0 := wt6 _ (List.mem_of_getElem? (i := 103) rfl) rfl
theorem w_762 : (Cond.code yX10_begins cX10_begins 3 none) ∈ W0 := wt7 _ (List.mem_of_getElem? (i := 154) rfl) rfl
theorem w_763 : (Cond.methodLink RX10 337 yX10_begins) ∈ W0 := wt7 _ (List.mem_of_getElem? (i := 151) rfl) rfl
theorem w_764 : (Cond.instanceMethod yX10_begins) ∈ W0 := wt7 _ (List.mem_of_getElem? (i := 153) rfl) rfl
theorem w_765 : (Cond.selects yX10_begins.cls yX10_begins yX10_begins) ∈ W0 := w0_sel (yX10_begins, 68) (List.mem_of_getElem? (i := 72) rfl) rfl
theorem w_766 : (Cond.code yX10_uses cX10_uses 15 none) ∈ W0 := wt7 _ (List.mem_of_getElem? (i := 159) rfl) rfl
theorem w_767 : (Cond.methodLink RX10 340 yX10_uses) ∈ W0 := wt7 _ (List.mem_of_getElem? (i := 156) rfl) rfl
theorem w_768 : (Cond.instanceMethod yX10_uses) ∈ W0 := wt7 _ (List.mem_of_getElem? (i := 158) rfl) rfl
theorem w_769 : (Cond.selects yX10_uses.cls yX10_uses yX10_uses) ∈ W0 := w0_sel (yX10_uses, 68) (List.mem_of_getElem? (i := 73) rfl) rfl
theorem w_770 : (Cond.fieldLink RX10 64 (clT 10 41).1 (clT 10 41).2.1 (clT 10 41).2.2.1) ∈ W0 := wt6 _ (List.mem_of_getElem? (i := 101) rfl) rfl
theorem w_771 : (Cond.code yX10_right cX10_right 3 (some .boolean)) ∈ W0 := wt7 _ (List.mem_of_getElem? (i := 45) rfl) rfl
theorem w_772 : (Cond.methodLink RX10 253 yX10_right) ∈ W0 := wt7 _ (List.mem_of_getElem? (i := 42) rfl) rfl
theorem w_773 : (Cond.instanceMethod yX10_right) ∈ W0 := wt7 _ (List.mem_of_getElem? (i := 44) rfl) rfl
theorem w_774 : (Cond.selects yX10_right.cls yX10_right yX10_right) ∈ W0 := w0_sel (yX10_right, 68) (List.mem_of_getElem? (i := 49) rfl) rfl
theorem w_775 : (Cond.code yX10_line cX10_line 2 none) ∈ W0 := wt7 _ (List.mem_of_getElem? (i := 67) rfl) rfl
theorem w_776 : (Cond.methodLink RX10 257 yX10_line) ∈ W0 := wt7 _ (List.mem_of_getElem? (i := 64) rfl) rfl
theorem w_777 : (Cond.instanceMethod yX10_line) ∈ W0 := wt7 _ (List.mem_of_getElem? (i := 66) rfl) rfl
theorem w_778 : (Cond.selects yX10_line.cls yX10_line yX10_line) ∈ W0 := w0_sel (yX10_line, 68) (List.mem_of_getElem? (i := 53) rfl) rfl
theorem w_779 : (Cond.fieldLink RX10 7 (clT 10 1).1 (clT 10 1).2.1 (clT 10 1).2.2.1) ∈ W0 := wt6 _ (List.mem_of_getElem? (i := 61) rfl) rfl
theorem w_780 : (Cond.fieldLink RX10 259 (clT 10 2).1 (clT 10 2).2.1 (clT 10 2).2.2.1) ∈ W0 := wt6 _ (List.mem_of_getElem? (i := 62) rfl) rfl
theorem w_781 : (Cond.fieldLink RX10 265 (clT 10 4).1 (clT 10 4).2.1 (clT 10 4).2.2.1) ∈ W0 := wt6 _ (List.mem_of_getElem? (i := 64) rfl) rfl
theorem w_782 : (Cond.fieldLink RX10 268 (clT 10 5).1 (clT 10 5).2.1 (clT 10 5).2.2.1) ∈ W0 := wt6 _ (List.mem_of_getElem? (i := 65) rfl) rfl
theorem w_783 : (Cond.code yX10_copies cX10_copies 4 none) ∈ W0 := wt7 _ (List.mem_of_getElem? (i := 121) rfl) rfl
theorem w_784 : (Cond.methodLink RX10 274 yX10_copies) ∈ W0 := wt7 _ (List.mem_of_getElem? (i := 118) rfl) rfl
theorem w_785 : (Cond.instanceMethod yX10_copies) ∈ W0 := wt7 _ (List.mem_of_getElem? (i := 120) rfl) rfl
theorem w_786 : (Cond.selects yX10_copies.cls yX10_copies yX10_copies) ∈ W0 := w0_sel (yX10_copies, 68) (List.mem_of_getElem? (i := 65) rfl) rfl
theorem w_787 : (Cond.fieldLink RX10 20 (clT 10 9).1 (clT 10 9).2.1 (clT 10 9).2.2.1) ∈ W0 := wt6 _ (List.mem_of_getElem? (i := 69) rfl) rfl
theorem w_788 : (Cond.fieldLink RX10 23 (clT 10 10).1 (clT 10 10).2.1 (clT 10 10).2.2.1) ∈ W0 := wt6 _ (List.mem_of_getElem? (i := 70) rfl) rfl
theorem w_789 : (Cond.fieldLink RX10 278 (clT 10 45).1 (clT 10 45).2.1 (clT 10 45).2.2.1) ∈ W0 := wt6 _ (List.mem_of_getElem? (i := 105) rfl) rfl
theorem w_790 : (Cond.fieldLink RX10 82 (clT 10 48).1 (clT 10 48).2.1 (clT 10 48).2.2.1) ∈ W0 := wt6 _ (List.mem_of_getElem? (i := 108) rfl) rfl
theorem w_791 : (Cond.fieldLink RX10 94 (clT 10 53).1 (clT 10 53).2.1 (clT 10 53).2.2.1) ∈ W0 := wt6 _ (List.mem_of_getElem? (i := 113) rfl) rfl
theorem w_792 : (Cond.fieldLink RX10 282 (clT 10 58).1 (clT 10 58).2.1 (clT 10 58).2.2.1) ∈ W0 := wt6 _ (List.mem_of_getElem? (i := 118) rfl) rfl
theorem w_793 : (Cond.fieldLink RX10 285 (clT 10 59).1 (clT 10 59).2.1 (clT 10 59).2.2.1) ∈ W0 := wt6 _ (List.mem_of_getElem? (i := 119) rfl) rfl
theorem w_794 : (Cond.code yX10_works cX10_works 5 none) ∈ W0 := wt7 _ (List.mem_of_getElem? (i := 125) rfl) rfl
theorem w_795 : (Cond.methodLink RX10 288 yX10_works) ∈ W0 := wt7 _ (List.mem_of_getElem? (i := 122) rfl) rfl
theorem w_796 : (Cond.instanceMethod yX10_works) ∈ W0 := wt7 _ (List.mem_of_getElem? (i := 124) rfl) rfl
theorem w_797 : (Cond.selects yX10_works.cls yX10_works yX10_works) ∈ W0 := w0_sel (yX10_works, 68) (List.mem_of_getElem? (i := 66) rfl) rfl
theorem w_798 : (Cond.fieldLink RX10 32 (clT 10 15).1 (clT 10 15).2.1 (clT 10 15).2.2.1) ∈ W0 := wt6 _ (List.mem_of_getElem? (i := 75) rfl) rfl
theorem w_799 : (Cond.code yX10_within cX10_within 3 (some .boolean)) ∈ W0 := wt7 _ (List.mem_of_getElem? (i := 170) rfl) rfl
theorem w_800 : (Cond.methodLink RX10 295 yX10_within) ∈ W0 := wt7 _ (List.mem_of_getElem? (i := 168) rfl) rfl
theorem w_801 : (Cond.static yX10_within) ∈ W0 := wt7 _ (List.mem_of_getElem? (i := 169) rfl) rfl
theorem w_802 : (Cond.code yX10_people cX10_people 3 (some .int)) ∈ W0 := wt7 _ (List.mem_of_getElem? (i := 174) rfl) rfl
theorem w_803 : (Cond.methodLink RX10 299 yX10_people) ∈ W0 := wt7 _ (List.mem_of_getElem? (i := 171) rfl) rfl
theorem w_804 : (Cond.instanceMethod yX10_people) ∈ W0 := wt7 _ (List.mem_of_getElem? (i := 173) rfl) rfl
theorem w_805 : (Cond.selects yX10_people.cls yX10_people yX10_people) ∈ W0 := w0_sel (yX10_people, 68) (List.mem_of_getElem? (i := 74) rfl) rfl
theorem w_806 : (Cond.code yX10_isEvening cX10_isEvening 2 (some .boolean)) ∈ W0 := wt7 _ (List.mem_of_getElem? (i := 182) rfl) rfl
theorem w_807 : (Cond.methodLink RX10 302 yX10_isEvening) ∈ W0 := wt7 _ (List.mem_of_getElem? (i := 179) rfl) rfl
theorem w_808 : (Cond.instanceMethod yX10_isEvening) ∈ W0 := wt7 _ (List.mem_of_getElem? (i := 181) rfl) rfl
theorem w_809 : (Cond.selects yX10_isEvening.cls yX10_isEvening yX10_isEvening) ∈ W0 := w0_sel (yX10_isEvening, 68) (List.mem_of_getElem? (i := 75) rfl) rfl
theorem w_810 : (Cond.code yX10_isKind cX10_isKind 2 (some .boolean)) ∈ W0 := wt7 _ (List.mem_of_getElem? (i := 190) rfl) rfl
theorem w_811 : (Cond.methodLink RX10 305 yX10_isKind) ∈ W0 := wt7 _ (List.mem_of_getElem? (i := 187) rfl) rfl
theorem w_812 : (Cond.instanceMethod yX10_isKind) ∈ W0 := wt7 _ (List.mem_of_getElem? (i := 189) rfl) rfl
theorem w_813 : (Cond.selects yX10_isKind.cls yX10_isKind yX10_isKind) ∈ W0 := w0_sel (yX10_isKind, 68) (List.mem_of_getElem? (i := 76) rfl) rfl
theorem w_814 : (Cond.code yX10_goodOf cX10_goodOf 3 (some .int)) ∈ W0 := wt7 _ (List.mem_of_getElem? (i := 206) rfl) rfl
theorem w_815 : (Cond.methodLink RX10 344 yX10_goodOf) ∈ W0 := wt7 _ (List.mem_of_getElem? (i := 203) rfl) rfl
theorem w_816 : (Cond.instanceMethod yX10_goodOf) ∈ W0 := wt7 _ (List.mem_of_getElem? (i := 205) rfl) rfl
theorem w_817 : (Cond.selects yX10_goodOf.cls yX10_goodOf yX10_goodOf) ∈ W0 := w0_sel (yX10_goodOf, 68) (List.mem_of_getElem? (i := 77) rfl) rfl
theorem w_818 : (Cond.code yX10_buysOf cX10_buysOf 4 (some .int)) ∈ W0 := wt7 _ (List.mem_of_getElem? (i := 214) rfl) rfl
theorem w_819 : (Cond.methodLink RX10 347 yX10_buysOf) ∈ W0 := wt7 _ (List.mem_of_getElem? (i := 211) rfl) rfl
theorem w_820 : (Cond.instanceMethod yX10_buysOf) ∈ W0 := wt7 _ (List.mem_of_getElem? (i := 213) rfl) rfl
theorem w_821 : (Cond.selects yX10_buysOf.cls yX10_buysOf yX10_buysOf) ∈ W0 := w0_sel (yX10_buysOf, 68) (List.mem_of_getElem? (i := 78) rfl) rfl
theorem w_822 : (Cond.code yX10_comingOf cX10_comingOf 3 (some .long)) ∈ W0 := wt7 _ (List.mem_of_getElem? (i := 226) rfl) rfl
theorem w_823 : (Cond.methodLink RX10 350 yX10_comingOf) ∈ W0 := wt7 _ (List.mem_of_getElem? (i := 223) rfl) rfl
theorem w_824 : (Cond.instanceMethod yX10_comingOf) ∈ W0 := wt7 _ (List.mem_of_getElem? (i := 225) rfl) rfl
theorem w_825 : (Cond.selects yX10_comingOf.cls yX10_comingOf yX10_comingOf) ∈ W0 := w0_sel (yX10_comingOf, 68) (List.mem_of_getElem? (i := 79) rfl) rfl
theorem w_826 : (Cond.code yX10_floor cX10_floor 6 (some .long)) ∈ W0 := wt8 _ (List.mem_of_getElem? (i := 2) rfl) rfl
theorem w_827 : (Cond.methodLink RX10 354 yX10_floor) ∈ W0 := wt8 _ (List.mem_of_getElem? (i := 0) rfl) rfl
theorem w_828 : (Cond.static yX10_floor) ∈ W0 := wt8 _ (List.mem_of_getElem? (i := 1) rfl) rfl
theorem w_829 : (Cond.constantLong RX10 358 (9999)) ∈ W0 := wt8 _ (List.mem_of_getElem? (i := 3) rfl) rfl
theorem w_830 : (Cond.code yX10_kinderOf cX10_kinderOf 5 (some .int)) ∈ W0 := wt7 _ (List.mem_of_getElem? (i := 239) rfl) rfl
theorem w_831 : (Cond.methodLink RX10 365 yX10_kinderOf) ∈ W0 := wt7 _ (List.mem_of_getElem? (i := 236) rfl) rfl
theorem w_832 : (Cond.instanceMethod yX10_kinderOf) ∈ W0 := wt7 _ (List.mem_of_getElem? (i := 238) rfl) rfl
theorem w_833 : (Cond.selects yX10_kinderOf.cls yX10_kinderOf yX10_kinderOf) ∈ W0 := w0_sel (yX10_kinderOf, 68) (List.mem_of_getElem? (i := 81) rfl) rfl
theorem w_834 : (Cond.constantLong RX10 363 (-1)) ∈ W0 := wt7 _ (List.mem_of_getElem? (i := 235) rfl) rfl
theorem w_835 : (Cond.code yX10_thoughtOf cX10_thoughtOf 6 (some .long)) ∈ W0 := wt7 _ (List.mem_of_getElem? (i := 234) rfl) rfl
theorem w_836 : (Cond.methodLink RX10 360 yX10_thoughtOf) ∈ W0 := wt7 _ (List.mem_of_getElem? (i := 231) rfl) rfl
theorem w_837 : (Cond.instanceMethod yX10_thoughtOf) ∈ W0 := wt7 _ (List.mem_of_getElem? (i := 233) rfl) rfl
theorem w_838 : (Cond.selects yX10_thoughtOf.cls yX10_thoughtOf yX10_thoughtOf) ∈ W0 := w0_sel (yX10_thoughtOf, 68) (List.mem_of_getElem? (i := 80) rfl) rfl
theorem w_839 : (Cond.fieldLink RX10 73 (clT 10 44).1 (clT 10 44).2.1 (clT 10 44).2.2.1) ∈ W0 := wt6 _ (List.mem_of_getElem? (i := 104) rfl) rfl
theorem w_840 : (Cond.code yX10_nobody cX10_nobody 2 none) ∈ W0 := wt8 _ (List.mem_of_getElem? (i := 19) rfl) rfl
theorem w_841 : (Cond.methodLink RX10 368 yX10_nobody) ∈ W0 := wt8 _ (List.mem_of_getElem? (i := 16) rfl) rfl
theorem w_842 : (Cond.instanceMethod yX10_nobody) ∈ W0 := wt8 _ (List.mem_of_getElem? (i := 18) rfl) rfl
theorem w_843 : (Cond.selects yX10_nobody.cls yX10_nobody yX10_nobody) ∈ W0 := w0_sel (yX10_nobody, 68) (List.mem_of_getElem? (i := 84) rfl) rfl
theorem w_844 : (Cond.code yX10_oneMore cX10_oneMore 5 none) ∈ W0 := wt8 _ (List.mem_of_getElem? (i := 23) rfl) rfl
theorem w_845 : (Cond.methodLink RX10 371 yX10_oneMore) ∈ W0 := wt8 _ (List.mem_of_getElem? (i := 20) rfl) rfl
theorem w_846 : (Cond.instanceMethod yX10_oneMore) ∈ W0 := wt8 _ (List.mem_of_getElem? (i := 22) rfl) rfl
theorem w_847 : (Cond.selects yX10_oneMore.cls yX10_oneMore yX10_oneMore) ∈ W0 := w0_sel (yX10_oneMore, 68) (List.mem_of_getElem? (i := 85) rfl) rfl
theorem w_848 : (Cond.code yX10_above cX10_above 5 (some .long)) ∈ W0 := wt8 _ (List.mem_of_getElem? (i := 27) rfl) rfl
theorem w_849 : (Cond.methodLink RX10 375 yX10_above) ∈ W0 := wt8 _ (List.mem_of_getElem? (i := 24) rfl) rfl
theorem w_850 : (Cond.instanceMethod yX10_above) ∈ W0 := wt8 _ (List.mem_of_getElem? (i := 26) rfl) rfl
theorem w_851 : (Cond.selects yX10_above.cls yX10_above yX10_above) ∈ W0 := w0_sel (yX10_above, 68) (List.mem_of_getElem? (i := 86) rfl) rfl
theorem w_852 : (Cond.code yX10_standing cX10_standing 7 (some .long)) ∈ W0 := wt8 _ (List.mem_of_getElem? (i := 15) rfl) rfl
theorem w_853 : (Cond.methodLink RX10 381 yX10_standing) ∈ W0 := wt8 _ (List.mem_of_getElem? (i := 12) rfl) rfl
theorem w_854 : (Cond.instanceMethod yX10_standing) ∈ W0 := wt8 _ (List.mem_of_getElem? (i := 14) rfl) rfl
theorem w_855 : (Cond.selects yX10_standing.cls yX10_standing yX10_standing) ∈ W0 := w0_sel (yX10_standing, 68) (List.mem_of_getElem? (i := 83) rfl) rfl
theorem w_856 : (Cond.code yX10_fullAll cX10_fullAll 5 (some .long)) ∈ W0 := wt8 _ (List.mem_of_getElem? (i := 11) rfl) rfl
theorem w_857 : (Cond.methodLink RX10 378 yX10_fullAll) ∈ W0 := wt8 _ (List.mem_of_getElem? (i := 8) rfl) rfl
theorem w_858 : (Cond.instanceMethod yX10_fullAll) ∈ W0 := wt8 _ (List.mem_of_getElem? (i := 10) rfl) rfl
theorem w_859 : (Cond.selects yX10_fullAll.cls yX10_fullAll yX10_fullAll) ∈ W0 := w0_sel (yX10_fullAll, 68) (List.mem_of_getElem? (i := 82) rfl) rfl
theorem w_860 : (Cond.code yX10_earnsNow cX10_earnsNow 6 (some .long)) ∈ W0 := wt8 _ (List.mem_of_getElem? (i := 35) rfl) rfl
theorem w_861 : (Cond.methodLink RX10 384 yX10_earnsNow) ∈ W0 := wt8 _ (List.mem_of_getElem? (i := 32) rfl) rfl
theorem w_862 : (Cond.instanceMethod yX10_earnsNow) ∈ W0 := wt8 _ (List.mem_of_getElem? (i := 34) rfl) rfl
theorem w_863 : (Cond.selects yX10_earnsNow.cls yX10_earnsNow yX10_earnsNow) ∈ W0 := w0_sel (yX10_earnsNow, 68) (List.mem_of_getElem? (i := 87) rfl) rfl
theorem w_864 : (Cond.fieldLink RX10 76 (clT 10 46).1 (clT 10 46).2.1 (clT 10 46).2.2.1) ∈ W0 := wt6 _ (List.mem_of_getElem? (i := 106) rfl) rfl
theorem w_865 : (Cond.constant RX10 388 (1000000000)) ∈ W0 := wt8 _ (List.mem_of_getElem? (i := 48) rfl) rfl
theorem w_866 : (Cond.fieldLink RX10 79 (clT 10 47).1 (clT 10 47).2.1 (clT 10 47).2.2.1) ∈ W0 := wt6 _ (List.mem_of_getElem? (i := 107) rfl) rfl
theorem w_867 : (Cond.fieldLink RX10 85 (clT 10 50).1 (clT 10 50).2.1 (clT 10 50).2.2.1) ∈ W0 := wt6 _ (List.mem_of_getElem? (i := 110) rfl) rfl
theorem w_868 : (Cond.fieldLink RX10 389 (clT 10 49).1 (clT 10 49).2.1 (clT 10 49).2.2.1) ∈ W0 := wt6 _ (List.mem_of_getElem? (i := 109) rfl) rfl
theorem w_869 : (Cond.fieldLink RX10 88 (clT 10 51).1 (clT 10 51).2.1 (clT 10 51).2.2.1) ∈ W0 := wt6 _ (List.mem_of_getElem? (i := 111) rfl) rfl
theorem w_870 : (Cond.fieldLink RX10 91 (clT 10 52).1 (clT 10 52).2.1 (clT 10 52).2.2.1) ∈ W0 := wt6 _ (List.mem_of_getElem? (i := 112) rfl) rfl
theorem w_871 : (Cond.fieldLink RX10 106 (clT 10 57).1 (clT 10 57).2.1 (clT 10 57).2.2.1) ∈ W0 := wt6 _ (List.mem_of_getElem? (i := 117) rfl) rfl
theorem w_872 : (Cond.fieldLink RX10 100 (clT 10 55).1 (clT 10 55).2.1 (clT 10 55).2.2.1) ∈ W0 := wt6 _ (List.mem_of_getElem? (i := 115) rfl) rfl
theorem w_873 : (Cond.fieldLink RX10 103 (clT 10 56).1 (clT 10 56).2.1 (clT 10 56).2.2.1) ∈ W0 := wt6 _ (List.mem_of_getElem? (i := 116) rfl) rfl
theorem w_874 : (Cond.code yX10_swaps cX10_swaps 4 none) ∈ W0 := wt8 _ (List.mem_of_getElem? (i := 80) rfl) rfl
theorem w_875 : (Cond.methodLink RX10 392 yX10_swaps) ∈ W0 := wt8 _ (List.mem_of_getElem? (i := 77) rfl) rfl
theorem w_876 : (Cond.instanceMethod yX10_swaps) ∈ W0 := wt8 _ (List.mem_of_getElem? (i := 79) rfl) rfl
theorem w_877 : (Cond.selects yX10_swaps.cls yX10_swaps yX10_swaps) ∈ W0 := w0_sel (yX10_swaps, 68) (List.mem_of_getElem? (i := 90) rfl) rfl
theorem w_878 : (Cond.code yX10_gained cX10_gained 10 (some .long)) ∈ W0 := wt8 _ (List.mem_of_getElem? (i := 72) rfl) rfl
theorem w_879 : (Cond.methodLink RX10 395 yX10_gained) ∈ W0 := wt8 _ (List.mem_of_getElem? (i := 69) rfl) rfl
theorem w_880 : (Cond.instanceMethod yX10_gained) ∈ W0 := wt8 _ (List.mem_of_getElem? (i := 71) rfl) rfl
theorem w_881 : (Cond.selects yX10_gained.cls yX10_gained yX10_gained) ∈ W0 := w0_sel (yX10_gained, 68) (List.mem_of_getElem? (i := 88) rfl) rfl
theorem w_882 : (Cond.code yX10_turns cX10_turns 6 (some .boolean)) ∈ W0 := wt8 _ (List.mem_of_getElem? (i := 76) rfl) rfl
theorem w_883 : (Cond.methodLink RX10 398 yX10_turns) ∈ W0 := wt8 _ (List.mem_of_getElem? (i := 73) rfl) rfl
theorem w_884 : (Cond.instanceMethod yX10_turns) ∈ W0 := wt8 _ (List.mem_of_getElem? (i := 75) rfl) rfl
theorem w_885 : (Cond.selects yX10_turns.cls yX10_turns yX10_turns) ∈ W0 := w0_sel (yX10_turns, 68) (List.mem_of_getElem? (i := 89) rfl) rfl
theorem w_886 : (Cond.fieldLink RX10 97 (clT 10 54).1 (clT 10 54).2.1 (clT 10 54).2.2.1) ∈ W0 := wt6 _ (List.mem_of_getElem? (i := 114) rfl) rfl
theorem w_887 : (Cond.fieldLink RX10 109 (clT 10 60).1 (clT 10 60).2.1 (clT 10 60).2.2.1) ∈ W0 := wt6 _ (List.mem_of_getElem? (i := 120) rfl) rfl
theorem w_888 : (Cond.fieldLink RX10 115 (clT 10 62).1 (clT 10 62).2.1 (clT 10 62).2.2.1) ∈ W0 := wt6 _ (List.mem_of_getElem? (i := 122) rfl) rfl
theorem w_889 : (Cond.fieldLink RX10 118 (clT 10 63).1 (clT 10 63).2.1 (clT 10 63).2.2.1) ∈ W0 := wt6 _ (List.mem_of_getElem? (i := 123) rfl) rfl
theorem w_890 : (Cond.constant RX10 401 (1103515245)) ∈ W0 := wt8 _ (List.mem_of_getElem? (i := 105) rfl) rfl
theorem w_891 : (Cond.fieldLink RX10 127 (clT 10 66).1 (clT 10 66).2.1 (clT 10 66).2.2.1) ∈ W0 := wt6 _ (List.mem_of_getElem? (i := 126) rfl) rfl
theorem w_892 : (Cond.code yX10_draw cX10_draw 2 (some .int)) ∈ W0 := wt8 _ (List.mem_of_getElem? (i := 104) rfl) rfl
theorem w_893 : (Cond.methodLink RX10 402 yX10_draw) ∈ W0 := wt8 _ (List.mem_of_getElem? (i := 101) rfl) rfl
theorem w_894 : (Cond.instanceMethod yX10_draw) ∈ W0 := wt8 _ (List.mem_of_getElem? (i := 103) rfl) rfl
theorem w_895 : (Cond.selects yX10_draw.cls yX10_draw yX10_draw) ∈ W0 := w0_sel (yX10_draw, 68) (List.mem_of_getElem? (i := 92) rfl) rfl
theorem w_896 : (Cond.code yX10_oneEvening cX10_oneEvening 10 none) ∈ W0 := wt8 _ (List.mem_of_getElem? (i := 100) rfl) rfl
theorem w_897 : (Cond.methodLink RX10 405 yX10_oneEvening) ∈ W0 := wt8 _ (List.mem_of_getElem? (i := 97) rfl) rfl
theorem w_898 : (Cond.instanceMethod yX10_oneEvening) ∈ W0 := wt8 _ (List.mem_of_getElem? (i := 99) rfl) rfl
theorem w_899 : (Cond.selects yX10_oneEvening.cls yX10_oneEvening yX10_oneEvening) ∈ W0 := w0_sel (yX10_oneEvening, 68) (List.mem_of_getElem? (i := 91) rfl) rfl
theorem w_900 : (Cond.fieldLink RX10 112 (clT 10 61).1 (clT 10 61).2.1 (clT 10 61).2.2.1) ∈ W0 := wt6 _ (List.mem_of_getElem? (i := 121) rfl) rfl
theorem w_901 : (Cond.fieldLink RX10 121 (clT 10 64).1 (clT 10 64).2.1 (clT 10 64).2.2.1) ∈ W0 := wt6 _ (List.mem_of_getElem? (i := 124) rfl) rfl
theorem w_902 : (Cond.fieldLink RX10 124 (clT 10 65).1 (clT 10 65).2.1 (clT 10 65).2.2.1) ∈ W0 := wt6 _ (List.mem_of_getElem? (i := 125) rfl) rfl
theorem w_903 : (Cond.fieldLink RX10 130 (clT 10 67).1 (clT 10 67).2.1 (clT 10 67).2.2.1) ∈ W0 := wt6 _ (List.mem_of_getElem? (i := 127) rfl) rfl
theorem fg_RX0_27 : GI RX0 27 0 2 3 10 := ⟨w_0, rfl, rfl, rfl⟩
theorem fg_RX0_31 : GI RX0 31 0 3 3 16 := ⟨w_1, rfl, rfl, rfl⟩
theorem fg_RX2_35 : GI RX2 35 2 8 1 0 := ⟨w_2, rfl, rfl, rfl⟩
theorem fg_RX8_22 : GI RX8 22 8 8 3 3 := ⟨w_3, rfl, rfl, rfl⟩
theorem mi_X9_at : MI yX9_at cX9_at 2 (some .int) 2 := ⟨w_4, w_5, by decide +kernel, by decide⟩
theorem mi_X8_ofKind : MI yX8_ofKind cX8_ofKind 3 (some .int) 2 := ⟨w_7, w_8, by decide +kernel, by decide⟩
theorem mi_X0_planOf : MI yX0_planOf cX0_planOf 5 (some (.object "SeatHall$Plan")) 2 := ⟨w_12, w_13, by decide +kernel, by decide⟩
theorem mi_X2_value : MI yX2_value cX2_value 1 (some .long) 0 := ⟨w_17, w_18, by decide +kernel, by decide⟩
theorem fg_RX0_18 : GI RX0 18 0 1 2 0 := ⟨w_23, rfl, rfl, rfl⟩
theorem mi_X8_isYoung : MI yX8_isYoung cX8_isYoung 2 (some .boolean) 1 := ⟨w_24, w_8, by decide +kernel, by decide⟩
theorem fg_RX2_22 : GI RX2 22 2 0 0 0 := ⟨w_28, rfl, rfl, rfl⟩
theorem fg_RX2_56 : GI RX2 56 2 7 0 0 := ⟨w_29, rfl, rfl, rfl⟩
theorem fg_RX8_15 : GI RX8 15 8 6 3 1 := ⟨w_30, rfl, rfl, rfl⟩
theorem mi_X8_ofEvening : MI yX8_ofEvening cX8_ofEvening 3 (some .int) 2 := ⟨w_31, w_8, by decide +kernel, by decide⟩
theorem fg_RX2_32 : GI RX2 32 2 5 3 5 := ⟨w_36, rfl, rfl, rfl⟩
theorem mi_X9_atWide : MI yX9_atWide cX9_atWide 2 (some .long) 2 := ⟨w_37, w_5, by decide +kernel, by decide⟩
theorem mi_X9_putWide : MI yX9_putWide cX9_putWide 4 none 3 := ⟨w_41, w_5, by decide +kernel, by decide⟩
theorem fg_RX2_29 : GI RX2 29 2 2 3 4 := ⟨w_43, rfl, rfl, rfl⟩
theorem fg_RX2_26 : GI RX2 26 2 1 0 0 := ⟨w_44, rfl, rfl, rfl⟩
theorem fg_RX2_59 : GI RX2 59 8 5 0 0 := ⟨w_49, rfl, rfl, rfl⟩
theorem fp_RX2_56 : PI RX2 56 2 7 0 0 .int := ⟨fg_RX2_56, rfl, by decide +kernel⟩
theorem mi_X9_fillWide : MI yX9_fillWide cX9_fillWide 4 none 2 := ⟨w_50, w_5, by decide +kernel, by decide⟩
theorem fg_RX2_68 : GI RX2 68 8 2 0 0 := ⟨w_52, rfl, rfl, rfl⟩
theorem mi_X8_likely : MI yX8_likely cX8_likely 8 (some .int) 3 := ⟨w_53, w_8, by decide +kernel, by decide⟩
theorem mi_X2_weigh : MI yX2_weigh cX2_weigh 22 none 5 := ⟨w_57, w_18, by decide +kernel, by decide⟩
theorem mi_X2_leftOfTen : MI yX2_leftOfTen cX2_leftOfTen 2 (some .int) 1 := ⟨w_61, w_18, by decide +kernel, by decide⟩
theorem fp_RX2_35 : PI RX2 35 2 8 1 0 .long := ⟨fg_RX2_35, rfl, by decide +kernel⟩
theorem fg_RX2_19 : GI RX2 19 2 6 3 3 := ⟨w_65, rfl, rfl, rfl⟩
theorem mi_X2_takes : MI yX2_takes cX2_takes 5 (some .boolean) 3 := ⟨w_66, w_18, by decide +kernel, by decide⟩
theorem fg_RX2_42 : GI RX2 42 2 10 1 0 := ⟨w_70, rfl, rfl, rfl⟩
theorem fp_RX2_42 : PI RX2 42 2 10 1 0 .long := ⟨fg_RX2_42, rfl, by decide +kernel⟩
theorem fg_RX2_39 : GI RX2 39 2 9 1 0 := ⟨w_72, rfl, rfl, rfl⟩
theorem fp_RX2_39 : PI RX2 39 2 9 1 0 .long := ⟨fg_RX2_39, rfl, by decide +kernel⟩
theorem mi_X2_isOfHabit : MI yX2_isOfHabit cX2_isOfHabit 1 (some .boolean) 0 := ⟨w_73, w_18, by decide +kernel, by decide⟩
theorem mi_X2_move : MI yX2_move cX2_move 9 (some .long) 4 := ⟨w_77, w_18, by decide +kernel, by decide⟩
theorem fg_RX2_9 : GI RX2 9 2 3 3 1 := ⟨w_81, rfl, rfl, rfl⟩
theorem mi_X9_put : MI yX9_put cX9_put 3 none 3 := ⟨w_82, w_5, by decide +kernel, by decide⟩
theorem fg_RX2_15 : GI RX2 15 2 4 3 2 := ⟨w_84, rfl, rfl, rfl⟩
theorem mi_X2_left : MI yX2_left cX2_left 4 (some .long) 0 := ⟨w_85, w_18, by decide +kernel, by decide⟩
theorem mi_X2_flow : MI yX2_flow cX2_flow 10 none 3 := ⟨w_89, w_18, by decide +kernel, by decide⟩
theorem fg_RX2_45 : GI RX2 45 2 11 1 0 := ⟨w_93, rfl, rfl, rfl⟩
theorem fp_RX2_45 : PI RX2 45 2 11 1 0 .long := ⟨fg_RX2_45, rfl, by decide +kernel⟩
theorem fp_RX0_18 : PI RX0 18 0 1 2 0 (.object "SeatHall$Told") := ⟨fg_RX0_18, rfl, by decide +kernel⟩
theorem fg_RX0_38 : GI RX0 38 8 3 0 0 := ⟨w_94, rfl, rfl, rfl⟩
theorem fg_RX0_46 : GI RX0 46 8 7 3 2 := ⟨w_95, rfl, rfl, rfl⟩
theorem mi_X2_make : MI yX2_make cX2_make 9 none 4 := ⟨w_96, w_18, by decide +kernel, by decide⟩
theorem mi_X2_use : MI yX2_use cX2_use 3 none 2 := ⟨w_100, w_18, by decide +kernel, by decide⟩
theorem fg_RX0_9 : GI RX0 9 0 0 3 1 := ⟨w_104, rfl, rfl, rfl⟩
theorem fg_RX0_57 : GI RX0 57 8 12 3 7 := ⟨w_105, rfl, rfl, rfl⟩
theorem mi_X0_choose : MI yX0_choose cX0_choose 15 (some .int) 3 := ⟨w_106, w_13, by decide +kernel, by decide⟩
theorem fg_RX0_86 : GI RX0 86 8 2 0 0 := ⟨w_110, rfl, rfl, rfl⟩
theorem mi_X2_comingOn : MI yX2_comingOn cX2_comingOn 2 (some .int) 1 := ⟨w_111, w_18, by decide +kernel, by decide⟩
theorem mi_X0_doorTakings : MI yX0_doorTakings cX0_doorTakings 8 (some .long) 2 := ⟨w_117, w_13, by decide +kernel, by decide⟩
theorem fg_RX0_99 : GI RX0 99 8 9 3 4 := ⟨w_121, rfl, rfl, rfl⟩
theorem mi_X0_fullOf : MI yX0_fullOf cX0_fullOf 4 (some .long) 3 := ⟨w_122, w_13, by decide +kernel, by decide⟩
theorem mi_X0_planBoughtBy : MI yX0_planBoughtBy cX0_planBoughtBy 2 (some (.object "SeatHall$Plan")) 1 := ⟨w_126, w_13, by decide +kernel, by decide⟩
theorem mi_X0_hasSeat : MI yX0_hasSeat cX0_hasSeat 2 (some .boolean) 1 := ⟨w_131, w_13, by decide +kernel, by decide⟩
theorem fg_RX0_117 : GI RX0 117 8 0 0 0 := ⟨w_135, rfl, rfl, rfl⟩
theorem mi_X0_seatHolders : MI yX0_seatHolders cX0_seatHolders 3 (some .int) 0 := ⟨w_136, w_13, by decide +kernel, by decide⟩
theorem mi_X2_gone : MI yX2_gone cX2_gone 1 (some .long) 0 := ⟨w_142, w_18, by decide +kernel, by decide⟩
theorem mi_X0_valueByChance : MI yX0_valueByChance cX0_valueByChance 6 (some .long) 2 := ⟨w_148, w_13, by decide +kernel, by decide⟩
theorem fg_RX0_35 : GI RX0 35 0 4 3 17 := ⟨w_154, rfl, rfl, rfl⟩
theorem mi_X9_copyRow : MI yX9_copyRow cX9_copyRow 3 none 2 := ⟨w_155, w_5, by decide +kernel, by decide⟩
theorem mi_X0_takings : MI yX0_takings cX0_takings 10 (some .long) 3 := ⟨w_157, w_13, by decide +kernel, by decide⟩
theorem mi_X0_growUp : MI yX0_growUp cX0_growUp 5 none 2 := ⟨w_161, w_13, by decide +kernel, by decide⟩
theorem fg_RX8_44 : GI RX8 44 8 2 0 0 := ⟨w_165, rfl, rfl, rfl⟩
theorem fg_RX8_19 : GI RX8 19 8 7 3 2 := ⟨w_166, rfl, rfl, rfl⟩
theorem mi_X8_setFrom : MI yX8_setFrom cX8_setFrom 4 (some .int) 1 := ⟨w_167, w_8, by decide +kernel, by decide⟩
theorem fg_RX0_160 : GI RX0 160 8 5 0 0 := ⟨w_171, rfl, rfl, rfl⟩
theorem mi_X2_leftBehind : MI yX2_leftBehind cX2_leftBehind 2 (some .long) 1 := ⟨w_172, w_18, by decide +kernel, by decide⟩
theorem fg_RX1_19 : GI RX1 19 1 4 3 3 := ⟨w_176, rfl, rfl, rfl⟩
theorem mi_X9_fillRow : MI yX9_fillRow cX9_fillRow 3 none 2 := ⟨w_177, w_5, by decide +kernel, by decide⟩
theorem fg_RX1_15 : GI RX1 15 1 3 3 2 := ⟨w_179, rfl, rfl, rfl⟩
theorem fg_RX1_95 : GI RX1 95 1 1 0 0 := ⟨w_180, rfl, rfl, rfl⟩
theorem fg_RX1_98 : GI RX1 98 1 2 0 0 := ⟨w_182, rfl, rfl, rfl⟩
theorem fg_RX1_9 : GI RX1 9 1 0 3 1 := ⟨w_183, rfl, rfl, rfl⟩
theorem fp_RX1_98 : PI RX1 98 1 2 0 0 .int := ⟨fg_RX1_98, rfl, by decide +kernel⟩
theorem fp_RX1_95 : PI RX1 95 1 1 0 0 .int := ⟨fg_RX1_95, rfl, by decide +kernel⟩
theorem mi_X1_clear : MI yX1_clear cX1_clear 1 none 0 := ⟨w_188, w_189, by decide +kernel, by decide⟩
theorem fg_RX1_29 : GI RX1 29 8 3 0 0 := ⟨w_193, rfl, rfl, rfl⟩
theorem fg_RX1_47 : GI RX1 47 8 9 3 4 := ⟨w_196, rfl, rfl, rfl⟩
theorem mi_X1_add : MI yX1_add cX1_add 7 none 1 := ⟨w_197, w_189, by decide +kernel, by decide⟩
theorem fg_RX1_58 : GI RX1 58 8 0 0 0 := ⟨w_201, rfl, rfl, rfl⟩
theorem mi_X1_above : MI yX1_above cX1_above 5 (some .int) 1 := ⟨w_202, w_189, by decide +kernel, by decide⟩
theorem fg_RX1_76 : GI RX1 76 8 2 0 0 := ⟨w_207, rfl, rfl, rfl⟩
theorem mi_X1_lookAt : MI yX1_lookAt cX1_lookAt 9 none 3 := ⟨w_208, w_189, by decide +kernel, by decide⟩
theorem fg_RX3_29 : GI RX3 29 3 9 0 0 := ⟨w_212, rfl, rfl, rfl⟩
theorem fg_RX3_45 : GI RX3 45 3 8 0 0 := ⟨w_213, rfl, rfl, rfl⟩
theorem fg_RX3_39 : GI RX3 39 3 6 0 0 := ⟨w_214, rfl, rfl, rfl⟩
theorem fg_RX3_193 : GI RX3 193 3 5 0 0 := ⟨w_215, rfl, rfl, rfl⟩
theorem fp_RX3_193 : PI RX3 193 3 5 0 0 .int := ⟨fg_RX3_193, rfl, by decide +kernel⟩
theorem fg_RX3_36 : GI RX3 36 3 3 0 0 := ⟨w_216, rfl, rfl, rfl⟩
theorem fg_RX3_18 : GI RX3 18 3 1 3 3 := ⟨w_217, rfl, rfl, rfl⟩
theorem fg_RX3_66 : GI RX3 66 3 4 0 0 := ⟨w_218, rfl, rfl, rfl⟩
theorem fp_RX3_66 : PI RX3 66 3 4 0 0 .int := ⟨fg_RX3_66, rfl, by decide +kernel⟩
theorem fp_RX3_39 : PI RX3 39 3 6 0 0 .int := ⟨fg_RX3_39, rfl, by decide +kernel⟩
theorem fg_RX3_12 : GI RX3 12 3 0 3 1 := ⟨w_221, rfl, rfl, rfl⟩
theorem fg_RX3_48 : GI RX3 48 7 0 3 1 := ⟨w_222, rfl, rfl, rfl⟩
theorem fp_RX3_45 : PI RX3 45 3 8 0 0 .int := ⟨fg_RX3_45, rfl, by decide +kernel⟩
theorem fp_RX3_29 : PI RX3 29 3 9 0 0 .int := ⟨fg_RX3_29, rfl, by decide +kernel⟩
theorem mi_X3_refuse : MI yX3_refuse cX3_refuse 2 none 1 := ⟨w_224, w_225, by decide +kernel, by decide⟩
theorem mi_X3_advance : MI yX3_advance cX3_advance 2 none 0 := ⟨w_229, w_225, by decide +kernel, by decide⟩
theorem mi_X3_number : MI yX3_number cX3_number 3 (some .int) 0 := ⟨w_233, w_225, by decide +kernel, by decide⟩
theorem mi_X3_isWord : MI yX3_isWord cX3_isWord 3 (some .boolean) 1 := ⟨w_237, w_225, by decide +kernel, by decide⟩
theorem fg_RX3_25 : GI RX3 25 3 2 2 0 := ⟨w_241, rfl, rfl, rfl⟩
theorem fg_RX3_130 : GI RX3 130 8 2 0 0 := ⟨w_242, rfl, rfl, rfl⟩
theorem mi_X3_tellNext : MI yX3_tellNext cX3_tellNext 3 none 2 := ⟨w_243, w_225, by decide +kernel, by decide⟩
theorem fg_RX3_137 : GI RX3 137 8 6 3 1 := ⟨w_247, rfl, rfl, rfl⟩
theorem mi_X3_takeNumber : MI yX3_takeNumber cX3_takeNumber 4 (some .int) 2 := ⟨w_248, w_225, by decide +kernel, by decide⟩
theorem mi_X3_takesWord : MI yX3_takesWord cX3_takesWord 3 (some .boolean) 1 := ⟨w_252, w_225, by decide +kernel, by decide⟩
theorem fp_RX3_130 : PI RX3 130 8 2 0 0 .int := ⟨fg_RX3_130, rfl, by decide +kernel⟩
theorem fg_RX3_145 : GI RX3 145 8 3 0 0 := ⟨w_256, rfl, rfl, rfl⟩
theorem fg_RX3_148 : GI RX3 148 8 9 3 4 := ⟨w_257, rfl, rfl, rfl⟩
theorem fg_RX3_151 : GI RX3 151 8 8 3 3 := ⟨w_258, rfl, rfl, rfl⟩
theorem mi_X3_needWord : MI yX3_needWord cX3_needWord 2 none 1 := ⟨w_259, w_225, by decide +kernel, by decide⟩
theorem fp_RX3_145 : PI RX3 145 8 3 0 0 .int := ⟨fg_RX3_145, rfl, by decide +kernel⟩
theorem fg_RX3_172 : GI RX3 172 8 4 0 0 := ⟨w_263, rfl, rfl, rfl⟩
theorem fg_RX3_175 : GI RX3 175 8 10 3 5 := ⟨w_264, rfl, rfl, rfl⟩
theorem fg_RX3_179 : GI RX3 179 8 11 3 6 := ⟨w_265, rfl, rfl, rfl⟩
theorem fp_RX3_172 : PI RX3 172 8 4 0 0 .int := ⟨fg_RX3_172, rfl, by decide +kernel⟩
theorem fg_RX3_190 : GI RX3 190 8 7 3 2 := ⟨w_266, rfl, rfl, rfl⟩
theorem fg_RX3_42 : GI RX3 42 3 7 0 0 := ⟨w_267, rfl, rfl, rfl⟩
theorem fp_RX3_42 : PI RX3 42 3 7 0 0 .int := ⟨fg_RX3_42, rfl, by decide +kernel⟩
theorem mi_X3_tellOnce : MI yX3_tellOnce cX3_tellOnce 2 none 1 := ⟨w_268, w_225, by decide +kernel, by decide⟩
theorem fg_RX3_109 : GI RX3 109 8 12 3 7 := ⟨w_272, rfl, rfl, rfl⟩
theorem mi_X3_takeSetEvening : MI yX3_takeSetEvening cX3_takeSetEvening 2 none 0 := ⟨w_273, w_225, by decide +kernel, by decide⟩
theorem mi_X3_needStop : MI yX3_needStop cX3_needStop 1 none 0 := ⟨w_277, w_225, by decide +kernel, by decide⟩
theorem mi_X3_readSet : MI yX3_readSet cX3_readSet 2 none 0 := ⟨w_281, w_225, by decide +kernel, by decide⟩
theorem fg_RX3_114 : GI RX3 114 8 5 0 0 := ⟨w_285, rfl, rfl, rfl⟩
theorem fp_RX3_114 : PI RX3 114 8 5 0 0 .int := ⟨fg_RX3_114, rfl, by decide +kernel⟩
theorem mi_X3_readSeats : MI yX3_readSeats cX3_readSeats 1 none 0 := ⟨w_286, w_225, by decide +kernel, by decide⟩
theorem mi_X3_readPeople : MI yX3_readPeople cX3_readPeople 5 none 0 := ⟨w_290, w_225, by decide +kernel, by decide⟩
theorem mi_X3_readEvening : MI yX3_readEvening cX3_readEvening 2 none 0 := ⟨w_294, w_225, by decide +kernel, by decide⟩
theorem fg_RX3_90 : GI RX3 90 8 1 0 0 := ⟨w_298, rfl, rfl, rfl⟩
theorem fp_RX3_90 : PI RX3 90 8 1 0 0 .int := ⟨fg_RX3_90, rfl, by decide +kernel⟩
theorem fg_RX3_86 : GI RX3 86 8 0 0 0 := ⟨w_299, rfl, rfl, rfl⟩
theorem fp_RX3_86 : PI RX3 86 8 0 0 0 .int := ⟨fg_RX3_86, rfl, by decide +kernel⟩
theorem fg_RX8_9 : GI RX8 9 8 0 0 0 := ⟨w_300, rfl, rfl, rfl⟩
theorem fp_RX8_9 : PI RX8 9 8 0 0 0 .int := ⟨fg_RX8_9, rfl, by decide +kernel⟩
theorem fg_RX8_41 : GI RX8 41 8 1 0 0 := ⟨w_301, rfl, rfl, rfl⟩
theorem fp_RX8_41 : PI RX8 41 8 1 0 0 .int := ⟨fg_RX8_41, rfl, by decide +kernel⟩
theorem fp_RX8_44 : PI RX8 44 8 2 0 0 .int := ⟨fg_RX8_44, rfl, by decide +kernel⟩
theorem fg_RX8_47 : GI RX8 47 8 3 0 0 := ⟨w_302, rfl, rfl, rfl⟩
theorem fp_RX8_47 : PI RX8 47 8 3 0 0 .int := ⟨fg_RX8_47, rfl, by decide +kernel⟩
theorem fg_RX8_50 : GI RX8 50 8 4 0 0 := ⟨w_303, rfl, rfl, rfl⟩
theorem fp_RX8_50 : PI RX8 50 8 4 0 0 .int := ⟨fg_RX8_50, rfl, by decide +kernel⟩
theorem fg_RX8_53 : GI RX8 53 8 5 0 0 := ⟨w_304, rfl, rfl, rfl⟩
theorem fp_RX8_53 : PI RX8 53 8 5 0 0 .int := ⟨fg_RX8_53, rfl, by decide +kernel⟩
theorem fg_RX8_25 : GI RX8 25 8 9 3 4 := ⟨w_305, rfl, rfl, rfl⟩
theorem fg_RX8_28 : GI RX8 28 8 10 3 5 := ⟨w_306, rfl, rfl, rfl⟩
theorem fg_RX8_31 : GI RX8 31 8 11 3 6 := ⟨w_307, rfl, rfl, rfl⟩
theorem fg_RX8_34 : GI RX8 34 8 12 3 7 := ⟨w_308, rfl, rfl, rfl⟩
theorem fp_RX3_25 : PI RX3 25 3 2 2 0 (.object "SeatHall$Told") := ⟨fg_RX3_25, rfl, by decide +kernel⟩
theorem mi_X8_clear : MI yX8_clear cX8_clear 1 none 0 := ⟨w_309, w_8, by decide +kernel, by decide⟩
theorem fp_RX3_36 : PI RX3 36 3 3 0 0 .int := ⟨fg_RX3_36, rfl, by decide +kernel⟩
theorem mi_X3_typeOf : MI yX3_typeOf cX3_typeOf 1 (some .int) 1 := ⟨w_313, w_225, by decide +kernel, by decide⟩
theorem mi_X3_readLine : MI yX3_readLine cX3_readLine 1 none 0 := ⟨w_316, w_225, by decide +kernel, by decide⟩
theorem fg_RX4_21 : GI RX4 21 4 0 0 1 := ⟨w_320, rfl, rfl, rfl⟩
theorem fp_RX4_21 : PI RX4 21 4 0 0 1 .boolean := ⟨fg_RX4_21, rfl, by decide +kernel⟩
theorem fg_RX4_25 : GI RX4 25 4 1 0 0 := ⟨w_321, rfl, rfl, rfl⟩
theorem fp_RX4_25 : PI RX4 25 4 1 0 0 .int := ⟨fg_RX4_25, rfl, by decide +kernel⟩
theorem fg_RX4_29 : GI RX4 29 4 2 0 0 := ⟨w_322, rfl, rfl, rfl⟩
theorem fp_RX4_29 : PI RX4 29 4 2 0 0 .int := ⟨fg_RX4_29, rfl, by decide +kernel⟩
theorem fg_RX4_9 : GI RX4 9 4 3 3 1 := ⟨w_323, rfl, rfl, rfl⟩
theorem fg_RX4_15 : GI RX4 15 4 4 3 2 := ⟨w_324, rfl, rfl, rfl⟩
theorem fg_RX4_18 : GI RX4 18 4 5 3 3 := ⟨w_325, rfl, rfl, rfl⟩
theorem mi_X4_draw : MI yX4_draw cX4_draw 1 (some .int) 0 := ⟨w_328, w_329, by decide +kernel, by decide⟩
theorem fg_RX4_58 : GI RX4 58 8 3 0 0 := ⟨w_337, rfl, rfl, rfl⟩
theorem fg_RX4_67 : GI RX4 67 8 9 3 4 := ⟨w_339, rfl, rfl, rfl⟩
theorem mi_X4_canCome : MI yX4_canCome cX4_canCome 5 (some .boolean) 3 := ⟨w_340, w_329, by decide +kernel, by decide⟩
theorem mi_X4_comes : MI yX4_comes cX4_comes 6 (some .boolean) 5 := ⟨w_344, w_329, by decide +kernel, by decide⟩
theorem mi_X4_play : MI yX4_play cX4_play 11 none 3 := ⟨w_348, w_329, by decide +kernel, by decide⟩
theorem mi_X4_cameOf : MI yX4_cameOf cX4_cameOf 3 (some .int) 2 := ⟨w_352, w_329, by decide +kernel, by decide⟩
theorem fg_RX4_103 : GI RX4 103 0 0 3 1 := ⟨w_356, rfl, rfl, rfl⟩
theorem fg_RX5_25 : GI RX5 25 5 4 0 1 := ⟨w_357, rfl, rfl, rfl⟩
theorem fp_RX5_25 : PI RX5 25 5 4 0 1 .boolean := ⟨fg_RX5_25, rfl, by decide +kernel⟩
theorem fg_RX5_29 : GI RX5 29 5 5 0 1 := ⟨w_358, rfl, rfl, rfl⟩
theorem fp_RX5_29 : PI RX5 29 5 5 0 1 .boolean := ⟨fg_RX5_29, rfl, by decide +kernel⟩
theorem fg_RX5_21 : GI RX5 21 5 3 3 4 := ⟨w_359, rfl, rfl, rfl⟩
theorem fg_RX5_32 : GI RX5 32 0 1 2 0 := ⟨w_360, rfl, rfl, rfl⟩
theorem fg_RX5_65 : GI RX5 65 8 3 0 0 := ⟨w_361, rfl, rfl, rfl⟩
theorem fg_RX5_15 : GI RX5 15 5 1 3 2 := ⟨w_362, rfl, rfl, rfl⟩
theorem fg_RX5_9 : GI RX5 9 5 0 3 1 := ⟨w_363, rfl, rfl, rfl⟩
theorem fg_RX5_83 : GI RX5 83 8 9 3 4 := ⟨w_367, rfl, rfl, rfl⟩
theorem mi_X0_fullOfAll : MI yX0_fullOfAll cX0_fullOfAll 6 (some .long) 1 := ⟨w_369, w_13, by decide +kernel, by decide⟩
theorem mi_X5_keepBetter : MI yX5_keepBetter cX5_keepBetter 5 none 3 := ⟨w_373, w_374, by decide +kernel, by decide⟩
theorem fg_RX5_104 : GI RX5 104 8 1 0 0 := ⟨w_380, rfl, rfl, rfl⟩
theorem fg_RX5_38 : GI RX5 38 8 12 3 7 := ⟨w_381, rfl, rfl, rfl⟩
theorem mi_X5_weigh : MI yX5_weigh cX5_weigh 8 none 2 := ⟨w_382, w_374, by decide +kernel, by decide⟩
theorem fg_RX5_124 : GI RX5 124 0 2 3 10 := ⟨w_387, rfl, rfl, rfl⟩
theorem fg_RX5_18 : GI RX5 18 5 2 3 3 := ⟨w_388, rfl, rfl, rfl⟩
theorem fg_RX5_111 : GI RX5 111 8 2 0 0 := ⟨w_390, rfl, rfl, rfl⟩
theorem mi_X5_earnedBySet : MI yX5_earnedBySet cX5_earnedBySet 4 (some .long) 1 := ⟨w_391, w_374, by decide +kernel, by decide⟩
theorem fg_RX5_118 : GI RX5 118 5 6 0 0 := ⟨w_395, rfl, rfl, rfl⟩
theorem fp_RX5_118 : PI RX5 118 5 6 0 0 .int := ⟨fg_RX5_118, rfl, by decide +kernel⟩
theorem fg_RX5_121 : GI RX5 121 5 7 0 0 := ⟨w_396, rfl, rfl, rfl⟩
theorem fp_RX5_121 : PI RX5 121 5 7 0 0 .int := ⟨fg_RX5_121, rfl, by decide +kernel⟩
theorem fg_RX6_21 : GI RX6 21 6 0 0 1 := ⟨w_397, rfl, rfl, rfl⟩
theorem fp_RX6_21 : PI RX6 21 6 0 0 1 .boolean := ⟨fg_RX6_21, rfl, by decide +kernel⟩
theorem fg_RX6_47 : GI RX6 47 6 1 0 0 := ⟨w_398, rfl, rfl, rfl⟩
theorem fp_RX6_47 : PI RX6 47 6 1 0 0 .int := ⟨fg_RX6_47, rfl, by decide +kernel⟩
theorem fg_RX6_51 : GI RX6 51 8 3 0 0 := ⟨w_399, rfl, rfl, rfl⟩
theorem fg_RX6_56 : GI RX6 56 0 0 3 1 := ⟨w_400, rfl, rfl, rfl⟩
theorem fg_RX6_65 : GI RX6 65 8 9 3 4 := ⟨w_401, rfl, rfl, rfl⟩
theorem fg_RX6_15 : GI RX6 15 6 3 3 2 := ⟨w_402, rfl, rfl, rfl⟩
theorem fg_RX6_78 : GI RX6 78 6 5 0 0 := ⟨w_403, rfl, rfl, rfl⟩
theorem fg_RX6_72 : GI RX6 72 8 4 0 0 := ⟨w_404, rfl, rfl, rfl⟩
theorem fg_RX6_84 : GI RX6 84 6 6 0 0 := ⟨w_405, rfl, rfl, rfl⟩
theorem fg_RX6_75 : GI RX6 75 8 11 3 6 := ⟨w_407, rfl, rfl, rfl⟩
theorem fg_RX6_18 : GI RX6 18 6 4 3 3 := ⟨w_408, rfl, rfl, rfl⟩
theorem fp_RX6_84 : PI RX6 84 6 6 0 0 .int := ⟨fg_RX6_84, rfl, by decide +kernel⟩
theorem fp_RX6_78 : PI RX6 78 6 5 0 0 .int := ⟨fg_RX6_78, rfl, by decide +kernel⟩
theorem fg_RX6_81 : GI RX6 81 8 10 3 5 := ⟨w_410, rfl, rfl, rfl⟩
theorem mi_X6_seat : MI yX6_seat cX6_seat 10 (some .long) 3 := ⟨w_413, w_414, by decide +kernel, by decide⟩
theorem mi_X6_swap : MI yX6_swap cX6_swap 4 none 2 := ⟨w_418, w_414, by decide +kernel, by decide⟩
theorem mi_X6_collect : MI yX6_collect cX6_collect 6 none 2 := ⟨w_422, w_414, by decide +kernel, by decide⟩
theorem mi_X6_rankRows : MI yX6_rankRows cX6_rankRows 6 none 1 := ⟨w_426, w_414, by decide +kernel, by decide⟩
theorem mi_X6_gain : MI yX6_gain cX6_gain 7 (some .long) 2 := ⟨w_431, w_414, by decide +kernel, by decide⟩
theorem mi_X6_nextRow : MI yX6_nextRow cX6_nextRow 5 (some .boolean) 0 := ⟨w_435, w_414, by decide +kernel, by decide⟩
theorem fg_RX6_9 : GI RX6 9 6 2 3 1 := ⟨w_439, rfl, rfl, rfl⟩
theorem fg_RX7_15 : GI RX7 15 7 1 0 0 := ⟨w_440, rfl, rfl, rfl⟩
theorem fg_RX7_9 : GI RX7 9 7 0 3 1 := ⟨w_441, rfl, rfl, rfl⟩
theorem fp_RX7_15 : PI RX7 15 7 1 0 0 .int := ⟨fg_RX7_15, rfl, by decide +kernel⟩
theorem fg_RX9_20 : GI RX9 20 9 1 3 2 := ⟨w_442, rfl, rfl, rfl⟩
theorem fg_RX9_74 : GI RX9 74 7 1 0 0 := ⟨w_443, rfl, rfl, rfl⟩
theorem mi_X7_add : MI yX7_add cX7_add 3 none 1 := ⟨w_444, w_445, by decide +kernel, by decide⟩
theorem fg_RX9_10 : GI RX9 10 9 0 3 1 := ⟨w_449, rfl, rfl, rfl⟩
theorem fg_RX9_67 : GI RX9 67 9 9 2 0 := ⟨w_450, rfl, rfl, rfl⟩
theorem mi_X3_read : MI yX3_read cX3_read 4 (some .int) 2 := ⟨w_451, w_225, by decide +kernel, by decide⟩
theorem fp_RX9_74 : PI RX9 74 7 1 0 0 .int := ⟨fg_RX9_74, rfl, by decide +kernel⟩
theorem fg_RX9_70 : GI RX9 70 9 10 0 0 := ⟨w_455, rfl, rfl, rfl⟩
theorem fp_RX9_70 : PI RX9 70 9 10 0 0 .int := ⟨fg_RX9_70, rfl, by decide +kernel⟩
theorem fg_RX9_63 : GI RX9 63 9 8 2 0 := ⟨w_456, rfl, rfl, rfl⟩
theorem fp_RX9_63 : PI RX9 63 9 8 2 0 (.object "SeatHall$Told") := ⟨fg_RX9_63, rfl, by decide +kernel⟩
theorem fp_RX9_67 : PI RX9 67 9 9 2 0 (.object "SeatHall$Told") := ⟨fg_RX9_67, rfl, by decide +kernel⟩
theorem fg_RX9_24 : GI RX9 24 9 2 3 13 := ⟨w_457, rfl, rfl, rfl⟩
theorem mi_X0_open : MI yX0_open cX0_open 5 none 1 := ⟨w_458, w_13, by decide +kernel, by decide⟩
theorem fg_RX9_31 : GI RX9 31 9 3 3 211 := ⟨w_462, rfl, rfl, rfl⟩
theorem mi_X1_forget : MI yX1_forget cX1_forget 1 none 0 := ⟨w_463, w_189, by decide +kernel, by decide⟩
theorem fg_RX9_38 : GI RX9 38 9 4 3 215 := ⟨w_467, rfl, rfl, rfl⟩
theorem mi_X5_forget : MI yX5_forget cX5_forget 1 none 0 := ⟨w_468, w_374, by decide +kernel, by decide⟩
theorem fg_RX9_45 : GI RX9 45 9 5 3 220 := ⟨w_472, rfl, rfl, rfl⟩
theorem mi_X6_forget : MI yX6_forget cX6_forget 1 none 0 := ⟨w_473, w_414, by decide +kernel, by decide⟩
theorem fg_RX9_52 : GI RX9 52 9 6 3 224 := ⟨w_477, rfl, rfl, rfl⟩
theorem fg_RX9_106 : GI RX9 106 4 0 0 1 := ⟨w_478, rfl, rfl, rfl⟩
theorem fp_RX9_106 : PI RX9 106 4 0 0 1 .boolean := ⟨fg_RX9_106, rfl, by decide +kernel⟩
theorem fg_RX9_56 : GI RX9 56 9 7 3 228 := ⟨w_479, rfl, rfl, rfl⟩
theorem mi_X3_place : MI yX3_place cX3_place 1 (some .int) 0 := ⟨w_480, w_225, by decide +kernel, by decide⟩
theorem fg_RX9_94 : GI RX9 94 9 11 0 0 := ⟨w_484, rfl, rfl, rfl⟩
theorem fp_RX9_94 : PI RX9 94 9 11 0 0 .int := ⟨fg_RX9_94, rfl, by decide +kernel⟩
theorem fg_RX9_131 : GI RX9 131 9 12 0 0 := ⟨w_485, rfl, rfl, rfl⟩
theorem mi_X8_ticketBits : MI yX8_ticketBits cX8_ticketBits 3 (some .int) 0 := ⟨w_486, w_8, by decide +kernel, by decide⟩
theorem fg_RX9_125 : GI RX9 125 8 4 0 0 := ⟨w_490, rfl, rfl, rfl⟩
theorem mi_X8_people : MI yX8_people cX8_people 3 (some .int) 0 := ⟨w_491, w_8, by decide +kernel, by decide⟩
theorem fg_RX9_119 : GI RX9 119 8 3 0 0 := ⟨w_495, rfl, rfl, rfl⟩
theorem fg_RX9_116 : GI RX9 116 8 2 0 0 := ⟨w_496, rfl, rfl, rfl⟩
theorem fg_RX9_113 : GI RX9 113 8 1 0 0 := ⟨w_497, rfl, rfl, rfl⟩
theorem fg_RX9_110 : GI RX9 110 8 0 0 0 := ⟨w_498, rfl, rfl, rfl⟩
theorem mi_X9_needEvening : MI yX9_needEvening cX9_needEvening 2 none 1 := ⟨w_499, w_5, by decide +kernel, by decide⟩
theorem mi_X9_needWhat : MI yX9_needWhat cX9_needWhat 3 none 2 := ⟨w_503, w_5, by decide +kernel, by decide⟩
theorem fg_RX9_144 : GI RX9 144 8 7 3 2 := ⟨w_508, rfl, rfl, rfl⟩
theorem mi_X9_needKind : MI yX9_needKind cX9_needKind 2 none 1 := ⟨w_510, w_5, by decide +kernel, by decide⟩
theorem mi_X9_needTicket : MI yX9_needTicket cX9_needTicket 2 none 1 := ⟨w_515, w_5, by decide +kernel, by decide⟩
theorem fg_RX9_165 : GI RX9 165 8 12 3 7 := ⟨w_519, rfl, rfl, rfl⟩
theorem fg_RX9_184 : GI RX9 184 0 0 3 1 := ⟨w_524, rfl, rfl, rfl⟩
theorem mi_X0_kinder : MI yX0_kinder cX0_kinder 6 (some .long) 1 := ⟨w_528, w_13, by decide +kernel, by decide⟩
theorem mi_X0_pays : MI yX0_pays cX0_pays 5 (some .long) 1 := ⟨w_532, w_13, by decide +kernel, by decide⟩
theorem mi_X2_thoughtGone : MI yX2_thoughtGone cX2_thoughtGone 1 (some .long) 0 := ⟨w_536, w_18, by decide +kernel, by decide⟩
theorem mi_X2_sunk : MI yX2_sunk cX2_sunk 1 (some .long) 0 := ⟨w_540, w_18, by decide +kernel, by decide⟩
theorem mi_X1_standing : MI yX1_standing cX1_standing 8 (some .int) 3 := ⟨w_545, w_189, by decide +kernel, by decide⟩
theorem mi_X0_fullOn : MI yX0_fullOn cX0_fullOn 6 (some .long) 2 := ⟨w_549, w_13, by decide +kernel, by decide⟩
theorem fg_RX9_223 : GI RX9 223 8 9 3 4 := ⟨w_553, rfl, rfl, rfl⟩
theorem mi_X5_throughPrices : MI yX5_throughPrices cX5_throughPrices 8 (some .int) 5 := ⟨w_555, w_374, by decide +kernel, by decide⟩
theorem fg_RX9_234 : GI RX9 234 5 4 0 1 := ⟨w_559, rfl, rfl, rfl⟩
theorem fg_RX9_237 : GI RX9 237 5 3 3 4 := ⟨w_560, rfl, rfl, rfl⟩
theorem mi_X1_mostBelow : MI yX1_mostBelow cX1_mostBelow 6 (some .int) 4 := ⟨w_563, w_189, by decide +kernel, by decide⟩
theorem mi_X0_turnedAway : MI yX0_turnedAway cX0_turnedAway 7 (some .long) 1 := ⟨w_567, w_13, by decide +kernel, by decide⟩
theorem mi_X0_emptySeats : MI yX0_emptySeats cX0_emptySeats 5 (some .long) 1 := ⟨w_571, w_13, by decide +kernel, by decide⟩
theorem mi_J9_floorDiv_f86c9 : MI yJ9_floorDiv_f86c9 cJ9_floorDiv_f86c9 6 (some .long) 2 := ⟨w_576, w_577, by decide +kernel, by decide⟩
theorem mi_X5_throughPairs : MI yX5_throughPairs cX5_throughPairs 9 (some .long) 2 := ⟨w_580, w_374, by decide +kernel, by decide⟩
theorem fg_RX9_271 : GI RX9 271 5 5 0 1 := ⟨w_585, rfl, rfl, rfl⟩
theorem fg_RX9_277 : GI RX9 277 5 7 0 0 := ⟨w_586, rfl, rfl, rfl⟩
theorem fg_RX9_274 : GI RX9 274 5 6 0 0 := ⟨w_587, rfl, rfl, rfl⟩
theorem mi_X0_throughYears : MI yX0_throughYears cX0_throughYears 10 (some .long) 3 := ⟨w_588, w_13, by decide +kernel, by decide⟩
theorem mi_X6_arrange : MI yX6_arrange cX6_arrange 9 (some .long) 2 := ⟨w_592, w_414, by decide +kernel, by decide⟩
theorem fg_RX9_288 : GI RX9 288 6 0 0 1 := ⟨w_596, rfl, rfl, rfl⟩
theorem fg_RX9_289 : GI RX9 289 6 1 0 0 := ⟨w_597, rfl, rfl, rfl⟩
theorem fg_RX9_290 : GI RX9 290 6 2 3 1 := ⟨w_598, rfl, rfl, rfl⟩
theorem mi_X0_owing : MI yX0_owing cX0_owing 11 (some .long) 2 := ⟨w_599, w_13, by decide +kernel, by decide⟩
theorem mi_X4_start : MI yX4_start cX4_start 2 none 1 := ⟨w_603, w_329, by decide +kernel, by decide⟩
theorem fp_RX9_131 : PI RX9 131 9 12 0 0 .int := ⟨fg_RX9_131, rfl, by decide +kernel⟩
theorem fg_RX9_299 : GI RX9 299 4 1 0 0 := ⟨w_607, rfl, rfl, rfl⟩
theorem mi_X4_goOn : MI yX4_goOn cX4_goOn 5 none 3 := ⟨w_608, w_329, by decide +kernel, by decide⟩
theorem fg_RX9_315 : GI RX9 315 4 5 3 3 := ⟨w_613, rfl, rfl, rfl⟩
theorem mi_X4_coinsOn : MI yX4_coinsOn cX4_coinsOn 6 (some .int) 3 := ⟨w_614, w_329, by decide +kernel, by decide⟩
theorem mi_X4_cameOn : MI yX4_cameOn cX4_cameOn 4 (some .int) 1 := ⟨w_618, w_329, by decide +kernel, by decide⟩
theorem mi_X4_copy : MI yX4_copy cX4_copy 2 none 1 := ⟨w_623, w_329, by decide +kernel, by decide⟩
theorem fg_RX10_133 : GI RX10 133 10 0 0 0 := ⟨w_627, rfl, rfl, rfl⟩
theorem fp_RX10_133 : PI RX10 133 10 0 0 0 .int := ⟨fg_RX10_133, rfl, by decide +kernel⟩
theorem fg_RX10_26 : GI RX10 26 10 11 3 5 := ⟨w_628, rfl, rfl, rfl⟩
theorem fg_RX10_136 : GI RX10 136 10 12 0 0 := ⟨w_629, rfl, rfl, rfl⟩
theorem fp_RX10_136 : PI RX10 136 10 12 0 0 .int := ⟨fg_RX10_136, rfl, by decide +kernel⟩
theorem mi_X10_lays : MI yX10_lays cX10_lays 3 none 1 := ⟨w_630, w_631, by decide +kernel, by decide⟩
theorem fg_RX10_143 : GI RX10 143 10 16 0 0 := ⟨w_635, rfl, rfl, rfl⟩
theorem fg_RX10_146 : GI RX10 146 10 17 0 0 := ⟨w_636, rfl, rfl, rfl⟩
theorem mi_X10_byteAt : MI yX10_byteAt cX10_byteAt 2 (some .int) 1 := ⟨w_637, w_631, by decide +kernel, by decide⟩
theorem fp_RX10_146 : PI RX10 146 10 17 0 0 .int := ⟨fg_RX10_146, rfl, by decide +kernel⟩
theorem fg_RX10_153 : GI RX10 153 10 19 0 0 := ⟨w_641, rfl, rfl, rfl⟩
theorem fp_RX10_153 : PI RX10 153 10 19 0 0 .int := ⟨fg_RX10_153, rfl, by decide +kernel⟩
theorem fg_RX10_156 : GI RX10 156 10 22 1 0 := ⟨w_642, rfl, rfl, rfl⟩
theorem fp_RX10_156 : PI RX10 156 10 22 1 0 .long := ⟨fg_RX10_156, rfl, by decide +kernel⟩
theorem fg_RX10_160 : GI RX10 160 10 21 0 0 := ⟨w_643, rfl, rfl, rfl⟩
theorem fp_RX10_160 : PI RX10 160 10 21 0 0 .int := ⟨fg_RX10_160, rfl, by decide +kernel⟩
theorem mi_X10_isLetter : MI yX10_isLetter cX10_isLetter 1 (some .boolean) 1 := ⟨w_644, w_631, by decide +kernel, by decide⟩
theorem mi_X10_isDigit : MI yX10_isDigit cX10_isDigit 1 (some .boolean) 1 := ⟨w_647, w_631, by decide +kernel, by decide⟩
theorem fg_RX10_163 : GI RX10 163 10 18 0 0 := ⟨w_650, rfl, rfl, rfl⟩
theorem fp_RX10_163 : PI RX10 163 10 18 0 0 .int := ⟨fg_RX10_163, rfl, by decide +kernel⟩
theorem fg_RX10_173 : GI RX10 173 10 20 0 0 := ⟨w_651, rfl, rfl, rfl⟩
theorem fp_RX10_173 : PI RX10 173 10 20 0 0 .int := ⟨fg_RX10_173, rfl, by decide +kernel⟩
theorem mi_X10_spelled : MI yX10_spelled cX10_spelled 9 (some .long) 7 := ⟨w_652, w_631, by decide +kernel, by decide⟩
theorem mi_X10_letters : MI yX10_letters cX10_letters 1 (some .long) 1 := ⟨w_655, w_631, by decide +kernel, by decide⟩
theorem fg_RX10_184 : GI RX10 184 10 13 0 0 := ⟨w_658, rfl, rfl, rfl⟩
theorem fp_RX10_184 : PI RX10 184 10 13 0 0 .int := ⟨fg_RX10_184, rfl, by decide +kernel⟩
theorem fg_RX10_29 : GI RX10 29 10 14 0 0 := ⟨w_659, rfl, rfl, rfl⟩
theorem fp_RX10_29 : PI RX10 29 10 14 0 0 .int := ⟨fg_RX10_29, rfl, by decide +kernel⟩
theorem mi_X10_isGood : MI yX10_isGood cX10_isGood 1 (some .boolean) 0 := ⟨w_660, w_631, by decide +kernel, by decide⟩
theorem mi_X10_wrong : MI yX10_wrong cX10_wrong 2 none 1 := ⟨w_664, w_631, by decide +kernel, by decide⟩
theorem mi_X10_steps : MI yX10_steps cX10_steps 2 none 0 := ⟨w_668, w_631, by decide +kernel, by decide⟩
theorem mi_X10_is : MI yX10_is cX10_is 2 (some .boolean) 1 := ⟨w_672, w_631, by decide +kernel, by decide⟩
theorem mi_X10_need : MI yX10_need cX10_need 2 none 1 := ⟨w_676, w_631, by decide +kernel, by decide⟩
theorem mi_X10_number : MI yX10_number cX10_number 4 (some .int) 2 := ⟨w_680, w_631, by decide +kernel, by decide⟩
theorem mi_X10_named : MI yX10_named cX10_named 4 (some .int) 3 := ⟨w_684, w_631, by decide +kernel, by decide⟩
theorem fg_RX10_212 : GI RX10 212 10 25 0 0 := ⟨w_688, rfl, rfl, rfl⟩
theorem fg_RX10_35 : GI RX10 35 10 30 3 7 := ⟨w_689, rfl, rfl, rfl⟩
theorem mi_X10_perhaps : MI yX10_perhaps cX10_perhaps 5 (some .int) 4 := ⟨w_690, w_631, by decide +kernel, by decide⟩
theorem fp_RX10_212 : PI RX10 212 10 25 0 0 .int := ⟨fg_RX10_212, rfl, by decide +kernel⟩
theorem fg_RX10_219 : GI RX10 219 10 26 0 0 := ⟨w_694, rfl, rfl, rfl⟩
theorem fg_RX10_38 : GI RX10 38 10 31 3 8 := ⟨w_695, rfl, rfl, rfl⟩
theorem fp_RX10_219 : PI RX10 219 10 26 0 0 .int := ⟨fg_RX10_219, rfl, by decide +kernel⟩
theorem fg_RX10_222 : GI RX10 222 10 27 0 0 := ⟨w_696, rfl, rfl, rfl⟩
theorem fg_RX10_41 : GI RX10 41 10 32 3 9 := ⟨w_697, rfl, rfl, rfl⟩
theorem fp_RX10_222 : PI RX10 222 10 27 0 0 .int := ⟨fg_RX10_222, rfl, by decide +kernel⟩
theorem mi_X10_lineWord : MI yX10_lineWord cX10_lineWord 2 (some .int) 0 := ⟨w_698, w_631, by decide +kernel, by decide⟩
theorem fg_RX10_238 : GI RX10 238 10 29 0 0 := ⟨w_702, rfl, rfl, rfl⟩
theorem fp_RX10_238 : PI RX10 238 10 29 0 0 .int := ⟨fg_RX10_238, rfl, by decide +kernel⟩
theorem fg_RX10_44 : GI RX10 44 10 33 3 10 := ⟨w_703, rfl, rfl, rfl⟩
theorem mi_X10_member : MI yX10_member cX10_member 1 none 0 := ⟨w_704, w_631, by decide +kernel, by decide⟩
theorem fg_RX10_247 : GI RX10 247 10 28 0 0 := ⟨w_708, rfl, rfl, rfl⟩
theorem fp_RX10_247 : PI RX10 247 10 28 0 0 .int := ⟨fg_RX10_247, rfl, by decide +kernel⟩
theorem fg_RX10_244 : GI RX10 244 10 24 0 0 := ⟨w_709, rfl, rfl, rfl⟩
theorem fp_RX10_244 : PI RX10 244 10 24 0 0 .int := ⟨fg_RX10_244, rfl, by decide +kernel⟩
theorem fg_RX10_241 : GI RX10 241 10 23 0 0 := ⟨w_710, rfl, rfl, rfl⟩
theorem fp_RX10_241 : PI RX10 241 10 23 0 0 .int := ⟨fg_RX10_241, rfl, by decide +kernel⟩
theorem mi_X10_readsSeats : MI yX10_readsSeats cX10_readsSeats 1 none 0 := ⟨w_711, w_631, by decide +kernel, by decide⟩
theorem mi_X10_readsPeople : MI yX10_readsPeople cX10_readsPeople 3 none 0 := ⟨w_715, w_631, by decide +kernel, by decide⟩
theorem mi_X10_readsEvening : MI yX10_readsEvening cX10_readsEvening 2 none 0 := ⟨w_719, w_631, by decide +kernel, by decide⟩
theorem fg_RX10_271 : GI RX10 271 10 6 0 0 := ⟨w_723, rfl, rfl, rfl⟩
theorem fg_RX10_54 : GI RX10 54 10 36 3 13 := ⟨w_724, rfl, rfl, rfl⟩
theorem mi_X10_first : MI yX10_first cX10_first 2 (some .int) 1 := ⟨w_725, w_631, by decide +kernel, by decide⟩
theorem fg_RX10_17 : GI RX10 17 10 8 3 2 := ⟨w_730, rfl, rfl, rfl⟩
theorem mi_X10_of : MI yX10_of cX10_of 3 (some .int) 2 := ⟨w_731, w_631, by decide +kernel, by decide⟩
theorem fg_RX10_13 : GI RX10 13 10 7 3 1 := ⟨w_736, rfl, rfl, rfl⟩
theorem fg_RX10_47 : GI RX10 47 10 34 3 11 := ⟨w_738, rfl, rfl, rfl⟩
theorem fg_RX10_262 : GI RX10 262 10 3 0 0 := ⟨w_739, rfl, rfl, rfl⟩
theorem mi_X10_chanceOf : MI yX10_chanceOf cX10_chanceOf 4 (some .long) 3 := ⟨w_740, w_631, by decide +kernel, by decide⟩
theorem mi_X10_at : MI yX10_at cX10_at 3 (some .int) 3 := ⟨w_744, w_631, by decide +kernel, by decide⟩
theorem mi_X10_mayGo : MI yX10_mayGo cX10_mayGo 4 (some .boolean) 3 := ⟨w_747, w_631, by decide +kernel, by decide⟩
theorem fg_RX10_50 : GI RX10 50 10 35 3 12 := ⟨w_751, rfl, rfl, rfl⟩
theorem fg_RX10_322 : GI RX10 322 10 38 1 0 := ⟨w_752, rfl, rfl, rfl⟩
theorem fp_RX10_322 : PI RX10 322 10 38 1 0 .long := ⟨fg_RX10_322, rfl, by decide +kernel⟩
theorem fg_RX10_325 : GI RX10 325 10 39 1 0 := ⟨w_753, rfl, rfl, rfl⟩
theorem fp_RX10_325 : PI RX10 325 10 39 1 0 .long := ⟨fg_RX10_325, rfl, by decide +kernel⟩
theorem fg_RX10_58 : GI RX10 58 10 37 3 14 := ⟨w_754, rfl, rfl, rfl⟩
theorem mi_X10_plans : MI yX10_plans cX10_plans 15 none 3 := ⟨w_755, w_631, by decide +kernel, by decide⟩
theorem fg_RX10_61 : GI RX10 61 10 40 3 15 := ⟨w_759, rfl, rfl, rfl⟩
theorem fg_RX10_67 : GI RX10 67 10 42 3 17 := ⟨w_760, rfl, rfl, rfl⟩
theorem fg_RX10_70 : GI RX10 70 10 43 3 18 := ⟨w_761, rfl, rfl, rfl⟩
theorem mi_X10_begins : MI yX10_begins cX10_begins 3 none 1 := ⟨w_762, w_631, by decide +kernel, by decide⟩
theorem mi_X10_uses : MI yX10_uses cX10_uses 15 none 5 := ⟨w_766, w_631, by decide +kernel, by decide⟩
theorem fg_RX10_64 : GI RX10 64 10 41 3 16 := ⟨w_770, rfl, rfl, rfl⟩
theorem mi_X10_right : MI yX10_right cX10_right 3 (some .boolean) 2 := ⟨w_771, w_631, by decide +kernel, by decide⟩
theorem fp_RX10_143 : PI RX10 143 10 16 0 0 .int := ⟨fg_RX10_143, rfl, by decide +kernel⟩
theorem mi_X10_line : MI yX10_line cX10_line 2 none 0 := ⟨w_775, w_631, by decide +kernel, by decide⟩
theorem fg_RX10_7 : GI RX10 7 10 1 0 0 := ⟨w_779, rfl, rfl, rfl⟩
theorem fp_RX10_7 : PI RX10 7 10 1 0 0 .int := ⟨fg_RX10_7, rfl, by decide +kernel⟩
theorem fg_RX10_259 : GI RX10 259 10 2 0 0 := ⟨w_780, rfl, rfl, rfl⟩
theorem fp_RX10_259 : PI RX10 259 10 2 0 0 .int := ⟨fg_RX10_259, rfl, by decide +kernel⟩
theorem fp_RX10_262 : PI RX10 262 10 3 0 0 .int := ⟨fg_RX10_262, rfl, by decide +kernel⟩
theorem fg_RX10_265 : GI RX10 265 10 4 0 0 := ⟨w_781, rfl, rfl, rfl⟩
theorem fp_RX10_265 : PI RX10 265 10 4 0 0 .int := ⟨fg_RX10_265, rfl, by decide +kernel⟩
theorem fg_RX10_268 : GI RX10 268 10 5 0 0 := ⟨w_782, rfl, rfl, rfl⟩
theorem fp_RX10_268 : PI RX10 268 10 5 0 0 .int := ⟨fg_RX10_268, rfl, by decide +kernel⟩
theorem fp_RX10_271 : PI RX10 271 10 6 0 0 .int := ⟨fg_RX10_271, rfl, by decide +kernel⟩
theorem mi_X10_copies : MI yX10_copies cX10_copies 4 none 2 := ⟨w_783, w_631, by decide +kernel, by decide⟩
theorem fg_RX10_20 : GI RX10 20 10 9 3 3 := ⟨w_787, rfl, rfl, rfl⟩
theorem fg_RX10_23 : GI RX10 23 10 10 3 4 := ⟨w_788, rfl, rfl, rfl⟩
theorem fg_RX10_278 : GI RX10 278 10 45 0 1 := ⟨w_789, rfl, rfl, rfl⟩
theorem fp_RX10_278 : PI RX10 278 10 45 0 1 .boolean := ⟨fg_RX10_278, rfl, by decide +kernel⟩
theorem fg_RX10_82 : GI RX10 82 10 48 0 0 := ⟨w_790, rfl, rfl, rfl⟩
theorem fp_RX10_82 : PI RX10 82 10 48 0 0 .int := ⟨fg_RX10_82, rfl, by decide +kernel⟩
theorem fg_RX10_94 : GI RX10 94 10 53 0 0 := ⟨w_791, rfl, rfl, rfl⟩
theorem fp_RX10_94 : PI RX10 94 10 53 0 0 .int := ⟨fg_RX10_94, rfl, by decide +kernel⟩
theorem fg_RX10_282 : GI RX10 282 10 58 0 1 := ⟨w_792, rfl, rfl, rfl⟩
theorem fp_RX10_282 : PI RX10 282 10 58 0 1 .boolean := ⟨fg_RX10_282, rfl, by decide +kernel⟩
theorem fg_RX10_285 : GI RX10 285 10 59 0 1 := ⟨w_793, rfl, rfl, rfl⟩
theorem fp_RX10_285 : PI RX10 285 10 59 0 1 .boolean := ⟨fg_RX10_285, rfl, by decide +kernel⟩
theorem mi_X10_works : MI yX10_works cX10_works 5 none 2 := ⟨w_794, w_631, by decide +kernel, by decide⟩
theorem fg_RX10_32 : GI RX10 32 10 15 3 6 := ⟨w_798, rfl, rfl, rfl⟩
theorem mi_X10_within : MI yX10_within cX10_within 3 (some .boolean) 3 := ⟨w_799, w_631, by decide +kernel, by decide⟩
theorem mi_X10_people : MI yX10_people cX10_people 3 (some .int) 0 := ⟨w_802, w_631, by decide +kernel, by decide⟩
theorem mi_X10_isEvening : MI yX10_isEvening cX10_isEvening 2 (some .boolean) 1 := ⟨w_806, w_631, by decide +kernel, by decide⟩
theorem mi_X10_isKind : MI yX10_isKind cX10_isKind 2 (some .boolean) 1 := ⟨w_810, w_631, by decide +kernel, by decide⟩
theorem mi_X10_goodOf : MI yX10_goodOf cX10_goodOf 3 (some .int) 2 := ⟨w_814, w_631, by decide +kernel, by decide⟩
theorem mi_X10_buysOf : MI yX10_buysOf cX10_buysOf 4 (some .int) 1 := ⟨w_818, w_631, by decide +kernel, by decide⟩
theorem mi_X10_comingOf : MI yX10_comingOf cX10_comingOf 3 (some .long) 2 := ⟨w_822, w_631, by decide +kernel, by decide⟩
theorem mi_X10_floor : MI yX10_floor cX10_floor 6 (some .long) 2 := ⟨w_826, w_631, by decide +kernel, by decide⟩
theorem mi_X10_kinderOf : MI yX10_kinderOf cX10_kinderOf 5 (some .int) 1 := ⟨w_830, w_631, by decide +kernel, by decide⟩
theorem mi_X10_thoughtOf : MI yX10_thoughtOf cX10_thoughtOf 6 (some .long) 1 := ⟨w_835, w_631, by decide +kernel, by decide⟩
theorem fg_RX10_73 : GI RX10 73 10 44 3 19 := ⟨w_839, rfl, rfl, rfl⟩
theorem mi_X10_nobody : MI yX10_nobody cX10_nobody 2 none 0 := ⟨w_840, w_631, by decide +kernel, by decide⟩
theorem mi_X10_oneMore : MI yX10_oneMore cX10_oneMore 5 none 2 := ⟨w_844, w_631, by decide +kernel, by decide⟩
theorem mi_X10_above : MI yX10_above cX10_above 5 (some .long) 1 := ⟨w_848, w_631, by decide +kernel, by decide⟩
theorem mi_X10_standing : MI yX10_standing cX10_standing 7 (some .long) 1 := ⟨w_852, w_631, by decide +kernel, by decide⟩
theorem mi_X10_fullAll : MI yX10_fullAll cX10_fullAll 5 (some .long) 1 := ⟨w_856, w_631, by decide +kernel, by decide⟩
theorem mi_X10_earnsNow : MI yX10_earnsNow cX10_earnsNow 6 (some .long) 0 := ⟨w_860, w_631, by decide +kernel, by decide⟩
theorem fg_RX10_76 : GI RX10 76 10 46 3 20 := ⟨w_864, rfl, rfl, rfl⟩
theorem fg_RX10_79 : GI RX10 79 10 47 3 21 := ⟨w_866, rfl, rfl, rfl⟩
theorem fg_RX10_85 : GI RX10 85 10 50 3 22 := ⟨w_867, rfl, rfl, rfl⟩
theorem fg_RX10_389 : GI RX10 389 10 49 0 0 := ⟨w_868, rfl, rfl, rfl⟩
theorem fp_RX10_389 : PI RX10 389 10 49 0 0 .int := ⟨fg_RX10_389, rfl, by decide +kernel⟩
theorem fg_RX10_88 : GI RX10 88 10 51 3 23 := ⟨w_869, rfl, rfl, rfl⟩
theorem fg_RX10_91 : GI RX10 91 10 52 3 24 := ⟨w_870, rfl, rfl, rfl⟩
theorem fg_RX10_106 : GI RX10 106 10 57 3 28 := ⟨w_871, rfl, rfl, rfl⟩
theorem fg_RX10_100 : GI RX10 100 10 55 3 26 := ⟨w_872, rfl, rfl, rfl⟩
theorem fg_RX10_103 : GI RX10 103 10 56 3 27 := ⟨w_873, rfl, rfl, rfl⟩
theorem mi_X10_swaps : MI yX10_swaps cX10_swaps 4 none 2 := ⟨w_874, w_631, by decide +kernel, by decide⟩
theorem mi_X10_gained : MI yX10_gained cX10_gained 10 (some .long) 1 := ⟨w_878, w_631, by decide +kernel, by decide⟩
theorem mi_X10_turns : MI yX10_turns cX10_turns 6 (some .boolean) 1 := ⟨w_882, w_631, by decide +kernel, by decide⟩
theorem fg_RX10_97 : GI RX10 97 10 54 3 25 := ⟨w_886, rfl, rfl, rfl⟩
theorem fg_RX10_109 : GI RX10 109 10 60 3 29 := ⟨w_887, rfl, rfl, rfl⟩
theorem fg_RX10_115 : GI RX10 115 10 62 3 31 := ⟨w_888, rfl, rfl, rfl⟩
theorem fg_RX10_118 : GI RX10 118 10 63 3 32 := ⟨w_889, rfl, rfl, rfl⟩
theorem fg_RX10_127 : GI RX10 127 10 66 3 35 := ⟨w_891, rfl, rfl, rfl⟩
theorem mi_X10_draw : MI yX10_draw cX10_draw 2 (some .int) 1 := ⟨w_892, w_631, by decide +kernel, by decide⟩
theorem mi_X10_oneEvening : MI yX10_oneEvening cX10_oneEvening 10 none 1 := ⟨w_896, w_631, by decide +kernel, by decide⟩
theorem fg_RX10_112 : GI RX10 112 10 61 3 30 := ⟨w_900, rfl, rfl, rfl⟩
theorem fg_RX10_121 : GI RX10 121 10 64 3 33 := ⟨w_901, rfl, rfl, rfl⟩
theorem fg_RX10_124 : GI RX10 124 10 65 3 34 := ⟨w_902, rfl, rfl, rfl⟩
theorem fg_RX10_130 : GI RX10 130 10 67 3 36 := ⟨w_903, rfl, rfl, rfl⟩
theorem mth_imax : Cond.static Lib.Math.max.name ∈ W0 ∧ Cond.initialized "java/lang/Math" ∈ W0 ∧ Cond.code Lib.Math.max.name Lib.Math.max.code 2 (some .int) ∈ W0 := ⟨wt4 _ (List.mem_of_getElem? (i := 63) (by decide +kernel)) rfl, wt1 _ (List.mem_of_getElem? (i := 16) (by decide +kernel)) rfl, wt4 _ (List.mem_of_getElem? (i := 64) (by decide +kernel)) rfl⟩
theorem mth_imin : Cond.static Lib.Math.min.name ∈ W0 ∧ Cond.initialized "java/lang/Math" ∈ W0 ∧ Cond.code Lib.Math.min.name Lib.Math.min.code 2 (some .int) ∈ W0 := ⟨wt3 _ (List.mem_of_getElem? (i := 15) (by decide +kernel)) rfl, wt1 _ (List.mem_of_getElem? (i := 16) (by decide +kernel)) rfl, wt3 _ (List.mem_of_getElem? (i := 16) (by decide +kernel)) rfl⟩
theorem mth_lmax : Cond.static Lib.MathLoose.max_long.x ∈ W0 ∧ Cond.initialized "java/lang/Math" ∈ W0 ∧ Cond.code Lib.MathLoose.max_long.x Lib.MathLoose.max_long.code 4 (some .long) ∈ W0 := ⟨wt5 _ (List.mem_of_getElem? (i := 159) (by decide +kernel)) rfl, wt1 _ (List.mem_of_getElem? (i := 16) (by decide +kernel)) rfl, wt5 _ (List.mem_of_getElem? (i := 160) (by decide +kernel)) rfl⟩
theorem mth_lmin : Cond.static Lib.MathLoose.min_long.x ∈ W0 ∧ Cond.initialized "java/lang/Math" ∈ W0 ∧ Cond.code Lib.MathLoose.min_long.x Lib.MathLoose.min_long.code 4 (some .long) ∈ W0 := ⟨wt5 _ (List.mem_of_getElem? (i := 33) (by decide +kernel)) rfl, wt1 _ (List.mem_of_getElem? (i := 16) (by decide +kernel)) rfl, wt5 _ (List.mem_of_getElem? (i := 34) (by decide +kernel)) rfl⟩
theorem thr_RX9_0 : TH RX9 134 136 0 := ⟨wt4 _ (List.mem_of_getElem? (i := 142) (by decide +kernel)) rfl, wt1 _ (List.mem_of_getElem? (i := 21) (by decide +kernel)) rfl, thr_in0, by decide +kernel, by decide +kernel⟩
theorem thr_RX9_1 : TH RX9 83 85 1 := ⟨wt3 _ (List.mem_of_getElem? (i := 59) (by decide +kernel)) rfl, wt1 _ (List.mem_of_getElem? (i := 15) (by decide +kernel)) rfl, thr_in1, by decide +kernel, by decide +kernel⟩
