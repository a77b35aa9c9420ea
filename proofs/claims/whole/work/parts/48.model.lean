/-! the reference's constructor, by program (ctor.py) -/
theorem wc_40 : (Cond.methodLink RX10 1 Lib.objectInit) ∈ W0 := wt6 _ (List.mem_of_getElem? (i := 59) rfl) rfl
theorem wc_41 : (Cond.fieldLink RX10 7 (clT 10 1).1 (clT 10 1).2.1 (clT 10 1).2.2.1) ∈ W0 := wt6 _ (List.mem_of_getElem? (i := 61) rfl) rfl
theorem wc_42 : (Cond.fieldLink RX10 13 (clT 10 7).1 (clT 10 7).2.1 (clT 10 7).2.2.1) ∈ W0 := wt6 _ (List.mem_of_getElem? (i := 67) rfl) rfl
theorem wc_43 : (Cond.fieldLink RX10 17 (clT 10 8).1 (clT 10 8).2.1 (clT 10 8).2.2.1) ∈ W0 := wt6 _ (List.mem_of_getElem? (i := 68) rfl) rfl
theorem wc_44 : (Cond.fieldLink RX10 20 (clT 10 9).1 (clT 10 9).2.1 (clT 10 9).2.2.1) ∈ W0 := wt6 _ (List.mem_of_getElem? (i := 69) rfl) rfl
theorem wc_45 : (Cond.fieldLink RX10 23 (clT 10 10).1 (clT 10 10).2.1 (clT 10 10).2.2.1) ∈ W0 := wt6 _ (List.mem_of_getElem? (i := 70) rfl) rfl
theorem wc_46 : (Cond.fieldLink RX10 26 (clT 10 11).1 (clT 10 11).2.1 (clT 10 11).2.2.1) ∈ W0 := wt6 _ (List.mem_of_getElem? (i := 71) rfl) rfl
theorem wc_47 : (Cond.fieldLink RX10 29 (clT 10 14).1 (clT 10 14).2.1 (clT 10 14).2.2.1) ∈ W0 := wt6 _ (List.mem_of_getElem? (i := 74) rfl) rfl
theorem wc_48 : (Cond.fieldLink RX10 32 (clT 10 15).1 (clT 10 15).2.1 (clT 10 15).2.2.1) ∈ W0 := wt6 _ (List.mem_of_getElem? (i := 75) rfl) rfl
theorem wc_49 : (Cond.fieldLink RX10 35 (clT 10 30).1 (clT 10 30).2.1 (clT 10 30).2.2.1) ∈ W0 := wt6 _ (List.mem_of_getElem? (i := 90) rfl) rfl
theorem wc_50 : (Cond.fieldLink RX10 38 (clT 10 31).1 (clT 10 31).2.1 (clT 10 31).2.2.1) ∈ W0 := wt6 _ (List.mem_of_getElem? (i := 91) rfl) rfl
theorem wc_51 : (Cond.fieldLink RX10 41 (clT 10 32).1 (clT 10 32).2.1 (clT 10 32).2.2.1) ∈ W0 := wt6 _ (List.mem_of_getElem? (i := 92) rfl) rfl
theorem wc_52 : (Cond.fieldLink RX10 44 (clT 10 33).1 (clT 10 33).2.1 (clT 10 33).2.2.1) ∈ W0 := wt6 _ (List.mem_of_getElem? (i := 93) rfl) rfl
theorem wc_53 : (Cond.fieldLink RX10 47 (clT 10 34).1 (clT 10 34).2.1 (clT 10 34).2.2.1) ∈ W0 := wt6 _ (List.mem_of_getElem? (i := 94) rfl) rfl
theorem wc_54 : (Cond.arrayClass .boolean) ∈ W0 := wt7 _ (List.mem_of_getElem? (i := 25) rfl) rfl
theorem wc_55 : (Cond.fieldLink RX10 50 (clT 10 35).1 (clT 10 35).2.1 (clT 10 35).2.2.1) ∈ W0 := wt6 _ (List.mem_of_getElem? (i := 95) rfl) rfl
theorem wc_56 : (Cond.fieldLink RX10 54 (clT 10 36).1 (clT 10 36).2.1 (clT 10 36).2.2.1) ∈ W0 := wt6 _ (List.mem_of_getElem? (i := 96) rfl) rfl
theorem wc_57 : (Cond.fieldLink RX10 58 (clT 10 37).1 (clT 10 37).2.1 (clT 10 37).2.2.1) ∈ W0 := wt6 _ (List.mem_of_getElem? (i := 97) rfl) rfl
theorem wc_58 : (Cond.fieldLink RX10 61 (clT 10 40).1 (clT 10 40).2.1 (clT 10 40).2.2.1) ∈ W0 := wt6 _ (List.mem_of_getElem? (i := 100) rfl) rfl
theorem wc_59 : (Cond.fieldLink RX10 64 (clT 10 41).1 (clT 10 41).2.1 (clT 10 41).2.2.1) ∈ W0 := wt6 _ (List.mem_of_getElem? (i := 101) rfl) rfl
theorem wc_60 : (Cond.fieldLink RX10 67 (clT 10 42).1 (clT 10 42).2.1 (clT 10 42).2.2.1) ∈ W0 := wt6 _ (List.mem_of_getElem? (i := 102) rfl) rfl
theorem wc_61 : (Cond.fieldLink RX10 70 (clT 10 43).1 (clT 10 43).2.1 (clT 10 43).2.2.1) ∈ W0 := wt6 _ (List.mem_of_getElem? (i := 103) rfl) rfl
theorem wc_62 : (Cond.fieldLink RX10 73 (clT 10 44).1 (clT 10 44).2.1 (clT 10 44).2.2.1) ∈ W0 := wt6 _ (List.mem_of_getElem? (i := 104) rfl) rfl
theorem wc_63 : (Cond.fieldLink RX10 76 (clT 10 46).1 (clT 10 46).2.1 (clT 10 46).2.2.1) ∈ W0 := wt6 _ (List.mem_of_getElem? (i := 106) rfl) rfl
theorem wc_64 : (Cond.fieldLink RX10 79 (clT 10 47).1 (clT 10 47).2.1 (clT 10 47).2.2.1) ∈ W0 := wt6 _ (List.mem_of_getElem? (i := 107) rfl) rfl
theorem wc_65 : (Cond.fieldLink RX10 82 (clT 10 48).1 (clT 10 48).2.1 (clT 10 48).2.2.1) ∈ W0 := wt6 _ (List.mem_of_getElem? (i := 108) rfl) rfl
theorem wc_66 : (Cond.fieldLink RX10 85 (clT 10 50).1 (clT 10 50).2.1 (clT 10 50).2.2.1) ∈ W0 := wt6 _ (List.mem_of_getElem? (i := 110) rfl) rfl
theorem wc_67 : (Cond.fieldLink RX10 88 (clT 10 51).1 (clT 10 51).2.1 (clT 10 51).2.2.1) ∈ W0 := wt6 _ (List.mem_of_getElem? (i := 111) rfl) rfl
theorem wc_68 : (Cond.fieldLink RX10 91 (clT 10 52).1 (clT 10 52).2.1 (clT 10 52).2.2.1) ∈ W0 := wt6 _ (List.mem_of_getElem? (i := 112) rfl) rfl
theorem wc_69 : (Cond.fieldLink RX10 94 (clT 10 53).1 (clT 10 53).2.1 (clT 10 53).2.2.1) ∈ W0 := wt6 _ (List.mem_of_getElem? (i := 113) rfl) rfl
theorem wc_70 : (Cond.fieldLink RX10 97 (clT 10 54).1 (clT 10 54).2.1 (clT 10 54).2.2.1) ∈ W0 := wt6 _ (List.mem_of_getElem? (i := 114) rfl) rfl
theorem wc_71 : (Cond.fieldLink RX10 100 (clT 10 55).1 (clT 10 55).2.1 (clT 10 55).2.2.1) ∈ W0 := wt6 _ (List.mem_of_getElem? (i := 115) rfl) rfl
theorem wc_72 : (Cond.fieldLink RX10 103 (clT 10 56).1 (clT 10 56).2.1 (clT 10 56).2.2.1) ∈ W0 := wt6 _ (List.mem_of_getElem? (i := 116) rfl) rfl
theorem wc_73 : (Cond.fieldLink RX10 106 (clT 10 57).1 (clT 10 57).2.1 (clT 10 57).2.2.1) ∈ W0 := wt6 _ (List.mem_of_getElem? (i := 117) rfl) rfl
theorem wc_74 : (Cond.fieldLink RX10 109 (clT 10 60).1 (clT 10 60).2.1 (clT 10 60).2.2.1) ∈ W0 := wt6 _ (List.mem_of_getElem? (i := 120) rfl) rfl
theorem wc_75 : (Cond.fieldLink RX10 112 (clT 10 61).1 (clT 10 61).2.1 (clT 10 61).2.2.1) ∈ W0 := wt6 _ (List.mem_of_getElem? (i := 121) rfl) rfl
theorem wc_76 : (Cond.fieldLink RX10 115 (clT 10 62).1 (clT 10 62).2.1 (clT 10 62).2.2.1) ∈ W0 := wt6 _ (List.mem_of_getElem? (i := 122) rfl) rfl
theorem wc_77 : (Cond.fieldLink RX10 118 (clT 10 63).1 (clT 10 63).2.1 (clT 10 63).2.2.1) ∈ W0 := wt6 _ (List.mem_of_getElem? (i := 123) rfl) rfl
theorem wc_78 : (Cond.fieldLink RX10 121 (clT 10 64).1 (clT 10 64).2.1 (clT 10 64).2.2.1) ∈ W0 := wt6 _ (List.mem_of_getElem? (i := 124) rfl) rfl
theorem wc_79 : (Cond.fieldLink RX10 124 (clT 10 65).1 (clT 10 65).2.1 (clT 10 65).2.2.1) ∈ W0 := wt6 _ (List.mem_of_getElem? (i := 125) rfl) rfl
theorem wc_80 : (Cond.fieldLink RX10 127 (clT 10 66).1 (clT 10 66).2.1 (clT 10 66).2.2.1) ∈ W0 := wt6 _ (List.mem_of_getElem? (i := 126) rfl) rfl
theorem wc_81 : (Cond.fieldLink RX10 130 (clT 10 67).1 (clT 10 67).2.1 (clT 10 67).2.2.1) ∈ W0 := wt6 _ (List.mem_of_getElem? (i := 127) rfl) rfl
theorem d_X10_init_0 : decode cX10_init 0 = .ok (.aload_n 0, 1) := by decide +kernel
theorem d_X10_init_1 : decode cX10_init 1 = .ok (.invokespecial 1, 3) := by decide +kernel
theorem d_X10_init_4 : decode cX10_init 4 = .ok (.aload_n 0, 1) := by decide +kernel
theorem d_X10_init_5 : decode cX10_init 5 = .ok (.iconst 1, 1) := by decide +kernel
theorem d_X10_init_6 : decode cX10_init 6 = .ok (.putfield 7, 3) := by decide +kernel
theorem d_X10_init_9 : decode cX10_init 9 = .ok (.aload_n 0, 1) := by decide +kernel
theorem d_X10_init_10 : decode cX10_init 10 = .ok (.bipush 64, 2) := by decide +kernel
theorem d_X10_init_12 : decode cX10_init 12 = .ok (.newarray .int, 2) := by decide +kernel
theorem d_X10_init_14 : decode cX10_init 14 = .ok (.putfield 13, 3) := by decide +kernel
theorem d_X10_init_17 : decode cX10_init 17 = .ok (.aload_n 0, 1) := by decide +kernel
theorem d_X10_init_18 : decode cX10_init 18 = .ok (.bipush 66, 2) := by decide +kernel
theorem d_X10_init_20 : decode cX10_init 20 = .ok (.newarray .int, 2) := by decide +kernel
theorem d_X10_init_22 : decode cX10_init 22 = .ok (.putfield 17, 3) := by decide +kernel
theorem d_X10_init_25 : decode cX10_init 25 = .ok (.aload_n 0, 1) := by decide +kernel
theorem d_X10_init_26 : decode cX10_init 26 = .ok (.bipush 8, 2) := by decide +kernel
theorem d_X10_init_28 : decode cX10_init 28 = .ok (.newarray .int, 2) := by decide +kernel
theorem d_X10_init_30 : decode cX10_init 30 = .ok (.putfield 20, 3) := by decide +kernel
theorem d_X10_init_33 : decode cX10_init 33 = .ok (.aload_n 0, 1) := by decide +kernel
theorem d_X10_init_34 : decode cX10_init 34 = .ok (.iconst 5, 1) := by decide +kernel
theorem d_X10_init_35 : decode cX10_init 35 = .ok (.newarray .int, 2) := by decide +kernel
theorem d_X10_init_37 : decode cX10_init 37 = .ok (.putfield 23, 3) := by decide +kernel
theorem d_X10_init_40 : decode cX10_init 40 = .ok (.aload_n 0, 1) := by decide +kernel
theorem d_X10_init_41 : decode cX10_init 41 = .ok (.sipush 700, 3) := by decide +kernel
theorem d_X10_init_44 : decode cX10_init 44 = .ok (.newarray .int, 2) := by decide +kernel
theorem d_X10_init_46 : decode cX10_init 46 = .ok (.putfield 26, 3) := by decide +kernel
theorem d_X10_init_49 : decode cX10_init 49 = .ok (.aload_n 0, 1) := by decide +kernel
theorem d_X10_init_50 : decode cX10_init 50 = .ok (.iconst (-1), 1) := by decide +kernel
theorem d_X10_init_51 : decode cX10_init 51 = .ok (.putfield 29, 3) := by decide +kernel
theorem d_X10_init_54 : decode cX10_init 54 = .ok (.aload_n 0, 1) := by decide +kernel
theorem d_X10_init_55 : decode cX10_init 55 = .ok (.iconst 2, 1) := by decide +kernel
theorem d_X10_init_56 : decode cX10_init 56 = .ok (.newarray .int, 2) := by decide +kernel
theorem d_X10_init_58 : decode cX10_init 58 = .ok (.putfield 32, 3) := by decide +kernel
theorem d_X10_init_61 : decode cX10_init 61 = .ok (.aload_n 0, 1) := by decide +kernel
theorem d_X10_init_62 : decode cX10_init 62 = .ok (.bipush 64, 2) := by decide +kernel
theorem d_X10_init_64 : decode cX10_init 64 = .ok (.newarray .int, 2) := by decide +kernel
theorem d_X10_init_66 : decode cX10_init 66 = .ok (.putfield 35, 3) := by decide +kernel
theorem d_X10_init_69 : decode cX10_init 69 = .ok (.aload_n 0, 1) := by decide +kernel
theorem d_X10_init_70 : decode cX10_init 70 = .ok (.bipush 66, 2) := by decide +kernel
theorem d_X10_init_72 : decode cX10_init 72 = .ok (.newarray .int, 2) := by decide +kernel
theorem d_X10_init_74 : decode cX10_init 74 = .ok (.putfield 38, 3) := by decide +kernel
theorem d_X10_init_77 : decode cX10_init 77 = .ok (.aload_n 0, 1) := by decide +kernel
theorem d_X10_init_78 : decode cX10_init 78 = .ok (.bipush 8, 2) := by decide +kernel
theorem d_X10_init_80 : decode cX10_init 80 = .ok (.newarray .int, 2) := by decide +kernel
theorem d_X10_init_82 : decode cX10_init 82 = .ok (.putfield 41, 3) := by decide +kernel
theorem d_X10_init_85 : decode cX10_init 85 = .ok (.aload_n 0, 1) := by decide +kernel
theorem d_X10_init_86 : decode cX10_init 86 = .ok (.iconst 5, 1) := by decide +kernel
theorem d_X10_init_87 : decode cX10_init 87 = .ok (.newarray .int, 2) := by decide +kernel
theorem d_X10_init_89 : decode cX10_init 89 = .ok (.putfield 44, 3) := by decide +kernel
theorem d_X10_init_92 : decode cX10_init 92 = .ok (.aload_n 0, 1) := by decide +kernel
theorem d_X10_init_93 : decode cX10_init 93 = .ok (.sipush 7293, 3) := by decide +kernel
theorem d_X10_init_96 : decode cX10_init 96 = .ok (.newarray .int, 2) := by decide +kernel
theorem d_X10_init_98 : decode cX10_init 98 = .ok (.putfield 47, 3) := by decide +kernel
theorem d_X10_init_101 : decode cX10_init 101 = .ok (.aload_n 0, 1) := by decide +kernel
theorem d_X10_init_102 : decode cX10_init 102 = .ok (.sipush 7293, 3) := by decide +kernel
theorem d_X10_init_105 : decode cX10_init 105 = .ok (.newarray .boolean, 2) := by decide +kernel
theorem d_X10_init_107 : decode cX10_init 107 = .ok (.putfield 50, 3) := by decide +kernel
theorem d_X10_init_110 : decode cX10_init 110 = .ok (.aload_n 0, 1) := by decide +kernel
theorem d_X10_init_111 : decode cX10_init 111 = .ok (.sipush 429, 3) := by decide +kernel
theorem d_X10_init_114 : decode cX10_init 114 = .ok (.newarray .long, 2) := by decide +kernel
theorem d_X10_init_116 : decode cX10_init 116 = .ok (.putfield 54, 3) := by decide +kernel
theorem d_X10_init_119 : decode cX10_init 119 = .ok (.aload_n 0, 1) := by decide +kernel
theorem d_X10_init_120 : decode cX10_init 120 = .ok (.sipush 429, 3) := by decide +kernel
theorem d_X10_init_123 : decode cX10_init 123 = .ok (.newarray .long, 2) := by decide +kernel
theorem d_X10_init_125 : decode cX10_init 125 = .ok (.putfield 58, 3) := by decide +kernel
theorem d_X10_init_128 : decode cX10_init 128 = .ok (.aload_n 0, 1) := by decide +kernel
theorem d_X10_init_129 : decode cX10_init 129 = .ok (.bipush 30, 2) := by decide +kernel
theorem d_X10_init_131 : decode cX10_init 131 = .ok (.newarray .int, 2) := by decide +kernel
theorem d_X10_init_133 : decode cX10_init 133 = .ok (.putfield 61, 3) := by decide +kernel
theorem d_X10_init_136 : decode cX10_init 136 = .ok (.aload_n 0, 1) := by decide +kernel
theorem d_X10_init_137 : decode cX10_init 137 = .ok (.sipush 480, 3) := by decide +kernel
theorem d_X10_init_140 : decode cX10_init 140 = .ok (.newarray .long, 2) := by decide +kernel
theorem d_X10_init_142 : decode cX10_init 142 = .ok (.putfield 64, 3) := by decide +kernel
theorem d_X10_init_145 : decode cX10_init 145 = .ok (.aload_n 0, 1) := by decide +kernel
theorem d_X10_init_146 : decode cX10_init 146 = .ok (.bipush 30, 2) := by decide +kernel
theorem d_X10_init_148 : decode cX10_init 148 = .ok (.newarray .long, 2) := by decide +kernel
theorem d_X10_init_150 : decode cX10_init 150 = .ok (.putfield 67, 3) := by decide +kernel
theorem d_X10_init_153 : decode cX10_init 153 = .ok (.aload_n 0, 1) := by decide +kernel
theorem d_X10_init_154 : decode cX10_init 154 = .ok (.bipush 30, 2) := by decide +kernel
theorem d_X10_init_156 : decode cX10_init 156 = .ok (.newarray .long, 2) := by decide +kernel
theorem d_X10_init_158 : decode cX10_init 158 = .ok (.putfield 70, 3) := by decide +kernel
theorem d_X10_init_161 : decode cX10_init 161 = .ok (.aload_n 0, 1) := by decide +kernel
theorem d_X10_init_162 : decode cX10_init 162 = .ok (.sipush 401, 3) := by decide +kernel
theorem d_X10_init_165 : decode cX10_init 165 = .ok (.newarray .long, 2) := by decide +kernel
theorem d_X10_init_167 : decode cX10_init 167 = .ok (.putfield 73, 3) := by decide +kernel
theorem d_X10_init_170 : decode cX10_init 170 = .ok (.aload_n 0, 1) := by decide +kernel
theorem d_X10_init_171 : decode cX10_init 171 = .ok (.iconst 5, 1) := by decide +kernel
theorem d_X10_init_172 : decode cX10_init 172 = .ok (.newarray .long, 2) := by decide +kernel
theorem d_X10_init_174 : decode cX10_init 174 = .ok (.putfield 76, 3) := by decide +kernel
theorem d_X10_init_177 : decode cX10_init 177 = .ok (.aload_n 0, 1) := by decide +kernel
theorem d_X10_init_178 : decode cX10_init 178 = .ok (.sipush 401, 3) := by decide +kernel
theorem d_X10_init_181 : decode cX10_init 181 = .ok (.newarray .boolean, 2) := by decide +kernel
theorem d_X10_init_183 : decode cX10_init 183 = .ok (.putfield 79, 3) := by decide +kernel
theorem d_X10_init_186 : decode cX10_init 186 = .ok (.aload_n 0, 1) := by decide +kernel
theorem d_X10_init_187 : decode cX10_init 187 = .ok (.iconst (-1), 1) := by decide +kernel
theorem d_X10_init_188 : decode cX10_init 188 = .ok (.putfield 82, 3) := by decide +kernel
theorem d_X10_init_191 : decode cX10_init 191 = .ok (.aload_n 0, 1) := by decide +kernel
theorem d_X10_init_192 : decode cX10_init 192 = .ok (.bipush 16, 2) := by decide +kernel
theorem d_X10_init_194 : decode cX10_init 194 = .ok (.newarray .int, 2) := by decide +kernel
theorem d_X10_init_196 : decode cX10_init 196 = .ok (.putfield 85, 3) := by decide +kernel
theorem d_X10_init_199 : decode cX10_init 199 = .ok (.aload_n 0, 1) := by decide +kernel
theorem d_X10_init_200 : decode cX10_init 200 = .ok (.bipush 6, 2) := by decide +kernel
theorem d_X10_init_202 : decode cX10_init 202 = .ok (.newarray .int, 2) := by decide +kernel
theorem d_X10_init_204 : decode cX10_init 204 = .ok (.putfield 88, 3) := by decide +kernel
theorem d_X10_init_207 : decode cX10_init 207 = .ok (.aload_n 0, 1) := by decide +kernel
theorem d_X10_init_208 : decode cX10_init 208 = .ok (.bipush 6, 2) := by decide +kernel
theorem d_X10_init_210 : decode cX10_init 210 = .ok (.newarray .int, 2) := by decide +kernel
theorem d_X10_init_212 : decode cX10_init 212 = .ok (.putfield 91, 3) := by decide +kernel
theorem d_X10_init_215 : decode cX10_init 215 = .ok (.aload_n 0, 1) := by decide +kernel
theorem d_X10_init_216 : decode cX10_init 216 = .ok (.iconst (-1), 1) := by decide +kernel
theorem d_X10_init_217 : decode cX10_init 217 = .ok (.putfield 94, 3) := by decide +kernel
theorem d_X10_init_220 : decode cX10_init 220 = .ok (.aload_n 0, 1) := by decide +kernel
theorem d_X10_init_221 : decode cX10_init 221 = .ok (.iconst 5, 1) := by decide +kernel
theorem d_X10_init_222 : decode cX10_init 222 = .ok (.newarray .int, 2) := by decide +kernel
theorem d_X10_init_224 : decode cX10_init 224 = .ok (.putfield 97, 3) := by decide +kernel
theorem d_X10_init_227 : decode cX10_init 227 = .ok (.aload_n 0, 1) := by decide +kernel
theorem d_X10_init_228 : decode cX10_init 228 = .ok (.iconst 5, 1) := by decide +kernel
theorem d_X10_init_229 : decode cX10_init 229 = .ok (.newarray .int, 2) := by decide +kernel
theorem d_X10_init_231 : decode cX10_init 231 = .ok (.putfield 100, 3) := by decide +kernel
theorem d_X10_init_234 : decode cX10_init 234 = .ok (.aload_n 0, 1) := by decide +kernel
theorem d_X10_init_235 : decode cX10_init 235 = .ok (.iconst 4, 1) := by decide +kernel
theorem d_X10_init_236 : decode cX10_init 236 = .ok (.newarray .int, 2) := by decide +kernel
theorem d_X10_init_238 : decode cX10_init 238 = .ok (.putfield 103, 3) := by decide +kernel
theorem d_X10_init_241 : decode cX10_init 241 = .ok (.aload_n 0, 1) := by decide +kernel
theorem d_X10_init_242 : decode cX10_init 242 = .ok (.iconst 4, 1) := by decide +kernel
theorem d_X10_init_243 : decode cX10_init 243 = .ok (.newarray .int, 2) := by decide +kernel
theorem d_X10_init_245 : decode cX10_init 245 = .ok (.putfield 106, 3) := by decide +kernel
theorem d_X10_init_248 : decode cX10_init 248 = .ok (.aload_n 0, 1) := by decide +kernel
theorem d_X10_init_249 : decode cX10_init 249 = .ok (.iconst 2, 1) := by decide +kernel
theorem d_X10_init_250 : decode cX10_init 250 = .ok (.newarray .int, 2) := by decide +kernel
theorem d_X10_init_252 : decode cX10_init 252 = .ok (.putfield 109, 3) := by decide +kernel
theorem d_X10_init_255 : decode cX10_init 255 = .ok (.aload_n 0, 1) := by decide +kernel
theorem d_X10_init_256 : decode cX10_init 256 = .ok (.iconst 2, 1) := by decide +kernel
theorem d_X10_init_257 : decode cX10_init 257 = .ok (.newarray .int, 2) := by decide +kernel
theorem d_X10_init_259 : decode cX10_init 259 = .ok (.putfield 112, 3) := by decide +kernel
theorem d_X10_init_262 : decode cX10_init 262 = .ok (.aload_n 0, 1) := by decide +kernel
theorem d_X10_init_263 : decode cX10_init 263 = .ok (.sipush 360, 3) := by decide +kernel
theorem d_X10_init_266 : decode cX10_init 266 = .ok (.newarray .int, 2) := by decide +kernel
theorem d_X10_init_268 : decode cX10_init 268 = .ok (.putfield 115, 3) := by decide +kernel
theorem d_X10_init_271 : decode cX10_init 271 = .ok (.aload_n 0, 1) := by decide +kernel
theorem d_X10_init_272 : decode cX10_init 272 = .ok (.sipush 360, 3) := by decide +kernel
theorem d_X10_init_275 : decode cX10_init 275 = .ok (.newarray .int, 2) := by decide +kernel
theorem d_X10_init_277 : decode cX10_init 277 = .ok (.putfield 118, 3) := by decide +kernel
theorem d_X10_init_280 : decode cX10_init 280 = .ok (.aload_n 0, 1) := by decide +kernel
theorem d_X10_init_281 : decode cX10_init 281 = .ok (.sipush 360, 3) := by decide +kernel
theorem d_X10_init_284 : decode cX10_init 284 = .ok (.newarray .int, 2) := by decide +kernel
theorem d_X10_init_286 : decode cX10_init 286 = .ok (.putfield 121, 3) := by decide +kernel
theorem d_X10_init_289 : decode cX10_init 289 = .ok (.aload_n 0, 1) := by decide +kernel
theorem d_X10_init_290 : decode cX10_init 290 = .ok (.sipush 360, 3) := by decide +kernel
theorem d_X10_init_293 : decode cX10_init 293 = .ok (.newarray .int, 2) := by decide +kernel
theorem d_X10_init_295 : decode cX10_init 295 = .ok (.putfield 124, 3) := by decide +kernel
theorem d_X10_init_298 : decode cX10_init 298 = .ok (.aload_n 0, 1) := by decide +kernel
theorem d_X10_init_299 : decode cX10_init 299 = .ok (.sipush 160, 3) := by decide +kernel
theorem d_X10_init_302 : decode cX10_init 302 = .ok (.newarray .int, 2) := by decide +kernel
theorem d_X10_init_304 : decode cX10_init 304 = .ok (.putfield 127, 3) := by decide +kernel
theorem d_X10_init_307 : decode cX10_init 307 = .ok (.aload_n 0, 1) := by decide +kernel
theorem d_X10_init_308 : decode cX10_init 308 = .ok (.sipush 160, 3) := by decide +kernel
theorem d_X10_init_311 : decode cX10_init 311 = .ok (.newarray .int, 2) := by decide +kernel
theorem d_X10_init_313 : decode cX10_init 313 = .ok (.putfield 130, 3) := by decide +kernel
theorem d_X10_init_316 : decode cX10_init 316 = .ok (.iconst 0, 1) := by decide +kernel
theorem d_X10_init_317 : decode cX10_init 317 = .ok (.istore_n 1, 1) := by decide +kernel
theorem d_X10_init_318 : decode cX10_init 318 = .ok (.iload_n 1, 1) := by decide +kernel
theorem d_X10_init_319 : decode cX10_init 319 = .ok (.iconst 5, 1) := by decide +kernel
theorem d_X10_init_320 : decode cX10_init 320 = .ok (.if_icmp .ge 16, 3) := by decide +kernel
theorem d_X10_init_323 : decode cX10_init 323 = .ok (.aload_n 0, 1) := by decide +kernel
theorem d_X10_init_324 : decode cX10_init 324 = .ok (.getfield 23, 3) := by decide +kernel
theorem d_X10_init_327 : decode cX10_init 327 = .ok (.iload_n 1, 1) := by decide +kernel
theorem d_X10_init_328 : decode cX10_init 328 = .ok (.iconst (-1), 1) := by decide +kernel
theorem d_X10_init_329 : decode cX10_init 329 = .ok (.iastore, 1) := by decide +kernel
theorem d_X10_init_330 : decode cX10_init 330 = .ok (.iinc 1 1, 3) := by decide +kernel
theorem d_X10_init_333 : decode cX10_init 333 = .ok (.goto (-15), 3) := by decide +kernel
theorem d_X10_init_336 : decode cX10_init 336 = .ok (.return_, 1) := by decide +kernel
def cl_X10_init_240 (h : AH) : AH := (sI (sI (sI (sI (sI h 244 (0 : Int32).toNatClampNeg (-1)) 244 (1 : Int32).toNatClampNeg (-1)) 244 (2 : Int32).toNatClampNeg (-1)) 244 (3 : Int32).toNatClampNeg (-1)) 244 (4 : Int32).toNatClampNeg (-1))
theorem tl_X10_init_240 {g : GP} (hF : gF g = false) {X : MX} {h : AH} (hX : Cx g RX10 cX10_init 1 36 19619 none [] X) (hq : gR h 240 10 = some 244) : AW g X 277 true 36 19619 (QQ g X 277 true (cl_X10_init_240 h) (.inl none) 36 19619) h 316 [.ref 240, jk] [] := by
  refine aw_iconst (v := 0) hX (by decide) d_X10_init_316 ?_
  refine aw_istore_n (i := 1) (lv2 := [.ref 240, .int 0]) hX rfl rfl rfl d_X10_init_317 ?_
  refine aw_iload_n hX (i := 1) rfl rfl d_X10_init_318 ?_
  refine aw_iconst (v := 5) hX (by decide) d_X10_init_319 ?_
  refine aw_icmp_ge (t := 336) hX (by decide) d_X10_init_320 (fun c => absurd c (by decide)) (fun c => ?_)
  refine aw_aload_n hX (i := 0) rfl rfl d_X10_init_323 ?_
  refine aw_getD hX hF (ci := 10) (k := 10) rfl (by decide) rfl rfl wc_45 rfl d_X10_init_324 ?_
  rw [show gR h 240 10 = some 244 from hq]
  refine aw_iload_n hX (i := 1) rfl rfl d_X10_init_327 ?_
  refine aw_iconst (v := -1) hX (by decide) d_X10_init_328 ?_
  refine aw_iastore hX (a := 244) rfl (by decide) (by decide) (show ¬ (_ ∨ _) by decide) d_X10_init_329 ?_
  refine aw_iinc (i := 1) (lv2 := [.ref 240, .int 1]) hX rfl (by decide) rfl rfl d_X10_init_330 ?_
  refine aw_goto (t := 318) hX (by decide) d_X10_init_333 ?_
  refine aw_iload_n hX (i := 1) rfl rfl d_X10_init_318 ?_
  refine aw_iconst (v := 5) hX (by decide) d_X10_init_319 ?_
  refine aw_icmp_ge (t := 336) hX (by decide) d_X10_init_320 (fun c => absurd c (by decide)) (fun c => ?_)
  refine aw_aload_n hX (i := 0) rfl rfl d_X10_init_323 ?_
  refine aw_getD hX hF (ci := 10) (k := 10) rfl (by decide) rfl rfl wc_45 rfl d_X10_init_324 ?_
  rw [show gR (sI h 244 (0 : Int32).toNatClampNeg (-1)) 240 10 = some 244 from hq]
  refine aw_iload_n hX (i := 1) rfl rfl d_X10_init_327 ?_
  refine aw_iconst (v := -1) hX (by decide) d_X10_init_328 ?_
  refine aw_iastore hX (a := 244) rfl (by decide) (by decide) (show ¬ (_ ∨ _) by decide) d_X10_init_329 ?_
  refine aw_iinc (i := 1) (lv2 := [.ref 240, .int 2]) hX rfl (by decide) rfl rfl d_X10_init_330 ?_
  refine aw_goto (t := 318) hX (by decide) d_X10_init_333 ?_
  refine aw_iload_n hX (i := 1) rfl rfl d_X10_init_318 ?_
  refine aw_iconst (v := 5) hX (by decide) d_X10_init_319 ?_
  refine aw_icmp_ge (t := 336) hX (by decide) d_X10_init_320 (fun c => absurd c (by decide)) (fun c => ?_)
  refine aw_aload_n hX (i := 0) rfl rfl d_X10_init_323 ?_
  refine aw_getD hX hF (ci := 10) (k := 10) rfl (by decide) rfl rfl wc_45 rfl d_X10_init_324 ?_
  rw [show gR (sI (sI h 244 (0 : Int32).toNatClampNeg (-1)) 244 (1 : Int32).toNatClampNeg (-1)) 240 10 = some 244 from hq]
  refine aw_iload_n hX (i := 1) rfl rfl d_X10_init_327 ?_
  refine aw_iconst (v := -1) hX (by decide) d_X10_init_328 ?_
  refine aw_iastore hX (a := 244) rfl (by decide) (by decide) (show ¬ (_ ∨ _) by decide) d_X10_init_329 ?_
  refine aw_iinc (i := 1) (lv2 := [.ref 240, .int 3]) hX rfl (by decide) rfl rfl d_X10_init_330 ?_
  refine aw_goto (t := 318) hX (by decide) d_X10_init_333 ?_
  refine aw_iload_n hX (i := 1) rfl rfl d_X10_init_318 ?_
  refine aw_iconst (v := 5) hX (by decide) d_X10_init_319 ?_
  refine aw_icmp_ge (t := 336) hX (by decide) d_X10_init_320 (fun c => absurd c (by decide)) (fun c => ?_)
  refine aw_aload_n hX (i := 0) rfl rfl d_X10_init_323 ?_
  refine aw_getD hX hF (ci := 10) (k := 10) rfl (by decide) rfl rfl wc_45 rfl d_X10_init_324 ?_
  rw [show gR (sI (sI (sI h 244 (0 : Int32).toNatClampNeg (-1)) 244 (1 : Int32).toNatClampNeg (-1)) 244 (2 : Int32).toNatClampNeg (-1)) 240 10 = some 244 from hq]
  refine aw_iload_n hX (i := 1) rfl rfl d_X10_init_327 ?_
  refine aw_iconst (v := -1) hX (by decide) d_X10_init_328 ?_
  refine aw_iastore hX (a := 244) rfl (by decide) (by decide) (show ¬ (_ ∨ _) by decide) d_X10_init_329 ?_
  refine aw_iinc (i := 1) (lv2 := [.ref 240, .int 4]) hX rfl (by decide) rfl rfl d_X10_init_330 ?_
  refine aw_goto (t := 318) hX (by decide) d_X10_init_333 ?_
  refine aw_iload_n hX (i := 1) rfl rfl d_X10_init_318 ?_
  refine aw_iconst (v := 5) hX (by decide) d_X10_init_319 ?_
  refine aw_icmp_ge (t := 336) hX (by decide) d_X10_init_320 (fun c => absurd c (by decide)) (fun c => ?_)
  refine aw_aload_n hX (i := 0) rfl rfl d_X10_init_323 ?_
  refine aw_getD hX hF (ci := 10) (k := 10) rfl (by decide) rfl rfl wc_45 rfl d_X10_init_324 ?_
  rw [show gR (sI (sI (sI (sI h 244 (0 : Int32).toNatClampNeg (-1)) 244 (1 : Int32).toNatClampNeg (-1)) 244 (2 : Int32).toNatClampNeg (-1)) 244 (3 : Int32).toNatClampNeg (-1)) 240 10 = some 244 from hq]
  refine aw_iload_n hX (i := 1) rfl rfl d_X10_init_327 ?_
  refine aw_iconst (v := -1) hX (by decide) d_X10_init_328 ?_
  refine aw_iastore hX (a := 244) rfl (by decide) (by decide) (show ¬ (_ ∨ _) by decide) d_X10_init_329 ?_
  refine aw_iinc (i := 1) (lv2 := [.ref 240, .int 5]) hX rfl (by decide) rfl rfl d_X10_init_330 ?_
  refine aw_goto (t := 318) hX (by decide) d_X10_init_333 ?_
  refine aw_iload_n hX (i := 1) rfl rfl d_X10_init_318 ?_
  refine aw_iconst (v := 5) hX (by decide) d_X10_init_319 ?_
  refine aw_icmp_ge (t := 336) hX (by decide) d_X10_init_320 (fun c => ?_) (fun c => absurd (by decide) c)
  exact aw_return hX (by decide) (by decide) d_X10_init_336
def c_X10_init_240 (h : AH) : AH := cl_X10_init_240 (sR (sR (sR (sR (sR (sR (sR (sR (sR (sR (sR (sR (sI (sR (sR (sR (sI (sR (sR (sR (sR (sR (sR (sR (sR (sR (sR (sR (sR (sR (sR (sR (sR (sI (sR (sR (sR (sR (sR (sI h 240 1 (1)) 240 7 (some 241)) 240 8 (some 242)) 240 9 (some 243)) 240 10 (some 244)) 240 11 (some 245)) 240 14 (-1)) 240 15 (some 246)) 240 30 (some 247)) 240 31 (some 248)) 240 32 (some 249)) 240 33 (some 250)) 240 34 (some 251)) 240 35 (some 252)) 240 36 (some 253)) 240 37 (some 254)) 240 40 (some 255)) 240 41 (some 256)) 240 42 (some 257)) 240 43 (some 258)) 240 44 (some 259)) 240 46 (some 260)) 240 47 (some 261)) 240 48 (-1)) 240 50 (some 262)) 240 51 (some 263)) 240 52 (some 264)) 240 53 (-1)) 240 54 (some 265)) 240 55 (some 266)) 240 56 (some 267)) 240 57 (some 268)) 240 60 (some 269)) 240 61 (some 270)) 240 62 (some 271)) 240 63 (some 272)) 240 64 (some 273)) 240 65 (some 274)) 240 66 (some 275)) 240 67 (some 276))
theorem k_X10_init_240 {g : GP} (hg : g.1.stackTraces = false) (hF : gF g = false) {h : AH} (hB : ∀ a, 240 < a → Blank h a) : Ctr g yX10_init (wsY yX10_init cX10_init 2 none) 1 36 19619 [.ref 240] 241 true h none 277 true (c_X10_init_240 h) := ctr_of (lv0 := [.ref 240, jk]) rfl rfl (by decide) hg trivial (fun X hX hn => by
  replace hX : Cx g RX10 cX10_init 1 36 19619 none [] X := hX
  replace hn : X.meth.name = "<init>" := hn
  refine aw_aload_n hX (i := 0) rfl rfl d_X10_init_0 ?_
  refine aw_objI hX wc_40 wc_1 wc_2 (by decide) (by decide) d_X10_init_1 ?_
  refine aw_aload_n hX (i := 0) rfl rfl d_X10_init_4 ?_
  refine aw_iconst (v := 1) hX (by decide) d_X10_init_5 ?_
  refine aw_putI hX (ci := 10) (k := 1) rfl (by decide) (by decide) rfl rfl wc_41 rfl (by decide +kernel) rfl d_X10_init_6 ?_
  refine aw_aload_n hX (i := 0) rfl rfl d_X10_init_9 ?_
  refine aw_bipush (v := 64) hX (by decide) d_X10_init_10 ?_
  refine aw_newI hX (N := 64) rfl (bk_I (by decide) (hB 241 (by decide))) (by decide) (by decide) (by decide) (by decide) wc_3 (by decide) (by decide) d_X10_init_12 ?_
  refine aw_putFR hX hn hF (ci := 10) (k := 7) (ty := (.array .int)) rfl (by decide) (by decide) rfl rfl wc_42 rfl rfl (by decide +kernel) (fun x => rfl) (fun x => rfl) rfl d_X10_init_14 ?_
  refine aw_aload_n hX (i := 0) rfl rfl d_X10_init_17 ?_
  refine aw_bipush (v := 66) hX (by decide) d_X10_init_18 ?_
  refine aw_newI hX (N := 66) rfl (bk_R (by decide) (bk_I (by decide) (hB 242 (by decide)))) (by decide) (by decide) (by decide) (by decide) wc_3 (by decide) (by decide) d_X10_init_20 ?_
  refine aw_putFR hX hn hF (ci := 10) (k := 8) (ty := (.array .int)) rfl (by decide) (by decide) rfl rfl wc_43 rfl rfl (by decide +kernel) (fun x => rfl) (fun x => rfl) rfl d_X10_init_22 ?_
  refine aw_aload_n hX (i := 0) rfl rfl d_X10_init_25 ?_
  refine aw_bipush (v := 8) hX (by decide) d_X10_init_26 ?_
  refine aw_newI hX (N := 8) rfl (bk_R (by decide) (bk_R (by decide) (bk_I (by decide) (hB 243 (by decide))))) (by decide) (by decide) (by decide) (by decide) wc_3 (by decide) (by decide) d_X10_init_28 ?_
  refine aw_putFR hX hn hF (ci := 10) (k := 9) (ty := (.array .int)) rfl (by decide) (by decide) rfl rfl wc_44 rfl rfl (by decide +kernel) (fun x => rfl) (fun x => rfl) rfl d_X10_init_30 ?_
  refine aw_aload_n hX (i := 0) rfl rfl d_X10_init_33 ?_
  refine aw_iconst (v := 5) hX (by decide) d_X10_init_34 ?_
  refine aw_newI hX (N := 5) rfl (bk_R (by decide) (bk_R (by decide) (bk_R (by decide) (bk_I (by decide) (hB 244 (by decide)))))) (by decide) (by decide) (by decide) (by decide) wc_3 (by decide) (by decide) d_X10_init_35 ?_
  refine aw_putFR hX hn hF (ci := 10) (k := 10) (ty := (.array .int)) rfl (by decide) (by decide) rfl rfl wc_45 rfl rfl (by decide +kernel) (fun x => rfl) (fun x => rfl) rfl d_X10_init_37 ?_
  refine aw_aload_n hX (i := 0) rfl rfl d_X10_init_40 ?_
  refine aw_sipush (v := 700) hX (by decide) d_X10_init_41 ?_
  refine aw_newI hX (N := 700) rfl (bk_R (by decide) (bk_R (by decide) (bk_R (by decide) (bk_R (by decide) (bk_I (by decide) (hB 245 (by decide))))))) (by decide) (by decide) (by decide) (by decide) wc_3 (by decide) (by decide) d_X10_init_44 ?_
  refine aw_putFR hX hn hF (ci := 10) (k := 11) (ty := (.array .int)) rfl (by decide) (by decide) rfl rfl wc_46 rfl rfl (by decide +kernel) (fun x => rfl) (fun x => rfl) rfl d_X10_init_46 ?_
  refine aw_aload_n hX (i := 0) rfl rfl d_X10_init_49 ?_
  refine aw_iconst (v := -1) hX (by decide) d_X10_init_50 ?_
  refine aw_putI hX (ci := 10) (k := 14) rfl (by decide) (by decide) rfl rfl wc_47 rfl (by decide +kernel) rfl d_X10_init_51 ?_
  refine aw_aload_n hX (i := 0) rfl rfl d_X10_init_54 ?_
  refine aw_iconst (v := 2) hX (by decide) d_X10_init_55 ?_
  refine aw_newI hX (N := 2) rfl (bk_I (by decide) (bk_R (by decide) (bk_R (by decide) (bk_R (by decide) (bk_R (by decide) (bk_R (by decide) (bk_I (by decide) (hB 246 (by decide))))))))) (by decide) (by decide) (by decide) (by decide) wc_3 (by decide) (by decide) d_X10_init_56 ?_
  refine aw_putFR hX hn hF (ci := 10) (k := 15) (ty := (.array .int)) rfl (by decide) (by decide) rfl rfl wc_48 rfl rfl (by decide +kernel) (fun x => rfl) (fun x => rfl) rfl d_X10_init_58 ?_
  refine aw_aload_n hX (i := 0) rfl rfl d_X10_init_61 ?_
  refine aw_bipush (v := 64) hX (by decide) d_X10_init_62 ?_
  refine aw_newI hX (N := 64) rfl (bk_R (by decide) (bk_I (by decide) (bk_R (by decide) (bk_R (by decide) (bk_R (by decide) (bk_R (by decide) (bk_R (by decide) (bk_I (by decide) (hB 247 (by decide)))))))))) (by decide) (by decide) (by decide) (by decide) wc_3 (by decide) (by decide) d_X10_init_64 ?_
  refine aw_putFR hX hn hF (ci := 10) (k := 30) (ty := (.array .int)) rfl (by decide) (by decide) rfl rfl wc_49 rfl rfl (by decide +kernel) (fun x => rfl) (fun x => rfl) rfl d_X10_init_66 ?_
  refine aw_aload_n hX (i := 0) rfl rfl d_X10_init_69 ?_
  refine aw_bipush (v := 66) hX (by decide) d_X10_init_70 ?_
  refine aw_newI hX (N := 66) rfl (bk_R (by decide) (bk_R (by decide) (bk_I (by decide) (bk_R (by decide) (bk_R (by decide) (bk_R (by decide) (bk_R (by decide) (bk_R (by decide) (bk_I (by decide) (hB 248 (by decide))))))))))) (by decide) (by decide) (by decide) (by decide) wc_3 (by decide) (by decide) d_X10_init_72 ?_
  refine aw_putFR hX hn hF (ci := 10) (k := 31) (ty := (.array .int)) rfl (by decide) (by decide) rfl rfl wc_50 rfl rfl (by decide +kernel) (fun x => rfl) (fun x => rfl) rfl d_X10_init_74 ?_
  refine aw_aload_n hX (i := 0) rfl rfl d_X10_init_77 ?_
  refine aw_bipush (v := 8) hX (by decide) d_X10_init_78 ?_
  refine aw_newI hX (N := 8) rfl (bk_R (by decide) (bk_R (by decide) (bk_R (by decide) (bk_I (by decide) (bk_R (by decide) (bk_R (by decide) (bk_R (by decide) (bk_R (by decide) (bk_R (by decide) (bk_I (by decide) (hB 249 (by decide)))))))))))) (by decide) (by decide) (by decide) (by decide) wc_3 (by decide) (by decide) d_X10_init_80 ?_
  refine aw_putFR hX hn hF (ci := 10) (k := 32) (ty := (.array .int)) rfl (by decide) (by decide) rfl rfl wc_51 rfl rfl (by decide +kernel) (fun x => rfl) (fun x => rfl) rfl d_X10_init_82 ?_
  refine aw_aload_n hX (i := 0) rfl rfl d_X10_init_85 ?_
  refine aw_iconst (v := 5) hX (by decide) d_X10_init_86 ?_
  refine aw_newI hX (N := 5) rfl (bk_R (by decide) (bk_R (by decide) (bk_R (by decide) (bk_R (by decide) (bk_I (by decide) (bk_R (by decide) (bk_R (by decide) (bk_R (by decide) (bk_R (by decide) (bk_R (by decide) (bk_I (by decide) (hB 250 (by decide))))))))))))) (by decide) (by decide) (by decide) (by decide) wc_3 (by decide) (by decide) d_X10_init_87 ?_
  refine aw_putFR hX hn hF (ci := 10) (k := 33) (ty := (.array .int)) rfl (by decide) (by decide) rfl rfl wc_52 rfl rfl (by decide +kernel) (fun x => rfl) (fun x => rfl) rfl d_X10_init_89 ?_
  refine aw_aload_n hX (i := 0) rfl rfl d_X10_init_92 ?_
  refine aw_sipush (v := 7293) hX (by decide) d_X10_init_93 ?_
  refine aw_newI hX (N := 7293) rfl (bk_R (by decide) (bk_R (by decide) (bk_R (by decide) (bk_R (by decide) (bk_R (by decide) (bk_I (by decide) (bk_R (by decide) (bk_R (by decide) (bk_R (by decide) (bk_R (by decide) (bk_R (by decide) (bk_I (by decide) (hB 251 (by decide)))))))))))))) (by decide) (by decide) (by decide) (by decide) wc_3 (by decide) (by decide) d_X10_init_96 ?_
  refine aw_putFR hX hn hF (ci := 10) (k := 34) (ty := (.array .int)) rfl (by decide) (by decide) rfl rfl wc_53 rfl rfl (by decide +kernel) (fun x => rfl) (fun x => rfl) rfl d_X10_init_98 ?_
  refine aw_aload_n hX (i := 0) rfl rfl d_X10_init_101 ?_
  refine aw_sipush (v := 7293) hX (by decide) d_X10_init_102 ?_
  refine aw_newZ hX (N := 7293) rfl (bk_R (by decide) (bk_R (by decide) (bk_R (by decide) (bk_R (by decide) (bk_R (by decide) (bk_R (by decide) (bk_I (by decide) (bk_R (by decide) (bk_R (by decide) (bk_R (by decide) (bk_R (by decide) (bk_R (by decide) (bk_I (by decide) (hB 252 (by decide))))))))))))))) (by decide) (by decide) (by decide) (by decide) wc_54 (by decide) (by decide) d_X10_init_105 ?_
  refine aw_putFR hX hn hF (ci := 10) (k := 35) (ty := (.array .boolean)) rfl (by decide) (by decide) rfl rfl wc_55 rfl rfl (by decide +kernel) (fun x => rfl) (fun x => rfl) rfl d_X10_init_107 ?_
  refine aw_aload_n hX (i := 0) rfl rfl d_X10_init_110 ?_
  refine aw_sipush (v := 429) hX (by decide) d_X10_init_111 ?_
  refine aw_newL hX (N := 429) rfl (bk_R (by decide) (bk_R (by decide) (bk_R (by decide) (bk_R (by decide) (bk_R (by decide) (bk_R (by decide) (bk_R (by decide) (bk_I (by decide) (bk_R (by decide) (bk_R (by decide) (bk_R (by decide) (bk_R (by decide) (bk_R (by decide) (bk_I (by decide) (hB 253 (by decide)))))))))))))))) (by decide) (by decide) (by decide) (by decide) wc_6 (by decide) (by decide) d_X10_init_114 ?_
  refine aw_putFR hX hn hF (ci := 10) (k := 36) (ty := (.array .long)) rfl (by decide) (by decide) rfl rfl wc_56 rfl rfl (by decide +kernel) (fun x => rfl) (fun x => rfl) rfl d_X10_init_116 ?_
  refine aw_aload_n hX (i := 0) rfl rfl d_X10_init_119 ?_
  refine aw_sipush (v := 429) hX (by decide) d_X10_init_120 ?_
  refine aw_newL hX (N := 429) rfl (bk_R (by decide) (bk_R (by decide) (bk_R (by decide) (bk_R (by decide) (bk_R (by decide) (bk_R (by decide) (bk_R (by decide) (bk_R (by decide) (bk_I (by decide) (bk_R (by decide) (bk_R (by decide) (bk_R (by decide) (bk_R (by decide) (bk_R (by decide) (bk_I (by decide) (hB 254 (by decide))))))))))))))))) (by decide) (by decide) (by decide) (by decide) wc_6 (by decide) (by decide) d_X10_init_123 ?_
  refine aw_putFR hX hn hF (ci := 10) (k := 37) (ty := (.array .long)) rfl (by decide) (by decide) rfl rfl wc_57 rfl rfl (by decide +kernel) (fun x => rfl) (fun x => rfl) rfl d_X10_init_125 ?_
  refine aw_aload_n hX (i := 0) rfl rfl d_X10_init_128 ?_
  refine aw_bipush (v := 30) hX (by decide) d_X10_init_129 ?_
  refine aw_newI hX (N := 30) rfl (bk_R (by decide) (bk_R (by decide) (bk_R (by decide) (bk_R (by decide) (bk_R (by decide) (bk_R (by decide) (bk_R (by decide) (bk_R (by decide) (bk_R (by decide) (bk_I (by decide) (bk_R (by decide) (bk_R (by decide) (bk_R (by decide) (bk_R (by decide) (bk_R (by decide) (bk_I (by decide) (hB 255 (by decide)))))))))))))))))) (by decide) (by decide) (by decide) (by decide) wc_3 (by decide) (by decide) d_X10_init_131 ?_
  refine aw_putFR hX hn hF (ci := 10) (k := 40) (ty := (.array .int)) rfl (by decide) (by decide) rfl rfl wc_58 rfl rfl (by decide +kernel) (fun x => rfl) (fun x => rfl) rfl d_X10_init_133 ?_
  refine aw_aload_n hX (i := 0) rfl rfl d_X10_init_136 ?_
  refine aw_sipush (v := 480) hX (by decide) d_X10_init_137 ?_
  refine aw_newL hX (N := 480) rfl (bk_R (by decide) (bk_R (by decide) (bk_R (by decide) (bk_R (by decide) (bk_R (by decide) (bk_R (by decide) (bk_R (by decide) (bk_R (by decide) (bk_R (by decide) (bk_R (by decide) (bk_I (by decide) (bk_R (by decide) (bk_R (by decide) (bk_R (by decide) (bk_R (by decide) (bk_R (by decide) (bk_I (by decide) (hB 256 (by decide))))))))))))))))))) (by decide) (by decide) (by decide) (by decide) wc_6 (by decide) (by decide) d_X10_init_140 ?_
  refine aw_putFR hX hn hF (ci := 10) (k := 41) (ty := (.array .long)) rfl (by decide) (by decide) rfl rfl wc_59 rfl rfl (by decide +kernel) (fun x => rfl) (fun x => rfl) rfl d_X10_init_142 ?_
  refine aw_aload_n hX (i := 0) rfl rfl d_X10_init_145 ?_
  refine aw_bipush (v := 30) hX (by decide) d_X10_init_146 ?_
  refine aw_newL hX (N := 30) rfl (bk_R (by decide) (bk_R (by decide) (bk_R (by decide) (bk_R (by decide) (bk_R (by decide) (bk_R (by decide) (bk_R (by decide) (bk_R (by decide) (bk_R (by decide) (bk_R (by decide) (bk_R (by decide) (bk_I (by decide) (bk_R (by decide) (bk_R (by decide) (bk_R (by decide) (bk_R (by decide) (bk_R (by decide) (bk_I (by decide) (hB 257 (by decide)))))))))))))))))))) (by decide) (by decide) (by decide) (by decide) wc_6 (by decide) (by decide) d_X10_init_148 ?_
  refine aw_putFR hX hn hF (ci := 10) (k := 42) (ty := (.array .long)) rfl (by decide) (by decide) rfl rfl wc_60 rfl rfl (by decide +kernel) (fun x => rfl) (fun x => rfl) rfl d_X10_init_150 ?_
  refine aw_aload_n hX (i := 0) rfl rfl d_X10_init_153 ?_
  refine aw_bipush (v := 30) hX (by decide) d_X10_init_154 ?_
  refine aw_newL hX (N := 30) rfl (bk_R (by decide) (bk_R (by decide) (bk_R (by decide) (bk_R (by decide) (bk_R (by decide) (bk_R (by decide) (bk_R (by decide) (bk_R (by decide) (bk_R (by decide) (bk_R (by decide) (bk_R (by decide) (bk_R (by decide) (bk_I (by decide) (bk_R (by decide) (bk_R (by decide) (bk_R (by decide) (bk_R (by decide) (bk_R (by decide) (bk_I (by decide) (hB 258 (by decide))))))))))))))))))))) (by decide) (by decide) (by decide) (by decide) wc_6 (by decide) (by decide) d_X10_init_156 ?_
  refine aw_putFR hX hn hF (ci := 10) (k := 43) (ty := (.array .long)) rfl (by decide) (by decide) rfl rfl wc_61 rfl rfl (by decide +kernel) (fun x => rfl) (fun x => rfl) rfl d_X10_init_158 ?_
  refine aw_aload_n hX (i := 0) rfl rfl d_X10_init_161 ?_
  refine aw_sipush (v := 401) hX (by decide) d_X10_init_162 ?_
  refine aw_newL hX (N := 401) rfl (bk_R (by decide) (bk_R (by decide) (bk_R (by decide) (bk_R (by decide) (bk_R (by decide) (bk_R (by decide) (bk_R (by decide) (bk_R (by decide) (bk_R (by decide) (bk_R (by decide) (bk_R (by decide) (bk_R (by decide) (bk_R (by decide) (bk_I (by decide) (bk_R (by decide) (bk_R (by decide) (bk_R (by decide) (bk_R (by decide) (bk_R (by decide) (bk_I (by decide) (hB 259 (by decide)))))))))))))))))))))) (by decide) (by decide) (by decide) (by decide) wc_6 (by decide) (by decide) d_X10_init_165 ?_
  refine aw_putFR hX hn hF (ci := 10) (k := 44) (ty := (.array .long)) rfl (by decide) (by decide) rfl rfl wc_62 rfl rfl (by decide +kernel) (fun x => rfl) (fun x => rfl) rfl d_X10_init_167 ?_
  refine aw_aload_n hX (i := 0) rfl rfl d_X10_init_170 ?_
  refine aw_iconst (v := 5) hX (by decide) d_X10_init_171 ?_
  refine aw_newL hX (N := 5) rfl (bk_R (by decide) (bk_R (by decide) (bk_R (by decide) (bk_R (by decide) (bk_R (by decide) (bk_R (by decide) (bk_R (by decide) (bk_R (by decide) (bk_R (by decide) (bk_R (by decide) (bk_R (by decide) (bk_R (by decide) (bk_R (by decide) (bk_R (by decide) (bk_I (by decide) (bk_R (by decide) (bk_R (by decide) (bk_R (by decide) (bk_R (by decide) (bk_R (by decide) (bk_I (by decide) (hB 260 (by decide))))))))))))))))))))))) (by decide) (by decide) (by decide) (by decide) wc_6 (by decide) (by decide) d_X10_init_172 ?_
  refine aw_putFR hX hn hF (ci := 10) (k := 46) (ty := (.array .long)) rfl (by decide) (by decide) rfl rfl wc_63 rfl rfl (by decide +kernel) (fun x => rfl) (fun x => rfl) rfl d_X10_init_174 ?_
  refine aw_aload_n hX (i := 0) rfl rfl d_X10_init_177 ?_
  refine aw_sipush (v := 401) hX (by decide) d_X10_init_178 ?_
  refine aw_newZ hX (N := 401) rfl (bk_R (by decide) (bk_R (by decide) (bk_R (by decide) (bk_R (by decide) (bk_R (by decide) (bk_R (by decide) (bk_R (by decide) (bk_R (by decide) (bk_R (by decide) (bk_R (by decide) (bk_R (by decide) (bk_R (by decide) (bk_R (by decide) (bk_R (by decide) (bk_R (by decide) (bk_I (by decide) (bk_R (by decide) (bk_R (by decide) (bk_R (by decide) (bk_R (by decide) (bk_R (by decide) (bk_I (by decide) (hB 261 (by decide)))))))))))))))))))))))) (by decide) (by decide) (by decide) (by decide) wc_54 (by decide) (by decide) d_X10_init_181 ?_
  refine aw_putFR hX hn hF (ci := 10) (k := 47) (ty := (.array .boolean)) rfl (by decide) (by decide) rfl rfl wc_64 rfl rfl (by decide +kernel) (fun x => rfl) (fun x => rfl) rfl d_X10_init_183 ?_
  refine aw_aload_n hX (i := 0) rfl rfl d_X10_init_186 ?_
  refine aw_iconst (v := -1) hX (by decide) d_X10_init_187 ?_
  refine aw_putI hX (ci := 10) (k := 48) rfl (by decide) (by decide) rfl rfl wc_65 rfl (by decide +kernel) rfl d_X10_init_188 ?_
  refine aw_aload_n hX (i := 0) rfl rfl d_X10_init_191 ?_
  refine aw_bipush (v := 16) hX (by decide) d_X10_init_192 ?_
  refine aw_newI hX (N := 16) rfl (bk_I (by decide) (bk_R (by decide) (bk_R (by decide) (bk_R (by decide) (bk_R (by decide) (bk_R (by decide) (bk_R (by decide) (bk_R (by decide) (bk_R (by decide) (bk_R (by decide) (bk_R (by decide) (bk_R (by decide) (bk_R (by decide) (bk_R (by decide) (bk_R (by decide) (bk_R (by decide) (bk_R (by decide) (bk_I (by decide) (bk_R (by decide) (bk_R (by decide) (bk_R (by decide) (bk_R (by decide) (bk_R (by decide) (bk_I (by decide) (hB 262 (by decide)))))))))))))))))))))))))) (by decide) (by decide) (by decide) (by decide) wc_3 (by decide) (by decide) d_X10_init_194 ?_
  refine aw_putFR hX hn hF (ci := 10) (k := 50) (ty := (.array .int)) rfl (by decide) (by decide) rfl rfl wc_66 rfl rfl (by decide +kernel) (fun x => rfl) (fun x => rfl) rfl d_X10_init_196 ?_
  refine aw_aload_n hX (i := 0) rfl rfl d_X10_init_199 ?_
  refine aw_bipush (v := 6) hX (by decide) d_X10_init_200 ?_
  refine aw_newI hX (N := 6) rfl (bk_R (by decide) (bk_I (by decide) (bk_R (by decide) (bk_R (by decide) (bk_R (by decide) (bk_R (by decide) (bk_R (by decide) (bk_R (by decide) (bk_R (by decide) (bk_R (by decide) (bk_R (by decide) (bk_R (by decide) (bk_R (by decide) (bk_R (by decide) (bk_R (by decide) (bk_R (by decide) (bk_R (by decide) (bk_R (by decide) (bk_I (by decide) (bk_R (by decide) (bk_R (by decide) (bk_R (by decide) (bk_R (by decide) (bk_R (by decide) (bk_I (by decide) (hB 263 (by decide))))))))))))))))))))))))))) (by decide) (by decide) (by decide) (by decide) wc_3 (by decide) (by decide) d_X10_init_202 ?_
  refine aw_putFR hX hn hF (ci := 10) (k := 51) (ty := (.array .int)) rfl (by decide) (by decide) rfl rfl wc_67 rfl rfl (by decide +kernel) (fun x => rfl) (fun x => rfl) rfl d_X10_init_204 ?_
  refine aw_aload_n hX (i := 0) rfl rfl d_X10_init_207 ?_
  refine aw_bipush (v := 6) hX (by decide) d_X10_init_208 ?_
  refine aw_newI hX (N := 6) rfl (bk_R (by decide) (bk_R (by decide) (bk_I (by decide) (bk_R (by decide) (bk_R (by decide) (bk_R (by decide) (bk_R (by decide) (bk_R (by decide) (bk_R (by decide) (bk_R (by decide) (bk_R (by decide) (bk_R (by decide) (bk_R (by decide) (bk_R (by decide) (bk_R (by decide) (bk_R (by decide) (bk_R (by decide) (bk_R (by decide) (bk_R (by decide) (bk_I (by decide) (bk_R (by decide) (bk_R (by decide) (bk_R (by decide) (bk_R (by decide) (bk_R (by decide) (bk_I (by decide) (hB 264 (by decide)))))))))))))))))))))))))))) (by decide) (by decide) (by decide) (by decide) wc_3 (by decide) (by decide) d_X10_init_210 ?_
  refine aw_putFR hX hn hF (ci := 10) (k := 52) (ty := (.array .int)) rfl (by decide) (by decide) rfl rfl wc_68 rfl rfl (by decide +kernel) (fun x => rfl) (fun x => rfl) rfl d_X10_init_212 ?_
  refine aw_aload_n hX (i := 0) rfl rfl d_X10_init_215 ?_
  refine aw_iconst (v := -1) hX (by decide) d_X10_init_216 ?_
  refine aw_putI hX (ci := 10) (k := 53) rfl (by decide) (by decide) rfl rfl wc_69 rfl (by decide +kernel) rfl d_X10_init_217 ?_
  refine aw_aload_n hX (i := 0) rfl rfl d_X10_init_220 ?_
  refine aw_iconst (v := 5) hX (by decide) d_X10_init_221 ?_
  refine aw_newI hX (N := 5) rfl (bk_I (by decide) (bk_R (by decide) (bk_R (by decide) (bk_R (by decide) (bk_I (by decide) (bk_R (by decide) (bk_R (by decide) (bk_R (by decide) (bk_R (by decide) (bk_R (by decide) (bk_R (by decide) (bk_R (by decide) (bk_R (by decide) (bk_R (by decide) (bk_R (by decide) (bk_R (by decide) (bk_R (by decide) (bk_R (by decide) (bk_R (by decide) (bk_R (by decide) (bk_R (by decide) (bk_I (by decide) (bk_R (by decide) (bk_R (by decide) (bk_R (by decide) (bk_R (by decide) (bk_R (by decide) (bk_I (by decide) (hB 265 (by decide)))))))))))))))))))))))))))))) (by decide) (by decide) (by decide) (by decide) wc_3 (by decide) (by decide) d_X10_init_222 ?_
  refine aw_putFR hX hn hF (ci := 10) (k := 54) (ty := (.array .int)) rfl (by decide) (by decide) rfl rfl wc_70 rfl rfl (by decide +kernel) (fun x => rfl) (fun x => rfl) rfl d_X10_init_224 ?_
  refine aw_aload_n hX (i := 0) rfl rfl d_X10_init_227 ?_
  refine aw_iconst (v := 5) hX (by decide) d_X10_init_228 ?_
  refine aw_newI hX (N := 5) rfl (bk_R (by decide) (bk_I (by decide) (bk_R (by decide) (bk_R (by decide) (bk_R (by decide) (bk_I (by decide) (bk_R (by decide) (bk_R (by decide) (bk_R (by decide) (bk_R (by decide) (bk_R (by decide) (bk_R (by decide) (bk_R (by decide) (bk_R (by decide) (bk_R (by decide) (bk_R (by decide) (bk_R (by decide) (bk_R (by decide) (bk_R (by decide) (bk_R (by decide) (bk_R (by decide) (bk_R (by decide) (bk_I (by decide) (bk_R (by decide) (bk_R (by decide) (bk_R (by decide) (bk_R (by decide) (bk_R (by decide) (bk_I (by decide) (hB 266 (by decide))))))))))))))))))))))))))))))) (by decide) (by decide) (by decide) (by decide) wc_3 (by decide) (by decide) d_X10_init_229 ?_
  refine aw_putFR hX hn hF (ci := 10) (k := 55) (ty := (.array .int)) rfl (by decide) (by decide) rfl rfl wc_71 rfl rfl (by decide +kernel) (fun x => rfl) (fun x => rfl) rfl d_X10_init_231 ?_
  refine aw_aload_n hX (i := 0) rfl rfl d_X10_init_234 ?_
  refine aw_iconst (v := 4) hX (by decide) d_X10_init_235 ?_
  refine aw_newI hX (N := 4) rfl (bk_R (by decide) (bk_R (by decide) (bk_I (by decide) (bk_R (by decide) (bk_R (by decide) (bk_R (by decide) (bk_I (by decide) (bk_R (by decide) (bk_R (by decide) (bk_R (by decide) (bk_R (by decide) (bk_R (by decide) (bk_R (by decide) (bk_R (by decide) (bk_R (by decide) (bk_R (by decide) (bk_R (by decide) (bk_R (by decide) (bk_R (by decide) (bk_R (by decide) (bk_R (by decide) (bk_R (by decide) (bk_R (by decide) (bk_I (by decide) (bk_R (by decide) (bk_R (by decide) (bk_R (by decide) (bk_R (by decide) (bk_R (by decide) (bk_I (by decide) (hB 267 (by decide)))))))))))))))))))))))))))))))) (by decide) (by decide) (by decide) (by decide) wc_3 (by decide) (by decide) d_X10_init_236 ?_
  refine aw_putFR hX hn hF (ci := 10) (k := 56) (ty := (.array .int)) rfl (by decide) (by decide) rfl rfl wc_72 rfl rfl (by decide +kernel) (fun x => rfl) (fun x => rfl) rfl d_X10_init_238 ?_
  refine aw_aload_n hX (i := 0) rfl rfl d_X10_init_241 ?_
  refine aw_iconst (v := 4) hX (by decide) d_X10_init_242 ?_
  refine aw_newI hX (N := 4) rfl (bk_R (by decide) (bk_R (by decide) (bk_R (by decide) (bk_I (by decide) (bk_R (by decide) (bk_R (by decide) (bk_R (by decide) (bk_I (by decide) (bk_R (by decide) (bk_R (by decide) (bk_R (by decide) (bk_R (by decide) (bk_R (by decide) (bk_R (by decide) (bk_R (by decide) (bk_R (by decide) (bk_R (by decide) (bk_R (by decide) (bk_R (by decide) (bk_R (by decide) (bk_R (by decide) (bk_R (by decide) (bk_R (by decide) (bk_R (by decide) (bk_I (by decide) (bk_R (by decide) (bk_R (by decide) (bk_R (by decide) (bk_R (by decide) (bk_R (by decide) (bk_I (by decide) (hB 268 (by decide))))))))))))))))))))))))))))))))) (by decide) (by decide) (by decide) (by decide) wc_3 (by decide) (by decide) d_X10_init_243 ?_
  refine aw_putFR hX hn hF (ci := 10) (k := 57) (ty := (.array .int)) rfl (by decide) (by decide) rfl rfl wc_73 rfl rfl (by decide +kernel) (fun x => rfl) (fun x => rfl) rfl d_X10_init_245 ?_
  refine aw_aload_n hX (i := 0) rfl rfl d_X10_init_248 ?_
  refine aw_iconst (v := 2) hX (by decide) d_X10_init_249 ?_
  refine aw_newI hX (N := 2) rfl (bk_R (by decide) (bk_R (by decide) (bk_R (by decide) (bk_R (by decide) (bk_I (by decide) (bk_R (by decide) (bk_R (by decide) (bk_R (by decide) (bk_I (by decide) (bk_R (by decide) (bk_R (by decide) (bk_R (by decide) (bk_R (by decide) (bk_R (by decide) (bk_R (by decide) (bk_R (by decide) (bk_R (by decide) (bk_R (by decide) (bk_R (by decide) (bk_R (by decide) (bk_R (by decide) (bk_R (by decide) (bk_R (by decide) (bk_R (by decide) (bk_R (by decide) (bk_I (by decide) (bk_R (by decide) (bk_R (by decide) (bk_R (by decide) (bk_R (by decide) (bk_R (by decide) (bk_I (by decide) (hB 269 (by decide)))))))))))))))))))))))))))))))))) (by decide) (by decide) (by decide) (by decide) wc_3 (by decide) (by decide) d_X10_init_250 ?_
  refine aw_putFR hX hn hF (ci := 10) (k := 60) (ty := (.array .int)) rfl (by decide) (by decide) rfl rfl wc_74 rfl rfl (by decide +kernel) (fun x => rfl) (fun x => rfl) rfl d_X10_init_252 ?_
  refine aw_aload_n hX (i := 0) rfl rfl d_X10_init_255 ?_
  refine aw_iconst (v := 2) hX (by decide) d_X10_init_256 ?_
  refine aw_newI hX (N := 2) rfl (bk_R (by decide) (bk_R (by decide) (bk_R (by decide) (bk_R (by decide) (bk_R (by decide) (bk_I (by decide) (bk_R (by decide) (bk_R (by decide) (bk_R (by decide) (bk_I (by decide) (bk_R (by decide) (bk_R (by decide) (bk_R (by decide) (bk_R (by decide) (bk_R (by decide) (bk_R (by decide) (bk_R (by decide) (bk_R (by decide) (bk_R (by decide) (bk_R (by decide) (bk_R (by decide) (bk_R (by decide) (bk_R (by decide) (bk_R (by decide) (bk_R (by decide) (bk_R (by decide) (bk_I (by decide) (bk_R (by decide) (bk_R (by decide) (bk_R (by decide) (bk_R (by decide) (bk_R (by decide) (bk_I (by decide) (hB 270 (by decide))))))))))))))))))))))))))))))))))) (by decide) (by decide) (by decide) (by decide) wc_3 (by decide) (by decide) d_X10_init_257 ?_
  refine aw_putFR hX hn hF (ci := 10) (k := 61) (ty := (.array .int)) rfl (by decide) (by decide) rfl rfl wc_75 rfl rfl (by decide +kernel) (fun x => rfl) (fun x => rfl) rfl d_X10_init_259 ?_
  refine aw_aload_n hX (i := 0) rfl rfl d_X10_init_262 ?_
  refine aw_sipush (v := 360) hX (by decide) d_X10_init_263 ?_
  refine aw_newI hX (N := 360) rfl (bk_R (by decide) (bk_R (by decide) (bk_R (by decide) (bk_R (by decide) (bk_R (by decide) (bk_R (by decide) (bk_I (by decide) (bk_R (by decide) (bk_R (by decide) (bk_R (by decide) (bk_I (by decide) (bk_R (by decide) (bk_R (by decide) (bk_R (by decide) (bk_R (by decide) (bk_R (by decide) (bk_R (by decide) (bk_R (by decide) (bk_R (by decide) (bk_R (by decide) (bk_R (by decide) (bk_R (by decide) (bk_R (by decide) (bk_R (by decide) (bk_R (by decide) (bk_R (by decide) (bk_R (by decide) (bk_I (by decide) (bk_R (by decide) (bk_R (by decide) (bk_R (by decide) (bk_R (by decide) (bk_R (by decide) (bk_I (by decide) (hB 271 (by decide)))))))))))))))))))))))))))))))))))) (by decide) (by decide) (by decide) (by decide) wc_3 (by decide) (by decide) d_X10_init_266 ?_
  refine aw_putFR hX hn hF (ci := 10) (k := 62) (ty := (.array .int)) rfl (by decide) (by decide) rfl rfl wc_76 rfl rfl (by decide +kernel) (fun x => rfl) (fun x => rfl) rfl d_X10_init_268 ?_
  refine aw_aload_n hX (i := 0) rfl rfl d_X10_init_271 ?_
  refine aw_sipush (v := 360) hX (by decide) d_X10_init_272 ?_
  refine aw_newI hX (N := 360) rfl (bk_R (by decide) (bk_R (by decide) (bk_R (by decide) (bk_R (by decide) (bk_R (by decide) (bk_R (by decide) (bk_R (by decide) (bk_I (by decide) (bk_R (by decide) (bk_R (by decide) (bk_R (by decide) (bk_I (by decide) (bk_R (by decide) (bk_R (by decide) (bk_R (by decide) (bk_R (by decide) (bk_R (by decide) (bk_R (by decide) (bk_R (by decide) (bk_R (by decide) (bk_R (by decide) (bk_R (by decide) (bk_R (by decide) (bk_R (by decide) (bk_R (by decide) (bk_R (by decide) (bk_R (by decide) (bk_R (by decide) (bk_I (by decide) (bk_R (by decide) (bk_R (by decide) (bk_R (by decide) (bk_R (by decide) (bk_R (by decide) (bk_I (by decide) (hB 272 (by decide))))))))))))))))))))))))))))))))))))) (by decide) (by decide) (by decide) (by decide) wc_3 (by decide) (by decide) d_X10_init_275 ?_
  refine aw_putFR hX hn hF (ci := 10) (k := 63) (ty := (.array .int)) rfl (by decide) (by decide) rfl rfl wc_77 rfl rfl (by decide +kernel) (fun x => rfl) (fun x => rfl) rfl d_X10_init_277 ?_
  refine aw_aload_n hX (i := 0) rfl rfl d_X10_init_280 ?_
  refine aw_sipush (v := 360) hX (by decide) d_X10_init_281 ?_
  refine aw_newI hX (N := 360) rfl (bk_R (by decide) (bk_R (by decide) (bk_R (by decide) (bk_R (by decide) (bk_R (by decide) (bk_R (by decide) (bk_R (by decide) (bk_R (by decide) (bk_I (by decide) (bk_R (by decide) (bk_R (by decide) (bk_R (by decide) (bk_I (by decide) (bk_R (by decide) (bk_R (by decide) (bk_R (by decide) (bk_R (by decide) (bk_R (by decide) (bk_R (by decide) (bk_R (by decide) (bk_R (by decide) (bk_R (by decide) (bk_R (by decide) (bk_R (by decide) (bk_R (by decide) (bk_R (by decide) (bk_R (by decide) (bk_R (by decide) (bk_R (by decide) (bk_I (by decide) (bk_R (by decide) (bk_R (by decide) (bk_R (by decide) (bk_R (by decide) (bk_R (by decide) (bk_I (by decide) (hB 273 (by decide)))))))))))))))))))))))))))))))))))))) (by decide) (by decide) (by decide) (by decide) wc_3 (by decide) (by decide) d_X10_init_284 ?_
  refine aw_putFR hX hn hF (ci := 10) (k := 64) (ty := (.array .int)) rfl (by decide) (by decide) rfl rfl wc_78 rfl rfl (by decide +kernel) (fun x => rfl) (fun x => rfl) rfl d_X10_init_286 ?_
  refine aw_aload_n hX (i := 0) rfl rfl d_X10_init_289 ?_
  refine aw_sipush (v := 360) hX (by decide) d_X10_init_290 ?_
  refine aw_newI hX (N := 360) rfl (bk_R (by decide) (bk_R (by decide) (bk_R (by decide) (bk_R (by decide) (bk_R (by decide) (bk_R (by decide) (bk_R (by decide) (bk_R (by decide) (bk_R (by decide) (bk_I (by decide) (bk_R (by decide) (bk_R (by decide) (bk_R (by decide) (bk_I (by decide) (bk_R (by decide) (bk_R (by decide) (bk_R (by decide) (bk_R (by decide) (bk_R (by decide) (bk_R (by decide) (bk_R (by decide) (bk_R (by decide) (bk_R (by decide) (bk_R (by decide) (bk_R (by decide) (bk_R (by decide) (bk_R (by decide) (bk_R (by decide) (bk_R (by decide) (bk_R (by decide) (bk_I (by decide) (bk_R (by decide) (bk_R (by decide) (bk_R (by decide) (bk_R (by decide) (bk_R (by decide) (bk_I (by decide) (hB 274 (by decide))))))))))))))))))))))))))))))))))))))) (by decide) (by decide) (by decide) (by decide) wc_3 (by decide) (by decide) d_X10_init_293 ?_
  refine aw_putFR hX hn hF (ci := 10) (k := 65) (ty := (.array .int)) rfl (by decide) (by decide) rfl rfl wc_79 rfl rfl (by decide +kernel) (fun x => rfl) (fun x => rfl) rfl d_X10_init_295 ?_
  refine aw_aload_n hX (i := 0) rfl rfl d_X10_init_298 ?_
  refine aw_sipush (v := 160) hX (by decide) d_X10_init_299 ?_
  refine aw_newI hX (N := 160) rfl (bk_R (by decide) (bk_R (by decide) (bk_R (by decide) (bk_R (by decide) (bk_R (by decide) (bk_R (by decide) (bk_R (by decide) (bk_R (by decide) (bk_R (by decide) (bk_R (by decide) (bk_I (by decide) (bk_R (by decide) (bk_R (by decide) (bk_R (by decide) (bk_I (by decide) (bk_R (by decide) (bk_R (by decide) (bk_R (by decide) (bk_R (by decide) (bk_R (by decide) (bk_R (by decide) (bk_R (by decide) (bk_R (by decide) (bk_R (by decide) (bk_R (by decide) (bk_R (by decide) (bk_R (by decide) (bk_R (by decide) (bk_R (by decide) (bk_R (by decide) (bk_R (by decide) (bk_I (by decide) (bk_R (by decide) (bk_R (by decide) (bk_R (by decide) (bk_R (by decide) (bk_R (by decide) (bk_I (by decide) (hB 275 (by decide)))))))))))))))))))))))))))))))))))))))) (by decide) (by decide) (by decide) (by decide) wc_3 (by decide) (by decide) d_X10_init_302 ?_
  refine aw_putFR hX hn hF (ci := 10) (k := 66) (ty := (.array .int)) rfl (by decide) (by decide) rfl rfl wc_80 rfl rfl (by decide +kernel) (fun x => rfl) (fun x => rfl) rfl d_X10_init_304 ?_
  refine aw_aload_n hX (i := 0) rfl rfl d_X10_init_307 ?_
  refine aw_sipush (v := 160) hX (by decide) d_X10_init_308 ?_
  refine aw_newI hX (N := 160) rfl (bk_R (by decide) (bk_R (by decide) (bk_R (by decide) (bk_R (by decide) (bk_R (by decide) (bk_R (by decide) (bk_R (by decide) (bk_R (by decide) (bk_R (by decide) (bk_R (by decide) (bk_R (by decide) (bk_I (by decide) (bk_R (by decide) (bk_R (by decide) (bk_R (by decide) (bk_I (by decide) (bk_R (by decide) (bk_R (by decide) (bk_R (by decide) (bk_R (by decide) (bk_R (by decide) (bk_R (by decide) (bk_R (by decide) (bk_R (by decide) (bk_R (by decide) (bk_R (by decide) (bk_R (by decide) (bk_R (by decide) (bk_R (by decide) (bk_R (by decide) (bk_R (by decide) (bk_R (by decide) (bk_I (by decide) (bk_R (by decide) (bk_R (by decide) (bk_R (by decide) (bk_R (by decide) (bk_R (by decide) (bk_I (by decide) (hB 276 (by decide))))))))))))))))))))))))))))))))))))))))) (by decide) (by decide) (by decide) (by decide) wc_3 (by decide) (by decide) d_X10_init_311 ?_
  refine aw_putFR hX hn hF (ci := 10) (k := 67) (ty := (.array .int)) rfl (by decide) (by decide) rfl rfl wc_81 rfl rfl (by decide +kernel) (fun x => rfl) (fun x => rfl) rfl d_X10_init_313 ?_
  exact tl_X10_init_240 hF hX rfl)
