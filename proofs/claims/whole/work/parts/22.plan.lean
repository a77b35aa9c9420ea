/-! 22.plan: functions and contracts, by program -/
theorem d_X2_value_0 : decode cX2_value 0 = .ok (.aload_n 0, 1) := by decide +kernel
theorem d_X2_value_1 : decode cX2_value 1 = .ok (.getfield 35, 3) := by decide +kernel
theorem d_X2_value_4 : decode cX2_value 4 = .ok (.lreturn, 1) := by decide +kernel
def s_X2_value (th : Nat) (h : AH) : Option Int64 := if LAY th = (0, 2) then some (gL h th 8) else none
theorem t_X2_value {g : GP} {X : MX} {mcR msR : Nat} (hF : gF g = true) (hX : Cx g RX2 cX2_value 1 mcR msR (some .long) [] X) {th : Nat} {h : AH} {z : Int64} (e : s_X2_value th h = some z) : AR g X 0 0 (QQ g X NT false h (.inl (some (.long z))) 0 0) h 0 [.ref th] [] := by
  unfold s_X2_value at e
  obtain ⟨hl_this, e_40⟩ := if_some e
  clear e
  refine aw_aload_n (i := 0) hX rfl rfl d_X2_value_0 ?_
  refine ar_getL hX fg_RX2_35 (by assumption) d_X2_value_1 ?_
  cases e_40
  exact aw_lreturn hX (Nat.zero_le _) (Nat.zero_le _) d_X2_value_4
theorem k_X2_value {g : GP} (hg : g.1.stackTraces = false) (hF : gF g = true) {th : Nat} {h : AH} {z : Int64} (e : s_X2_value th h = some z) : Ctr g yX2_value (wsY yX2_value cX2_value 1 (some .long)) 1 0 0 [.ref th] NT false h (some (.long z)) NT false h := ctr_of (lv0 := [.ref th]) rfl rfl (by decide) hg trivial (fun X hX hn => t_X2_value hF hX e)
theorem d_X2_leftOfTen_0 : decode cX2_leftOfTen 0 = .ok (.aload_n 0, 1) := by decide +kernel
theorem d_X2_leftOfTen_1 : decode cX2_leftOfTen 1 = .ok (.getfield 22, 3) := by decide +kernel
theorem d_X2_leftOfTen_4 : decode cX2_leftOfTen 4 = .ok (.iconst 2, 1) := by decide +kernel
theorem d_X2_leftOfTen_5 : decode cX2_leftOfTen 5 = .ok (.if_icmp .ne 12, 3) := by decide +kernel
theorem d_X2_leftOfTen_8 : decode cX2_leftOfTen 8 = .ok (.aload_n 0, 1) := by decide +kernel
theorem d_X2_leftOfTen_9 : decode cX2_leftOfTen 9 = .ok (.getfield 56, 3) := by decide +kernel
theorem d_X2_leftOfTen_12 : decode cX2_leftOfTen 12 = .ok (.iload_n 1, 1) := by decide +kernel
theorem d_X2_leftOfTen_13 : decode cX2_leftOfTen 13 = .ok (.isub, 1) := by decide +kernel
theorem d_X2_leftOfTen_14 : decode cX2_leftOfTen 14 = .ok (.goto 4, 3) := by decide +kernel
theorem d_X2_leftOfTen_17 : decode cX2_leftOfTen 17 = .ok (.iconst 0, 1) := by decide +kernel
theorem d_X2_leftOfTen_18 : decode cX2_leftOfTen 18 = .ok (.ireturn, 1) := by decide +kernel
def s_X2_leftOfTen (th : Nat) (a0 : Int32) (h : AH) : Option Int32 := if LAY th = (0, 2) then if (gI h th 0) = 2 then some ((gI h th 7) - a0) else some 0 else none
theorem t_X2_leftOfTen {g : GP} {X : MX} {mcR msR : Nat} (hF : gF g = true) (hX : Cx g RX2 cX2_leftOfTen 1 mcR msR (some .int) [] X) {th : Nat} {a0 : Int32} {h : AH} {z : Int32} (e : s_X2_leftOfTen th a0 h = some z) : AR g X 0 0 (QQ g X NT false h (.inl (some (.int z))) 0 0) h 0 [.ref th, .int a0] [] := by
  unfold s_X2_leftOfTen at e
  obtain ⟨hl_this, e_58⟩ := if_some e
  clear e
  refine aw_aload_n (i := 0) hX rfl rfl d_X2_leftOfTen_0 ?_
  refine ar_getI hX fg_RX2_22 (by assumption) d_X2_leftOfTen_1 ?_
  refine aw_iconst (v := 2) hX (by decide) d_X2_leftOfTen_4 ?_
  refine aw_icmp_ne (t := 17) hX (by decide) d_X2_leftOfTen_5 (fun c => ?_) (fun c => ?_)
  · rw [if_neg c] at e_58
    refine aw_iconst (v := 0) hX (by decide) d_X2_leftOfTen_17 ?_
    cases e_58
    exact aw_ireturn hX (Nat.zero_le _) (Nat.zero_le _) d_X2_leftOfTen_18
  · rw [if_pos c] at e_58
    refine aw_aload_n (i := 0) hX rfl rfl d_X2_leftOfTen_8 ?_
    refine ar_getI hX fg_RX2_56 (by assumption) d_X2_leftOfTen_9 ?_
    refine aw_iload_n (i := 1) hX rfl rfl d_X2_leftOfTen_12 ?_
    refine aw_isub hX d_X2_leftOfTen_13 ?_
    refine aw_goto (t := 18) hX (by decide) d_X2_leftOfTen_14 ?_
    cases e_58
    exact aw_ireturn hX (Nat.zero_le _) (Nat.zero_le _) d_X2_leftOfTen_18
theorem k_X2_leftOfTen {g : GP} (hg : g.1.stackTraces = false) (hF : gF g = true) {th : Nat} {a0 : Int32} {h : AH} {z : Int32} (e : s_X2_leftOfTen th a0 h = some z) : Ctr g yX2_leftOfTen (wsY yX2_leftOfTen cX2_leftOfTen 2 (some .int)) 1 0 0 [.ref th, .int a0] NT false h (some (.int z)) NT false h := ctr_of (lv0 := [.ref th, .int a0]) rfl rfl (by decide) hg trivial (fun X hX hn => t_X2_leftOfTen hF hX e)
theorem d_X2_weigh_0 : decode cX2_weigh 0 = .ok (.aload_n 0, 1) := by decide +kernel
theorem d_X2_weigh_1 : decode cX2_weigh 1 = .ok (.getfield 22, 3) := by decide +kernel
theorem d_X2_weigh_4 : decode cX2_weigh 4 = .ok (.iconst 2, 1) := by decide +kernel
theorem d_X2_weigh_5 : decode cX2_weigh 5 = .ok (.if_icmp .ne 9, 3) := by decide +kernel
theorem d_X2_weigh_8 : decode cX2_weigh 8 = .ok (.iload 4, 2) := by decide +kernel
theorem d_X2_weigh_10 : decode cX2_weigh 10 = .ok (.ifCond .ne 4, 3) := by decide +kernel
theorem d_X2_weigh_13 : decode cX2_weigh 13 = .ok (.return_, 1) := by decide +kernel
theorem d_X2_weigh_14 : decode cX2_weigh 14 = .ok (.aload_n 1, 1) := by decide +kernel
theorem d_X2_weigh_15 : decode cX2_weigh 15 = .ok (.iload_n 2, 1) := by decide +kernel
theorem d_X2_weigh_16 : decode cX2_weigh 16 = .ok (.bipush 6, 2) := by decide +kernel
theorem d_X2_weigh_18 : decode cX2_weigh 18 = .ok (.aload_n 1, 1) := by decide +kernel
theorem d_X2_weigh_19 : decode cX2_weigh 19 = .ok (.iload_n 3, 1) := by decide +kernel
theorem d_X2_weigh_20 : decode cX2_weigh 20 = .ok (.iconst 0, 1) := by decide +kernel
theorem d_X2_weigh_21 : decode cX2_weigh 21 = .ok (.invokevirtual 83, 3) := by decide +kernel
theorem d_X2_weigh_24 : decode cX2_weigh 24 = .ok (.iadd, 1) := by decide +kernel
theorem d_X2_weigh_25 : decode cX2_weigh 25 = .ok (.invokevirtual 87, 3) := by decide +kernel
theorem d_X2_weigh_28 : decode cX2_weigh 28 = .ok (.i2l, 1) := by decide +kernel
theorem d_X2_weigh_29 : decode cX2_weigh 29 = .ok (.lstore 6, 2) := by decide +kernel
theorem d_X2_weigh_31 : decode cX2_weigh 31 = .ok (.aload_n 1, 1) := by decide +kernel
theorem d_X2_weigh_32 : decode cX2_weigh 32 = .ok (.iload_n 2, 1) := by decide +kernel
theorem d_X2_weigh_33 : decode cX2_weigh 33 = .ok (.iconst 5, 1) := by decide +kernel
theorem d_X2_weigh_34 : decode cX2_weigh 34 = .ok (.invokevirtual 87, 3) := by decide +kernel
theorem d_X2_weigh_37 : decode cX2_weigh 37 = .ok (.istore 8, 2) := by decide +kernel
theorem d_X2_weigh_39 : decode cX2_weigh 39 = .ok (.aload_n 0, 1) := by decide +kernel
theorem d_X2_weigh_40 : decode cX2_weigh 40 = .ok (.getfield 22, 3) := by decide +kernel
theorem d_X2_weigh_43 : decode cX2_weigh 43 = .ok (.ifCond .ne 17, 3) := by decide +kernel
theorem d_X2_weigh_46 : decode cX2_weigh 46 = .ok (.ldc2_w 90, 3) := by decide +kernel
theorem d_X2_weigh_49 : decode cX2_weigh 49 = .ok (.aload_n 1, 1) := by decide +kernel
theorem d_X2_weigh_50 : decode cX2_weigh 50 = .ok (.iload_n 3, 1) := by decide +kernel
theorem d_X2_weigh_51 : decode cX2_weigh 51 = .ok (.iconst 1, 1) := by decide +kernel
theorem d_X2_weigh_52 : decode cX2_weigh 52 = .ok (.invokevirtual 83, 3) := by decide +kernel
theorem d_X2_weigh_55 : decode cX2_weigh 55 = .ok (.i2l, 1) := by decide +kernel
theorem d_X2_weigh_56 : decode cX2_weigh 56 = .ok (.lmul, 1) := by decide +kernel
theorem d_X2_weigh_57 : decode cX2_weigh 57 = .ok (.goto 4, 3) := by decide +kernel
theorem d_X2_weigh_60 : decode cX2_weigh 60 = .ok (.lconst 0, 1) := by decide +kernel
theorem d_X2_weigh_61 : decode cX2_weigh 61 = .ok (.lstore 9, 2) := by decide +kernel
theorem d_X2_weigh_63 : decode cX2_weigh 63 = .ok (.iload 4, 2) := by decide +kernel
theorem d_X2_weigh_65 : decode cX2_weigh 65 = .ok (.bipush 33, 2) := by decide +kernel
theorem d_X2_weigh_67 : decode cX2_weigh 67 = .ok (.imul, 1) := by decide +kernel
theorem d_X2_weigh_68 : decode cX2_weigh 68 = .ok (.istore 11, 2) := by decide +kernel
theorem d_X2_weigh_70 : decode cX2_weigh 70 = .ok (.aload_n 0, 1) := by decide +kernel
theorem d_X2_weigh_71 : decode cX2_weigh 71 = .ok (.getfield 22, 3) := by decide +kernel
theorem d_X2_weigh_74 : decode cX2_weigh 74 = .ok (.iconst 2, 1) := by decide +kernel
theorem d_X2_weigh_75 : decode cX2_weigh 75 = .ok (.if_icmp .ne 11, 3) := by decide +kernel
theorem d_X2_weigh_78 : decode cX2_weigh 78 = .ok (.iload 11, 2) := by decide +kernel
theorem d_X2_weigh_80 : decode cX2_weigh 80 = .ok (.bipush 33, 2) := by decide +kernel
theorem d_X2_weigh_82 : decode cX2_weigh 82 = .ok (.isub, 1) := by decide +kernel
theorem d_X2_weigh_83 : decode cX2_weigh 83 = .ok (.goto 5, 3) := by decide +kernel
theorem d_X2_weigh_86 : decode cX2_weigh 86 = .ok (.iload 11, 2) := by decide +kernel
theorem d_X2_weigh_88 : decode cX2_weigh 88 = .ok (.istore 12, 2) := by decide +kernel
theorem d_X2_weigh_90 : decode cX2_weigh 90 = .ok (.lconst 0, 1) := by decide +kernel
theorem d_X2_weigh_91 : decode cX2_weigh 91 = .ok (.lstore 13, 2) := by decide +kernel
theorem d_X2_weigh_93 : decode cX2_weigh 93 = .ok (.iconst 0, 1) := by decide +kernel
theorem d_X2_weigh_94 : decode cX2_weigh 94 = .ok (.istore 15, 2) := by decide +kernel
theorem d_X2_weigh_96 : decode cX2_weigh 96 = .ok (.iload 15, 2) := by decide +kernel
theorem d_X2_weigh_98 : decode cX2_weigh 98 = .ok (.bipush 16, 2) := by decide +kernel
theorem d_X2_weigh_100 : decode cX2_weigh 100 = .ok (.iload_n 3, 1) := by decide +kernel
theorem d_X2_weigh_101 : decode cX2_weigh 101 = .ok (.iadd, 1) := by decide +kernel
theorem d_X2_weigh_102 : decode cX2_weigh 102 = .ok (.if_icmp .gt 109, 3) := by decide +kernel
theorem d_X2_weigh_105 : decode cX2_weigh 105 = .ok (.aload_n 0, 1) := by decide +kernel
theorem d_X2_weigh_106 : decode cX2_weigh 106 = .ok (.getfield 32, 3) := by decide +kernel
theorem d_X2_weigh_109 : decode cX2_weigh 109 = .ok (.iload 11, 2) := by decide +kernel
theorem d_X2_weigh_111 : decode cX2_weigh 111 = .ok (.iload 15, 2) := by decide +kernel
theorem d_X2_weigh_113 : decode cX2_weigh 113 = .ok (.iadd, 1) := by decide +kernel
theorem d_X2_weigh_114 : decode cX2_weigh 114 = .ok (.invokestatic 52, 3) := by decide +kernel
theorem d_X2_weigh_117 : decode cX2_weigh 117 = .ok (.lstore 16, 2) := by decide +kernel
theorem d_X2_weigh_119 : decode cX2_weigh 119 = .ok (.lload 6, 2) := by decide +kernel
theorem d_X2_weigh_121 : decode cX2_weigh 121 = .ok (.iconst 0, 1) := by decide +kernel
theorem d_X2_weigh_122 : decode cX2_weigh 122 = .ok (.sipush 1000, 3) := by decide +kernel
theorem d_X2_weigh_125 : decode cX2_weigh 125 = .ok (.iload 8, 2) := by decide +kernel
theorem d_X2_weigh_127 : decode cX2_weigh 127 = .ok (.iload 15, 2) := by decide +kernel
theorem d_X2_weigh_129 : decode cX2_weigh 129 = .ok (.imul, 1) := by decide +kernel
theorem d_X2_weigh_130 : decode cX2_weigh 130 = .ok (.isub, 1) := by decide +kernel
theorem d_X2_weigh_131 : decode cX2_weigh 131 = .ok (.invokestatic 92, 3) := by decide +kernel
theorem d_X2_weigh_134 : decode cX2_weigh 134 = .ok (.i2l, 1) := by decide +kernel
theorem d_X2_weigh_135 : decode cX2_weigh 135 = .ok (.lmul, 1) := by decide +kernel
theorem d_X2_weigh_136 : decode cX2_weigh 136 = .ok (.lstore 18, 2) := by decide +kernel
theorem d_X2_weigh_138 : decode cX2_weigh 138 = .ok (.lload 18, 2) := by decide +kernel
theorem d_X2_weigh_140 : decode cX2_weigh 140 = .ok (.lload 9, 2) := by decide +kernel
theorem d_X2_weigh_142 : decode cX2_weigh 142 = .ok (.lsub, 1) := by decide +kernel
theorem d_X2_weigh_143 : decode cX2_weigh 143 = .ok (.aload_n 0, 1) := by decide +kernel
theorem d_X2_weigh_144 : decode cX2_weigh 144 = .ok (.getfield 32, 3) := by decide +kernel
theorem d_X2_weigh_147 : decode cX2_weigh 147 = .ok (.iload 12, 2) := by decide +kernel
theorem d_X2_weigh_149 : decode cX2_weigh 149 = .ok (.iload 15, 2) := by decide +kernel
theorem d_X2_weigh_151 : decode cX2_weigh 151 = .ok (.iadd, 1) := by decide +kernel
theorem d_X2_weigh_152 : decode cX2_weigh 152 = .ok (.iconst 1, 1) := by decide +kernel
theorem d_X2_weigh_153 : decode cX2_weigh 153 = .ok (.iadd, 1) := by decide +kernel
theorem d_X2_weigh_154 : decode cX2_weigh 154 = .ok (.invokestatic 52, 3) := by decide +kernel
theorem d_X2_weigh_157 : decode cX2_weigh 157 = .ok (.ladd, 1) := by decide +kernel
theorem d_X2_weigh_158 : decode cX2_weigh 158 = .ok (.lstore 20, 2) := by decide +kernel
theorem d_X2_weigh_160 : decode cX2_weigh 160 = .ok (.lload 20, 2) := by decide +kernel
theorem d_X2_weigh_162 : decode cX2_weigh 162 = .ok (.lload 16, 2) := by decide +kernel
theorem d_X2_weigh_164 : decode cX2_weigh 164 = .ok (.lcmp, 1) := by decide +kernel
theorem d_X2_weigh_165 : decode cX2_weigh 165 = .ok (.ifCond .le 40, 3) := by decide +kernel
theorem d_X2_weigh_168 : decode cX2_weigh 168 = .ok (.lload 13, 2) := by decide +kernel
theorem d_X2_weigh_170 : decode cX2_weigh 170 = .ok (.lconst 1, 1) := by decide +kernel
theorem d_X2_weigh_171 : decode cX2_weigh 171 = .ok (.iload 15, 2) := by decide +kernel
theorem d_X2_weigh_173 : decode cX2_weigh 173 = .ok (.lshl, 1) := by decide +kernel
theorem d_X2_weigh_174 : decode cX2_weigh 174 = .ok (.lor, 1) := by decide +kernel
theorem d_X2_weigh_175 : decode cX2_weigh 175 = .ok (.lstore 13, 2) := by decide +kernel
theorem d_X2_weigh_177 : decode cX2_weigh 177 = .ok (.aload_n 0, 1) := by decide +kernel
theorem d_X2_weigh_178 : decode cX2_weigh 178 = .ok (.getfield 32, 3) := by decide +kernel
theorem d_X2_weigh_181 : decode cX2_weigh 181 = .ok (.iload 11, 2) := by decide +kernel
theorem d_X2_weigh_183 : decode cX2_weigh 183 = .ok (.iload 15, 2) := by decide +kernel
theorem d_X2_weigh_185 : decode cX2_weigh 185 = .ok (.iadd, 1) := by decide +kernel
theorem d_X2_weigh_186 : decode cX2_weigh 186 = .ok (.lload 16, 2) := by decide +kernel
theorem d_X2_weigh_188 : decode cX2_weigh 188 = .ok (.lload 20, 2) := by decide +kernel
theorem d_X2_weigh_190 : decode cX2_weigh 190 = .ok (.lload 16, 2) := by decide +kernel
theorem d_X2_weigh_192 : decode cX2_weigh 192 = .ok (.lsub, 1) := by decide +kernel
theorem d_X2_weigh_193 : decode cX2_weigh 193 = .ok (.iload 5, 2) := by decide +kernel
theorem d_X2_weigh_195 : decode cX2_weigh 195 = .ok (.i2l, 1) := by decide +kernel
theorem d_X2_weigh_196 : decode cX2_weigh 196 = .ok (.lmul, 1) := by decide +kernel
theorem d_X2_weigh_197 : decode cX2_weigh 197 = .ok (.ldc2_w 97, 3) := by decide +kernel
theorem d_X2_weigh_200 : decode cX2_weigh 200 = .ok (.ldiv, 1) := by decide +kernel
theorem d_X2_weigh_201 : decode cX2_weigh 201 = .ok (.ladd, 1) := by decide +kernel
theorem d_X2_weigh_202 : decode cX2_weigh 202 = .ok (.invokestatic 99, 3) := by decide +kernel
theorem d_X2_weigh_205 : decode cX2_weigh 205 = .ok (.iinc 15 1, 3) := by decide +kernel
theorem d_X2_weigh_208 : decode cX2_weigh 208 = .ok (.goto (-112), 3) := by decide +kernel
theorem d_X2_weigh_211 : decode cX2_weigh 211 = .ok (.aload_n 0, 1) := by decide +kernel
theorem d_X2_weigh_212 : decode cX2_weigh 212 = .ok (.getfield 29, 3) := by decide +kernel
theorem d_X2_weigh_215 : decode cX2_weigh 215 = .ok (.iload_n 3, 1) := by decide +kernel
theorem d_X2_weigh_216 : decode cX2_weigh 216 = .ok (.aload_n 0, 1) := by decide +kernel
theorem d_X2_weigh_217 : decode cX2_weigh 217 = .ok (.getfield 26, 3) := by decide +kernel
theorem d_X2_weigh_220 : decode cX2_weigh 220 = .ok (.imul, 1) := by decide +kernel
theorem d_X2_weigh_221 : decode cX2_weigh 221 = .ok (.iload 4, 2) := by decide +kernel
theorem d_X2_weigh_223 : decode cX2_weigh 223 = .ok (.iadd, 1) := by decide +kernel
theorem d_X2_weigh_224 : decode cX2_weigh 224 = .ok (.lload 13, 2) := by decide +kernel
theorem d_X2_weigh_226 : decode cX2_weigh 226 = .ok (.invokestatic 99, 3) := by decide +kernel
theorem d_X2_weigh_229 : decode cX2_weigh 229 = .ok (.return_, 1) := by decide +kernel
def j_X2_weigh_205_96 (p0 : Nat) (p3 : Int32) (p4 : Int32) (p5 : Int32) (p6 : Int64) (p8 : Int32) (p9 : Int64) (p11 : Int32) (p12 : Int32) (v13 : Int64) (v15 : Int32) (h : AH) : Option (((Int64 × Int32) ⊕ Int64) × AH) := some (.inl (v13, v15 + 1), h)
theorem tj_X2_weigh_205_96 {g : GP} {X : MX} {mcR msR : Nat} (hF : gF g = true) (hX : Cx g RX2 cX2_weigh 3 mcR msR none [] X) {Q : State → Prop} {p0 : Nat} {p3 : Int32} {p4 : Int32} {p5 : Int32} {p6 : Int64} {p8 : Int32} {p9 : Int64} {p11 : Int32} {p12 : Int32} {v13 : Int64} {v15 : Int32} (hl_0 : LAY p0 = (0, 2)) {d1 : Value} {d2 : Value} {d16 : Value} {d17 : Value} {d18 : Value} {d19 : Value} {d20 : Value} {d21 : Value} {h hz : AH} {z : ((Int64 × Int32) ⊕ Int64)} (e : j_X2_weigh_205_96 p0 p3 p4 p5 p6 p8 p9 p11 p12 v13 v15 h = some (z, hz)) (kI : ∀ (s2 : (Int64 × Int32)) (xd1 : Value) (xd2 : Value) (xd16 : Value) (xd17 : Value) (xd18 : Value) (xd19 : Value) (xd20 : Value) (xd21 : Value), z = .inl s2 → AR g X 0 0 Q hz 96 [.ref p0, xd1, xd2, .int p3, .int p4, .int p5, .long p6, jk, .int p8, .long p9, jk, .int p11, .int p12, .long s2.1, jk, .int s2.2, xd16, xd17, xd18, xd19, xd20, xd21] []) (kE0 : ∀ (yy : Int64) (y1 : Value) (y2 : Value) (y5 : Value) (y6 : Value) (y7 : Value) (y8 : Value) (y9 : Value) (y10 : Value) (y11 : Value) (y12 : Value) (y15 : Value) (y16 : Value) (y17 : Value) (y18 : Value) (y19 : Value) (y20 : Value) (y21 : Value), z = .inr yy → AR g X 0 0 Q hz 211 [.ref p0, y1, y2, .int p3, .int p4, y5, y6, y7, y8, y9, y10, y11, y12, .long yy, jk, y15, y16, y17, y18, y19, y20, y21] []) : AR g X 0 0 Q h 205 [.ref p0, d1, d2, .int p3, .int p4, .int p5, .long p6, jk, .int p8, .long p9, jk, .int p11, .int p12, .long v13, jk, .int v15, d16, d17, d18, d19, d20, d21] [] := by
  unfold j_X2_weigh_205_96 at e
  refine aw_iinc (i := 15) (lv2 := [.ref p0, d1, d2, .int p3, .int p4, .int p5, .long p6, jk, .int p8, .long p9, jk, .int p11, .int p12, .long v13, jk, .int (v15 + 1), d16, d17, d18, d19, d20, d21]) hX rfl rfl rfl rfl d_X2_weigh_205 ?_
  refine aw_goto (t := 96) hX (by decide) d_X2_weigh_208 ?_
  cases e
  exact kI (v13, v15 + 1) _ _ _ _ _ _ _ _ rfl
def l_X2_weigh_96 (p0 : Nat) (p3 : Int32) (p4 : Int32) (p5 : Int32) (p6 : Int64) (p8 : Int32) (p9 : Int64) (p11 : Int32) (p12 : Int32) (s : (Int64 × Int32)) (h : AH) : Option (((Int64 × Int32) ⊕ Int64) × AH) := if (16 + p3) < s.2 then some (.inr s.1, h) else bd (s_X9_atWide (some (p0 + 5)) (p11 + s.2) h) fun x4 => bd (s_X9_atWide (some (p0 + 5)) ((p12 + s.2) + 1) h) fun x5 => if (((p6 * ((if 0 < (1000 - (p8 * s.2)) then (1000 - (p8 * s.2)) else 0).toInt64)) - p9) + x5) ≤ x4 then j_X2_weigh_205_96 p0 p3 p4 p5 p6 p8 p9 p11 p12 s.1 s.2 h else bd (ldivF (((((p6 * ((if 0 < (1000 - (p8 * s.2)) then (1000 - (p8 * s.2)) else 0).toInt64)) - p9) + x5) - x4) * p5.toInt64) 1000000) fun x6 => bd (s_X9_putWide (some (p0 + 5)) (p11 + s.2) (x4 + x6) h) fun q7 => j_X2_weigh_205_96 p0 p3 p4 p5 p6 p8 p9 p11 p12 (s.1 ||| (lshlF 1 s.2)) s.2 q7.2
theorem tb_X2_weigh_96 {g : GP} {X : MX} {mcR msR : Nat} (hF : gF g = true) (hX : Cx g RX2 cX2_weigh 3 mcR msR none [] X) {Q : State → Prop} {p0 : Nat} {p3 : Int32} {p4 : Int32} {p5 : Int32} {p6 : Int64} {p8 : Int32} {p9 : Int64} {p11 : Int32} {p12 : Int32} {s : (Int64 × Int32)} (hl_0 : LAY p0 = (0, 2)) {d1 : Value} {d2 : Value} {d16 : Value} {d17 : Value} {d18 : Value} {d19 : Value} {d20 : Value} {d21 : Value} {h hz : AH} {z : ((Int64 × Int32) ⊕ Int64)} (e : l_X2_weigh_96 p0 p3 p4 p5 p6 p8 p9 p11 p12 s h = some (z, hz)) (kI : ∀ (s2 : (Int64 × Int32)) (xd1 : Value) (xd2 : Value) (xd16 : Value) (xd17 : Value) (xd18 : Value) (xd19 : Value) (xd20 : Value) (xd21 : Value), z = .inl s2 → AR g X 0 0 Q hz 96 [.ref p0, xd1, xd2, .int p3, .int p4, .int p5, .long p6, jk, .int p8, .long p9, jk, .int p11, .int p12, .long s2.1, jk, .int s2.2, xd16, xd17, xd18, xd19, xd20, xd21] []) (kE0 : ∀ (yy : Int64) (y1 : Value) (y2 : Value) (y5 : Value) (y6 : Value) (y7 : Value) (y8 : Value) (y9 : Value) (y10 : Value) (y11 : Value) (y12 : Value) (y15 : Value) (y16 : Value) (y17 : Value) (y18 : Value) (y19 : Value) (y20 : Value) (y21 : Value), z = .inr yy → AR g X 0 0 Q hz 211 [.ref p0, y1, y2, .int p3, .int p4, y5, y6, y7, y8, y9, y10, y11, y12, .long yy, jk, y15, y16, y17, y18, y19, y20, y21] []) : AR g X 0 0 Q h 96 [.ref p0, d1, d2, .int p3, .int p4, .int p5, .long p6, jk, .int p8, .long p9, jk, .int p11, .int p12, .long s.1, jk, .int s.2, d16, d17, d18, d19, d20, d21] [] := by
  unfold l_X2_weigh_96 at e
  refine aw_iload (i := 15) hX rfl d_X2_weigh_96 ?_
  refine aw_bipush (v := 16) hX (by decide) d_X2_weigh_98 ?_
  refine aw_iload_n (i := 3) hX rfl rfl d_X2_weigh_100 ?_
  refine aw_iadd hX d_X2_weigh_101 ?_
  refine aw_icmp_gt (t := 211) hX (by decide) d_X2_weigh_102 (fun c => ?_) (fun c => ?_)
  · rw [if_pos c] at e
    cases e
    exact kE0 s.1 _ _ _ _ _ _ _ _ _ _ _ _ _ _ _ _ _ rfl
  · rw [if_neg c] at e
    refine aw_aload_n (i := 0) hX rfl rfl d_X2_weigh_105 ?_
    refine ar_getF hX hF fg_RX2_32 (by assumption) d_X2_weigh_106 ?_
    refine aw_iload (i := 11) hX rfl d_X2_weigh_109 ?_
    refine aw_iload (i := 15) hX rfl d_X2_weigh_111 ?_
    refine aw_iadd hX d_X2_weigh_113 ?_
    obtain ⟨x4, f_61, e_61⟩ := bd_some e
    clear e
    refine aw_callSN (av := [.ref (p0 + 5), .int (p11 + s.2)]) (avr := [.int (p11 + s.2), .ref (p0 + 5)]) hX (k_X9_atWide (cx_g hX) hF f_61) mi_X9_atWide rfl rfl nx19 w_38 (by decide) (Nat.le_of_ble_eq_true rfl) (Nat.zero_le _) (Nat.zero_le _) d_X2_weigh_114 ?_
    refine aw_lstore (i := 16) (lv2 := [.ref p0, d1, d2, .int p3, .int p4, .int p5, .long p6, jk, .int p8, .long p9, jk, .int p11, .int p12, .long s.1, jk, .int s.2, .long x4, jk, d18, d19, d20, d21]) hX rfl rfl d_X2_weigh_117 ?_
    refine aw_lload (i := 6) hX rfl d_X2_weigh_119 ?_
    refine aw_iconst (v := 0) hX (by decide) d_X2_weigh_121 ?_
    refine aw_sipush (v := 1000) hX (by decide) d_X2_weigh_122 ?_
    refine aw_iload (i := 8) hX rfl d_X2_weigh_125 ?_
    refine aw_iload (i := 15) hX rfl d_X2_weigh_127 ?_
    refine aw_imul hX d_X2_weigh_129 ?_
    refine aw_isub hX d_X2_weigh_130 ?_
    refine ar_imax hX w_39 mth_imax (by decide) (Nat.le_of_ble_eq_true rfl) (Nat.zero_le _) (Nat.zero_le _) d_X2_weigh_131 ?_
    refine aw_i2l hX d_X2_weigh_134 ?_
    refine aw_lmul hX d_X2_weigh_135 ?_
    refine aw_lstore (i := 18) (lv2 := [.ref p0, d1, d2, .int p3, .int p4, .int p5, .long p6, jk, .int p8, .long p9, jk, .int p11, .int p12, .long s.1, jk, .int s.2, .long x4, jk, .long (p6 * ((if 0 < (1000 - (p8 * s.2)) then (1000 - (p8 * s.2)) else 0).toInt64)), jk, d20, d21]) hX rfl rfl d_X2_weigh_136 ?_
    refine aw_lload (i := 18) hX rfl d_X2_weigh_138 ?_
    refine aw_lload (i := 9) hX rfl d_X2_weigh_140 ?_
    refine aw_lsub hX d_X2_weigh_142 ?_
    refine aw_aload_n (i := 0) hX rfl rfl d_X2_weigh_143 ?_
    refine ar_getF hX hF fg_RX2_32 (by assumption) d_X2_weigh_144 ?_
    refine aw_iload (i := 12) hX rfl d_X2_weigh_147 ?_
    refine aw_iload (i := 15) hX rfl d_X2_weigh_149 ?_
    refine aw_iadd hX d_X2_weigh_151 ?_
    refine aw_iconst (v := 1) hX (by decide) d_X2_weigh_152 ?_
    refine aw_iadd hX d_X2_weigh_153 ?_
    obtain ⟨x5, f_62, e_62⟩ := bd_some e_61
    clear e_61
    refine aw_callSN (av := [.ref (p0 + 5), .int ((p12 + s.2) + 1)]) (avr := [.int ((p12 + s.2) + 1), .ref (p0 + 5)]) hX (k_X9_atWide (cx_g hX) hF f_62) mi_X9_atWide rfl rfl nx19 w_38 (by decide) (Nat.le_of_ble_eq_true rfl) (Nat.zero_le _) (Nat.zero_le _) d_X2_weigh_154 ?_
    refine aw_ladd hX d_X2_weigh_157 ?_
    refine aw_lstore (i := 20) (lv2 := [.ref p0, d1, d2, .int p3, .int p4, .int p5, .long p6, jk, .int p8, .long p9, jk, .int p11, .int p12, .long s.1, jk, .int s.2, .long x4, jk, .long (p6 * ((if 0 < (1000 - (p8 * s.2)) then (1000 - (p8 * s.2)) else 0).toInt64)), jk, .long (((p6 * ((if 0 < (1000 - (p8 * s.2)) then (1000 - (p8 * s.2)) else 0).toInt64)) - p9) + x5), jk]) hX rfl rfl d_X2_weigh_158 ?_
    refine aw_lload (i := 20) hX rfl d_X2_weigh_160 ?_
    refine aw_lload (i := 16) hX rfl d_X2_weigh_162 ?_
    refine aw_lcmp hX d_X2_weigh_164 ?_
    refine aw_if_le (t := 205) hX (by decide) d_X2_weigh_165 (fun c => ?_) (fun c => ?_)
    · replace c := lc_le.mp c
      rw [if_pos c] at e_62
      exact tj_X2_weigh_205_96 hF hX (by assumption) e_62 kI kE0
    · replace c := fun q => c (lc_le.mpr q)
      rw [if_neg c] at e_62
      refine aw_lload (i := 13) hX rfl d_X2_weigh_168 ?_
      refine aw_lconst (v := 1) hX (by decide) d_X2_weigh_170 ?_
      refine aw_iload (i := 15) hX rfl d_X2_weigh_171 ?_
      refine aw_lshl hX d_X2_weigh_173 ?_
      refine aw_lor hX d_X2_weigh_174 ?_
      refine aw_lstore (i := 13) (lv2 := [.ref p0, d1, d2, .int p3, .int p4, .int p5, .long p6, jk, .int p8, .long p9, jk, .int p11, .int p12, .long (s.1 ||| (lshlF 1 s.2)), jk, .int s.2, .long x4, jk, .long (p6 * ((if 0 < (1000 - (p8 * s.2)) then (1000 - (p8 * s.2)) else 0).toInt64)), jk, .long (((p6 * ((if 0 < (1000 - (p8 * s.2)) then (1000 - (p8 * s.2)) else 0).toInt64)) - p9) + x5), jk]) hX rfl rfl d_X2_weigh_175 ?_
      refine aw_aload_n (i := 0) hX rfl rfl d_X2_weigh_177 ?_
      refine ar_getF hX hF fg_RX2_32 (by assumption) d_X2_weigh_178 ?_
      refine aw_iload (i := 11) hX rfl d_X2_weigh_181 ?_
      refine aw_iload (i := 15) hX rfl d_X2_weigh_183 ?_
      refine aw_iadd hX d_X2_weigh_185 ?_
      refine aw_lload (i := 16) hX rfl d_X2_weigh_186 ?_
      refine aw_lload (i := 20) hX rfl d_X2_weigh_188 ?_
      refine aw_lload (i := 16) hX rfl d_X2_weigh_190 ?_
      refine aw_lsub hX d_X2_weigh_192 ?_
      refine aw_iload (i := 5) hX rfl d_X2_weigh_193 ?_
      refine aw_i2l hX d_X2_weigh_195 ?_
      refine aw_lmul hX d_X2_weigh_196 ?_
      refine aw_ldc2 hX w_40 d_X2_weigh_197 ?_
      obtain ⟨x6, f_63, e_63⟩ := bd_some e_62
      clear e_62
      refine ar_ldiv hX f_63 d_X2_weigh_200 ?_
      refine aw_ladd hX d_X2_weigh_201 ?_
      obtain ⟨q7, f_64, e_64⟩ := bd_some e_63
      clear e_63
      refine aw_callSN (av := [.ref (p0 + 5), .int (p11 + s.2), .long (x4 + x6)]) (avr := [.long (x4 + x6), .int (p11 + s.2), .ref (p0 + 5)]) hX (k_X9_putWide (cx_g hX) hF f_64) mi_X9_putWide rfl rfl nx20 w_42 (by decide) (Nat.le_of_ble_eq_true rfl) (Nat.zero_le _) (Nat.zero_le _) d_X2_weigh_202 ?_
      exact tj_X2_weigh_205_96 hF hX (by assumption) e_64 kI kE0
theorem ti_X2_weigh_96 {g : GP} {X : MX} {mcR msR : Nat} (hF : gF g = true) (hX : Cx g RX2 cX2_weigh 3 mcR msR none [] X) {Q : State → Prop} {p0 : Nat} {p3 : Int32} {p4 : Int32} {p5 : Int32} {p6 : Int64} {p8 : Int32} {p9 : Int64} {p11 : Int32} {p12 : Int32} (hl_0 : LAY p0 = (0, 2)) {y : Int64} {hz : AH} (kE0 : ∀ (y_1 : Value) (y_2 : Value) (y_5 : Value) (y_6 : Value) (y_7 : Value) (y_8 : Value) (y_9 : Value) (y_10 : Value) (y_11 : Value) (y_12 : Value) (y_15 : Value) (y_16 : Value) (y_17 : Value) (y_18 : Value) (y_19 : Value) (y_20 : Value) (y_21 : Value), AR g X 0 0 Q hz 211 [.ref p0, y_1, y_2, .int p3, .int p4, y_5, y_6, y_7, y_8, y_9, y_10, y_11, y_12, .long y, jk, y_15, y_16, y_17, y_18, y_19, y_20, y_21] []) (n : Nat) : ∀ (s : (Int64 × Int32)) (d1 : Value) (d2 : Value) (d16 : Value) (d17 : Value) (d18 : Value) (d19 : Value) (d20 : Value) (d21 : Value) (h : AH), lpH (l_X2_weigh_96 p0 p3 p4 p5 p6 p8 p9 p11 p12) n s h = some (y, hz) → AR g X 0 0 Q h 96 [.ref p0, d1, d2, .int p3, .int p4, .int p5, .long p6, jk, .int p8, .long p9, jk, .int p11, .int p12, .long s.1, jk, .int s.2, d16, d17, d18, d19, d20, d21] [] := by
  induction n with
  | zero => intro s d1 d2 d16 d17 d18 d19 d20 d21 h e; cases e
  | succ n ih =>
    intro s d1 d2 d16 d17 d18 d19 d20 d21 h e
    obtain ⟨x, h1, e1, e2⟩ := lpH_succ e
    rcases e2 with ⟨s2, rfl, e3⟩ | ⟨rfl, rfl⟩
    · exact tb_X2_weigh_96 hF hX hl_0 e1 (fun s3 x0 x1 x2 x3 x4 x5 x6 x7 hs => by cases hs; exact ih _ _ _ _ _ _ _ _ _ _ e3) (fun yy x0 x1 x2 x3 x4 x5 x6 x7 x8 x9 x10 x11 x12 x13 x14 x15 x16 hy => by cases hy)
    · exact tb_X2_weigh_96 hF hX hl_0 e1 (fun s3 x0 x1 x2 x3 x4 x5 x6 x7 hs => by cases hs) (fun yy x0 x1 x2 x3 x4 x5 x6 x7 x8 x9 x10 x11 x12 x13 x14 x15 x16 hy => by cases hy; exact kE0 x0 x1 x2 x3 x4 x5 x6 x7 x8 x9 x10 x11 x12 x13 x14 x15 x16)
theorem t_X2_weigh_96 {g : GP} {X : MX} {mcR msR : Nat} (hF : gF g = true) (hX : Cx g RX2 cX2_weigh 3 mcR msR none [] X) {Q : State → Prop} {p0 : Nat} {p3 : Int32} {p4 : Int32} {p5 : Int32} {p6 : Int64} {p8 : Int32} {p9 : Int64} {p11 : Int32} {p12 : Int32} (hl_0 : LAY p0 = (0, 2)) {s : (Int64 × Int32)} {d1 : Value} {d2 : Value} {d16 : Value} {d17 : Value} {d18 : Value} {d19 : Value} {d20 : Value} {d21 : Value} {h hz : AH} {n : Nat} {y : Int64} (e : lpH (l_X2_weigh_96 p0 p3 p4 p5 p6 p8 p9 p11 p12) n s h = some (y, hz)) (kE0 : ∀ (y_1 : Value) (y_2 : Value) (y_5 : Value) (y_6 : Value) (y_7 : Value) (y_8 : Value) (y_9 : Value) (y_10 : Value) (y_11 : Value) (y_12 : Value) (y_15 : Value) (y_16 : Value) (y_17 : Value) (y_18 : Value) (y_19 : Value) (y_20 : Value) (y_21 : Value), AR g X 0 0 Q hz 211 [.ref p0, y_1, y_2, .int p3, .int p4, y_5, y_6, y_7, y_8, y_9, y_10, y_11, y_12, .long y, jk, y_15, y_16, y_17, y_18, y_19, y_20, y_21] []) : AR g X 0 0 Q h 96 [.ref p0, d1, d2, .int p3, .int p4, .int p5, .long p6, jk, .int p8, .long p9, jk, .int p11, .int p12, .long s.1, jk, .int s.2, d16, d17, d18, d19, d20, d21] [] := ti_X2_weigh_96 hF hX hl_0 kE0 n _ _ _ _ _ _ _ _ _ _ e
def j_X2_weigh_88 (v0 : Nat) (v3 : Int32) (v4 : Int32) (v5 : Int32) (v6 : Int64) (v8 : Int32) (v9 : Int64) (v11 : Int32) (k0 : Int32) (h : AH) : Option (Unit × AH) := bd (lpH (l_X2_weigh_96 v0 v3 v4 v5 v6 v8 v9 v11 k0) FU (0, 0) h) fun y8 => bd (s_X9_putWide (some (v0 + 4)) ((v3 * (gI y8.2 v0 1)) + v4) y8.1 y8.2) fun q10 => some ((), q10.2)
theorem tj_X2_weigh_88 {g : GP} {X : MX} {mcR msR : Nat} (hF : gF g = true) (hX : Cx g RX2 cX2_weigh 3 mcR msR none [] X) {v0 : Nat} {v3 : Int32} {v4 : Int32} {v5 : Int32} {v6 : Int64} {v8 : Int32} {v9 : Int64} {v11 : Int32} {k0 : Int32} (hl_0 : LAY v0 = (0, 2)) {d1 : Value} {d2 : Value} {d12 : Value} {d13 : Value} {d14 : Value} {d15 : Value} {d16 : Value} {d17 : Value} {d18 : Value} {d19 : Value} {d20 : Value} {d21 : Value} {h hz : AH} {z : Unit} (e : j_X2_weigh_88 v0 v3 v4 v5 v6 v8 v9 v11 k0 h = some (z, hz)) : AR g X 0 0 (QQ g X NT false hz (.inl none) 0 0) h 88 [.ref v0, d1, d2, .int v3, .int v4, .int v5, .long v6, jk, .int v8, .long v9, jk, .int v11, d12, d13, d14, d15, d16, d17, d18, d19, d20, d21] [.int k0] := by
  unfold j_X2_weigh_88 at e
  refine aw_istore (i := 12) (lv2 := [.ref v0, d1, d2, .int v3, .int v4, .int v5, .long v6, jk, .int v8, .long v9, jk, .int v11, .int k0, d13, d14, d15, d16, d17, d18, d19, d20, d21]) hX rfl rfl d_X2_weigh_88 ?_
  refine aw_lconst (v := 0) hX (by decide) d_X2_weigh_90 ?_
  refine aw_lstore (i := 13) (lv2 := [.ref v0, d1, d2, .int v3, .int v4, .int v5, .long v6, jk, .int v8, .long v9, jk, .int v11, .int k0, .long 0, jk, d15, d16, d17, d18, d19, d20, d21]) hX rfl rfl d_X2_weigh_91 ?_
  refine aw_iconst (v := 0) hX (by decide) d_X2_weigh_93 ?_
  refine aw_istore (i := 15) (lv2 := [.ref v0, d1, d2, .int v3, .int v4, .int v5, .long v6, jk, .int v8, .long v9, jk, .int v11, .int k0, .long 0, jk, .int 0, d16, d17, d18, d19, d20, d21]) hX rfl rfl d_X2_weigh_94 ?_
  obtain ⟨y8, f_65, e_65⟩ := bd_some e
  clear e
  refine t_X2_weigh_96 hF hX (by assumption) f_65 (fun d9_1 d9_2 d9_5 d9_6 d9_7 d9_8 d9_9 d9_10 d9_11 d9_12 d9_15 d9_16 d9_17 d9_18 d9_19 d9_20 d9_21 => ?_)
  refine aw_aload_n (i := 0) hX rfl rfl d_X2_weigh_211 ?_
  refine ar_getF hX hF fg_RX2_29 (by assumption) d_X2_weigh_212 ?_
  refine aw_iload_n (i := 3) hX rfl rfl d_X2_weigh_215 ?_
  refine aw_aload_n (i := 0) hX rfl rfl d_X2_weigh_216 ?_
  refine ar_getI hX fg_RX2_26 (by assumption) d_X2_weigh_217 ?_
  refine aw_imul hX d_X2_weigh_220 ?_
  refine aw_iload (i := 4) hX rfl d_X2_weigh_221 ?_
  refine aw_iadd hX d_X2_weigh_223 ?_
  refine aw_lload (i := 13) hX rfl d_X2_weigh_224 ?_
  obtain ⟨q10, f_66, e_66⟩ := bd_some e_65
  clear e_65
  refine aw_callSN (av := [.ref (v0 + 4), .int ((v3 * (gI y8.2 v0 1)) + v4), .long y8.1]) (avr := [.long y8.1, .int ((v3 * (gI y8.2 v0 1)) + v4), .ref (v0 + 4)]) hX (k_X9_putWide (cx_g hX) hF f_66) mi_X9_putWide rfl rfl nx20 w_42 (by decide) (Nat.le_of_ble_eq_true rfl) (Nat.zero_le _) (Nat.zero_le _) d_X2_weigh_226 ?_
  cases e_66
  exact aw_return hX (Nat.zero_le _) (Nat.zero_le _) d_X2_weigh_229
def j_X2_weigh_61 (v0 : Nat) (v3 : Int32) (v4 : Int32) (v5 : Int32) (v6 : Int64) (v8 : Int32) (k0 : Int64) (h : AH) : Option (Unit × AH) := if (gI h v0 0) = 2 then j_X2_weigh_88 v0 v3 v4 v5 v6 v8 k0 (v4 * 33) ((v4 * 33) - 33) h else j_X2_weigh_88 v0 v3 v4 v5 v6 v8 k0 (v4 * 33) (v4 * 33) h
theorem tj_X2_weigh_61 {g : GP} {X : MX} {mcR msR : Nat} (hF : gF g = true) (hX : Cx g RX2 cX2_weigh 3 mcR msR none [] X) {v0 : Nat} {v3 : Int32} {v4 : Int32} {v5 : Int32} {v6 : Int64} {v8 : Int32} {k0 : Int64} (hl_0 : LAY v0 = (0, 2)) {d1 : Value} {d2 : Value} {d9 : Value} {d10 : Value} {d11 : Value} {d12 : Value} {d13 : Value} {d14 : Value} {d15 : Value} {d16 : Value} {d17 : Value} {d18 : Value} {d19 : Value} {d20 : Value} {d21 : Value} {h hz : AH} {z : Unit} (e : j_X2_weigh_61 v0 v3 v4 v5 v6 v8 k0 h = some (z, hz)) : AR g X 0 0 (QQ g X NT false hz (.inl none) 0 0) h 61 [.ref v0, d1, d2, .int v3, .int v4, .int v5, .long v6, jk, .int v8, d9, d10, d11, d12, d13, d14, d15, d16, d17, d18, d19, d20, d21] [.long k0] := by
  unfold j_X2_weigh_61 at e
  refine aw_lstore (i := 9) (lv2 := [.ref v0, d1, d2, .int v3, .int v4, .int v5, .long v6, jk, .int v8, .long k0, jk, d11, d12, d13, d14, d15, d16, d17, d18, d19, d20, d21]) hX rfl rfl d_X2_weigh_61 ?_
  refine aw_iload (i := 4) hX rfl d_X2_weigh_63 ?_
  refine aw_bipush (v := 33) hX (by decide) d_X2_weigh_65 ?_
  refine aw_imul hX d_X2_weigh_67 ?_
  refine aw_istore (i := 11) (lv2 := [.ref v0, d1, d2, .int v3, .int v4, .int v5, .long v6, jk, .int v8, .long k0, jk, .int (v4 * 33), d12, d13, d14, d15, d16, d17, d18, d19, d20, d21]) hX rfl rfl d_X2_weigh_68 ?_
  refine aw_aload_n (i := 0) hX rfl rfl d_X2_weigh_70 ?_
  refine ar_getI hX fg_RX2_22 (by assumption) d_X2_weigh_71 ?_
  refine aw_iconst (v := 2) hX (by decide) d_X2_weigh_74 ?_
  refine aw_icmp_ne (t := 86) hX (by decide) d_X2_weigh_75 (fun c => ?_) (fun c => ?_)
  · rw [if_neg c] at e
    refine aw_iload (i := 11) hX rfl d_X2_weigh_86 ?_
    exact tj_X2_weigh_88 hF hX (by assumption) e
  · rw [if_pos c] at e
    refine aw_iload (i := 11) hX rfl d_X2_weigh_78 ?_
    refine aw_bipush (v := 33) hX (by decide) d_X2_weigh_80 ?_
    refine aw_isub hX d_X2_weigh_82 ?_
    refine aw_goto (t := 88) hX (by decide) d_X2_weigh_83 ?_
    exact tj_X2_weigh_88 hF hX (by assumption) e
def j_X2_weigh_14 (v0 : Nat) (v1 : Nat) (v2 : Int32) (v3 : Int32) (v4 : Int32) (v5 : Int32) (h : AH) : Option (Unit × AH) := bd (s_X8_ofEvening v1 v3 0 h) fun x1 => bd (s_X8_ofKind v1 v2 (6 + x1) h) fun x2 => bd (s_X8_ofKind v1 v2 5 h) fun x3 => if (gI h v0 0) = 0 then bd (s_X8_ofEvening v1 v3 1 h) fun x11 => j_X2_weigh_61 v0 v3 v4 v5 x2.toInt64 x3 (1000 * x11.toInt64) h else j_X2_weigh_61 v0 v3 v4 v5 x2.toInt64 x3 0 h
theorem tj_X2_weigh_14 {g : GP} {X : MX} {mcR msR : Nat} (hF : gF g = true) (hX : Cx g RX2 cX2_weigh 3 mcR msR none [] X) {v0 : Nat} {v1 : Nat} {v2 : Int32} {v3 : Int32} {v4 : Int32} {v5 : Int32} (hl_0 : LAY v0 = (0, 2)) (hl_1 : LAY v1 = (0, 8)) {d6 : Value} {d7 : Value} {d8 : Value} {d9 : Value} {d10 : Value} {d11 : Value} {d12 : Value} {d13 : Value} {d14 : Value} {d15 : Value} {d16 : Value} {d17 : Value} {d18 : Value} {d19 : Value} {d20 : Value} {d21 : Value} {h hz : AH} {z : Unit} (e : j_X2_weigh_14 v0 v1 v2 v3 v4 v5 h = some (z, hz)) : AR g X 0 0 (QQ g X NT false hz (.inl none) 0 0) h 14 [.ref v0, .ref v1, .int v2, .int v3, .int v4, .int v5, d6, d7, d8, d9, d10, d11, d12, d13, d14, d15, d16, d17, d18, d19, d20, d21] [] := by
  unfold j_X2_weigh_14 at e
  refine aw_aload_n (i := 1) hX rfl rfl d_X2_weigh_14 ?_
  refine aw_iload_n (i := 2) hX rfl rfl d_X2_weigh_15 ?_
  refine aw_bipush (v := 6) hX (by decide) d_X2_weigh_16 ?_
  refine aw_aload_n (i := 1) hX rfl rfl d_X2_weigh_18 ?_
  refine aw_iload_n (i := 3) hX rfl rfl d_X2_weigh_19 ?_
  refine aw_iconst (v := 0) hX (by decide) d_X2_weigh_20 ?_
  obtain ⟨x1, f_67, e_67⟩ := bd_some e
  clear e
  refine aw_callV (b := v1) (av := [.int v3, .int 0]) (avr := [.int 0, .int v3]) hX (k_X8_ofEvening (cx_g hX) hF f_67) mi_X8_ofEvening rfl rfl w_32 w_33 w_34 (by decide) (by assumption) (LAY_lt (by assumption) (by decide)) rfl rfl (Nat.le_of_ble_eq_true rfl) (Nat.zero_le _) (Nat.zero_le _) d_X2_weigh_21 ?_
  refine aw_iadd hX d_X2_weigh_24 ?_
  obtain ⟨x2, f_68, e_68⟩ := bd_some e_67
  clear e_67
  refine aw_callV (b := v1) (av := [.int v2, .int (6 + x1)]) (avr := [.int (6 + x1), .int v2]) hX (k_X8_ofKind (cx_g hX) hF f_68) mi_X8_ofKind rfl rfl w_35 w_10 w_11 (by decide) (by assumption) (LAY_lt (by assumption) (by decide)) rfl rfl (Nat.le_of_ble_eq_true rfl) (Nat.zero_le _) (Nat.zero_le _) d_X2_weigh_25 ?_
  refine aw_i2l hX d_X2_weigh_28 ?_
  refine aw_lstore (i := 6) (lv2 := [.ref v0, .ref v1, .int v2, .int v3, .int v4, .int v5, .long x2.toInt64, jk, d8, d9, d10, d11, d12, d13, d14, d15, d16, d17, d18, d19, d20, d21]) hX rfl rfl d_X2_weigh_29 ?_
  refine aw_aload_n (i := 1) hX rfl rfl d_X2_weigh_31 ?_
  refine aw_iload_n (i := 2) hX rfl rfl d_X2_weigh_32 ?_
  refine aw_iconst (v := 5) hX (by decide) d_X2_weigh_33 ?_
  obtain ⟨x3, f_69, e_69⟩ := bd_some e_68
  clear e_68
  refine aw_callV (b := v1) (av := [.int v2, .int 5]) (avr := [.int 5, .int v2]) hX (k_X8_ofKind (cx_g hX) hF f_69) mi_X8_ofKind rfl rfl w_35 w_10 w_11 (by decide) (by assumption) (LAY_lt (by assumption) (by decide)) rfl rfl (Nat.le_of_ble_eq_true rfl) (Nat.zero_le _) (Nat.zero_le _) d_X2_weigh_34 ?_
  refine aw_istore (i := 8) (lv2 := [.ref v0, .ref v1, .int v2, .int v3, .int v4, .int v5, .long x2.toInt64, jk, .int x3, d9, d10, d11, d12, d13, d14, d15, d16, d17, d18, d19, d20, d21]) hX rfl rfl d_X2_weigh_37 ?_
  refine aw_aload_n (i := 0) hX rfl rfl d_X2_weigh_39 ?_
  refine ar_getI hX fg_RX2_22 (by assumption) d_X2_weigh_40 ?_
  refine aw_if_ne (t := 60) hX (by decide) d_X2_weigh_43 (fun c => ?_) (fun c => ?_)
  · rw [if_neg c] at e_69
    refine aw_lconst (v := 0) hX (by decide) d_X2_weigh_60 ?_
    exact tj_X2_weigh_61 hF hX (by assumption) e_69
  · rw [if_pos c] at e_69
    refine aw_ldc2 hX w_45 d_X2_weigh_46 ?_
    refine aw_aload_n (i := 1) hX rfl rfl d_X2_weigh_49 ?_
    refine aw_iload_n (i := 3) hX rfl rfl d_X2_weigh_50 ?_
    refine aw_iconst (v := 1) hX (by decide) d_X2_weigh_51 ?_
    obtain ⟨x11, f_70, e_70⟩ := bd_some e_69
    clear e_69
    refine aw_callV (b := v1) (av := [.int v3, .int 1]) (avr := [.int 1, .int v3]) hX (k_X8_ofEvening (cx_g hX) hF f_70) mi_X8_ofEvening rfl rfl w_32 w_33 w_34 (by decide) (by assumption) (LAY_lt (by assumption) (by decide)) rfl rfl (Nat.le_of_ble_eq_true rfl) (Nat.zero_le _) (Nat.zero_le _) d_X2_weigh_52 ?_
    refine aw_i2l hX d_X2_weigh_55 ?_
    refine aw_lmul hX d_X2_weigh_56 ?_
    refine aw_goto (t := 61) hX (by decide) d_X2_weigh_57 ?_
    exact tj_X2_weigh_61 hF hX (by assumption) e_70
def s_X2_weigh (th : Nat) (a0 : Option Nat) (a1 : Int32) (a2 : Int32) (a3 : Int32) (a4 : Int32) (h : AH) : Option (Unit × AH) := if LAY th = (0, 2) then bd a0 fun oa0 => if LAY oa0 = (0, 8) then if (gI h th 0) = 2 then if a3 = 0 then some ((), h) else j_X2_weigh_14 th oa0 a1 a2 a3 a4 h else j_X2_weigh_14 th oa0 a1 a2 a3 a4 h else none else none
theorem t_X2_weigh {g : GP} {X : MX} {mcR msR : Nat} (hF : gF g = true) (hX : Cx g RX2 cX2_weigh 3 mcR msR none [] X) {th : Nat} {a0 : Option Nat} {a1 : Int32} {a2 : Int32} {a3 : Int32} {a4 : Int32} {h hz : AH} {z : Unit} (e : s_X2_weigh th a0 a1 a2 a3 a4 h = some (z, hz)) : AR g X 0 0 (QQ g X NT false hz (.inl none) 0 0) h 0 [.ref th, rfV a0, .int a1, .int a2, .int a3, .int a4, jk, jk, jk, jk, jk, jk, jk, jk, jk, jk, jk, jk, jk, jk, jk, jk] [] := by
  unfold s_X2_weigh at e
  obtain ⟨hl_this, e_71⟩ := if_some e
  clear e
  obtain ⟨oa0, e0, e_72⟩ := bd_some e_71
  clear e_71
  subst e0
  obtain ⟨hl_a0, e_73⟩ := if_some e_72
  clear e_72
  refine aw_aload_n (i := 0) hX rfl rfl d_X2_weigh_0 ?_
  refine ar_getI hX fg_RX2_22 (by assumption) d_X2_weigh_1 ?_
  refine aw_iconst (v := 2) hX (by decide) d_X2_weigh_4 ?_
  refine aw_icmp_ne (t := 14) hX (by decide) d_X2_weigh_5 (fun c => ?_) (fun c => ?_)
  · rw [if_neg c] at e_73
    exact tj_X2_weigh_14 hF hX (by assumption) (by assumption) e_73
  · rw [if_pos c] at e_73
    refine aw_iload (i := 4) hX rfl d_X2_weigh_8 ?_
    refine aw_if_ne (t := 14) hX (by decide) d_X2_weigh_10 (fun c => ?_) (fun c => ?_)
    · rw [if_neg c] at e_73
      exact tj_X2_weigh_14 hF hX (by assumption) (by assumption) e_73
    · rw [if_pos c] at e_73
      cases e_73
      exact aw_return hX (Nat.zero_le _) (Nat.zero_le _) d_X2_weigh_13
theorem k_X2_weigh {g : GP} (hg : g.1.stackTraces = false) (hF : gF g = true) {th : Nat} {a0 : Option Nat} {a1 : Int32} {a2 : Int32} {a3 : Int32} {a4 : Int32} {h hz : AH} {z : Unit} (e : s_X2_weigh th a0 a1 a2 a3 a4 h = some (z, hz)) : Ctr g yX2_weigh (wsY yX2_weigh cX2_weigh 22 none) 3 0 0 [.ref th, rfV a0, .int a1, .int a2, .int a3, .int a4] NT false h none NT false hz := ctr_of (lv0 := [.ref th, rfV a0, .int a1, .int a2, .int a3, .int a4, jk, jk, jk, jk, jk, jk, jk, jk, jk, jk, jk, jk, jk, jk, jk, jk]) (by cases a0 <;> rfl) (by cases a0 <;> rfl) (by decide) hg trivial (fun X hX hn => t_X2_weigh hF hX e)
theorem d_X2_make_0 : decode cX2_make 0 = .ok (.aload_n 0, 1) := by decide +kernel
theorem d_X2_make_1 : decode cX2_make 1 = .ok (.aload_n 1, 1) := by decide +kernel
theorem d_X2_make_2 : decode cX2_make 2 = .ok (.getfield 59, 3) := by decide +kernel
theorem d_X2_make_5 : decode cX2_make 5 = .ok (.putfield 56, 3) := by decide +kernel
theorem d_X2_make_8 : decode cX2_make 8 = .ok (.aload_n 0, 1) := by decide +kernel
theorem d_X2_make_9 : decode cX2_make 9 = .ok (.getfield 32, 3) := by decide +kernel
theorem d_X2_make_12 : decode cX2_make 12 = .ok (.lconst 0, 1) := by decide +kernel
theorem d_X2_make_13 : decode cX2_make 13 = .ok (.invokestatic 64, 3) := by decide +kernel
theorem d_X2_make_16 : decode cX2_make 16 = .ok (.aload_n 0, 1) := by decide +kernel
theorem d_X2_make_17 : decode cX2_make 17 = .ok (.getfield 29, 3) := by decide +kernel
theorem d_X2_make_20 : decode cX2_make 20 = .ok (.lconst 0, 1) := by decide +kernel
theorem d_X2_make_21 : decode cX2_make 21 = .ok (.invokestatic 64, 3) := by decide +kernel
theorem d_X2_make_24 : decode cX2_make 24 = .ok (.aload_n 1, 1) := by decide +kernel
theorem d_X2_make_25 : decode cX2_make 25 = .ok (.getfield 68, 3) := by decide +kernel
theorem d_X2_make_28 : decode cX2_make 28 = .ok (.iconst 1, 1) := by decide +kernel
theorem d_X2_make_29 : decode cX2_make 29 = .ok (.isub, 1) := by decide +kernel
theorem d_X2_make_30 : decode cX2_make 30 = .ok (.istore 5, 2) := by decide +kernel
theorem d_X2_make_32 : decode cX2_make 32 = .ok (.iload 5, 2) := by decide +kernel
theorem d_X2_make_34 : decode cX2_make 34 = .ok (.ifCond .lt 81, 3) := by decide +kernel
theorem d_X2_make_37 : decode cX2_make 37 = .ok (.aload_n 0, 1) := by decide +kernel
theorem d_X2_make_38 : decode cX2_make 38 = .ok (.getfield 22, 3) := by decide +kernel
theorem d_X2_make_41 : decode cX2_make 41 = .ok (.iconst 3, 1) := by decide +kernel
theorem d_X2_make_42 : decode cX2_make 42 = .ok (.if_icmp .ne 14, 3) := by decide +kernel
theorem d_X2_make_45 : decode cX2_make 45 = .ok (.aload 4, 2) := by decide +kernel
theorem d_X2_make_47 : decode cX2_make 47 = .ok (.iload 5, 2) := by decide +kernel
theorem d_X2_make_49 : decode cX2_make 49 = .ok (.invokestatic 48, 3) := by decide +kernel
theorem d_X2_make_52 : decode cX2_make 52 = .ok (.iconst 1, 1) := by decide +kernel
theorem d_X2_make_53 : decode cX2_make 53 = .ok (.if_icmp .ne 7, 3) := by decide +kernel
theorem d_X2_make_56 : decode cX2_make 56 = .ok (.iconst 1, 1) := by decide +kernel
theorem d_X2_make_57 : decode cX2_make 57 = .ok (.goto 4, 3) := by decide +kernel
theorem d_X2_make_60 : decode cX2_make 60 = .ok (.iconst 0, 1) := by decide +kernel
theorem d_X2_make_61 : decode cX2_make 61 = .ok (.istore 6, 2) := by decide +kernel
theorem d_X2_make_63 : decode cX2_make 63 = .ok (.aload_n 1, 1) := by decide +kernel
theorem d_X2_make_64 : decode cX2_make 64 = .ok (.iload_n 2, 1) := by decide +kernel
theorem d_X2_make_65 : decode cX2_make 65 = .ok (.iload 5, 2) := by decide +kernel
theorem d_X2_make_67 : decode cX2_make 67 = .ok (.iload_n 3, 1) := by decide +kernel
theorem d_X2_make_68 : decode cX2_make 68 = .ok (.invokevirtual 71, 3) := by decide +kernel
theorem d_X2_make_71 : decode cX2_make 71 = .ok (.istore 7, 2) := by decide +kernel
theorem d_X2_make_73 : decode cX2_make 73 = .ok (.aload_n 0, 1) := by decide +kernel
theorem d_X2_make_74 : decode cX2_make 74 = .ok (.getfield 26, 3) := by decide +kernel
theorem d_X2_make_77 : decode cX2_make 77 = .ok (.iconst 1, 1) := by decide +kernel
theorem d_X2_make_78 : decode cX2_make 78 = .ok (.isub, 1) := by decide +kernel
theorem d_X2_make_79 : decode cX2_make 79 = .ok (.istore 8, 2) := by decide +kernel
theorem d_X2_make_81 : decode cX2_make 81 = .ok (.iload 8, 2) := by decide +kernel
theorem d_X2_make_83 : decode cX2_make 83 = .ok (.ifCond .lt 26, 3) := by decide +kernel
theorem d_X2_make_86 : decode cX2_make 86 = .ok (.iload 6, 2) := by decide +kernel
theorem d_X2_make_88 : decode cX2_make 88 = .ok (.ifCond .eq 21, 3) := by decide +kernel
theorem d_X2_make_91 : decode cX2_make 91 = .ok (.aload_n 0, 1) := by decide +kernel
theorem d_X2_make_92 : decode cX2_make 92 = .ok (.aload_n 1, 1) := by decide +kernel
theorem d_X2_make_93 : decode cX2_make 93 = .ok (.iload_n 2, 1) := by decide +kernel
theorem d_X2_make_94 : decode cX2_make 94 = .ok (.iload 5, 2) := by decide +kernel
theorem d_X2_make_96 : decode cX2_make 96 = .ok (.iload 8, 2) := by decide +kernel
theorem d_X2_make_98 : decode cX2_make 98 = .ok (.iload 7, 2) := by decide +kernel
theorem d_X2_make_100 : decode cX2_make 100 = .ok (.invokevirtual 75, 3) := by decide +kernel
theorem d_X2_make_103 : decode cX2_make 103 = .ok (.iinc 8 (-1), 3) := by decide +kernel
theorem d_X2_make_106 : decode cX2_make 106 = .ok (.goto (-25), 3) := by decide +kernel
theorem d_X2_make_109 : decode cX2_make 109 = .ok (.iinc 5 (-1), 3) := by decide +kernel
theorem d_X2_make_112 : decode cX2_make 112 = .ok (.goto (-80), 3) := by decide +kernel
theorem d_X2_make_115 : decode cX2_make 115 = .ok (.aload_n 0, 1) := by decide +kernel
theorem d_X2_make_116 : decode cX2_make 116 = .ok (.aload_n 0, 1) := by decide +kernel
theorem d_X2_make_117 : decode cX2_make 117 = .ok (.getfield 32, 3) := by decide +kernel
theorem d_X2_make_120 : decode cX2_make 120 = .ok (.aload_n 0, 1) := by decide +kernel
theorem d_X2_make_121 : decode cX2_make 121 = .ok (.iconst 0, 1) := by decide +kernel
theorem d_X2_make_122 : decode cX2_make 122 = .ok (.invokevirtual 79, 3) := by decide +kernel
theorem d_X2_make_125 : decode cX2_make 125 = .ok (.bipush 33, 2) := by decide +kernel
theorem d_X2_make_127 : decode cX2_make 127 = .ok (.imul, 1) := by decide +kernel
theorem d_X2_make_128 : decode cX2_make 128 = .ok (.invokestatic 52, 3) := by decide +kernel
theorem d_X2_make_131 : decode cX2_make 131 = .ok (.putfield 35, 3) := by decide +kernel
theorem d_X2_make_134 : decode cX2_make 134 = .ok (.return_, 1) := by decide +kernel
def l_X2_make_81 (p0 : Nat) (p1 : Nat) (p2 : Int32) (p3 : Int32) (p4 : Option Nat) (p5 : Int32) (p6 : Int32) (p7 : Int32) (s : Int32) (h : AH) : Option ((Int32 ⊕ Unit) × AH) := if s < 0 then some (.inr (), h) else if p6 = 0 then some (.inr (), h) else bd (s_X2_weigh p0 (some p1) p2 p5 s p7 h) fun q4 => some (.inl (s + (-1)), q4.2)
theorem tb_X2_make_81 {g : GP} {X : MX} {mcR msR : Nat} (hF : gF g = true) (hX : Cx g RX2 cX2_make 4 mcR msR none [] X) {Q : State → Prop} {p0 : Nat} {p1 : Nat} {p2 : Int32} {p3 : Int32} {p4 : Option Nat} {p5 : Int32} {p6 : Int32} {p7 : Int32} {s : Int32} (hl_0 : LAY p0 = (0, 2)) (hl_1 : LAY p1 = (0, 8)) {h hz : AH} {z : (Int32 ⊕ Unit)} (e : l_X2_make_81 p0 p1 p2 p3 p4 p5 p6 p7 s h = some (z, hz)) (kI : ∀ (s2 : Int32), z = .inl s2 → AR g X 0 0 Q hz 81 [.ref p0, .ref p1, .int p2, .int p3, rfV p4, .int p5, .int p6, .int p7, .int s2] []) (kE0 : ∀ (yy : Unit) (y6 : Value) (y7 : Value) (y8 : Value), z = .inr yy → AR g X 0 0 Q hz 109 [.ref p0, .ref p1, .int p2, .int p3, rfV p4, .int p5, y6, y7, y8] []) : AR g X 0 0 Q h 81 [.ref p0, .ref p1, .int p2, .int p3, rfV p4, .int p5, .int p6, .int p7, .int s] [] := by
  unfold l_X2_make_81 at e
  refine aw_iload (i := 8) hX rfl d_X2_make_81 ?_
  refine aw_if_lt (t := 109) hX (by decide) d_X2_make_83 (fun c => ?_) (fun c => ?_)
  · rw [if_pos c] at e
    cases e
    exact kE0 () _ _ _ rfl
  · rw [if_neg c] at e
    refine aw_iload (i := 6) hX rfl d_X2_make_86 ?_
    refine aw_if_eq (t := 109) hX (by decide) d_X2_make_88 (fun c => ?_) (fun c => ?_)
    · rw [if_pos c] at e
      cases e
      exact kE0 () _ _ _ rfl
    · rw [if_neg c] at e
      refine aw_aload_n (i := 0) hX rfl rfl d_X2_make_91 ?_
      refine aw_aload_n (i := 1) hX rfl rfl d_X2_make_92 ?_
      refine aw_iload_n (i := 2) hX rfl rfl d_X2_make_93 ?_
      refine aw_iload (i := 5) hX rfl d_X2_make_94 ?_
      refine aw_iload (i := 8) hX rfl d_X2_make_96 ?_
      refine aw_iload (i := 7) hX rfl d_X2_make_98 ?_
      obtain ⟨q4, f_79, e_79⟩ := bd_some e
      clear e
      refine aw_callV (b := p0) (av := [.ref p1, .int p2, .int p5, .int s, .int p7]) (avr := [.int p7, .int s, .int p5, .int p2, .ref p1]) hX (k_X2_weigh (cx_g hX) hF f_79) mi_X2_weigh rfl rfl w_58 w_59 w_60 (by decide) (by assumption) (LAY_lt (by assumption) (by decide)) rfl rfl (Nat.le_of_ble_eq_true rfl) (Nat.zero_le _) (Nat.zero_le _) d_X2_make_100 ?_
      refine aw_iinc (i := 8) (lv2 := [.ref p0, .ref p1, .int p2, .int p3, rfV p4, .int p5, .int p6, .int p7, .int (s + (-1))]) hX rfl (iz (b := (-1)) (by decide)) rfl rfl d_X2_make_103 ?_
      refine aw_goto (t := 81) hX (by decide) d_X2_make_106 ?_
      cases e_79
      exact kI (s + (-1))  rfl
theorem ti_X2_make_81 {g : GP} {X : MX} {mcR msR : Nat} (hF : gF g = true) (hX : Cx g RX2 cX2_make 4 mcR msR none [] X) {Q : State → Prop} {p0 : Nat} {p1 : Nat} {p2 : Int32} {p3 : Int32} {p4 : Option Nat} {p5 : Int32} {p6 : Int32} {p7 : Int32} (hl_0 : LAY p0 = (0, 2)) (hl_1 : LAY p1 = (0, 8)) {y : Unit} {hz : AH} (kE0 : ∀ (y_6 : Value) (y_7 : Value) (y_8 : Value), AR g X 0 0 Q hz 109 [.ref p0, .ref p1, .int p2, .int p3, rfV p4, .int p5, y_6, y_7, y_8] []) (n : Nat) : ∀ (s : Int32) (h : AH), lpH (l_X2_make_81 p0 p1 p2 p3 p4 p5 p6 p7) n s h = some (y, hz) → AR g X 0 0 Q h 81 [.ref p0, .ref p1, .int p2, .int p3, rfV p4, .int p5, .int p6, .int p7, .int s] [] := by
  induction n with
  | zero => intro s h e; cases e
  | succ n ih =>
    intro s h e
    obtain ⟨x, h1, e1, e2⟩ := lpH_succ e
    rcases e2 with ⟨s2, rfl, e3⟩ | ⟨rfl, rfl⟩
    · exact tb_X2_make_81 hF hX hl_0 hl_1 e1 (fun s3  hs => by cases hs; exact ih _  _ e3) (fun yy x0 x1 x2 hy => by cases hy)
    · exact tb_X2_make_81 hF hX hl_0 hl_1 e1 (fun s3  hs => by cases hs) (fun yy x0 x1 x2 hy => by cases hy; exact kE0 x0 x1 x2)
theorem t_X2_make_81 {g : GP} {X : MX} {mcR msR : Nat} (hF : gF g = true) (hX : Cx g RX2 cX2_make 4 mcR msR none [] X) {Q : State → Prop} {p0 : Nat} {p1 : Nat} {p2 : Int32} {p3 : Int32} {p4 : Option Nat} {p5 : Int32} {p6 : Int32} {p7 : Int32} (hl_0 : LAY p0 = (0, 2)) (hl_1 : LAY p1 = (0, 8)) {s : Int32} {h hz : AH} {n : Nat} {y : Unit} (e : lpH (l_X2_make_81 p0 p1 p2 p3 p4 p5 p6 p7) n s h = some (y, hz)) (kE0 : ∀ (y_6 : Value) (y_7 : Value) (y_8 : Value), AR g X 0 0 Q hz 109 [.ref p0, .ref p1, .int p2, .int p3, rfV p4, .int p5, y_6, y_7, y_8] []) : AR g X 0 0 Q h 81 [.ref p0, .ref p1, .int p2, .int p3, rfV p4, .int p5, .int p6, .int p7, .int s] [] := ti_X2_make_81 hF hX hl_0 hl_1 kE0 n _  _ e
def j_X2_make_109_32 (p0 : Nat) (p1 : Nat) (p2 : Int32) (p3 : Int32) (p4 : Option Nat) (v5 : Int32) (h : AH) : Option ((Int32 ⊕ Unit) × AH) := some (.inl (v5 + (-1)), h)
theorem tj_X2_make_109_32 {g : GP} {X : MX} {mcR msR : Nat} (hF : gF g = true) (hX : Cx g RX2 cX2_make 4 mcR msR none [] X) {Q : State → Prop} {p0 : Nat} {p1 : Nat} {p2 : Int32} {p3 : Int32} {p4 : Option Nat} {v5 : Int32} (hl_0 : LAY p0 = (0, 2)) (hl_1 : LAY p1 = (0, 8)) {d6 : Value} {d7 : Value} {d8 : Value} {h hz : AH} {z : (Int32 ⊕ Unit)} (e : j_X2_make_109_32 p0 p1 p2 p3 p4 v5 h = some (z, hz)) (kI : ∀ (s2 : Int32) (xd6 : Value) (xd7 : Value) (xd8 : Value), z = .inl s2 → AR g X 0 0 Q hz 32 [.ref p0, .ref p1, .int p2, .int p3, rfV p4, .int s2, xd6, xd7, xd8] []) (kE0 : ∀ (yy : Unit) (y1 : Value) (y2 : Value) (y3 : Value) (y4 : Value) (y5 : Value) (y6 : Value) (y7 : Value) (y8 : Value), z = .inr yy → AR g X 0 0 Q hz 115 [.ref p0, y1, y2, y3, y4, y5, y6, y7, y8] []) : AR g X 0 0 Q h 109 [.ref p0, .ref p1, .int p2, .int p3, rfV p4, .int v5, d6, d7, d8] [] := by
  unfold j_X2_make_109_32 at e
  refine aw_iinc (i := 5) (lv2 := [.ref p0, .ref p1, .int p2, .int p3, rfV p4, .int (v5 + (-1)), d6, d7, d8]) hX rfl (iz (b := (-1)) (by decide)) (by show List.set (List.set _ _ (uncV (rfV _))) _ _ = _; rw [uncV_rfV]; rfl) rfl d_X2_make_109 ?_
  refine aw_goto (t := 32) hX (by decide) d_X2_make_112 ?_
  cases e
  exact kI (v5 + (-1)) _ _ _ rfl
def j_X2_make_61_32 (p0 : Nat) (p1 : Nat) (p2 : Int32) (p3 : Int32) (p4 : Option Nat) (v5 : Int32) (k0 : Int32) (h : AH) : Option ((Int32 ⊕ Unit) × AH) := bd (s_X8_likely p1 p2 v5 p3 h) fun x3 => bd (lpH (l_X2_make_81 p0 p1 p2 p3 p4 v5 k0 x3) FU ((gI h p0 1) - 1) h) fun y5 => j_X2_make_109_32 p0 p1 p2 p3 p4 v5 y5.2
theorem tj_X2_make_61_32 {g : GP} {X : MX} {mcR msR : Nat} (hF : gF g = true) (hX : Cx g RX2 cX2_make 4 mcR msR none [] X) {Q : State → Prop} {p0 : Nat} {p1 : Nat} {p2 : Int32} {p3 : Int32} {p4 : Option Nat} {v5 : Int32} {k0 : Int32} (hl_0 : LAY p0 = (0, 2)) (hl_1 : LAY p1 = (0, 8)) {d6 : Value} {d7 : Value} {d8 : Value} {h hz : AH} {z : (Int32 ⊕ Unit)} (e : j_X2_make_61_32 p0 p1 p2 p3 p4 v5 k0 h = some (z, hz)) (kI : ∀ (s2 : Int32) (xd6 : Value) (xd7 : Value) (xd8 : Value), z = .inl s2 → AR g X 0 0 Q hz 32 [.ref p0, .ref p1, .int p2, .int p3, rfV p4, .int s2, xd6, xd7, xd8] []) (kE0 : ∀ (yy : Unit) (y1 : Value) (y2 : Value) (y3 : Value) (y4 : Value) (y5 : Value) (y6 : Value) (y7 : Value) (y8 : Value), z = .inr yy → AR g X 0 0 Q hz 115 [.ref p0, y1, y2, y3, y4, y5, y6, y7, y8] []) : AR g X 0 0 Q h 61 [.ref p0, .ref p1, .int p2, .int p3, rfV p4, .int v5, d6, d7, d8] [.int k0] := by
  unfold j_X2_make_61_32 at e
  refine aw_istore (i := 6) (lv2 := [.ref p0, .ref p1, .int p2, .int p3, rfV p4, .int v5, .int k0, d7, d8]) hX rfl rfl d_X2_make_61 ?_
  refine aw_aload_n (i := 1) hX rfl rfl d_X2_make_63 ?_
  refine aw_iload_n (i := 2) hX rfl rfl d_X2_make_64 ?_
  refine aw_iload (i := 5) hX rfl d_X2_make_65 ?_
  refine aw_iload_n (i := 3) hX rfl rfl d_X2_make_67 ?_
  obtain ⟨x3, f_80, e_80⟩ := bd_some e
  clear e
  refine aw_callV (b := p1) (av := [.int p2, .int v5, .int p3]) (avr := [.int p3, .int v5, .int p2]) hX (k_X8_likely (cx_g hX) hF f_80) mi_X8_likely rfl rfl w_54 w_55 w_56 (by decide) (by assumption) (LAY_lt (by assumption) (by decide)) rfl rfl (Nat.le_of_ble_eq_true rfl) (Nat.zero_le _) (Nat.zero_le _) d_X2_make_68 ?_
  refine aw_istore (i := 7) (lv2 := [.ref p0, .ref p1, .int p2, .int p3, rfV p4, .int v5, .int k0, .int x3, d8]) hX rfl rfl d_X2_make_71 ?_
  refine aw_aload_n (i := 0) hX rfl rfl d_X2_make_73 ?_
  refine ar_getI hX fg_RX2_26 (by assumption) d_X2_make_74 ?_
  refine aw_iconst (v := 1) hX (by decide) d_X2_make_77 ?_
  refine aw_isub hX d_X2_make_78 ?_
  refine aw_istore (i := 8) (lv2 := [.ref p0, .ref p1, .int p2, .int p3, rfV p4, .int v5, .int k0, .int x3, .int ((gI h p0 1) - 1)]) hX rfl rfl d_X2_make_79 ?_
  obtain ⟨y5, f_81, e_81⟩ := bd_some e_80
  clear e_80
  refine t_X2_make_81 hF hX (by assumption) (by assumption) f_81 (fun d6_6 d6_7 d6_8 => ?_)
  exact tj_X2_make_109_32 hF hX (by assumption) (by assumption) e_81 kI kE0
def j_X2_make_56_32 (p0 : Nat) (p1 : Nat) (p2 : Int32) (p3 : Int32) (p4 : Option Nat) (v5 : Int32) (h : AH) : Option ((Int32 ⊕ Unit) × AH) := j_X2_make_61_32 p0 p1 p2 p3 p4 v5 1 h
theorem tj_X2_make_56_32 {g : GP} {X : MX} {mcR msR : Nat} (hF : gF g = true) (hX : Cx g RX2 cX2_make 4 mcR msR none [] X) {Q : State → Prop} {p0 : Nat} {p1 : Nat} {p2 : Int32} {p3 : Int32} {p4 : Option Nat} {v5 : Int32} (hl_0 : LAY p0 = (0, 2)) (hl_1 : LAY p1 = (0, 8)) {d6 : Value} {d7 : Value} {d8 : Value} {h hz : AH} {z : (Int32 ⊕ Unit)} (e : j_X2_make_56_32 p0 p1 p2 p3 p4 v5 h = some (z, hz)) (kI : ∀ (s2 : Int32) (xd6 : Value) (xd7 : Value) (xd8 : Value), z = .inl s2 → AR g X 0 0 Q hz 32 [.ref p0, .ref p1, .int p2, .int p3, rfV p4, .int s2, xd6, xd7, xd8] []) (kE0 : ∀ (yy : Unit) (y1 : Value) (y2 : Value) (y3 : Value) (y4 : Value) (y5 : Value) (y6 : Value) (y7 : Value) (y8 : Value), z = .inr yy → AR g X 0 0 Q hz 115 [.ref p0, y1, y2, y3, y4, y5, y6, y7, y8] []) : AR g X 0 0 Q h 56 [.ref p0, .ref p1, .int p2, .int p3, rfV p4, .int v5, d6, d7, d8] [] := by
  unfold j_X2_make_56_32 at e
  refine aw_iconst (v := 1) hX (by decide) d_X2_make_56 ?_
  refine aw_goto (t := 61) hX (by decide) d_X2_make_57 ?_
  exact tj_X2_make_61_32 hF hX (by assumption) (by assumption) e kI kE0
def l_X2_make_32 (p0 : Nat) (p1 : Nat) (p2 : Int32) (p3 : Int32) (p4 : Option Nat) (s : Int32) (h : AH) : Option ((Int32 ⊕ Unit) × AH) := if s < 0 then some (.inr (), h) else if (gI h p0 0) = 3 then bd (s_X9_at p4 s h) fun x7 => if x7 = 1 then j_X2_make_56_32 p0 p1 p2 p3 p4 s h else j_X2_make_61_32 p0 p1 p2 p3 p4 s 0 h else j_X2_make_56_32 p0 p1 p2 p3 p4 s h
theorem tb_X2_make_32 {g : GP} {X : MX} {mcR msR : Nat} (hF : gF g = true) (hX : Cx g RX2 cX2_make 4 mcR msR none [] X) {Q : State → Prop} {p0 : Nat} {p1 : Nat} {p2 : Int32} {p3 : Int32} {p4 : Option Nat} {s : Int32} (hl_0 : LAY p0 = (0, 2)) (hl_1 : LAY p1 = (0, 8)) {d6 : Value} {d7 : Value} {d8 : Value} {h hz : AH} {z : (Int32 ⊕ Unit)} (e : l_X2_make_32 p0 p1 p2 p3 p4 s h = some (z, hz)) (kI : ∀ (s2 : Int32) (xd6 : Value) (xd7 : Value) (xd8 : Value), z = .inl s2 → AR g X 0 0 Q hz 32 [.ref p0, .ref p1, .int p2, .int p3, rfV p4, .int s2, xd6, xd7, xd8] []) (kE0 : ∀ (yy : Unit) (y1 : Value) (y2 : Value) (y3 : Value) (y4 : Value) (y5 : Value) (y6 : Value) (y7 : Value) (y8 : Value), z = .inr yy → AR g X 0 0 Q hz 115 [.ref p0, y1, y2, y3, y4, y5, y6, y7, y8] []) : AR g X 0 0 Q h 32 [.ref p0, .ref p1, .int p2, .int p3, rfV p4, .int s, d6, d7, d8] [] := by
  unfold l_X2_make_32 at e
  refine aw_iload (i := 5) hX rfl d_X2_make_32 ?_
  refine aw_if_lt (t := 115) hX (by decide) d_X2_make_34 (fun c => ?_) (fun c => ?_)
  · rw [if_pos c] at e
    cases e
    exact kE0 () _ _ _ _ _ _ _ _ rfl
  · rw [if_neg c] at e
    refine aw_aload_n (i := 0) hX rfl rfl d_X2_make_37 ?_
    refine ar_getI hX fg_RX2_22 (by assumption) d_X2_make_38 ?_
    refine aw_iconst (v := 3) hX (by decide) d_X2_make_41 ?_
    refine aw_icmp_ne (t := 56) hX (by decide) d_X2_make_42 (fun c => ?_) (fun c => ?_)
    · rw [if_neg c] at e
      exact tj_X2_make_56_32 hF hX (by assumption) (by assumption) e kI kE0
    · rw [if_pos c] at e
      refine aw_aloadO (i := 4) (o := p4) hX rfl d_X2_make_45 ?_
      refine aw_iload (i := 5) hX rfl d_X2_make_47 ?_
      obtain ⟨x7, f_82, e_82⟩ := bd_some e
      clear e
      refine aw_callSN (av := [rfV p4, .int s]) (avr := [.int s, rfV p4]) hX (k_X9_at (cx_g hX) hF f_82) mi_X9_at rfl rfl nx9 w_6 (by decide) (Nat.le_of_ble_eq_true rfl) (Nat.zero_le _) (Nat.zero_le _) d_X2_make_49 ?_
      refine aw_iconst (v := 1) hX (by decide) d_X2_make_52 ?_
      refine aw_icmp_ne (t := 60) hX (by decide) d_X2_make_53 (fun c => ?_) (fun c => ?_)
      · rw [if_neg c] at e_82
        refine aw_iconst (v := 0) hX (by decide) d_X2_make_60 ?_
        exact tj_X2_make_61_32 hF hX (by assumption) (by assumption) e_82 kI kE0
      · rw [if_pos c] at e_82
        exact tj_X2_make_56_32 hF hX (by assumption) (by assumption) e_82 kI kE0
theorem ti_X2_make_32 {g : GP} {X : MX} {mcR msR : Nat} (hF : gF g = true) (hX : Cx g RX2 cX2_make 4 mcR msR none [] X) {Q : State → Prop} {p0 : Nat} {p1 : Nat} {p2 : Int32} {p3 : Int32} {p4 : Option Nat} (hl_0 : LAY p0 = (0, 2)) (hl_1 : LAY p1 = (0, 8)) {y : Unit} {hz : AH} (kE0 : ∀ (y_1 : Value) (y_2 : Value) (y_3 : Value) (y_4 : Value) (y_5 : Value) (y_6 : Value) (y_7 : Value) (y_8 : Value), AR g X 0 0 Q hz 115 [.ref p0, y_1, y_2, y_3, y_4, y_5, y_6, y_7, y_8] []) (n : Nat) : ∀ (s : Int32) (d6 : Value) (d7 : Value) (d8 : Value) (h : AH), lpH (l_X2_make_32 p0 p1 p2 p3 p4) n s h = some (y, hz) → AR g X 0 0 Q h 32 [.ref p0, .ref p1, .int p2, .int p3, rfV p4, .int s, d6, d7, d8] [] := by
  induction n with
  | zero => intro s d6 d7 d8 h e; cases e
  | succ n ih =>
    intro s d6 d7 d8 h e
    obtain ⟨x, h1, e1, e2⟩ := lpH_succ e
    rcases e2 with ⟨s2, rfl, e3⟩ | ⟨rfl, rfl⟩
    · exact tb_X2_make_32 hF hX hl_0 hl_1 e1 (fun s3 x0 x1 x2 hs => by cases hs; exact ih _ _ _ _ _ e3) (fun yy x0 x1 x2 x3 x4 x5 x6 x7 hy => by cases hy)
    · exact tb_X2_make_32 hF hX hl_0 hl_1 e1 (fun s3 x0 x1 x2 hs => by cases hs) (fun yy x0 x1 x2 x3 x4 x5 x6 x7 hy => by cases hy; exact kE0 x0 x1 x2 x3 x4 x5 x6 x7)
theorem t_X2_make_32 {g : GP} {X : MX} {mcR msR : Nat} (hF : gF g = true) (hX : Cx g RX2 cX2_make 4 mcR msR none [] X) {Q : State → Prop} {p0 : Nat} {p1 : Nat} {p2 : Int32} {p3 : Int32} {p4 : Option Nat} (hl_0 : LAY p0 = (0, 2)) (hl_1 : LAY p1 = (0, 8)) {s : Int32} {d6 : Value} {d7 : Value} {d8 : Value} {h hz : AH} {n : Nat} {y : Unit} (e : lpH (l_X2_make_32 p0 p1 p2 p3 p4) n s h = some (y, hz)) (kE0 : ∀ (y_1 : Value) (y_2 : Value) (y_3 : Value) (y_4 : Value) (y_5 : Value) (y_6 : Value) (y_7 : Value) (y_8 : Value), AR g X 0 0 Q hz 115 [.ref p0, y_1, y_2, y_3, y_4, y_5, y_6, y_7, y_8] []) : AR g X 0 0 Q h 32 [.ref p0, .ref p1, .int p2, .int p3, rfV p4, .int s, d6, d7, d8] [] := ti_X2_make_32 hF hX hl_0 hl_1 kE0 n _ _ _ _ _ e
def s_X2_make (th : Nat) (a0 : Option Nat) (a1 : Int32) (a2 : Int32) (a3 : Option Nat) (h : AH) : Option (Unit × AH) := if LAY th = (0, 2) then bd a0 fun oa0 => if LAY oa0 = (0, 8) then bd (s_X9_fillWide (some (th + 5)) 0 (sI h th 7 (gI h oa0 5))) fun q1 => bd (s_X9_fillWide (some (th + 4)) 0 q1.2) fun q2 => bd (lpH (l_X2_make_32 th oa0 a1 a2 a3) FU ((gI q2.2 oa0 2) - 1) q2.2) fun y8 => bd (s_X2_leftOfTen th 0 y8.2) fun x10 => bd (s_X9_atWide (some (th + 5)) (x10 * 33) y8.2) fun x11 => some ((), sL y8.2 th 8 x11) else none else none
theorem t_X2_make {g : GP} {X : MX} {mcR msR : Nat} (hF : gF g = true) (hX : Cx g RX2 cX2_make 4 mcR msR none [] X) {th : Nat} {a0 : Option Nat} {a1 : Int32} {a2 : Int32} {a3 : Option Nat} {h hz : AH} {z : Unit} (e : s_X2_make th a0 a1 a2 a3 h = some (z, hz)) : AR g X 0 0 (QQ g X NT false hz (.inl none) 0 0) h 0 [.ref th, rfV a0, .int a1, .int a2, rfV a3, jk, jk, jk, jk] [] := by
  unfold s_X2_make at e
  obtain ⟨hl_this, e_83⟩ := if_some e
  clear e
  obtain ⟨oa0, e0, e_84⟩ := bd_some e_83
  clear e_83
  subst e0
  obtain ⟨hl_a0, e_85⟩ := if_some e_84
  clear e_84
  refine aw_aload_n (i := 0) hX rfl rfl d_X2_make_0 ?_
  refine aw_aload_n (i := 1) hX rfl rfl d_X2_make_1 ?_
  refine ar_getI hX fg_RX2_59 (by assumption) d_X2_make_2 ?_
  refine ar_putI hX fp_RX2_56 (by assumption) d_X2_make_5 ?_
  refine aw_aload_n (i := 0) hX rfl rfl d_X2_make_8 ?_
  refine ar_getF hX hF fg_RX2_32 (by assumption) d_X2_make_9 ?_
  refine aw_lconst (v := 0) hX (by decide) d_X2_make_12 ?_
  obtain ⟨q1, f_86, e_86⟩ := bd_some e_85
  clear e_85
  refine aw_callSN (av := [.ref (th + 5), .long 0]) (avr := [.long 0, .ref (th + 5)]) hX (k_X9_fillWide (cx_g hX) hF f_86) mi_X9_fillWide rfl rfl nx18 w_51 (by decide) (Nat.le_of_ble_eq_true rfl) (Nat.zero_le _) (Nat.zero_le _) d_X2_make_13 ?_
  refine aw_aload_n (i := 0) hX rfl rfl d_X2_make_16 ?_
  refine ar_getF hX hF fg_RX2_29 (by assumption) d_X2_make_17 ?_
  refine aw_lconst (v := 0) hX (by decide) d_X2_make_20 ?_
  obtain ⟨q2, f_87, e_87⟩ := bd_some e_86
  clear e_86
  refine aw_callSN (av := [.ref (th + 4), .long 0]) (avr := [.long 0, .ref (th + 4)]) hX (k_X9_fillWide (cx_g hX) hF f_87) mi_X9_fillWide rfl rfl nx18 w_51 (by decide) (Nat.le_of_ble_eq_true rfl) (Nat.zero_le _) (Nat.zero_le _) d_X2_make_21 ?_
  refine aw_aload_n (i := 1) hX rfl rfl d_X2_make_24 ?_
  refine ar_getI hX fg_RX2_68 (by assumption) d_X2_make_25 ?_
  refine aw_iconst (v := 1) hX (by decide) d_X2_make_28 ?_
  refine aw_isub hX d_X2_make_29 ?_
  refine aw_istore (i := 5) (lv2 := [.ref th, .ref oa0, .int a1, .int a2, rfV a3, .int ((gI q2.2 oa0 2) - 1), jk, jk, jk]) hX (by show List.set (List.set _ _ (uncV (rfV _))) _ _ = _; rw [uncV_rfV]; rfl) rfl d_X2_make_30 ?_
  obtain ⟨y8, f_88, e_88⟩ := bd_some e_87
  clear e_87
  refine t_X2_make_32 hF hX (by assumption) (by assumption) f_88 (fun d9_1 d9_2 d9_3 d9_4 d9_5 d9_6 d9_7 d9_8 => ?_)
  refine aw_aload_n (i := 0) hX rfl rfl d_X2_make_115 ?_
  refine aw_aload_n (i := 0) hX rfl rfl d_X2_make_116 ?_
  refine ar_getF hX hF fg_RX2_32 (by assumption) d_X2_make_117 ?_
  refine aw_aload_n (i := 0) hX rfl rfl d_X2_make_120 ?_
  refine aw_iconst (v := 0) hX (by decide) d_X2_make_121 ?_
  obtain ⟨x10, f_89, e_89⟩ := bd_some e_88
  clear e_88
  refine aw_callV (b := th) (av := [.int 0]) (avr := [.int 0]) hX (k_X2_leftOfTen (cx_g hX) hF f_89) mi_X2_leftOfTen rfl rfl w_62 w_63 w_64 (by decide) (by assumption) (LAY_lt (by assumption) (by decide)) rfl rfl (Nat.le_of_ble_eq_true rfl) (Nat.zero_le _) (Nat.zero_le _) d_X2_make_122 ?_
  refine aw_bipush (v := 33) hX (by decide) d_X2_make_125 ?_
  refine aw_imul hX d_X2_make_127 ?_
  obtain ⟨x11, f_90, e_90⟩ := bd_some e_89
  clear e_89
  refine aw_callSN (av := [.ref (th + 5), .int (x10 * 33)]) (avr := [.int (x10 * 33), .ref (th + 5)]) hX (k_X9_atWide (cx_g hX) hF f_90) mi_X9_atWide rfl rfl nx19 w_38 (by decide) (Nat.le_of_ble_eq_true rfl) (Nat.zero_le _) (Nat.zero_le _) d_X2_make_128 ?_
  refine ar_putL hX fp_RX2_35 (by assumption) d_X2_make_131 ?_
  cases e_90
  exact aw_return hX (Nat.zero_le _) (Nat.zero_le _) d_X2_make_134
theorem k_X2_make {g : GP} (hg : g.1.stackTraces = false) (hF : gF g = true) {th : Nat} {a0 : Option Nat} {a1 : Int32} {a2 : Int32} {a3 : Option Nat} {h hz : AH} {z : Unit} (e : s_X2_make th a0 a1 a2 a3 h = some (z, hz)) : Ctr g yX2_make (wsY yX2_make cX2_make 9 none) 4 0 0 [.ref th, rfV a0, .int a1, .int a2, rfV a3] NT false h none NT false hz := ctr_of (lv0 := [.ref th, rfV a0, .int a1, .int a2, rfV a3, jk, jk, jk, jk]) (by cases a0 <;> cases a3 <;> rfl) (by cases a0 <;> cases a3 <;> rfl) (by decide) hg trivial (fun X hX hn => t_X2_make hF hX e)
theorem d_X2_isOfHabit_0 : decode cX2_isOfHabit 0 = .ok (.aload_n 0, 1) := by decide +kernel
theorem d_X2_isOfHabit_1 : decode cX2_isOfHabit 1 = .ok (.getfield 22, 3) := by decide +kernel
theorem d_X2_isOfHabit_4 : decode cX2_isOfHabit 4 = .ok (.iconst 1, 1) := by decide +kernel
theorem d_X2_isOfHabit_5 : decode cX2_isOfHabit 5 = .ok (.if_icmp .eq 11, 3) := by decide +kernel
theorem d_X2_isOfHabit_8 : decode cX2_isOfHabit 8 = .ok (.aload_n 0, 1) := by decide +kernel
theorem d_X2_isOfHabit_9 : decode cX2_isOfHabit 9 = .ok (.getfield 22, 3) := by decide +kernel
theorem d_X2_isOfHabit_12 : decode cX2_isOfHabit 12 = .ok (.iconst 4, 1) := by decide +kernel
theorem d_X2_isOfHabit_13 : decode cX2_isOfHabit 13 = .ok (.if_icmp .ne 7, 3) := by decide +kernel
theorem d_X2_isOfHabit_16 : decode cX2_isOfHabit 16 = .ok (.iconst 1, 1) := by decide +kernel
theorem d_X2_isOfHabit_17 : decode cX2_isOfHabit 17 = .ok (.goto 4, 3) := by decide +kernel
theorem d_X2_isOfHabit_20 : decode cX2_isOfHabit 20 = .ok (.iconst 0, 1) := by decide +kernel
theorem d_X2_isOfHabit_21 : decode cX2_isOfHabit 21 = .ok (.ireturn, 1) := by decide +kernel
def j_X2_isOfHabit_16 (h : AH) : Option Int32 := some 1
theorem tj_X2_isOfHabit_16 {g : GP} {X : MX} {mcR msR : Nat} (hF : gF g = true) (hX : Cx g RX2 cX2_isOfHabit 1 mcR msR (some .boolean) [] X) {d0 : Value} {h : AH} {z : Int32} (e : j_X2_isOfHabit_16 h = some z) : AR g X 0 0 (QQ g X NT false h (.inl (some (.int z))) 0 0) h 16 [d0] [] := by
  unfold j_X2_isOfHabit_16 at e
  refine aw_iconst (v := 1) hX (by decide) d_X2_isOfHabit_16 ?_
  refine aw_goto (t := 21) hX (by decide) d_X2_isOfHabit_17 ?_
  cases e
  exact aw_zreturn hX (by decide) (Nat.zero_le _) (Nat.zero_le _) d_X2_isOfHabit_21
def s_X2_isOfHabit (th : Nat) (h : AH) : Option Int32 := if LAY th = (0, 2) then if (gI h th 0) = 1 then j_X2_isOfHabit_16 h else if (gI h th 0) = 4 then j_X2_isOfHabit_16 h else some 0 else none
theorem t_X2_isOfHabit {g : GP} {X : MX} {mcR msR : Nat} (hF : gF g = true) (hX : Cx g RX2 cX2_isOfHabit 1 mcR msR (some .boolean) [] X) {th : Nat} {h : AH} {z : Int32} (e : s_X2_isOfHabit th h = some z) : AR g X 0 0 (QQ g X NT false h (.inl (some (.int z))) 0 0) h 0 [.ref th] [] := by
  unfold s_X2_isOfHabit at e
  obtain ⟨hl_this, e_91⟩ := if_some e
  clear e
  refine aw_aload_n (i := 0) hX rfl rfl d_X2_isOfHabit_0 ?_
  refine ar_getI hX fg_RX2_22 (by assumption) d_X2_isOfHabit_1 ?_
  refine aw_iconst (v := 1) hX (by decide) d_X2_isOfHabit_4 ?_
  refine aw_icmp_eq (t := 16) hX (by decide) d_X2_isOfHabit_5 (fun c => ?_) (fun c => ?_)
  · rw [if_pos c] at e_91
    exact tj_X2_isOfHabit_16 hF hX e_91
  · rw [if_neg c] at e_91
    refine aw_aload_n (i := 0) hX rfl rfl d_X2_isOfHabit_8 ?_
    refine ar_getI hX fg_RX2_22 (by assumption) d_X2_isOfHabit_9 ?_
    refine aw_iconst (v := 4) hX (by decide) d_X2_isOfHabit_12 ?_
    refine aw_icmp_ne (t := 20) hX (by decide) d_X2_isOfHabit_13 (fun c => ?_) (fun c => ?_)
    · rw [if_neg c] at e_91
      refine aw_iconst (v := 0) hX (by decide) d_X2_isOfHabit_20 ?_
      cases e_91
      exact aw_zreturn hX (by decide) (Nat.zero_le _) (Nat.zero_le _) d_X2_isOfHabit_21
    · rw [if_pos c] at e_91
      exact tj_X2_isOfHabit_16 hF hX e_91
theorem k_X2_isOfHabit {g : GP} (hg : g.1.stackTraces = false) (hF : gF g = true) {th : Nat} {h : AH} {z : Int32} (e : s_X2_isOfHabit th h = some z) : Ctr g yX2_isOfHabit (wsY yX2_isOfHabit cX2_isOfHabit 1 (some .boolean)) 1 0 0 [.ref th] NT false h (some (.int z)) NT false h := ctr_of (lv0 := [.ref th]) rfl rfl (by decide) hg trivial (fun X hX hn => t_X2_isOfHabit hF hX e)
theorem d_X2_left_0 : decode cX2_left 0 = .ok (.lconst 0, 1) := by decide +kernel
theorem d_X2_left_1 : decode cX2_left 1 = .ok (.lstore_n 1, 1) := by decide +kernel
theorem d_X2_left_2 : decode cX2_left 2 = .ok (.iconst 0, 1) := by decide +kernel
theorem d_X2_left_3 : decode cX2_left 3 = .ok (.istore_n 3, 1) := by decide +kernel
theorem d_X2_left_4 : decode cX2_left 4 = .ok (.iload_n 3, 1) := by decide +kernel
theorem d_X2_left_5 : decode cX2_left 5 = .ok (.aload_n 0, 1) := by decide +kernel
theorem d_X2_left_6 : decode cX2_left 6 = .ok (.getfield 19, 3) := by decide +kernel
theorem d_X2_left_9 : decode cX2_left 9 = .ok (.arraylength, 1) := by decide +kernel
theorem d_X2_left_10 : decode cX2_left 10 = .ok (.if_icmp .ge 27, 3) := by decide +kernel
theorem d_X2_left_13 : decode cX2_left 13 = .ok (.lload_n 1, 1) := by decide +kernel
theorem d_X2_left_14 : decode cX2_left 14 = .ok (.aload_n 0, 1) := by decide +kernel
theorem d_X2_left_15 : decode cX2_left 15 = .ok (.iload_n 3, 1) := by decide +kernel
theorem d_X2_left_16 : decode cX2_left 16 = .ok (.invokevirtual 79, 3) := by decide +kernel
theorem d_X2_left_19 : decode cX2_left 19 = .ok (.i2l, 1) := by decide +kernel
theorem d_X2_left_20 : decode cX2_left 20 = .ok (.aload_n 0, 1) := by decide +kernel
theorem d_X2_left_21 : decode cX2_left 21 = .ok (.getfield 19, 3) := by decide +kernel
theorem d_X2_left_24 : decode cX2_left 24 = .ok (.iload_n 3, 1) := by decide +kernel
theorem d_X2_left_25 : decode cX2_left 25 = .ok (.invokestatic 52, 3) := by decide +kernel
theorem d_X2_left_28 : decode cX2_left 28 = .ok (.lmul, 1) := by decide +kernel
theorem d_X2_left_29 : decode cX2_left 29 = .ok (.ladd, 1) := by decide +kernel
theorem d_X2_left_30 : decode cX2_left 30 = .ok (.lstore_n 1, 1) := by decide +kernel
theorem d_X2_left_31 : decode cX2_left 31 = .ok (.iinc 3 1, 3) := by decide +kernel
theorem d_X2_left_34 : decode cX2_left 34 = .ok (.goto (-30), 3) := by decide +kernel
theorem d_X2_left_37 : decode cX2_left 37 = .ok (.lload_n 1, 1) := by decide +kernel
theorem d_X2_left_38 : decode cX2_left 38 = .ok (.ldc2_w 90, 3) := by decide +kernel
theorem d_X2_left_41 : decode cX2_left 41 = .ok (.ldiv, 1) := by decide +kernel
theorem d_X2_left_42 : decode cX2_left 42 = .ok (.lreturn, 1) := by decide +kernel
def l_X2_left_4 (p0 : Nat) (h : AH) (s : (Int64 × Int32)) : Option ((Int64 × Int32) ⊕ Int64) := bd (alenF (p0 + 3)) fun x1 => if x1 ≤ s.2 then some (.inr s.1) else bd (s_X2_leftOfTen p0 s.2 h) fun x2 => bd (s_X9_atWide (some (p0 + 3)) s.2 h) fun x3 => some (.inl ((s.1 + (x2.toInt64 * x3)), s.2 + 1))
theorem tb_X2_left_4 {g : GP} {X : MX} {mcR msR : Nat} (hF : gF g = true) (hX : Cx g RX2 cX2_left 2 mcR msR (some .long) [] X) {Q : State → Prop} {p0 : Nat} {s : (Int64 × Int32)} (hl_0 : LAY p0 = (0, 2)) {h : AH} {z : ((Int64 × Int32) ⊕ Int64)} (e : l_X2_left_4 p0 h s = some z) (kI : ∀ (s2 : (Int64 × Int32)), z = .inl s2 → AR g X 0 0 Q h 4 [.ref p0, .long s2.1, jk, .int s2.2] []) (kE0 : ∀ (yy : Int64) (y0 : Value) (y3 : Value), z = .inr yy → AR g X 0 0 Q h 37 [y0, .long yy, jk, y3] []) : AR g X 0 0 Q h 4 [.ref p0, .long s.1, jk, .int s.2] [] := by
  unfold l_X2_left_4 at e
  refine aw_iload_n (i := 3) hX rfl rfl d_X2_left_4 ?_
  refine aw_aload_n (i := 0) hX rfl rfl d_X2_left_5 ?_
  refine ar_getF hX hF fg_RX2_19 (by assumption) d_X2_left_6 ?_
  obtain ⟨x1, f_92, e_92⟩ := bd_some e
  clear e
  refine ar_alen hX f_92 d_X2_left_9 ?_
  refine aw_icmp_ge (t := 37) hX (by decide) d_X2_left_10 (fun c => ?_) (fun c => ?_)
  · rw [if_pos c] at e_92
    cases e_92
    exact kE0 s.1 _ _ rfl
  · rw [if_neg c] at e_92
    refine aw_lload_n (i := 1) hX rfl rfl d_X2_left_13 ?_
    refine aw_aload_n (i := 0) hX rfl rfl d_X2_left_14 ?_
    refine aw_iload_n (i := 3) hX rfl rfl d_X2_left_15 ?_
    obtain ⟨x2, f_93, e_93⟩ := bd_some e_92
    clear e_92
    refine aw_callV (b := p0) (av := [.int s.2]) (avr := [.int s.2]) hX (k_X2_leftOfTen (cx_g hX) hF f_93) mi_X2_leftOfTen rfl rfl w_62 w_63 w_64 (by decide) (by assumption) (LAY_lt (by assumption) (by decide)) rfl rfl (Nat.le_of_ble_eq_true rfl) (Nat.zero_le _) (Nat.zero_le _) d_X2_left_16 ?_
    refine aw_i2l hX d_X2_left_19 ?_
    refine aw_aload_n (i := 0) hX rfl rfl d_X2_left_20 ?_
    refine ar_getF hX hF fg_RX2_19 (by assumption) d_X2_left_21 ?_
    refine aw_iload_n (i := 3) hX rfl rfl d_X2_left_24 ?_
    obtain ⟨x3, f_94, e_94⟩ := bd_some e_93
    clear e_93
    refine aw_callSN (av := [.ref (p0 + 3), .int s.2]) (avr := [.int s.2, .ref (p0 + 3)]) hX (k_X9_atWide (cx_g hX) hF f_94) mi_X9_atWide rfl rfl nx19 w_38 (by decide) (Nat.le_of_ble_eq_true rfl) (Nat.zero_le _) (Nat.zero_le _) d_X2_left_25 ?_
    refine aw_lmul hX d_X2_left_28 ?_
    refine aw_ladd hX d_X2_left_29 ?_
    refine aw_lstore_n (i := 1) (lv2 := [.ref p0, .long (s.1 + (x2.toInt64 * x3)), jk, .int s.2]) hX rfl rfl rfl d_X2_left_30 ?_
    refine aw_iinc (i := 3) (lv2 := [.ref p0, .long (s.1 + (x2.toInt64 * x3)), jk, .int (s.2 + 1)]) hX rfl rfl rfl rfl d_X2_left_31 ?_
    refine aw_goto (t := 4) hX (by decide) d_X2_left_34 ?_
    cases e_94
    exact kI ((s.1 + (x2.toInt64 * x3)), s.2 + 1)  rfl
theorem ti_X2_left_4 {g : GP} {X : MX} {mcR msR : Nat} (hF : gF g = true) (hX : Cx g RX2 cX2_left 2 mcR msR (some .long) [] X) {Q : State → Prop} {p0 : Nat} (hl_0 : LAY p0 = (0, 2)) {y : Int64} {h : AH} (kE0 : ∀ (y_0 : Value) (y_3 : Value), AR g X 0 0 Q h 37 [y_0, .long y, jk, y_3] []) (n : Nat) : ∀ (s : (Int64 × Int32)), lpP (l_X2_left_4 p0 h) n s = some y → AR g X 0 0 Q h 4 [.ref p0, .long s.1, jk, .int s.2] [] := by
  induction n with
  | zero => intro s e; cases e
  | succ n ih =>
    intro s e
    obtain ⟨x, e1, e2⟩ := lpP_succ e
    rcases e2 with ⟨s2, rfl, e3⟩ | rfl
    · exact tb_X2_left_4 hF hX hl_0 e1 (fun s3  hs => by cases hs; exact ih _   e3) (fun yy x0 x1 hy => by cases hy)
    · exact tb_X2_left_4 hF hX hl_0 e1 (fun s3  hs => by cases hs) (fun yy x0 x1 hy => by cases hy; exact kE0 x0 x1)
theorem t_X2_left_4 {g : GP} {X : MX} {mcR msR : Nat} (hF : gF g = true) (hX : Cx g RX2 cX2_left 2 mcR msR (some .long) [] X) {Q : State → Prop} {p0 : Nat} (hl_0 : LAY p0 = (0, 2)) {s : (Int64 × Int32)} {h : AH} {n : Nat} {y : Int64} (e : lpP (l_X2_left_4 p0 h) n s = some y) (kE0 : ∀ (y_0 : Value) (y_3 : Value), AR g X 0 0 Q h 37 [y_0, .long y, jk, y_3] []) : AR g X 0 0 Q h 4 [.ref p0, .long s.1, jk, .int s.2] [] := ti_X2_left_4 hF hX hl_0 kE0 n _   e
def s_X2_left (th : Nat) (h : AH) : Option Int64 := if LAY th = (0, 2) then bd (lpP (l_X2_left_4 th h) FU (0, 0)) fun y4 => bd (ldivF y4 1000) fun x6 => some x6 else none
theorem t_X2_left {g : GP} {X : MX} {mcR msR : Nat} (hF : gF g = true) (hX : Cx g RX2 cX2_left 2 mcR msR (some .long) [] X) {th : Nat} {h : AH} {z : Int64} (e : s_X2_left th h = some z) : AR g X 0 0 (QQ g X NT false h (.inl (some (.long z))) 0 0) h 0 [.ref th, jk, jk, jk] [] := by
  unfold s_X2_left at e
  obtain ⟨hl_this, e_95⟩ := if_some e
  clear e
  refine aw_lconst (v := 0) hX (by decide) d_X2_left_0 ?_
  refine aw_lstore_n (i := 1) (lv2 := [.ref th, .long 0, jk, jk]) hX rfl rfl rfl d_X2_left_1 ?_
  refine aw_iconst (v := 0) hX (by decide) d_X2_left_2 ?_
  refine aw_istore_n (i := 3) (lv2 := [.ref th, .long 0, jk, .int 0]) hX rfl rfl rfl d_X2_left_3 ?_
  obtain ⟨y4, f_96, e_96⟩ := bd_some e_95
  clear e_95
  refine t_X2_left_4 hF hX (by assumption) f_96 (fun d5_0 d5_3 => ?_)
  refine aw_lload_n (i := 1) hX rfl rfl d_X2_left_37 ?_
  refine aw_ldc2 hX w_45 d_X2_left_38 ?_
  obtain ⟨x6, f_97, e_97⟩ := bd_some e_96
  clear e_96
  refine ar_ldiv hX f_97 d_X2_left_41 ?_
  cases e_97
  exact aw_lreturn hX (Nat.zero_le _) (Nat.zero_le _) d_X2_left_42
theorem k_X2_left {g : GP} (hg : g.1.stackTraces = false) (hF : gF g = true) {th : Nat} {h : AH} {z : Int64} (e : s_X2_left th h = some z) : Ctr g yX2_left (wsY yX2_left cX2_left 4 (some .long)) 2 0 0 [.ref th] NT false h (some (.long z)) NT false h := ctr_of (lv0 := [.ref th, jk, jk, jk]) rfl rfl (by decide) hg trivial (fun X hX hn => t_X2_left hF hX e)
theorem d_X2_takes_0 : decode cX2_takes 0 = .ok (.aload_n 0, 1) := by decide +kernel
theorem d_X2_takes_1 : decode cX2_takes 1 = .ok (.getfield 22, 3) := by decide +kernel
theorem d_X2_takes_4 : decode cX2_takes 4 = .ok (.iconst 2, 1) := by decide +kernel
theorem d_X2_takes_5 : decode cX2_takes 5 = .ok (.if_icmp .ne 7, 3) := by decide +kernel
theorem d_X2_takes_8 : decode cX2_takes 8 = .ok (.iload_n 2, 1) := by decide +kernel
theorem d_X2_takes_9 : decode cX2_takes 9 = .ok (.goto 4, 3) := by decide +kernel
theorem d_X2_takes_12 : decode cX2_takes 12 = .ok (.iconst 0, 1) := by decide +kernel
theorem d_X2_takes_13 : decode cX2_takes 13 = .ok (.istore 4, 2) := by decide +kernel
theorem d_X2_takes_15 : decode cX2_takes 15 = .ok (.iload 4, 2) := by decide +kernel
theorem d_X2_takes_17 : decode cX2_takes 17 = .ok (.ifCond .lt 22, 3) := by decide +kernel
theorem d_X2_takes_20 : decode cX2_takes 20 = .ok (.iload 4, 2) := by decide +kernel
theorem d_X2_takes_22 : decode cX2_takes 22 = .ok (.aload_n 0, 1) := by decide +kernel
theorem d_X2_takes_23 : decode cX2_takes 23 = .ok (.getfield 26, 3) := by decide +kernel
theorem d_X2_takes_26 : decode cX2_takes 26 = .ok (.if_icmp .ge 13, 3) := by decide +kernel
theorem d_X2_takes_29 : decode cX2_takes 29 = .ok (.iload_n 3, 1) := by decide +kernel
theorem d_X2_takes_30 : decode cX2_takes 30 = .ok (.ifCond .lt 9, 3) := by decide +kernel
theorem d_X2_takes_33 : decode cX2_takes 33 = .ok (.iload_n 3, 1) := by decide +kernel
theorem d_X2_takes_34 : decode cX2_takes 34 = .ok (.bipush 33, 2) := by decide +kernel
theorem d_X2_takes_36 : decode cX2_takes 36 = .ok (.if_icmp .lt 5, 3) := by decide +kernel
theorem d_X2_takes_39 : decode cX2_takes 39 = .ok (.iconst 0, 1) := by decide +kernel
theorem d_X2_takes_40 : decode cX2_takes 40 = .ok (.ireturn, 1) := by decide +kernel
theorem d_X2_takes_41 : decode cX2_takes 41 = .ok (.aload_n 0, 1) := by decide +kernel
theorem d_X2_takes_42 : decode cX2_takes 42 = .ok (.getfield 29, 3) := by decide +kernel
theorem d_X2_takes_45 : decode cX2_takes 45 = .ok (.iload_n 1, 1) := by decide +kernel
theorem d_X2_takes_46 : decode cX2_takes 46 = .ok (.aload_n 0, 1) := by decide +kernel
theorem d_X2_takes_47 : decode cX2_takes 47 = .ok (.getfield 26, 3) := by decide +kernel
theorem d_X2_takes_50 : decode cX2_takes 50 = .ok (.imul, 1) := by decide +kernel
theorem d_X2_takes_51 : decode cX2_takes 51 = .ok (.iload 4, 2) := by decide +kernel
theorem d_X2_takes_53 : decode cX2_takes 53 = .ok (.iadd, 1) := by decide +kernel
theorem d_X2_takes_54 : decode cX2_takes 54 = .ok (.invokestatic 52, 3) := by decide +kernel
theorem d_X2_takes_57 : decode cX2_takes 57 = .ok (.iload_n 3, 1) := by decide +kernel
theorem d_X2_takes_58 : decode cX2_takes 58 = .ok (.lushr, 1) := by decide +kernel
theorem d_X2_takes_59 : decode cX2_takes 59 = .ok (.lconst 1, 1) := by decide +kernel
theorem d_X2_takes_60 : decode cX2_takes 60 = .ok (.land, 1) := by decide +kernel
theorem d_X2_takes_61 : decode cX2_takes 61 = .ok (.lconst 0, 1) := by decide +kernel
theorem d_X2_takes_62 : decode cX2_takes 62 = .ok (.lcmp, 1) := by decide +kernel
theorem d_X2_takes_63 : decode cX2_takes 63 = .ok (.ifCond .eq 7, 3) := by decide +kernel
theorem d_X2_takes_66 : decode cX2_takes 66 = .ok (.iconst 1, 1) := by decide +kernel
theorem d_X2_takes_67 : decode cX2_takes 67 = .ok (.goto 4, 3) := by decide +kernel
theorem d_X2_takes_70 : decode cX2_takes 70 = .ok (.iconst 0, 1) := by decide +kernel
theorem d_X2_takes_71 : decode cX2_takes 71 = .ok (.ireturn, 1) := by decide +kernel
def j_X2_takes_13 (v0 : Nat) (v1 : Int32) (v3 : Int32) (k0 : Int32) (h : AH) : Option Int32 := if k0 < 0 then some 0 else if (gI h v0 1) ≤ k0 then some 0 else if v3 < 0 then some 0 else if v3 < 33 then bd (s_X9_atWide (some (v0 + 4)) ((v1 * (gI h v0 1)) + k0) h) fun x1 => if ((lushrF x1 v3) &&& 1) = 0 then some 0 else some 1 else some 0
theorem tj_X2_takes_13 {g : GP} {X : MX} {mcR msR : Nat} (hF : gF g = true) (hX : Cx g RX2 cX2_takes 2 mcR msR (some .boolean) [] X) {v0 : Nat} {v1 : Int32} {v3 : Int32} {k0 : Int32} (hl_0 : LAY v0 = (0, 2)) {d2 : Value} {d4 : Value} {h : AH} {z : Int32} (e : j_X2_takes_13 v0 v1 v3 k0 h = some z) : AR g X 0 0 (QQ g X NT false h (.inl (some (.int z))) 0 0) h 13 [.ref v0, .int v1, d2, .int v3, d4] [.int k0] := by
  unfold j_X2_takes_13 at e
  refine aw_istore (i := 4) (lv2 := [.ref v0, .int v1, d2, .int v3, .int k0]) hX rfl rfl d_X2_takes_13 ?_
  refine aw_iload (i := 4) hX rfl d_X2_takes_15 ?_
  refine aw_if_lt (t := 39) hX (by decide) d_X2_takes_17 (fun c => ?_) (fun c => ?_)
  · rw [if_pos c] at e
    refine aw_iconst (v := 0) hX (by decide) d_X2_takes_39 ?_
    cases e
    exact aw_zreturn hX (by decide) (Nat.zero_le _) (Nat.zero_le _) d_X2_takes_40
  · rw [if_neg c] at e
    refine aw_iload (i := 4) hX rfl d_X2_takes_20 ?_
    refine aw_aload_n (i := 0) hX rfl rfl d_X2_takes_22 ?_
    refine ar_getI hX fg_RX2_26 (by assumption) d_X2_takes_23 ?_
    refine aw_icmp_ge (t := 39) hX (by decide) d_X2_takes_26 (fun c => ?_) (fun c => ?_)
    · rw [if_pos c] at e
      refine aw_iconst (v := 0) hX (by decide) d_X2_takes_39 ?_
      cases e
      exact aw_zreturn hX (by decide) (Nat.zero_le _) (Nat.zero_le _) d_X2_takes_40
    · rw [if_neg c] at e
      refine aw_iload_n (i := 3) hX rfl rfl d_X2_takes_29 ?_
      refine aw_if_lt (t := 39) hX (by decide) d_X2_takes_30 (fun c => ?_) (fun c => ?_)
      · rw [if_pos c] at e
        refine aw_iconst (v := 0) hX (by decide) d_X2_takes_39 ?_
        cases e
        exact aw_zreturn hX (by decide) (Nat.zero_le _) (Nat.zero_le _) d_X2_takes_40
      · rw [if_neg c] at e
        refine aw_iload_n (i := 3) hX rfl rfl d_X2_takes_33 ?_
        refine aw_bipush (v := 33) hX (by decide) d_X2_takes_34 ?_
        refine aw_icmp_lt (t := 41) hX (by decide) d_X2_takes_36 (fun c => ?_) (fun c => ?_)
        · rw [if_pos c] at e
          refine aw_aload_n (i := 0) hX rfl rfl d_X2_takes_41 ?_
          refine ar_getF hX hF fg_RX2_29 (by assumption) d_X2_takes_42 ?_
          refine aw_iload_n (i := 1) hX rfl rfl d_X2_takes_45 ?_
          refine aw_aload_n (i := 0) hX rfl rfl d_X2_takes_46 ?_
          refine ar_getI hX fg_RX2_26 (by assumption) d_X2_takes_47 ?_
          refine aw_imul hX d_X2_takes_50 ?_
          refine aw_iload (i := 4) hX rfl d_X2_takes_51 ?_
          refine aw_iadd hX d_X2_takes_53 ?_
          obtain ⟨x1, f_98, e_98⟩ := bd_some e
          clear e
          refine aw_callSN (av := [.ref (v0 + 4), .int ((v1 * (gI h v0 1)) + k0)]) (avr := [.int ((v1 * (gI h v0 1)) + k0), .ref (v0 + 4)]) hX (k_X9_atWide (cx_g hX) hF f_98) mi_X9_atWide rfl rfl nx19 w_38 (by decide) (Nat.le_of_ble_eq_true rfl) (Nat.zero_le _) (Nat.zero_le _) d_X2_takes_54 ?_
          refine aw_iload_n (i := 3) hX rfl rfl d_X2_takes_57 ?_
          refine aw_lushr hX d_X2_takes_58 ?_
          refine aw_lconst (v := 1) hX (by decide) d_X2_takes_59 ?_
          refine aw_land hX d_X2_takes_60 ?_
          refine aw_lconst (v := 0) hX (by decide) d_X2_takes_61 ?_
          refine aw_lcmp hX d_X2_takes_62 ?_
          refine aw_if_eq (t := 70) hX (by decide) d_X2_takes_63 (fun c => ?_) (fun c => ?_)
          · replace c := lc_eq.mp c
            rw [if_pos c] at e_98
            refine aw_iconst (v := 0) hX (by decide) d_X2_takes_70 ?_
            cases e_98
            exact aw_zreturn hX (by decide) (Nat.zero_le _) (Nat.zero_le _) d_X2_takes_71
          · replace c := fun q => c (lc_eq.mpr q)
            rw [if_neg c] at e_98
            refine aw_iconst (v := 1) hX (by decide) d_X2_takes_66 ?_
            refine aw_goto (t := 71) hX (by decide) d_X2_takes_67 ?_
            cases e_98
            exact aw_zreturn hX (by decide) (Nat.zero_le _) (Nat.zero_le _) d_X2_takes_71
        · rw [if_neg c] at e
          refine aw_iconst (v := 0) hX (by decide) d_X2_takes_39 ?_
          cases e
          exact aw_zreturn hX (by decide) (Nat.zero_le _) (Nat.zero_le _) d_X2_takes_40
def s_X2_takes (th : Nat) (a0 : Int32) (a1 : Int32) (a2 : Int32) (h : AH) : Option Int32 := if LAY th = (0, 2) then if (gI h th 0) = 2 then j_X2_takes_13 th a0 a2 a1 h else j_X2_takes_13 th a0 a2 0 h else none
theorem t_X2_takes {g : GP} {X : MX} {mcR msR : Nat} (hF : gF g = true) (hX : Cx g RX2 cX2_takes 2 mcR msR (some .boolean) [] X) {th : Nat} {a0 : Int32} {a1 : Int32} {a2 : Int32} {h : AH} {z : Int32} (e : s_X2_takes th a0 a1 a2 h = some z) : AR g X 0 0 (QQ g X NT false h (.inl (some (.int z))) 0 0) h 0 [.ref th, .int a0, .int a1, .int a2, jk] [] := by
  unfold s_X2_takes at e
  obtain ⟨hl_this, e_99⟩ := if_some e
  clear e
  refine aw_aload_n (i := 0) hX rfl rfl d_X2_takes_0 ?_
  refine ar_getI hX fg_RX2_22 (by assumption) d_X2_takes_1 ?_
  refine aw_iconst (v := 2) hX (by decide) d_X2_takes_4 ?_
  refine aw_icmp_ne (t := 12) hX (by decide) d_X2_takes_5 (fun c => ?_) (fun c => ?_)
  · rw [if_neg c] at e_99
    refine aw_iconst (v := 0) hX (by decide) d_X2_takes_12 ?_
    exact tj_X2_takes_13 hF hX (by assumption) e_99
  · rw [if_pos c] at e_99
    refine aw_iload_n (i := 2) hX rfl rfl d_X2_takes_8 ?_
    refine aw_goto (t := 13) hX (by decide) d_X2_takes_9 ?_
    exact tj_X2_takes_13 hF hX (by assumption) e_99
theorem k_X2_takes {g : GP} (hg : g.1.stackTraces = false) (hF : gF g = true) {th : Nat} {a0 : Int32} {a1 : Int32} {a2 : Int32} {h : AH} {z : Int32} (e : s_X2_takes th a0 a1 a2 h = some z) : Ctr g yX2_takes (wsY yX2_takes cX2_takes 5 (some .boolean)) 2 0 0 [.ref th, .int a0, .int a1, .int a2] NT false h (some (.int z)) NT false h := ctr_of (lv0 := [.ref th, .int a0, .int a1, .int a2, jk]) rfl rfl (by decide) hg trivial (fun X hX hn => t_X2_takes hF hX e)
theorem d_X2_move_0 : decode cX2_move 0 = .ok (.aload_n 0, 1) := by decide +kernel
theorem d_X2_move_1 : decode cX2_move 1 = .ok (.getfield 19, 3) := by decide +kernel
theorem d_X2_move_4 : decode cX2_move 4 = .ok (.iload_n 2, 1) := by decide +kernel
theorem d_X2_move_5 : decode cX2_move 5 = .ok (.invokestatic 52, 3) := by decide +kernel
theorem d_X2_move_8 : decode cX2_move 8 = .ok (.lstore 5, 2) := by decide +kernel
theorem d_X2_move_10 : decode cX2_move 10 = .ok (.lload 5, 2) := by decide +kernel
theorem d_X2_move_12 : decode cX2_move 12 = .ok (.iload_n 3, 1) := by decide +kernel
theorem d_X2_move_13 : decode cX2_move 13 = .ok (.i2l, 1) := by decide +kernel
theorem d_X2_move_14 : decode cX2_move 14 = .ok (.lmul, 1) := by decide +kernel
theorem d_X2_move_15 : decode cX2_move 15 = .ok (.ldc2_w 97, 3) := by decide +kernel
theorem d_X2_move_18 : decode cX2_move 18 = .ok (.ldiv, 1) := by decide +kernel
theorem d_X2_move_19 : decode cX2_move 19 = .ok (.lstore 7, 2) := by decide +kernel
theorem d_X2_move_21 : decode cX2_move 21 = .ok (.aload_n 0, 1) := by decide +kernel
theorem d_X2_move_22 : decode cX2_move 22 = .ok (.iload_n 1, 1) := by decide +kernel
theorem d_X2_move_23 : decode cX2_move 23 = .ok (.aload_n 0, 1) := by decide +kernel
theorem d_X2_move_24 : decode cX2_move 24 = .ok (.iload_n 2, 1) := by decide +kernel
theorem d_X2_move_25 : decode cX2_move 25 = .ok (.invokevirtual 79, 3) := by decide +kernel
theorem d_X2_move_28 : decode cX2_move 28 = .ok (.iload_n 2, 1) := by decide +kernel
theorem d_X2_move_29 : decode cX2_move 29 = .ok (.invokevirtual 125, 3) := by decide +kernel
theorem d_X2_move_32 : decode cX2_move 32 = .ok (.ifCond .ne 26, 3) := by decide +kernel
theorem d_X2_move_35 : decode cX2_move 35 = .ok (.lload 7, 2) := by decide +kernel
theorem d_X2_move_37 : decode cX2_move 37 = .ok (.iload 4, 2) := by decide +kernel
theorem d_X2_move_39 : decode cX2_move 39 = .ok (.i2l, 1) := by decide +kernel
theorem d_X2_move_40 : decode cX2_move 40 = .ok (.lmul, 1) := by decide +kernel
theorem d_X2_move_41 : decode cX2_move 41 = .ok (.ldc2_w 90, 3) := by decide +kernel
theorem d_X2_move_44 : decode cX2_move 44 = .ok (.ldiv, 1) := by decide +kernel
theorem d_X2_move_45 : decode cX2_move 45 = .ok (.lstore 7, 2) := by decide +kernel
theorem d_X2_move_47 : decode cX2_move 47 = .ok (.aload_n 0, 1) := by decide +kernel
theorem d_X2_move_48 : decode cX2_move 48 = .ok (.dup, 1) := by decide +kernel
theorem d_X2_move_49 : decode cX2_move 49 = .ok (.getfield 42, 3) := by decide +kernel
theorem d_X2_move_52 : decode cX2_move 52 = .ok (.lload 7, 2) := by decide +kernel
theorem d_X2_move_54 : decode cX2_move 54 = .ok (.ladd, 1) := by decide +kernel
theorem d_X2_move_55 : decode cX2_move 55 = .ok (.putfield 42, 3) := by decide +kernel
theorem d_X2_move_58 : decode cX2_move 58 = .ok (.aload_n 0, 1) := by decide +kernel
theorem d_X2_move_59 : decode cX2_move 59 = .ok (.getfield 19, 3) := by decide +kernel
theorem d_X2_move_62 : decode cX2_move 62 = .ok (.iload_n 2, 1) := by decide +kernel
theorem d_X2_move_63 : decode cX2_move 63 = .ok (.lload 5, 2) := by decide +kernel
theorem d_X2_move_65 : decode cX2_move 65 = .ok (.lload 7, 2) := by decide +kernel
theorem d_X2_move_67 : decode cX2_move 67 = .ok (.lsub, 1) := by decide +kernel
theorem d_X2_move_68 : decode cX2_move 68 = .ok (.invokestatic 99, 3) := by decide +kernel
theorem d_X2_move_71 : decode cX2_move 71 = .ok (.aload_n 0, 1) := by decide +kernel
theorem d_X2_move_72 : decode cX2_move 72 = .ok (.getfield 19, 3) := by decide +kernel
theorem d_X2_move_75 : decode cX2_move 75 = .ok (.iload_n 2, 1) := by decide +kernel
theorem d_X2_move_76 : decode cX2_move 76 = .ok (.iconst 1, 1) := by decide +kernel
theorem d_X2_move_77 : decode cX2_move 77 = .ok (.iadd, 1) := by decide +kernel
theorem d_X2_move_78 : decode cX2_move 78 = .ok (.aload_n 0, 1) := by decide +kernel
theorem d_X2_move_79 : decode cX2_move 79 = .ok (.getfield 19, 3) := by decide +kernel
theorem d_X2_move_82 : decode cX2_move 82 = .ok (.iload_n 2, 1) := by decide +kernel
theorem d_X2_move_83 : decode cX2_move 83 = .ok (.iconst 1, 1) := by decide +kernel
theorem d_X2_move_84 : decode cX2_move 84 = .ok (.iadd, 1) := by decide +kernel
theorem d_X2_move_85 : decode cX2_move 85 = .ok (.invokestatic 52, 3) := by decide +kernel
theorem d_X2_move_88 : decode cX2_move 88 = .ok (.lload 7, 2) := by decide +kernel
theorem d_X2_move_90 : decode cX2_move 90 = .ok (.ladd, 1) := by decide +kernel
theorem d_X2_move_91 : decode cX2_move 91 = .ok (.invokestatic 99, 3) := by decide +kernel
theorem d_X2_move_94 : decode cX2_move 94 = .ok (.lload 7, 2) := by decide +kernel
theorem d_X2_move_96 : decode cX2_move 96 = .ok (.lreturn, 1) := by decide +kernel
def j_X2_move_58 (v0 : Nat) (v2 : Int32) (v5 : Int64) (v7 : Int64) (h : AH) : Option (Int64 × AH) := bd (s_X9_putWide (some (v0 + 3)) v2 (v5 - v7) h) fun q5 => bd (s_X9_atWide (some (v0 + 3)) (v2 + 1) q5.2) fun x6 => bd (s_X9_putWide (some (v0 + 3)) (v2 + 1) (x6 + v7) q5.2) fun q7 => some (v7, q7.2)
theorem tj_X2_move_58 {g : GP} {X : MX} {mcR msR : Nat} (hF : gF g = true) (hX : Cx g RX2 cX2_move 3 mcR msR (some .long) [] X) {v0 : Nat} {v2 : Int32} {v5 : Int64} {v7 : Int64} (hl_0 : LAY v0 = (0, 2)) {d1 : Value} {d3 : Value} {d4 : Value} {h hz : AH} {z : Int64} (e : j_X2_move_58 v0 v2 v5 v7 h = some (z, hz)) : AR g X 0 0 (QQ g X NT false hz (.inl (some (.long z))) 0 0) h 58 [.ref v0, d1, .int v2, d3, d4, .long v5, jk, .long v7, jk] [] := by
  unfold j_X2_move_58 at e
  refine aw_aload_n (i := 0) hX rfl rfl d_X2_move_58 ?_
  refine ar_getF hX hF fg_RX2_19 (by assumption) d_X2_move_59 ?_
  refine aw_iload_n (i := 2) hX rfl rfl d_X2_move_62 ?_
  refine aw_lload (i := 5) hX rfl d_X2_move_63 ?_
  refine aw_lload (i := 7) hX rfl d_X2_move_65 ?_
  refine aw_lsub hX d_X2_move_67 ?_
  obtain ⟨q5, f_100, e_100⟩ := bd_some e
  clear e
  refine aw_callSN (av := [.ref (v0 + 3), .int v2, .long (v5 - v7)]) (avr := [.long (v5 - v7), .int v2, .ref (v0 + 3)]) hX (k_X9_putWide (cx_g hX) hF f_100) mi_X9_putWide rfl rfl nx20 w_42 (by decide) (Nat.le_of_ble_eq_true rfl) (Nat.zero_le _) (Nat.zero_le _) d_X2_move_68 ?_
  refine aw_aload_n (i := 0) hX rfl rfl d_X2_move_71 ?_
  refine ar_getF hX hF fg_RX2_19 (by assumption) d_X2_move_72 ?_
  refine aw_iload_n (i := 2) hX rfl rfl d_X2_move_75 ?_
  refine aw_iconst (v := 1) hX (by decide) d_X2_move_76 ?_
  refine aw_iadd hX d_X2_move_77 ?_
  refine aw_aload_n (i := 0) hX rfl rfl d_X2_move_78 ?_
  refine ar_getF hX hF fg_RX2_19 (by assumption) d_X2_move_79 ?_
  refine aw_iload_n (i := 2) hX rfl rfl d_X2_move_82 ?_
  refine aw_iconst (v := 1) hX (by decide) d_X2_move_83 ?_
  refine aw_iadd hX d_X2_move_84 ?_
  obtain ⟨x6, f_101, e_101⟩ := bd_some e_100
  clear e_100
  refine aw_callSN (av := [.ref (v0 + 3), .int (v2 + 1)]) (avr := [.int (v2 + 1), .ref (v0 + 3)]) hX (k_X9_atWide (cx_g hX) hF f_101) mi_X9_atWide rfl rfl nx19 w_38 (by decide) (Nat.le_of_ble_eq_true rfl) (Nat.zero_le _) (Nat.zero_le _) d_X2_move_85 ?_
  refine aw_lload (i := 7) hX rfl d_X2_move_88 ?_
  refine aw_ladd hX d_X2_move_90 ?_
  obtain ⟨q7, f_102, e_102⟩ := bd_some e_101
  clear e_101
  refine aw_callSN (av := [.ref (v0 + 3), .int (v2 + 1), .long (x6 + v7)]) (avr := [.long (x6 + v7), .int (v2 + 1), .ref (v0 + 3)]) hX (k_X9_putWide (cx_g hX) hF f_102) mi_X9_putWide rfl rfl nx20 w_42 (by decide) (Nat.le_of_ble_eq_true rfl) (Nat.zero_le _) (Nat.zero_le _) d_X2_move_91 ?_
  refine aw_lload (i := 7) hX rfl d_X2_move_94 ?_
  cases e_102
  exact aw_lreturn hX (Nat.zero_le _) (Nat.zero_le _) d_X2_move_96
def s_X2_move (th : Nat) (a0 : Int32) (a1 : Int32) (a2 : Int32) (a3 : Int32) (h : AH) : Option (Int64 × AH) := if LAY th = (0, 2) then bd (s_X9_atWide (some (th + 3)) a1 h) fun x1 => bd (ldivF (x1 * a2.toInt64) 1000000) fun x2 => bd (s_X2_leftOfTen th a1 h) fun x3 => bd (s_X2_takes th a0 x3 a1 h) fun x4 => if x4 = 0 then bd (ldivF (x2 * a3.toInt64) 1000) fun x8 => j_X2_move_58 th a1 x1 x8 (sL h th 10 ((gL h th 10) + x8)) else j_X2_move_58 th a1 x1 x2 h else none
theorem t_X2_move {g : GP} {X : MX} {mcR msR : Nat} (hF : gF g = true) (hX : Cx g RX2 cX2_move 3 mcR msR (some .long) [] X) {th : Nat} {a0 : Int32} {a1 : Int32} {a2 : Int32} {a3 : Int32} {h hz : AH} {z : Int64} (e : s_X2_move th a0 a1 a2 a3 h = some (z, hz)) : AR g X 0 0 (QQ g X NT false hz (.inl (some (.long z))) 0 0) h 0 [.ref th, .int a0, .int a1, .int a2, .int a3, jk, jk, jk, jk] [] := by
  unfold s_X2_move at e
  obtain ⟨hl_this, e_103⟩ := if_some e
  clear e
  refine aw_aload_n (i := 0) hX rfl rfl d_X2_move_0 ?_
  refine ar_getF hX hF fg_RX2_19 (by assumption) d_X2_move_1 ?_
  refine aw_iload_n (i := 2) hX rfl rfl d_X2_move_4 ?_
  obtain ⟨x1, f_104, e_104⟩ := bd_some e_103
  clear e_103
  refine aw_callSN (av := [.ref (th + 3), .int a1]) (avr := [.int a1, .ref (th + 3)]) hX (k_X9_atWide (cx_g hX) hF f_104) mi_X9_atWide rfl rfl nx19 w_38 (by decide) (Nat.le_of_ble_eq_true rfl) (Nat.zero_le _) (Nat.zero_le _) d_X2_move_5 ?_
  refine aw_lstore (i := 5) (lv2 := [.ref th, .int a0, .int a1, .int a2, .int a3, .long x1, jk, jk, jk]) hX rfl rfl d_X2_move_8 ?_
  refine aw_lload (i := 5) hX rfl d_X2_move_10 ?_
  refine aw_iload_n (i := 3) hX rfl rfl d_X2_move_12 ?_
  refine aw_i2l hX d_X2_move_13 ?_
  refine aw_lmul hX d_X2_move_14 ?_
  refine aw_ldc2 hX w_40 d_X2_move_15 ?_
  obtain ⟨x2, f_105, e_105⟩ := bd_some e_104
  clear e_104
  refine ar_ldiv hX f_105 d_X2_move_18 ?_
  refine aw_lstore (i := 7) (lv2 := [.ref th, .int a0, .int a1, .int a2, .int a3, .long x1, jk, .long x2, jk]) hX rfl rfl d_X2_move_19 ?_
  refine aw_aload_n (i := 0) hX rfl rfl d_X2_move_21 ?_
  refine aw_iload_n (i := 1) hX rfl rfl d_X2_move_22 ?_
  refine aw_aload_n (i := 0) hX rfl rfl d_X2_move_23 ?_
  refine aw_iload_n (i := 2) hX rfl rfl d_X2_move_24 ?_
  obtain ⟨x3, f_106, e_106⟩ := bd_some e_105
  clear e_105
  refine aw_callV (b := th) (av := [.int a1]) (avr := [.int a1]) hX (k_X2_leftOfTen (cx_g hX) hF f_106) mi_X2_leftOfTen rfl rfl w_62 w_63 w_64 (by decide) (by assumption) (LAY_lt (by assumption) (by decide)) rfl rfl (Nat.le_of_ble_eq_true rfl) (Nat.zero_le _) (Nat.zero_le _) d_X2_move_25 ?_
  refine aw_iload_n (i := 2) hX rfl rfl d_X2_move_28 ?_
  obtain ⟨x4, f_107, e_107⟩ := bd_some e_106
  clear e_106
  refine aw_callV (b := th) (av := [.int a0, .int x3, .int a1]) (avr := [.int a1, .int x3, .int a0]) hX (k_X2_takes (cx_g hX) hF f_107) mi_X2_takes rfl rfl w_67 w_68 w_69 (by decide) (by assumption) (LAY_lt (by assumption) (by decide)) rfl rfl (Nat.le_of_ble_eq_true rfl) (Nat.zero_le _) (Nat.zero_le _) d_X2_move_29 ?_
  refine aw_if_ne (t := 58) hX (by decide) d_X2_move_32 (fun c => ?_) (fun c => ?_)
  · rw [if_neg c] at e_107
    exact tj_X2_move_58 hF hX (by assumption) e_107
  · rw [if_pos c] at e_107
    refine aw_lload (i := 7) hX rfl d_X2_move_35 ?_
    refine aw_iload (i := 4) hX rfl d_X2_move_37 ?_
    refine aw_i2l hX d_X2_move_39 ?_
    refine aw_lmul hX d_X2_move_40 ?_
    refine aw_ldc2 hX w_45 d_X2_move_41 ?_
    obtain ⟨x8, f_108, e_108⟩ := bd_some e_107
    clear e_107
    refine ar_ldiv hX f_108 d_X2_move_44 ?_
    refine aw_lstore (i := 7) (lv2 := [.ref th, .int a0, .int a1, .int a2, .int a3, .long x1, jk, .long x8, jk]) hX rfl rfl d_X2_move_45 ?_
    refine aw_aload_n (i := 0) hX rfl rfl d_X2_move_47 ?_
    refine aw_dup hX rfl d_X2_move_48 ?_
    refine ar_getL hX fg_RX2_42 (by assumption) d_X2_move_49 ?_
    refine aw_lload (i := 7) hX rfl d_X2_move_52 ?_
    refine aw_ladd hX d_X2_move_54 ?_
    refine ar_putL hX fp_RX2_42 (by assumption) d_X2_move_55 ?_
    exact tj_X2_move_58 hF hX (by assumption) e_108
theorem k_X2_move {g : GP} (hg : g.1.stackTraces = false) (hF : gF g = true) {th : Nat} {a0 : Int32} {a1 : Int32} {a2 : Int32} {a3 : Int32} {h hz : AH} {z : Int64} (e : s_X2_move th a0 a1 a2 a3 h = some (z, hz)) : Ctr g yX2_move (wsY yX2_move cX2_move 9 (some .long)) 3 0 0 [.ref th, .int a0, .int a1, .int a2, .int a3] NT false h (some (.long z)) NT false hz := ctr_of (lv0 := [.ref th, .int a0, .int a1, .int a2, .int a3, jk, jk, jk, jk]) rfl rfl (by decide) hg trivial (fun X hX hn => t_X2_move hF hX e)
theorem d_X2_flow_0 : decode cX2_flow 0 = .ok (.aload_n 0, 1) := by decide +kernel
theorem d_X2_flow_1 : decode cX2_flow 1 = .ok (.getfield 19, 3) := by decide +kernel
theorem d_X2_flow_4 : decode cX2_flow 4 = .ok (.lconst 0, 1) := by decide +kernel
theorem d_X2_flow_5 : decode cX2_flow 5 = .ok (.invokestatic 64, 3) := by decide +kernel
theorem d_X2_flow_8 : decode cX2_flow 8 = .ok (.aload_n 0, 1) := by decide +kernel
theorem d_X2_flow_9 : decode cX2_flow 9 = .ok (.getfield 19, 3) := by decide +kernel
theorem d_X2_flow_12 : decode cX2_flow 12 = .ok (.iconst 0, 1) := by decide +kernel
theorem d_X2_flow_13 : decode cX2_flow 13 = .ok (.ldc2_w 107, 3) := by decide +kernel
theorem d_X2_flow_16 : decode cX2_flow 16 = .ok (.invokestatic 99, 3) := by decide +kernel
theorem d_X2_flow_19 : decode cX2_flow 19 = .ok (.aload_n 0, 1) := by decide +kernel
theorem d_X2_flow_20 : decode cX2_flow 20 = .ok (.lconst 0, 1) := by decide +kernel
theorem d_X2_flow_21 : decode cX2_flow 21 = .ok (.putfield 39, 3) := by decide +kernel
theorem d_X2_flow_24 : decode cX2_flow 24 = .ok (.aload_n 0, 1) := by decide +kernel
theorem d_X2_flow_25 : decode cX2_flow 25 = .ok (.lconst 0, 1) := by decide +kernel
theorem d_X2_flow_26 : decode cX2_flow 26 = .ok (.putfield 42, 3) := by decide +kernel
theorem d_X2_flow_29 : decode cX2_flow 29 = .ok (.aload_n 0, 1) := by decide +kernel
theorem d_X2_flow_30 : decode cX2_flow 30 = .ok (.invokevirtual 109, 3) := by decide +kernel
theorem d_X2_flow_33 : decode cX2_flow 33 = .ok (.ifCond .eq 16, 3) := by decide +kernel
theorem d_X2_flow_36 : decode cX2_flow 36 = .ok (.iload_n 3, 1) := by decide +kernel
theorem d_X2_flow_37 : decode cX2_flow 37 = .ok (.ifCond .ne 12, 3) := by decide +kernel
theorem d_X2_flow_40 : decode cX2_flow 40 = .ok (.aload_n 1, 1) := by decide +kernel
theorem d_X2_flow_41 : decode cX2_flow 41 = .ok (.iload_n 2, 1) := by decide +kernel
theorem d_X2_flow_42 : decode cX2_flow 42 = .ok (.iconst 4, 1) := by decide +kernel
theorem d_X2_flow_43 : decode cX2_flow 43 = .ok (.invokevirtual 87, 3) := by decide +kernel
theorem d_X2_flow_46 : decode cX2_flow 46 = .ok (.goto 4, 3) := by decide +kernel
theorem d_X2_flow_49 : decode cX2_flow 49 = .ok (.iconst 0, 1) := by decide +kernel
theorem d_X2_flow_50 : decode cX2_flow 50 = .ok (.istore 4, 2) := by decide +kernel
theorem d_X2_flow_52 : decode cX2_flow 52 = .ok (.iconst 0, 1) := by decide +kernel
theorem d_X2_flow_53 : decode cX2_flow 53 = .ok (.istore 5, 2) := by decide +kernel
theorem d_X2_flow_55 : decode cX2_flow 55 = .ok (.iload 5, 2) := by decide +kernel
theorem d_X2_flow_57 : decode cX2_flow 57 = .ok (.aload_n 1, 1) := by decide +kernel
theorem d_X2_flow_58 : decode cX2_flow 58 = .ok (.getfield 68, 3) := by decide +kernel
theorem d_X2_flow_61 : decode cX2_flow 61 = .ok (.if_icmp .ge 90, 3) := by decide +kernel
theorem d_X2_flow_64 : decode cX2_flow 64 = .ok (.aload_n 1, 1) := by decide +kernel
theorem d_X2_flow_65 : decode cX2_flow 65 = .ok (.iload_n 2, 1) := by decide +kernel
theorem d_X2_flow_66 : decode cX2_flow 66 = .ok (.iload 5, 2) := by decide +kernel
theorem d_X2_flow_68 : decode cX2_flow 68 = .ok (.iload_n 3, 1) := by decide +kernel
theorem d_X2_flow_69 : decode cX2_flow 69 = .ok (.invokevirtual 71, 3) := by decide +kernel
theorem d_X2_flow_72 : decode cX2_flow 72 = .ok (.istore 6, 2) := by decide +kernel
theorem d_X2_flow_74 : decode cX2_flow 74 = .ok (.lconst 0, 1) := by decide +kernel
theorem d_X2_flow_75 : decode cX2_flow 75 = .ok (.lstore 7, 2) := by decide +kernel
theorem d_X2_flow_77 : decode cX2_flow 77 = .ok (.iload 5, 2) := by decide +kernel
theorem d_X2_flow_79 : decode cX2_flow 79 = .ok (.istore 9, 2) := by decide +kernel
theorem d_X2_flow_81 : decode cX2_flow 81 = .ok (.iload 9, 2) := by decide +kernel
theorem d_X2_flow_83 : decode cX2_flow 83 = .ok (.ifCond .lt 26, 3) := by decide +kernel
theorem d_X2_flow_86 : decode cX2_flow 86 = .ok (.lload 7, 2) := by decide +kernel
theorem d_X2_flow_88 : decode cX2_flow 88 = .ok (.aload_n 0, 1) := by decide +kernel
theorem d_X2_flow_89 : decode cX2_flow 89 = .ok (.iload 5, 2) := by decide +kernel
theorem d_X2_flow_91 : decode cX2_flow 91 = .ok (.iload 9, 2) := by decide +kernel
theorem d_X2_flow_93 : decode cX2_flow 93 = .ok (.iload 6, 2) := by decide +kernel
theorem d_X2_flow_95 : decode cX2_flow 95 = .ok (.iload 4, 2) := by decide +kernel
theorem d_X2_flow_97 : decode cX2_flow 97 = .ok (.invokevirtual 113, 3) := by decide +kernel
theorem d_X2_flow_100 : decode cX2_flow 100 = .ok (.ladd, 1) := by decide +kernel
theorem d_X2_flow_101 : decode cX2_flow 101 = .ok (.lstore 7, 2) := by decide +kernel
theorem d_X2_flow_103 : decode cX2_flow 103 = .ok (.iinc 9 (-1), 3) := by decide +kernel
theorem d_X2_flow_106 : decode cX2_flow 106 = .ok (.goto (-25), 3) := by decide +kernel
theorem d_X2_flow_109 : decode cX2_flow 109 = .ok (.aload_n 0, 1) := by decide +kernel
theorem d_X2_flow_110 : decode cX2_flow 110 = .ok (.dup, 1) := by decide +kernel
theorem d_X2_flow_111 : decode cX2_flow 111 = .ok (.getfield 39, 3) := by decide +kernel
theorem d_X2_flow_114 : decode cX2_flow 114 = .ok (.lload 7, 2) := by decide +kernel
theorem d_X2_flow_116 : decode cX2_flow 116 = .ok (.ladd, 1) := by decide +kernel
theorem d_X2_flow_117 : decode cX2_flow 117 = .ok (.putfield 39, 3) := by decide +kernel
theorem d_X2_flow_120 : decode cX2_flow 120 = .ok (.aload_n 0, 1) := by decide +kernel
theorem d_X2_flow_121 : decode cX2_flow 121 = .ok (.getfield 9, 3) := by decide +kernel
theorem d_X2_flow_124 : decode cX2_flow 124 = .ok (.iload 5, 2) := by decide +kernel
theorem d_X2_flow_126 : decode cX2_flow 126 = .ok (.lload 7, 2) := by decide +kernel
theorem d_X2_flow_128 : decode cX2_flow 128 = .ok (.l2i, 1) := by decide +kernel
theorem d_X2_flow_129 : decode cX2_flow 129 = .ok (.invokestatic 117, 3) := by decide +kernel
theorem d_X2_flow_132 : decode cX2_flow 132 = .ok (.aload_n 0, 1) := by decide +kernel
theorem d_X2_flow_133 : decode cX2_flow 133 = .ok (.getfield 15, 3) := by decide +kernel
theorem d_X2_flow_136 : decode cX2_flow 136 = .ok (.iload 5, 2) := by decide +kernel
theorem d_X2_flow_138 : decode cX2_flow 138 = .ok (.aload_n 0, 1) := by decide +kernel
theorem d_X2_flow_139 : decode cX2_flow 139 = .ok (.invokevirtual 121, 3) := by decide +kernel
theorem d_X2_flow_142 : decode cX2_flow 142 = .ok (.invokestatic 99, 3) := by decide +kernel
theorem d_X2_flow_145 : decode cX2_flow 145 = .ok (.iinc 5 1, 3) := by decide +kernel
theorem d_X2_flow_148 : decode cX2_flow 148 = .ok (.goto (-93), 3) := by decide +kernel
theorem d_X2_flow_151 : decode cX2_flow 151 = .ok (.return_, 1) := by decide +kernel
def l_X2_flow_81 (p0 : Nat) (p1 : Nat) (p2 : Int32) (p3 : Int32) (p4 : Int32) (p5 : Int32) (p6 : Int32) (s : (Int64 × Int32)) (h : AH) : Option (((Int64 × Int32) ⊕ Int64) × AH) := if s.2 < 0 then some (.inr s.1, h) else bd (s_X2_move p0 p5 s.2 p6 p4 h) fun q5 => some (.inl ((s.1 + q5.1), s.2 + (-1)), q5.2)
theorem tb_X2_flow_81 {g : GP} {X : MX} {mcR msR : Nat} (hF : gF g = true) (hX : Cx g RX2 cX2_flow 4 mcR msR none [] X) {Q : State → Prop} {p0 : Nat} {p1 : Nat} {p2 : Int32} {p3 : Int32} {p4 : Int32} {p5 : Int32} {p6 : Int32} {s : (Int64 × Int32)} (hl_0 : LAY p0 = (0, 2)) (hl_1 : LAY p1 = (0, 8)) {h hz : AH} {z : ((Int64 × Int32) ⊕ Int64)} (e : l_X2_flow_81 p0 p1 p2 p3 p4 p5 p6 s h = some (z, hz)) (kI : ∀ (s2 : (Int64 × Int32)), z = .inl s2 → AR g X 0 0 Q hz 81 [.ref p0, .ref p1, .int p2, .int p3, .int p4, .int p5, .int p6, .long s2.1, jk, .int s2.2] []) (kE0 : ∀ (yy : Int64) (y6 : Value) (y9 : Value), z = .inr yy → AR g X 0 0 Q hz 109 [.ref p0, .ref p1, .int p2, .int p3, .int p4, .int p5, y6, .long yy, jk, y9] []) : AR g X 0 0 Q h 81 [.ref p0, .ref p1, .int p2, .int p3, .int p4, .int p5, .int p6, .long s.1, jk, .int s.2] [] := by
  unfold l_X2_flow_81 at e
  refine aw_iload (i := 9) hX rfl d_X2_flow_81 ?_
  refine aw_if_lt (t := 109) hX (by decide) d_X2_flow_83 (fun c => ?_) (fun c => ?_)
  · rw [if_pos c] at e
    cases e
    exact kE0 s.1 _ _ rfl
  · rw [if_neg c] at e
    refine aw_lload (i := 7) hX rfl d_X2_flow_86 ?_
    refine aw_aload_n (i := 0) hX rfl rfl d_X2_flow_88 ?_
    refine aw_iload (i := 5) hX rfl d_X2_flow_89 ?_
    refine aw_iload (i := 9) hX rfl d_X2_flow_91 ?_
    refine aw_iload (i := 6) hX rfl d_X2_flow_93 ?_
    refine aw_iload (i := 4) hX rfl d_X2_flow_95 ?_
    obtain ⟨q5, f_109, e_109⟩ := bd_some e
    clear e
    refine aw_callV (b := p0) (av := [.int p5, .int s.2, .int p6, .int p4]) (avr := [.int p4, .int p6, .int s.2, .int p5]) hX (k_X2_move (cx_g hX) hF f_109) mi_X2_move rfl rfl w_78 w_79 w_80 (by decide) (by assumption) (LAY_lt (by assumption) (by decide)) rfl rfl (Nat.le_of_ble_eq_true rfl) (Nat.zero_le _) (Nat.zero_le _) d_X2_flow_97 ?_
    refine aw_ladd hX d_X2_flow_100 ?_
    refine aw_lstore (i := 7) (lv2 := [.ref p0, .ref p1, .int p2, .int p3, .int p4, .int p5, .int p6, .long (s.1 + q5.1), jk, .int s.2]) hX rfl rfl d_X2_flow_101 ?_
    refine aw_iinc (i := 9) (lv2 := [.ref p0, .ref p1, .int p2, .int p3, .int p4, .int p5, .int p6, .long (s.1 + q5.1), jk, .int (s.2 + (-1))]) hX rfl (iz (b := (-1)) (by decide)) rfl rfl d_X2_flow_103 ?_
    refine aw_goto (t := 81) hX (by decide) d_X2_flow_106 ?_
    cases e_109
    exact kI ((s.1 + q5.1), s.2 + (-1))  rfl
theorem ti_X2_flow_81 {g : GP} {X : MX} {mcR msR : Nat} (hF : gF g = true) (hX : Cx g RX2 cX2_flow 4 mcR msR none [] X) {Q : State → Prop} {p0 : Nat} {p1 : Nat} {p2 : Int32} {p3 : Int32} {p4 : Int32} {p5 : Int32} {p6 : Int32} (hl_0 : LAY p0 = (0, 2)) (hl_1 : LAY p1 = (0, 8)) {y : Int64} {hz : AH} (kE0 : ∀ (y_6 : Value) (y_9 : Value), AR g X 0 0 Q hz 109 [.ref p0, .ref p1, .int p2, .int p3, .int p4, .int p5, y_6, .long y, jk, y_9] []) (n : Nat) : ∀ (s : (Int64 × Int32)) (h : AH), lpH (l_X2_flow_81 p0 p1 p2 p3 p4 p5 p6) n s h = some (y, hz) → AR g X 0 0 Q h 81 [.ref p0, .ref p1, .int p2, .int p3, .int p4, .int p5, .int p6, .long s.1, jk, .int s.2] [] := by
  induction n with
  | zero => intro s h e; cases e
  | succ n ih =>
    intro s h e
    obtain ⟨x, h1, e1, e2⟩ := lpH_succ e
    rcases e2 with ⟨s2, rfl, e3⟩ | ⟨rfl, rfl⟩
    · exact tb_X2_flow_81 hF hX hl_0 hl_1 e1 (fun s3  hs => by cases hs; exact ih _  _ e3) (fun yy x0 x1 hy => by cases hy)
    · exact tb_X2_flow_81 hF hX hl_0 hl_1 e1 (fun s3  hs => by cases hs) (fun yy x0 x1 hy => by cases hy; exact kE0 x0 x1)
theorem t_X2_flow_81 {g : GP} {X : MX} {mcR msR : Nat} (hF : gF g = true) (hX : Cx g RX2 cX2_flow 4 mcR msR none [] X) {Q : State → Prop} {p0 : Nat} {p1 : Nat} {p2 : Int32} {p3 : Int32} {p4 : Int32} {p5 : Int32} {p6 : Int32} (hl_0 : LAY p0 = (0, 2)) (hl_1 : LAY p1 = (0, 8)) {s : (Int64 × Int32)} {h hz : AH} {n : Nat} {y : Int64} (e : lpH (l_X2_flow_81 p0 p1 p2 p3 p4 p5 p6) n s h = some (y, hz)) (kE0 : ∀ (y_6 : Value) (y_9 : Value), AR g X 0 0 Q hz 109 [.ref p0, .ref p1, .int p2, .int p3, .int p4, .int p5, y_6, .long y, jk, y_9] []) : AR g X 0 0 Q h 81 [.ref p0, .ref p1, .int p2, .int p3, .int p4, .int p5, .int p6, .long s.1, jk, .int s.2] [] := ti_X2_flow_81 hF hX hl_0 hl_1 kE0 n _  _ e
def l_X2_flow_55 (p0 : Nat) (p1 : Nat) (p2 : Int32) (p3 : Int32) (p4 : Int32) (s : Int32) (h : AH) : Option ((Int32 ⊕ Unit) × AH) := if (gI h p1 2) ≤ s then some (.inr (), h) else bd (s_X8_likely p1 p2 s p3 h) fun x4 => bd (lpH (l_X2_flow_81 p0 p1 p2 p3 p4 s x4) FU (0, s) h) fun y6 => bd (s_X9_put (some (p0 + 1)) s y6.1.toInt32 (sL y6.2 p0 9 ((gL y6.2 p0 9) + y6.1))) fun q8 => bd (s_X2_left p0 q8.2) fun x9 => bd (s_X9_putWide (some (p0 + 2)) s x9 q8.2) fun q10 => some (.inl (s + 1), q10.2)
theorem tb_X2_flow_55 {g : GP} {X : MX} {mcR msR : Nat} (hF : gF g = true) (hX : Cx g RX2 cX2_flow 4 mcR msR none [] X) {Q : State → Prop} {p0 : Nat} {p1 : Nat} {p2 : Int32} {p3 : Int32} {p4 : Int32} {s : Int32} (hl_0 : LAY p0 = (0, 2)) (hl_1 : LAY p1 = (0, 8)) {d6 : Value} {d7 : Value} {d8 : Value} {d9 : Value} {h hz : AH} {z : (Int32 ⊕ Unit)} (e : l_X2_flow_55 p0 p1 p2 p3 p4 s h = some (z, hz)) (kI : ∀ (s2 : Int32) (xd6 : Value) (xd7 : Value) (xd8 : Value) (xd9 : Value), z = .inl s2 → AR g X 0 0 Q hz 55 [.ref p0, .ref p1, .int p2, .int p3, .int p4, .int s2, xd6, xd7, xd8, xd9] []) (kE0 : ∀ (yy : Unit) (y0 : Value) (y1 : Value) (y2 : Value) (y3 : Value) (y4 : Value) (y5 : Value) (y6 : Value) (y7 : Value) (y8 : Value) (y9 : Value), z = .inr yy → AR g X 0 0 Q hz 151 [y0, y1, y2, y3, y4, y5, y6, y7, y8, y9] []) : AR g X 0 0 Q h 55 [.ref p0, .ref p1, .int p2, .int p3, .int p4, .int s, d6, d7, d8, d9] [] := by
  unfold l_X2_flow_55 at e
  refine aw_iload (i := 5) hX rfl d_X2_flow_55 ?_
  refine aw_aload_n (i := 1) hX rfl rfl d_X2_flow_57 ?_
  refine ar_getI hX fg_RX2_68 (by assumption) d_X2_flow_58 ?_
  refine aw_icmp_ge (t := 151) hX (by decide) d_X2_flow_61 (fun c => ?_) (fun c => ?_)
  · rw [if_pos c] at e
    cases e
    exact kE0 () _ _ _ _ _ _ _ _ _ _ rfl
  · rw [if_neg c] at e
    refine aw_aload_n (i := 1) hX rfl rfl d_X2_flow_64 ?_
    refine aw_iload_n (i := 2) hX rfl rfl d_X2_flow_65 ?_
    refine aw_iload (i := 5) hX rfl d_X2_flow_66 ?_
    refine aw_iload_n (i := 3) hX rfl rfl d_X2_flow_68 ?_
    obtain ⟨x4, f_110, e_110⟩ := bd_some e
    clear e
    refine aw_callV (b := p1) (av := [.int p2, .int s, .int p3]) (avr := [.int p3, .int s, .int p2]) hX (k_X8_likely (cx_g hX) hF f_110) mi_X8_likely rfl rfl w_54 w_55 w_56 (by decide) (by assumption) (LAY_lt (by assumption) (by decide)) rfl rfl (Nat.le_of_ble_eq_true rfl) (Nat.zero_le _) (Nat.zero_le _) d_X2_flow_69 ?_
    refine aw_istore (i := 6) (lv2 := [.ref p0, .ref p1, .int p2, .int p3, .int p4, .int s, .int x4, d7, d8, d9]) hX rfl rfl d_X2_flow_72 ?_
    refine aw_lconst (v := 0) hX (by decide) d_X2_flow_74 ?_
    refine aw_lstore (i := 7) (lv2 := [.ref p0, .ref p1, .int p2, .int p3, .int p4, .int s, .int x4, .long 0, jk, d9]) hX rfl rfl d_X2_flow_75 ?_
    refine aw_iload (i := 5) hX rfl d_X2_flow_77 ?_
    refine aw_istore (i := 9) (lv2 := [.ref p0, .ref p1, .int p2, .int p3, .int p4, .int s, .int x4, .long 0, jk, .int s]) hX rfl rfl d_X2_flow_79 ?_
    obtain ⟨y6, f_111, e_111⟩ := bd_some e_110
    clear e_110
    refine t_X2_flow_81 hF hX (by assumption) (by assumption) f_111 (fun d7_6 d7_9 => ?_)
    refine aw_aload_n (i := 0) hX rfl rfl d_X2_flow_109 ?_
    refine aw_dup hX rfl d_X2_flow_110 ?_
    refine ar_getL hX fg_RX2_39 (by assumption) d_X2_flow_111 ?_
    refine aw_lload (i := 7) hX rfl d_X2_flow_114 ?_
    refine aw_ladd hX d_X2_flow_116 ?_
    refine ar_putL hX fp_RX2_39 (by assumption) d_X2_flow_117 ?_
    refine aw_aload_n (i := 0) hX rfl rfl d_X2_flow_120 ?_
    refine ar_getF hX hF fg_RX2_9 (by assumption) d_X2_flow_121 ?_
    refine aw_iload (i := 5) hX rfl d_X2_flow_124 ?_
    refine aw_lload (i := 7) hX rfl d_X2_flow_126 ?_
    refine aw_l2i hX d_X2_flow_128 ?_
    obtain ⟨q8, f_112, e_112⟩ := bd_some e_111
    clear e_111
    refine aw_callSN (av := [.ref (p0 + 1), .int s, .int y6.1.toInt32]) (avr := [.int y6.1.toInt32, .int s, .ref (p0 + 1)]) hX (k_X9_put (cx_g hX) hF f_112) mi_X9_put rfl rfl nx21 w_83 (by decide) (Nat.le_of_ble_eq_true rfl) (Nat.zero_le _) (Nat.zero_le _) d_X2_flow_129 ?_
    refine aw_aload_n (i := 0) hX rfl rfl d_X2_flow_132 ?_
    refine ar_getF hX hF fg_RX2_15 (by assumption) d_X2_flow_133 ?_
    refine aw_iload (i := 5) hX rfl d_X2_flow_136 ?_
    refine aw_aload_n (i := 0) hX rfl rfl d_X2_flow_138 ?_
    obtain ⟨x9, f_113, e_113⟩ := bd_some e_112
    clear e_112
    refine aw_callV (b := p0) (av := []) (avr := []) hX (k_X2_left (cx_g hX) hF f_113) mi_X2_left rfl rfl w_86 w_87 w_88 (by decide) (by assumption) (LAY_lt (by assumption) (by decide)) rfl rfl (Nat.le_of_ble_eq_true rfl) (Nat.zero_le _) (Nat.zero_le _) d_X2_flow_139 ?_
    obtain ⟨q10, f_114, e_114⟩ := bd_some e_113
    clear e_113
    refine aw_callSN (av := [.ref (p0 + 2), .int s, .long x9]) (avr := [.long x9, .int s, .ref (p0 + 2)]) hX (k_X9_putWide (cx_g hX) hF f_114) mi_X9_putWide rfl rfl nx20 w_42 (by decide) (Nat.le_of_ble_eq_true rfl) (Nat.zero_le _) (Nat.zero_le _) d_X2_flow_142 ?_
    refine aw_iinc (i := 5) (lv2 := [.ref p0, .ref p1, .int p2, .int p3, .int p4, .int (s + 1), d7_6, .long y6.1, jk, d7_9]) hX rfl rfl rfl rfl d_X2_flow_145 ?_
    refine aw_goto (t := 55) hX (by decide) d_X2_flow_148 ?_
    cases e_114
    exact kI (s + 1) _ _ _ _ rfl
theorem ti_X2_flow_55 {g : GP} {X : MX} {mcR msR : Nat} (hF : gF g = true) (hX : Cx g RX2 cX2_flow 4 mcR msR none [] X) {Q : State → Prop} {p0 : Nat} {p1 : Nat} {p2 : Int32} {p3 : Int32} {p4 : Int32} (hl_0 : LAY p0 = (0, 2)) (hl_1 : LAY p1 = (0, 8)) {y : Unit} {hz : AH} (kE0 : ∀ (y_0 : Value) (y_1 : Value) (y_2 : Value) (y_3 : Value) (y_4 : Value) (y_5 : Value) (y_6 : Value) (y_7 : Value) (y_8 : Value) (y_9 : Value), AR g X 0 0 Q hz 151 [y_0, y_1, y_2, y_3, y_4, y_5, y_6, y_7, y_8, y_9] []) (n : Nat) : ∀ (s : Int32) (d6 : Value) (d7 : Value) (d8 : Value) (d9 : Value) (h : AH), lpH (l_X2_flow_55 p0 p1 p2 p3 p4) n s h = some (y, hz) → AR g X 0 0 Q h 55 [.ref p0, .ref p1, .int p2, .int p3, .int p4, .int s, d6, d7, d8, d9] [] := by
  induction n with
  | zero => intro s d6 d7 d8 d9 h e; cases e
  | succ n ih =>
    intro s d6 d7 d8 d9 h e
    obtain ⟨x, h1, e1, e2⟩ := lpH_succ e
    rcases e2 with ⟨s2, rfl, e3⟩ | ⟨rfl, rfl⟩
    · exact tb_X2_flow_55 hF hX hl_0 hl_1 e1 (fun s3 x0 x1 x2 x3 hs => by cases hs; exact ih _ _ _ _ _ _ e3) (fun yy x0 x1 x2 x3 x4 x5 x6 x7 x8 x9 hy => by cases hy)
    · exact tb_X2_flow_55 hF hX hl_0 hl_1 e1 (fun s3 x0 x1 x2 x3 hs => by cases hs) (fun yy x0 x1 x2 x3 x4 x5 x6 x7 x8 x9 hy => by cases hy; exact kE0 x0 x1 x2 x3 x4 x5 x6 x7 x8 x9)
theorem t_X2_flow_55 {g : GP} {X : MX} {mcR msR : Nat} (hF : gF g = true) (hX : Cx g RX2 cX2_flow 4 mcR msR none [] X) {Q : State → Prop} {p0 : Nat} {p1 : Nat} {p2 : Int32} {p3 : Int32} {p4 : Int32} (hl_0 : LAY p0 = (0, 2)) (hl_1 : LAY p1 = (0, 8)) {s : Int32} {d6 : Value} {d7 : Value} {d8 : Value} {d9 : Value} {h hz : AH} {n : Nat} {y : Unit} (e : lpH (l_X2_flow_55 p0 p1 p2 p3 p4) n s h = some (y, hz)) (kE0 : ∀ (y_0 : Value) (y_1 : Value) (y_2 : Value) (y_3 : Value) (y_4 : Value) (y_5 : Value) (y_6 : Value) (y_7 : Value) (y_8 : Value) (y_9 : Value), AR g X 0 0 Q hz 151 [y_0, y_1, y_2, y_3, y_4, y_5, y_6, y_7, y_8, y_9] []) : AR g X 0 0 Q h 55 [.ref p0, .ref p1, .int p2, .int p3, .int p4, .int s, d6, d7, d8, d9] [] := ti_X2_flow_55 hF hX hl_0 hl_1 kE0 n _ _ _ _ _ _ e
def j_X2_flow_50 (v0 : Nat) (v1 : Nat) (v2 : Int32) (v3 : Int32) (k0 : Int32) (h : AH) : Option (Unit × AH) := bd (lpH (l_X2_flow_55 v0 v1 v2 v3 k0) FU 0 h) fun y11 => some ((), y11.2)
theorem tj_X2_flow_50 {g : GP} {X : MX} {mcR msR : Nat} (hF : gF g = true) (hX : Cx g RX2 cX2_flow 4 mcR msR none [] X) {v0 : Nat} {v1 : Nat} {v2 : Int32} {v3 : Int32} {k0 : Int32} (hl_0 : LAY v0 = (0, 2)) (hl_1 : LAY v1 = (0, 8)) {d4 : Value} {d5 : Value} {d6 : Value} {d7 : Value} {d8 : Value} {d9 : Value} {h hz : AH} {z : Unit} (e : j_X2_flow_50 v0 v1 v2 v3 k0 h = some (z, hz)) : AR g X 0 0 (QQ g X NT false hz (.inl none) 0 0) h 50 [.ref v0, .ref v1, .int v2, .int v3, d4, d5, d6, d7, d8, d9] [.int k0] := by
  unfold j_X2_flow_50 at e
  refine aw_istore (i := 4) (lv2 := [.ref v0, .ref v1, .int v2, .int v3, .int k0, d5, d6, d7, d8, d9]) hX rfl rfl d_X2_flow_50 ?_
  refine aw_iconst (v := 0) hX (by decide) d_X2_flow_52 ?_
  refine aw_istore (i := 5) (lv2 := [.ref v0, .ref v1, .int v2, .int v3, .int k0, .int 0, d6, d7, d8, d9]) hX rfl rfl d_X2_flow_53 ?_
  obtain ⟨y11, f_115, e_115⟩ := bd_some e
  clear e
  refine t_X2_flow_55 hF hX (by assumption) (by assumption) f_115 (fun d12_0 d12_1 d12_2 d12_3 d12_4 d12_5 d12_6 d12_7 d12_8 d12_9 => ?_)
  cases e_115
  exact aw_return hX (Nat.zero_le _) (Nat.zero_le _) d_X2_flow_151
def j_X2_flow_49 (v0 : Nat) (v1 : Nat) (v2 : Int32) (v3 : Int32) (h : AH) : Option (Unit × AH) := j_X2_flow_50 v0 v1 v2 v3 0 h
theorem tj_X2_flow_49 {g : GP} {X : MX} {mcR msR : Nat} (hF : gF g = true) (hX : Cx g RX2 cX2_flow 4 mcR msR none [] X) {v0 : Nat} {v1 : Nat} {v2 : Int32} {v3 : Int32} (hl_0 : LAY v0 = (0, 2)) (hl_1 : LAY v1 = (0, 8)) {d4 : Value} {d5 : Value} {d6 : Value} {d7 : Value} {d8 : Value} {d9 : Value} {h hz : AH} {z : Unit} (e : j_X2_flow_49 v0 v1 v2 v3 h = some (z, hz)) : AR g X 0 0 (QQ g X NT false hz (.inl none) 0 0) h 49 [.ref v0, .ref v1, .int v2, .int v3, d4, d5, d6, d7, d8, d9] [] := by
  unfold j_X2_flow_49 at e
  refine aw_iconst (v := 0) hX (by decide) d_X2_flow_49 ?_
  exact tj_X2_flow_50 hF hX (by assumption) (by assumption) e
def s_X2_flow (th : Nat) (a0 : Option Nat) (a1 : Int32) (a2 : Int32) (h : AH) : Option (Unit × AH) := if LAY th = (0, 2) then bd a0 fun oa0 => if LAY oa0 = (0, 8) then bd (s_X9_fillWide (some (th + 3)) 0 h) fun q1 => bd (s_X9_putWide (some (th + 3)) 0 1000000000 q1.2) fun q2 => bd (s_X2_isOfHabit th (sL (sL q2.2 th 9 0) th 10 0)) fun x3 => if x3 = 0 then j_X2_flow_49 th oa0 a1 a2 (sL (sL q2.2 th 9 0) th 10 0) else if a2 = 0 then bd (s_X8_ofKind oa0 a1 4 (sL (sL q2.2 th 9 0) th 10 0)) fun x13 => j_X2_flow_50 th oa0 a1 a2 x13 (sL (sL q2.2 th 9 0) th 10 0) else j_X2_flow_49 th oa0 a1 a2 (sL (sL q2.2 th 9 0) th 10 0) else none else none
theorem t_X2_flow {g : GP} {X : MX} {mcR msR : Nat} (hF : gF g = true) (hX : Cx g RX2 cX2_flow 4 mcR msR none [] X) {th : Nat} {a0 : Option Nat} {a1 : Int32} {a2 : Int32} {h hz : AH} {z : Unit} (e : s_X2_flow th a0 a1 a2 h = some (z, hz)) : AR g X 0 0 (QQ g X NT false hz (.inl none) 0 0) h 0 [.ref th, rfV a0, .int a1, .int a2, jk, jk, jk, jk, jk, jk] [] := by
  unfold s_X2_flow at e
  obtain ⟨hl_this, e_116⟩ := if_some e
  clear e
  obtain ⟨oa0, e0, e_117⟩ := bd_some e_116
  clear e_116
  subst e0
  obtain ⟨hl_a0, e_118⟩ := if_some e_117
  clear e_117
  refine aw_aload_n (i := 0) hX rfl rfl d_X2_flow_0 ?_
  refine ar_getF hX hF fg_RX2_19 (by assumption) d_X2_flow_1 ?_
  refine aw_lconst (v := 0) hX (by decide) d_X2_flow_4 ?_
  obtain ⟨q1, f_119, e_119⟩ := bd_some e_118
  clear e_118
  refine aw_callSN (av := [.ref (th + 3), .long 0]) (avr := [.long 0, .ref (th + 3)]) hX (k_X9_fillWide (cx_g hX) hF f_119) mi_X9_fillWide rfl rfl nx18 w_51 (by decide) (Nat.le_of_ble_eq_true rfl) (Nat.zero_le _) (Nat.zero_le _) d_X2_flow_5 ?_
  refine aw_aload_n (i := 0) hX rfl rfl d_X2_flow_8 ?_
  refine ar_getF hX hF fg_RX2_19 (by assumption) d_X2_flow_9 ?_
  refine aw_iconst (v := 0) hX (by decide) d_X2_flow_12 ?_
  refine aw_ldc2 hX w_71 d_X2_flow_13 ?_
  obtain ⟨q2, f_120, e_120⟩ := bd_some e_119
  clear e_119
  refine aw_callSN (av := [.ref (th + 3), .int 0, .long 1000000000]) (avr := [.long 1000000000, .int 0, .ref (th + 3)]) hX (k_X9_putWide (cx_g hX) hF f_120) mi_X9_putWide rfl rfl nx20 w_42 (by decide) (Nat.le_of_ble_eq_true rfl) (Nat.zero_le _) (Nat.zero_le _) d_X2_flow_16 ?_
  refine aw_aload_n (i := 0) hX rfl rfl d_X2_flow_19 ?_
  refine aw_lconst (v := 0) hX (by decide) d_X2_flow_20 ?_
  refine ar_putL hX fp_RX2_39 (by assumption) d_X2_flow_21 ?_
  refine aw_aload_n (i := 0) hX rfl rfl d_X2_flow_24 ?_
  refine aw_lconst (v := 0) hX (by decide) d_X2_flow_25 ?_
  refine ar_putL hX fp_RX2_42 (by assumption) d_X2_flow_26 ?_
  refine aw_aload_n (i := 0) hX rfl rfl d_X2_flow_29 ?_
  obtain ⟨x3, f_121, e_121⟩ := bd_some e_120
  clear e_120
  refine aw_callV (b := th) (av := []) (avr := []) hX (k_X2_isOfHabit (cx_g hX) hF f_121) mi_X2_isOfHabit rfl rfl w_74 w_75 w_76 (by decide) (by assumption) (LAY_lt (by assumption) (by decide)) rfl rfl (Nat.le_of_ble_eq_true rfl) (Nat.zero_le _) (Nat.zero_le _) d_X2_flow_30 ?_
  refine aw_if_eq (t := 49) hX (by decide) d_X2_flow_33 (fun c => ?_) (fun c => ?_)
  · rw [if_pos c] at e_121
    exact tj_X2_flow_49 hF hX (by assumption) (by assumption) e_121
  · rw [if_neg c] at e_121
    refine aw_iload_n (i := 3) hX rfl rfl d_X2_flow_36 ?_
    refine aw_if_ne (t := 49) hX (by decide) d_X2_flow_37 (fun c => ?_) (fun c => ?_)
    · rw [if_neg c] at e_121
      exact tj_X2_flow_49 hF hX (by assumption) (by assumption) e_121
    · rw [if_pos c] at e_121
      refine aw_aload_n (i := 1) hX rfl rfl d_X2_flow_40 ?_
      refine aw_iload_n (i := 2) hX rfl rfl d_X2_flow_41 ?_
      refine aw_iconst (v := 4) hX (by decide) d_X2_flow_42 ?_
      obtain ⟨x13, f_122, e_122⟩ := bd_some e_121
      clear e_121
      refine aw_callV (b := oa0) (av := [.int a1, .int 4]) (avr := [.int 4, .int a1]) hX (k_X8_ofKind (cx_g hX) hF f_122) mi_X8_ofKind rfl rfl w_35 w_10 w_11 (by decide) (by assumption) (LAY_lt (by assumption) (by decide)) rfl rfl (Nat.le_of_ble_eq_true rfl) (Nat.zero_le _) (Nat.zero_le _) d_X2_flow_43 ?_
      refine aw_goto (t := 50) hX (by decide) d_X2_flow_46 ?_
      exact tj_X2_flow_50 hF hX (by assumption) (by assumption) e_122
theorem k_X2_flow {g : GP} (hg : g.1.stackTraces = false) (hF : gF g = true) {th : Nat} {a0 : Option Nat} {a1 : Int32} {a2 : Int32} {h hz : AH} {z : Unit} (e : s_X2_flow th a0 a1 a2 h = some (z, hz)) : Ctr g yX2_flow (wsY yX2_flow cX2_flow 10 none) 4 0 0 [.ref th, rfV a0, .int a1, .int a2] NT false h none NT false hz := ctr_of (lv0 := [.ref th, rfV a0, .int a1, .int a2, jk, jk, jk, jk, jk, jk]) (by cases a0 <;> rfl) (by cases a0 <;> rfl) (by decide) hg trivial (fun X hX hn => t_X2_flow hF hX e)
theorem d_X2_use_0 : decode cX2_use 0 = .ok (.aload_n 0, 1) := by decide +kernel
theorem d_X2_use_1 : decode cX2_use 1 = .ok (.aload_n 1, 1) := by decide +kernel
theorem d_X2_use_2 : decode cX2_use 2 = .ok (.iload_n 2, 1) := by decide +kernel
theorem d_X2_use_3 : decode cX2_use 3 = .ok (.iconst 1, 1) := by decide +kernel
theorem d_X2_use_4 : decode cX2_use 4 = .ok (.invokevirtual 103, 3) := by decide +kernel
theorem d_X2_use_7 : decode cX2_use 7 = .ok (.aload_n 0, 1) := by decide +kernel
theorem d_X2_use_8 : decode cX2_use 8 = .ok (.aload_n 0, 1) := by decide +kernel
theorem d_X2_use_9 : decode cX2_use 9 = .ok (.getfield 39, 3) := by decide +kernel
theorem d_X2_use_12 : decode cX2_use 12 = .ok (.putfield 45, 3) := by decide +kernel
theorem d_X2_use_15 : decode cX2_use 15 = .ok (.aload_n 0, 1) := by decide +kernel
theorem d_X2_use_16 : decode cX2_use 16 = .ok (.aload_n 1, 1) := by decide +kernel
theorem d_X2_use_17 : decode cX2_use 17 = .ok (.iload_n 2, 1) := by decide +kernel
theorem d_X2_use_18 : decode cX2_use 18 = .ok (.iconst 0, 1) := by decide +kernel
theorem d_X2_use_19 : decode cX2_use 19 = .ok (.invokevirtual 103, 3) := by decide +kernel
theorem d_X2_use_22 : decode cX2_use 22 = .ok (.return_, 1) := by decide +kernel
def s_X2_use (th : Nat) (a0 : Option Nat) (a1 : Int32) (h : AH) : Option (Unit × AH) := if LAY th = (0, 2) then bd a0 fun oa0 => if LAY oa0 = (0, 8) then bd (s_X2_flow th (some oa0) a1 1 h) fun q1 => bd (s_X2_flow th (some oa0) a1 0 (sL q1.2 th 11 (gL q1.2 th 9))) fun q2 => some ((), q2.2) else none else none
theorem t_X2_use {g : GP} {X : MX} {mcR msR : Nat} (hF : gF g = true) (hX : Cx g RX2 cX2_use 5 mcR msR none [] X) {th : Nat} {a0 : Option Nat} {a1 : Int32} {h hz : AH} {z : Unit} (e : s_X2_use th a0 a1 h = some (z, hz)) : AR g X 0 0 (QQ g X NT false hz (.inl none) 0 0) h 0 [.ref th, rfV a0, .int a1] [] := by
  unfold s_X2_use at e
  obtain ⟨hl_this, e_123⟩ := if_some e
  clear e
  obtain ⟨oa0, e0, e_124⟩ := bd_some e_123
  clear e_123
  subst e0
  obtain ⟨hl_a0, e_125⟩ := if_some e_124
  clear e_124
  refine aw_aload_n (i := 0) hX rfl rfl d_X2_use_0 ?_
  refine aw_aload_n (i := 1) hX rfl rfl d_X2_use_1 ?_
  refine aw_iload_n (i := 2) hX rfl rfl d_X2_use_2 ?_
  refine aw_iconst (v := 1) hX (by decide) d_X2_use_3 ?_
  obtain ⟨q1, f_126, e_126⟩ := bd_some e_125
  clear e_125
  refine aw_callV (b := th) (av := [.ref oa0, .int a1, .int 1]) (avr := [.int 1, .int a1, .ref oa0]) hX (k_X2_flow (cx_g hX) hF f_126) mi_X2_flow rfl rfl w_90 w_91 w_92 (by decide) (by assumption) (LAY_lt (by assumption) (by decide)) rfl rfl (Nat.le_of_ble_eq_true rfl) (Nat.zero_le _) (Nat.zero_le _) d_X2_use_4 ?_
  refine aw_aload_n (i := 0) hX rfl rfl d_X2_use_7 ?_
  refine aw_aload_n (i := 0) hX rfl rfl d_X2_use_8 ?_
  refine ar_getL hX fg_RX2_39 (by assumption) d_X2_use_9 ?_
  refine ar_putL hX fp_RX2_45 (by assumption) d_X2_use_12 ?_
  refine aw_aload_n (i := 0) hX rfl rfl d_X2_use_15 ?_
  refine aw_aload_n (i := 1) hX rfl rfl d_X2_use_16 ?_
  refine aw_iload_n (i := 2) hX rfl rfl d_X2_use_17 ?_
  refine aw_iconst (v := 0) hX (by decide) d_X2_use_18 ?_
  obtain ⟨q2, f_127, e_127⟩ := bd_some e_126
  clear e_126
  refine aw_callV (b := th) (av := [.ref oa0, .int a1, .int 0]) (avr := [.int 0, .int a1, .ref oa0]) hX (k_X2_flow (cx_g hX) hF f_127) mi_X2_flow rfl rfl w_90 w_91 w_92 (by decide) (by assumption) (LAY_lt (by assumption) (by decide)) rfl rfl (Nat.le_of_ble_eq_true rfl) (Nat.zero_le _) (Nat.zero_le _) d_X2_use_19 ?_
  cases e_127
  exact aw_return hX (Nat.zero_le _) (Nat.zero_le _) d_X2_use_22
theorem k_X2_use {g : GP} (hg : g.1.stackTraces = false) (hF : gF g = true) {th : Nat} {a0 : Option Nat} {a1 : Int32} {h hz : AH} {z : Unit} (e : s_X2_use th a0 a1 h = some (z, hz)) : Ctr g yX2_use (wsY yX2_use cX2_use 3 none) 5 0 0 [.ref th, rfV a0, .int a1] NT false h none NT false hz := ctr_of (lv0 := [.ref th, rfV a0, .int a1]) (by cases a0 <;> rfl) (by cases a0 <;> rfl) (by decide) hg trivial (fun X hX hn => t_X2_use hF hX e)
theorem d_X2_comingOn_0 : decode cX2_comingOn 0 = .ok (.aload_n 0, 1) := by decide +kernel
theorem d_X2_comingOn_1 : decode cX2_comingOn 1 = .ok (.getfield 9, 3) := by decide +kernel
theorem d_X2_comingOn_4 : decode cX2_comingOn 4 = .ok (.iload_n 1, 1) := by decide +kernel
theorem d_X2_comingOn_5 : decode cX2_comingOn 5 = .ok (.invokestatic 48, 3) := by decide +kernel
theorem d_X2_comingOn_8 : decode cX2_comingOn 8 = .ok (.ireturn, 1) := by decide +kernel
def s_X2_comingOn (th : Nat) (a0 : Int32) (h : AH) : Option Int32 := if LAY th = (0, 2) then bd (s_X9_at (some (th + 1)) a0 h) fun x1 => some x1 else none
theorem t_X2_comingOn {g : GP} {X : MX} {mcR msR : Nat} (hF : gF g = true) (hX : Cx g RX2 cX2_comingOn 2 mcR msR (some .int) [] X) {th : Nat} {a0 : Int32} {h : AH} {z : Int32} (e : s_X2_comingOn th a0 h = some z) : AR g X 0 0 (QQ g X NT false h (.inl (some (.int z))) 0 0) h 0 [.ref th, .int a0] [] := by
  unfold s_X2_comingOn at e
  obtain ⟨hl_this, e_155⟩ := if_some e
  clear e
  refine aw_aload_n (i := 0) hX rfl rfl d_X2_comingOn_0 ?_
  refine ar_getF hX hF fg_RX2_9 (by assumption) d_X2_comingOn_1 ?_
  refine aw_iload_n (i := 1) hX rfl rfl d_X2_comingOn_4 ?_
  obtain ⟨x1, f_156, e_156⟩ := bd_some e_155
  clear e_155
  refine aw_callSN (av := [.ref (th + 1), .int a0]) (avr := [.int a0, .ref (th + 1)]) hX (k_X9_at (cx_g hX) hF f_156) mi_X9_at rfl rfl nx9 w_6 (by decide) (Nat.le_of_ble_eq_true rfl) (Nat.zero_le _) (Nat.zero_le _) d_X2_comingOn_5 ?_
  cases e_156
  exact aw_ireturn hX (Nat.zero_le _) (Nat.zero_le _) d_X2_comingOn_8
theorem k_X2_comingOn {g : GP} (hg : g.1.stackTraces = false) (hF : gF g = true) {th : Nat} {a0 : Int32} {h : AH} {z : Int32} (e : s_X2_comingOn th a0 h = some z) : Ctr g yX2_comingOn (wsY yX2_comingOn cX2_comingOn 2 (some .int)) 2 0 0 [.ref th, .int a0] NT false h (some (.int z)) NT false h := ctr_of (lv0 := [.ref th, .int a0]) rfl rfl (by decide) hg trivial (fun X hX hn => t_X2_comingOn hF hX e)
theorem d_X2_gone_0 : decode cX2_gone 0 = .ok (.aload_n 0, 1) := by decide +kernel
theorem d_X2_gone_1 : decode cX2_gone 1 = .ok (.getfield 39, 3) := by decide +kernel
theorem d_X2_gone_4 : decode cX2_gone 4 = .ok (.lreturn, 1) := by decide +kernel
def s_X2_gone (th : Nat) (h : AH) : Option Int64 := if LAY th = (0, 2) then some (gL h th 9) else none
theorem t_X2_gone {g : GP} {X : MX} {mcR msR : Nat} (hF : gF g = true) (hX : Cx g RX2 cX2_gone 1 mcR msR (some .long) [] X) {th : Nat} {h : AH} {z : Int64} (e : s_X2_gone th h = some z) : AR g X 0 0 (QQ g X NT false h (.inl (some (.long z))) 0 0) h 0 [.ref th] [] := by
  unfold s_X2_gone at e
  obtain ⟨hl_this, e_223⟩ := if_some e
  clear e
  refine aw_aload_n (i := 0) hX rfl rfl d_X2_gone_0 ?_
  refine ar_getL hX fg_RX2_39 (by assumption) d_X2_gone_1 ?_
  cases e_223
  exact aw_lreturn hX (Nat.zero_le _) (Nat.zero_le _) d_X2_gone_4
theorem k_X2_gone {g : GP} (hg : g.1.stackTraces = false) (hF : gF g = true) {th : Nat} {h : AH} {z : Int64} (e : s_X2_gone th h = some z) : Ctr g yX2_gone (wsY yX2_gone cX2_gone 1 (some .long)) 1 0 0 [.ref th] NT false h (some (.long z)) NT false h := ctr_of (lv0 := [.ref th]) rfl rfl (by decide) hg trivial (fun X hX hn => t_X2_gone hF hX e)
theorem d_X2_leftBehind_0 : decode cX2_leftBehind 0 = .ok (.aload_n 0, 1) := by decide +kernel
theorem d_X2_leftBehind_1 : decode cX2_leftBehind 1 = .ok (.getfield 15, 3) := by decide +kernel
theorem d_X2_leftBehind_4 : decode cX2_leftBehind 4 = .ok (.iload_n 1, 1) := by decide +kernel
theorem d_X2_leftBehind_5 : decode cX2_leftBehind 5 = .ok (.invokestatic 52, 3) := by decide +kernel
theorem d_X2_leftBehind_8 : decode cX2_leftBehind 8 = .ok (.lreturn, 1) := by decide +kernel
def s_X2_leftBehind (th : Nat) (a0 : Int32) (h : AH) : Option Int64 := if LAY th = (0, 2) then bd (s_X9_atWide (some (th + 2)) a0 h) fun x1 => some x1 else none
theorem t_X2_leftBehind {g : GP} {X : MX} {mcR msR : Nat} (hF : gF g = true) (hX : Cx g RX2 cX2_leftBehind 2 mcR msR (some .long) [] X) {th : Nat} {a0 : Int32} {h : AH} {z : Int64} (e : s_X2_leftBehind th a0 h = some z) : AR g X 0 0 (QQ g X NT false h (.inl (some (.long z))) 0 0) h 0 [.ref th, .int a0] [] := by
  unfold s_X2_leftBehind at e
  obtain ⟨hl_this, e_279⟩ := if_some e
  clear e
  refine aw_aload_n (i := 0) hX rfl rfl d_X2_leftBehind_0 ?_
  refine ar_getF hX hF fg_RX2_15 (by assumption) d_X2_leftBehind_1 ?_
  refine aw_iload_n (i := 1) hX rfl rfl d_X2_leftBehind_4 ?_
  obtain ⟨x1, f_280, e_280⟩ := bd_some e_279
  clear e_279
  refine aw_callSN (av := [.ref (th + 2), .int a0]) (avr := [.int a0, .ref (th + 2)]) hX (k_X9_atWide (cx_g hX) hF f_280) mi_X9_atWide rfl rfl nx19 w_38 (by decide) (Nat.le_of_ble_eq_true rfl) (Nat.zero_le _) (Nat.zero_le _) d_X2_leftBehind_5 ?_
  cases e_280
  exact aw_lreturn hX (Nat.zero_le _) (Nat.zero_le _) d_X2_leftBehind_8
theorem k_X2_leftBehind {g : GP} (hg : g.1.stackTraces = false) (hF : gF g = true) {th : Nat} {a0 : Int32} {h : AH} {z : Int64} (e : s_X2_leftBehind th a0 h = some z) : Ctr g yX2_leftBehind (wsY yX2_leftBehind cX2_leftBehind 2 (some .long)) 2 0 0 [.ref th, .int a0] NT false h (some (.long z)) NT false h := ctr_of (lv0 := [.ref th, .int a0]) rfl rfl (by decide) hg trivial (fun X hX hn => t_X2_leftBehind hF hX e)
theorem d_X2_sunk_0 : decode cX2_sunk 0 = .ok (.aload_n 0, 1) := by decide +kernel
theorem d_X2_sunk_1 : decode cX2_sunk 1 = .ok (.getfield 42, 3) := by decide +kernel
theorem d_X2_sunk_4 : decode cX2_sunk 4 = .ok (.lreturn, 1) := by decide +kernel
def s_X2_sunk (th : Nat) (h : AH) : Option Int64 := if LAY th = (0, 2) then some (gL h th 10) else none
theorem t_X2_sunk {g : GP} {X : MX} {mcR msR : Nat} (hF : gF g = true) (hX : Cx g RX2 cX2_sunk 1 mcR msR (some .long) [] X) {th : Nat} {h : AH} {z : Int64} (e : s_X2_sunk th h = some z) : AR g X 0 0 (QQ g X NT false h (.inl (some (.long z))) 0 0) h 0 [.ref th] [] := by
  unfold s_X2_sunk at e
  obtain ⟨hl_this, e_358⟩ := if_some e
  clear e
  refine aw_aload_n (i := 0) hX rfl rfl d_X2_sunk_0 ?_
  refine ar_getL hX fg_RX2_42 (by assumption) d_X2_sunk_1 ?_
  cases e_358
  exact aw_lreturn hX (Nat.zero_le _) (Nat.zero_le _) d_X2_sunk_4
theorem k_X2_sunk {g : GP} (hg : g.1.stackTraces = false) (hF : gF g = true) {th : Nat} {h : AH} {z : Int64} (e : s_X2_sunk th h = some z) : Ctr g yX2_sunk (wsY yX2_sunk cX2_sunk 1 (some .long)) 1 0 0 [.ref th] NT false h (some (.long z)) NT false h := ctr_of (lv0 := [.ref th]) rfl rfl (by decide) hg trivial (fun X hX hn => t_X2_sunk hF hX e)
theorem d_X2_thoughtGone_0 : decode cX2_thoughtGone 0 = .ok (.aload_n 0, 1) := by decide +kernel
theorem d_X2_thoughtGone_1 : decode cX2_thoughtGone 1 = .ok (.getfield 45, 3) := by decide +kernel
theorem d_X2_thoughtGone_4 : decode cX2_thoughtGone 4 = .ok (.lreturn, 1) := by decide +kernel
def s_X2_thoughtGone (th : Nat) (h : AH) : Option Int64 := if LAY th = (0, 2) then some (gL h th 11) else none
theorem t_X2_thoughtGone {g : GP} {X : MX} {mcR msR : Nat} (hF : gF g = true) (hX : Cx g RX2 cX2_thoughtGone 1 mcR msR (some .long) [] X) {th : Nat} {h : AH} {z : Int64} (e : s_X2_thoughtGone th h = some z) : AR g X 0 0 (QQ g X NT false h (.inl (some (.long z))) 0 0) h 0 [.ref th] [] := by
  unfold s_X2_thoughtGone at e
  obtain ⟨hl_this, e_359⟩ := if_some e
  clear e
  refine aw_aload_n (i := 0) hX rfl rfl d_X2_thoughtGone_0 ?_
  refine ar_getL hX fg_RX2_45 (by assumption) d_X2_thoughtGone_1 ?_
  cases e_359
  exact aw_lreturn hX (Nat.zero_le _) (Nat.zero_le _) d_X2_thoughtGone_4
theorem k_X2_thoughtGone {g : GP} (hg : g.1.stackTraces = false) (hF : gF g = true) {th : Nat} {h : AH} {z : Int64} (e : s_X2_thoughtGone th h = some z) : Ctr g yX2_thoughtGone (wsY yX2_thoughtGone cX2_thoughtGone 1 (some .long)) 1 0 0 [.ref th] NT false h (some (.long z)) NT false h := ctr_of (lv0 := [.ref th]) rfl rfl (by decide) hg trivial (fun X hX hn => t_X2_thoughtGone hF hX e)
