/-! 24.crowd: functions and contracts, by program -/
theorem d_X1_forget_0 : decode cX1_forget 0 = .ok (.aload_n 0, 1) := by decide +kernel
theorem d_X1_forget_1 : decode cX1_forget 1 = .ok (.getfield 19, 3) := by decide +kernel
theorem d_X1_forget_4 : decode cX1_forget 4 = .ok (.iconst 0, 1) := by decide +kernel
theorem d_X1_forget_5 : decode cX1_forget 5 = .ok (.invokestatic 22, 3) := by decide +kernel
theorem d_X1_forget_8 : decode cX1_forget 8 = .ok (.aload_n 0, 1) := by decide +kernel
theorem d_X1_forget_9 : decode cX1_forget 9 = .ok (.getfield 15, 3) := by decide +kernel
theorem d_X1_forget_12 : decode cX1_forget 12 = .ok (.iconst 0, 1) := by decide +kernel
theorem d_X1_forget_13 : decode cX1_forget 13 = .ok (.invokestatic 22, 3) := by decide +kernel
theorem d_X1_forget_16 : decode cX1_forget 16 = .ok (.return_, 1) := by decide +kernel
def s_X1_forget (h : AH) : Option (Unit × AH) := bd (s_X9_fillRow (some 214) 0 h) fun q1 => bd (s_X9_fillRow (some 213) 0 q1.2) fun q2 => some ((), q2.2)
theorem t_X1_forget {g : GP} {X : MX} {mcR msR : Nat} (hF : gF g = true) (hX : Cx g RX1 cX1_forget 2 mcR msR none [] X) {h hz : AH} {z : Unit} (e : s_X1_forget h = some (z, hz)) : AR g X 0 0 (QQ g X NT false hz (.inl none) 0 0) h 0 [.ref 211] [] := by
  unfold s_X1_forget at e
  refine aw_aload_n (i := 0) hX rfl rfl d_X1_forget_0 ?_
  refine ar_getF hX hF fg_RX1_19 rfl d_X1_forget_1 ?_
  show AR g X 0 0 _ _ 4 _ [.ref 214]
  refine aw_iconst (v := 0) hX (by decide) d_X1_forget_4 ?_
  obtain ⟨q1, f_306, e_306⟩ := bd_some e
  clear e
  refine aw_callSN (av := [.ref 214, .int 0]) (avr := [.int 0, .ref 214]) hX (k_X9_fillRow (cx_g hX) hF f_306) mi_X9_fillRow rfl rfl nx23 w_178 (by decide) (Nat.le_of_ble_eq_true rfl) (Nat.zero_le _) (Nat.zero_le _) d_X1_forget_5 ?_
  refine aw_aload_n (i := 0) hX rfl rfl d_X1_forget_8 ?_
  refine ar_getF hX hF fg_RX1_15 rfl d_X1_forget_9 ?_
  show AR g X 0 0 _ _ 12 _ [.ref 213]
  refine aw_iconst (v := 0) hX (by decide) d_X1_forget_12 ?_
  obtain ⟨q2, f_307, e_307⟩ := bd_some e_306
  clear e_306
  refine aw_callSN (av := [.ref 213, .int 0]) (avr := [.int 0, .ref 213]) hX (k_X9_fillRow (cx_g hX) hF f_307) mi_X9_fillRow rfl rfl nx23 w_178 (by decide) (Nat.le_of_ble_eq_true rfl) (Nat.zero_le _) (Nat.zero_le _) d_X1_forget_13 ?_
  cases e_307
  exact aw_return hX (Nat.zero_le _) (Nat.zero_le _) d_X1_forget_16
theorem k_X1_forget {g : GP} (hg : g.1.stackTraces = false) (hF : gF g = true) {h hz : AH} {z : Unit} (e : s_X1_forget h = some (z, hz)) : Ctr g yX1_forget (wsY yX1_forget cX1_forget 1 none) 2 0 0 [.ref 211] NT false h none NT false hz := ctr_of (lv0 := [.ref 211]) rfl rfl (by decide) hg trivial (fun X hX hn => t_X1_forget hF hX e)
theorem d_X1_above_0 : decode cX1_above 0 = .ok (.lconst 0, 1) := by decide +kernel
theorem d_X1_above_1 : decode cX1_above 1 = .ok (.lstore_n 2, 1) := by decide +kernel
theorem d_X1_above_2 : decode cX1_above 2 = .ok (.aload_n 0, 1) := by decide +kernel
theorem d_X1_above_3 : decode cX1_above 3 = .ok (.getfield 95, 3) := by decide +kernel
theorem d_X1_above_6 : decode cX1_above 6 = .ok (.iload_n 1, 1) := by decide +kernel
theorem d_X1_above_7 : decode cX1_above 7 = .ok (.iconst 1, 1) := by decide +kernel
theorem d_X1_above_8 : decode cX1_above 8 = .ok (.iadd, 1) := by decide +kernel
theorem d_X1_above_9 : decode cX1_above 9 = .ok (.invokestatic 79, 3) := by decide +kernel
theorem d_X1_above_12 : decode cX1_above 12 = .ok (.istore 4, 2) := by decide +kernel
theorem d_X1_above_14 : decode cX1_above 14 = .ok (.iload 4, 2) := by decide +kernel
theorem d_X1_above_16 : decode cX1_above 16 = .ok (.aload_n 0, 1) := by decide +kernel
theorem d_X1_above_17 : decode cX1_above 17 = .ok (.getfield 98, 3) := by decide +kernel
theorem d_X1_above_20 : decode cX1_above 20 = .ok (.if_icmp .gt 21, 3) := by decide +kernel
theorem d_X1_above_23 : decode cX1_above 23 = .ok (.lload_n 2, 1) := by decide +kernel
theorem d_X1_above_24 : decode cX1_above 24 = .ok (.aload_n 0, 1) := by decide +kernel
theorem d_X1_above_25 : decode cX1_above 25 = .ok (.getfield 9, 3) := by decide +kernel
theorem d_X1_above_28 : decode cX1_above 28 = .ok (.iload 4, 2) := by decide +kernel
theorem d_X1_above_30 : decode cX1_above 30 = .ok (.invokestatic 104, 3) := by decide +kernel
theorem d_X1_above_33 : decode cX1_above 33 = .ok (.ladd, 1) := by decide +kernel
theorem d_X1_above_34 : decode cX1_above 34 = .ok (.lstore_n 2, 1) := by decide +kernel
theorem d_X1_above_35 : decode cX1_above 35 = .ok (.iinc 4 1, 3) := by decide +kernel
theorem d_X1_above_38 : decode cX1_above 38 = .ok (.goto (-24), 3) := by decide +kernel
theorem d_X1_above_41 : decode cX1_above 41 = .ok (.lload_n 2, 1) := by decide +kernel
theorem d_X1_above_42 : decode cX1_above 42 = .ok (.l2i, 1) := by decide +kernel
theorem d_X1_above_43 : decode cX1_above 43 = .ok (.ireturn, 1) := by decide +kernel
def l_X1_above_14 (h : AH) (s : (Int64 × Int32)) : Option ((Int64 × Int32) ⊕ Int64) := if (gI h 211 2) < s.2 then some (.inr s.1) else bd (s_X9_atWide (some 212) s.2 h) fun x1 => some (.inl ((s.1 + x1), s.2 + 1))
theorem tb_X1_above_14 {g : GP} {X : MX} {mcR msR : Nat} (hF : gF g = true) (hX : Cx g RX1 cX1_above 2 mcR msR (some .int) [] X) {Q : State → Prop} {s : (Int64 × Int32)} {d1 : Value} {h : AH} {z : ((Int64 × Int32) ⊕ Int64)} (e : l_X1_above_14 h s = some z) (kI : ∀ (s2 : (Int64 × Int32)) (xd1 : Value), z = .inl s2 → AR g X 0 0 Q h 14 [.ref 211, xd1, .long s2.1, jk, .int s2.2] []) (kE0 : ∀ (yy : Int64) (y0 : Value) (y1 : Value) (y4 : Value), z = .inr yy → AR g X 0 0 Q h 41 [y0, y1, .long yy, jk, y4] []) : AR g X 0 0 Q h 14 [.ref 211, d1, .long s.1, jk, .int s.2] [] := by
  unfold l_X1_above_14 at e
  refine aw_iload (i := 4) hX rfl d_X1_above_14 ?_
  refine aw_aload_n (i := 0) hX rfl rfl d_X1_above_16 ?_
  refine ar_getI hX fg_RX1_98 rfl d_X1_above_17 ?_
  refine aw_icmp_gt (t := 41) hX (by decide) d_X1_above_20 (fun c => ?_) (fun c => ?_)
  · rw [if_pos c] at e
    cases e
    exact kE0 s.1 _ _ _ rfl
  · rw [if_neg c] at e
    refine aw_lload_n (i := 2) hX rfl rfl d_X1_above_23 ?_
    refine aw_aload_n (i := 0) hX rfl rfl d_X1_above_24 ?_
    refine ar_getF hX hF fg_RX1_9 rfl d_X1_above_25 ?_
    show AR g X 0 0 _ _ 28 _ [.ref 212, .long s.1]
    refine aw_iload (i := 4) hX rfl d_X1_above_28 ?_
    obtain ⟨x1, f_308, e_308⟩ := bd_some e
    clear e
    refine aw_callSN (av := [.ref 212, .int s.2]) (avr := [.int s.2, .ref 212]) hX (k_X9_atWide (cx_g hX) hF f_308) mi_X9_atWide rfl rfl nx27 w_38 (by decide) (Nat.le_of_ble_eq_true rfl) (Nat.zero_le _) (Nat.zero_le _) d_X1_above_30 ?_
    refine aw_ladd hX d_X1_above_33 ?_
    refine aw_lstore_n (i := 2) (lv2 := [.ref 211, _, .long (s.1 + x1), jk, .int s.2]) hX rfl rfl rfl d_X1_above_34 ?_
    refine aw_iinc (i := 4) (lv2 := [.ref 211, _, .long (s.1 + x1), jk, .int (s.2 + 1)]) hX rfl rfl rfl rfl d_X1_above_35 ?_
    refine aw_goto (t := 14) hX (by decide) d_X1_above_38 ?_
    cases e_308
    exact kI ((s.1 + x1), s.2 + 1) _ rfl
theorem ti_X1_above_14 {g : GP} {X : MX} {mcR msR : Nat} (hF : gF g = true) (hX : Cx g RX1 cX1_above 2 mcR msR (some .int) [] X) {Q : State → Prop} {y : Int64} {h : AH} (kE0 : ∀ (y_0 : Value) (y_1 : Value) (y_4 : Value), AR g X 0 0 Q h 41 [y_0, y_1, .long y, jk, y_4] []) (n : Nat) : ∀ (s : (Int64 × Int32)) (d1 : Value), lpP (l_X1_above_14 h) n s = some y → AR g X 0 0 Q h 14 [.ref 211, d1, .long s.1, jk, .int s.2] [] := by
  induction n with
  | zero => intro s d1 e; cases e
  | succ n ih =>
    intro s d1 e
    obtain ⟨x, e1, e2⟩ := lpP_succ e
    rcases e2 with ⟨s2, rfl, e3⟩ | rfl
    · exact tb_X1_above_14 hF hX e1 (fun s3 x0 hs => by cases hs; exact ih _ _  e3) (fun yy x0 x1 x2 hy => by cases hy)
    · exact tb_X1_above_14 hF hX e1 (fun s3 x0 hs => by cases hs) (fun yy x0 x1 x2 hy => by cases hy; exact kE0 x0 x1 x2)
theorem t_X1_above_14 {g : GP} {X : MX} {mcR msR : Nat} (hF : gF g = true) (hX : Cx g RX1 cX1_above 2 mcR msR (some .int) [] X) {Q : State → Prop} {s : (Int64 × Int32)} {d1 : Value} {h : AH} {n : Nat} {y : Int64} (e : lpP (l_X1_above_14 h) n s = some y) (kE0 : ∀ (y_0 : Value) (y_1 : Value) (y_4 : Value), AR g X 0 0 Q h 41 [y_0, y_1, .long y, jk, y_4] []) : AR g X 0 0 Q h 14 [.ref 211, d1, .long s.1, jk, .int s.2] [] := ti_X1_above_14 hF hX kE0 n _ _  e
def s_X1_above (a0 : Int32) (h : AH) : Option Int32 := bd (lpP (l_X1_above_14 h) FU (0, (if (gI h 211 1) < (a0 + 1) then (a0 + 1) else (gI h 211 1)))) fun y2 => some y2.toInt32
theorem t_X1_above {g : GP} {X : MX} {mcR msR : Nat} (hF : gF g = true) (hX : Cx g RX1 cX1_above 2 mcR msR (some .int) [] X) {a0 : Int32} {h : AH} {z : Int32} (e : s_X1_above a0 h = some z) : AR g X 0 0 (QQ g X NT false h (.inl (some (.int z))) 0 0) h 0 [.ref 211, .int a0, jk, jk, jk] [] := by
  unfold s_X1_above at e
  refine aw_lconst (v := 0) hX (by decide) d_X1_above_0 ?_
  refine aw_lstore_n (i := 2) (lv2 := [.ref 211, .int a0, .long 0, jk, jk]) hX rfl rfl rfl d_X1_above_1 ?_
  refine aw_aload_n (i := 0) hX rfl rfl d_X1_above_2 ?_
  refine ar_getI hX fg_RX1_95 rfl d_X1_above_3 ?_
  refine aw_iload_n (i := 1) hX rfl rfl d_X1_above_6 ?_
  refine aw_iconst (v := 1) hX (by decide) d_X1_above_7 ?_
  refine aw_iadd hX d_X1_above_8 ?_
  refine ar_imax hX w_181 mth_imax (by decide) (Nat.le_of_ble_eq_true rfl) (Nat.zero_le _) (Nat.zero_le _) d_X1_above_9 ?_
  refine aw_istore (i := 4) (lv2 := [.ref 211, .int a0, .long 0, jk, .int (if (gI h 211 1) < (a0 + 1) then (a0 + 1) else (gI h 211 1))]) hX rfl rfl d_X1_above_12 ?_
  obtain ⟨y2, f_309, e_309⟩ := bd_some e
  clear e
  refine t_X1_above_14 hF hX f_309 (fun d3_0 d3_1 d3_4 => ?_)
  refine aw_lload_n (i := 2) hX rfl rfl d_X1_above_41 ?_
  refine aw_l2i hX d_X1_above_42 ?_
  cases e_309
  exact aw_ireturn hX (Nat.zero_le _) (Nat.zero_le _) d_X1_above_43
theorem k_X1_above {g : GP} (hg : g.1.stackTraces = false) (hF : gF g = true) {a0 : Int32} {h : AH} {z : Int32} (e : s_X1_above a0 h = some z) : Ctr g yX1_above (wsY yX1_above cX1_above 5 (some .int)) 2 0 0 [.ref 211, .int a0] NT false h (some (.int z)) NT false h := ctr_of (lv0 := [.ref 211, .int a0, jk, jk, jk]) rfl rfl (by decide) hg trivial (fun X hX hn => t_X1_above hF hX e)
theorem d_X1_add_0 : decode cX1_add 0 = .ok (.aload_n 0, 1) := by decide +kernel
theorem d_X1_add_1 : decode cX1_add 1 = .ok (.aload_n 0, 1) := by decide +kernel
theorem d_X1_add_2 : decode cX1_add 2 = .ok (.getfield 98, 3) := by decide +kernel
theorem d_X1_add_5 : decode cX1_add 5 = .ok (.iconst 1, 1) := by decide +kernel
theorem d_X1_add_6 : decode cX1_add 6 = .ok (.iadd, 1) := by decide +kernel
theorem d_X1_add_7 : decode cX1_add 7 = .ok (.sipush 400, 3) := by decide +kernel
theorem d_X1_add_10 : decode cX1_add 10 = .ok (.invokestatic 101, 3) := by decide +kernel
theorem d_X1_add_13 : decode cX1_add 13 = .ok (.putfield 98, 3) := by decide +kernel
theorem d_X1_add_16 : decode cX1_add 16 = .ok (.aload_n 0, 1) := by decide +kernel
theorem d_X1_add_17 : decode cX1_add 17 = .ok (.getfield 98, 3) := by decide +kernel
theorem d_X1_add_20 : decode cX1_add 20 = .ok (.istore_n 2, 1) := by decide +kernel
theorem d_X1_add_21 : decode cX1_add 21 = .ok (.iload_n 2, 1) := by decide +kernel
theorem d_X1_add_22 : decode cX1_add 22 = .ok (.aload_n 0, 1) := by decide +kernel
theorem d_X1_add_23 : decode cX1_add 23 = .ok (.getfield 95, 3) := by decide +kernel
theorem d_X1_add_26 : decode cX1_add 26 = .ok (.if_icmp .lt 55, 3) := by decide +kernel
theorem d_X1_add_29 : decode cX1_add 29 = .ok (.aload_n 0, 1) := by decide +kernel
theorem d_X1_add_30 : decode cX1_add 30 = .ok (.getfield 9, 3) := by decide +kernel
theorem d_X1_add_33 : decode cX1_add 33 = .ok (.iload_n 2, 1) := by decide +kernel
theorem d_X1_add_34 : decode cX1_add 34 = .ok (.invokestatic 104, 3) := by decide +kernel
theorem d_X1_add_37 : decode cX1_add 37 = .ok (.ldc 108, 2) := by decide +kernel
theorem d_X1_add_39 : decode cX1_add 39 = .ok (.iload_n 1, 1) := by decide +kernel
theorem d_X1_add_40 : decode cX1_add 40 = .ok (.isub, 1) := by decide +kernel
theorem d_X1_add_41 : decode cX1_add 41 = .ok (.i2l, 1) := by decide +kernel
theorem d_X1_add_42 : decode cX1_add 42 = .ok (.lmul, 1) := by decide +kernel
theorem d_X1_add_43 : decode cX1_add 43 = .ok (.lstore_n 3, 1) := by decide +kernel
theorem d_X1_add_44 : decode cX1_add 44 = .ok (.aload_n 0, 1) := by decide +kernel
theorem d_X1_add_45 : decode cX1_add 45 = .ok (.getfield 9, 3) := by decide +kernel
theorem d_X1_add_48 : decode cX1_add 48 = .ok (.iload_n 2, 1) := by decide +kernel
theorem d_X1_add_49 : decode cX1_add 49 = .ok (.iconst 1, 1) := by decide +kernel
theorem d_X1_add_50 : decode cX1_add 50 = .ok (.isub, 1) := by decide +kernel
theorem d_X1_add_51 : decode cX1_add 51 = .ok (.invokestatic 104, 3) := by decide +kernel
theorem d_X1_add_54 : decode cX1_add 54 = .ok (.iload_n 1, 1) := by decide +kernel
theorem d_X1_add_55 : decode cX1_add 55 = .ok (.i2l, 1) := by decide +kernel
theorem d_X1_add_56 : decode cX1_add 56 = .ok (.lmul, 1) := by decide +kernel
theorem d_X1_add_57 : decode cX1_add 57 = .ok (.lstore 5, 2) := by decide +kernel
theorem d_X1_add_59 : decode cX1_add 59 = .ok (.aload_n 0, 1) := by decide +kernel
theorem d_X1_add_60 : decode cX1_add 60 = .ok (.getfield 9, 3) := by decide +kernel
theorem d_X1_add_63 : decode cX1_add 63 = .ok (.iload_n 2, 1) := by decide +kernel
theorem d_X1_add_64 : decode cX1_add 64 = .ok (.lload_n 3, 1) := by decide +kernel
theorem d_X1_add_65 : decode cX1_add 65 = .ok (.lload 5, 2) := by decide +kernel
theorem d_X1_add_67 : decode cX1_add 67 = .ok (.ladd, 1) := by decide +kernel
theorem d_X1_add_68 : decode cX1_add 68 = .ok (.ldc2_w 109, 3) := by decide +kernel
theorem d_X1_add_71 : decode cX1_add 71 = .ok (.ldiv, 1) := by decide +kernel
theorem d_X1_add_72 : decode cX1_add 72 = .ok (.invokestatic 91, 3) := by decide +kernel
theorem d_X1_add_75 : decode cX1_add 75 = .ok (.iinc 2 (-1), 3) := by decide +kernel
theorem d_X1_add_78 : decode cX1_add 78 = .ok (.goto (-57), 3) := by decide +kernel
theorem d_X1_add_81 : decode cX1_add 81 = .ok (.aload_n 0, 1) := by decide +kernel
theorem d_X1_add_82 : decode cX1_add 82 = .ok (.getfield 98, 3) := by decide +kernel
theorem d_X1_add_85 : decode cX1_add 85 = .ok (.aload_n 0, 1) := by decide +kernel
theorem d_X1_add_86 : decode cX1_add 86 = .ok (.getfield 95, 3) := by decide +kernel
theorem d_X1_add_89 : decode cX1_add 89 = .ok (.if_icmp .le 32, 3) := by decide +kernel
theorem d_X1_add_92 : decode cX1_add 92 = .ok (.aload_n 0, 1) := by decide +kernel
theorem d_X1_add_93 : decode cX1_add 93 = .ok (.getfield 9, 3) := by decide +kernel
theorem d_X1_add_96 : decode cX1_add 96 = .ok (.aload_n 0, 1) := by decide +kernel
theorem d_X1_add_97 : decode cX1_add 97 = .ok (.getfield 98, 3) := by decide +kernel
theorem d_X1_add_100 : decode cX1_add 100 = .ok (.invokestatic 104, 3) := by decide +kernel
theorem d_X1_add_103 : decode cX1_add 103 = .ok (.lconst 0, 1) := by decide +kernel
theorem d_X1_add_104 : decode cX1_add 104 = .ok (.lcmp, 1) := by decide +kernel
theorem d_X1_add_105 : decode cX1_add 105 = .ok (.ifCond .ne 16, 3) := by decide +kernel
theorem d_X1_add_108 : decode cX1_add 108 = .ok (.aload_n 0, 1) := by decide +kernel
theorem d_X1_add_109 : decode cX1_add 109 = .ok (.dup, 1) := by decide +kernel
theorem d_X1_add_110 : decode cX1_add 110 = .ok (.getfield 98, 3) := by decide +kernel
theorem d_X1_add_113 : decode cX1_add 113 = .ok (.iconst 1, 1) := by decide +kernel
theorem d_X1_add_114 : decode cX1_add 114 = .ok (.isub, 1) := by decide +kernel
theorem d_X1_add_115 : decode cX1_add 115 = .ok (.putfield 98, 3) := by decide +kernel
theorem d_X1_add_118 : decode cX1_add 118 = .ok (.goto (-37), 3) := by decide +kernel
theorem d_X1_add_121 : decode cX1_add 121 = .ok (.aload_n 0, 1) := by decide +kernel
theorem d_X1_add_122 : decode cX1_add 122 = .ok (.getfield 95, 3) := by decide +kernel
theorem d_X1_add_125 : decode cX1_add 125 = .ok (.aload_n 0, 1) := by decide +kernel
theorem d_X1_add_126 : decode cX1_add 126 = .ok (.getfield 98, 3) := by decide +kernel
theorem d_X1_add_129 : decode cX1_add 129 = .ok (.if_icmp .ge 32, 3) := by decide +kernel
theorem d_X1_add_132 : decode cX1_add 132 = .ok (.aload_n 0, 1) := by decide +kernel
theorem d_X1_add_133 : decode cX1_add 133 = .ok (.getfield 9, 3) := by decide +kernel
theorem d_X1_add_136 : decode cX1_add 136 = .ok (.aload_n 0, 1) := by decide +kernel
theorem d_X1_add_137 : decode cX1_add 137 = .ok (.getfield 95, 3) := by decide +kernel
theorem d_X1_add_140 : decode cX1_add 140 = .ok (.invokestatic 104, 3) := by decide +kernel
theorem d_X1_add_143 : decode cX1_add 143 = .ok (.lconst 0, 1) := by decide +kernel
theorem d_X1_add_144 : decode cX1_add 144 = .ok (.lcmp, 1) := by decide +kernel
theorem d_X1_add_145 : decode cX1_add 145 = .ok (.ifCond .ne 16, 3) := by decide +kernel
theorem d_X1_add_148 : decode cX1_add 148 = .ok (.aload_n 0, 1) := by decide +kernel
theorem d_X1_add_149 : decode cX1_add 149 = .ok (.dup, 1) := by decide +kernel
theorem d_X1_add_150 : decode cX1_add 150 = .ok (.getfield 95, 3) := by decide +kernel
theorem d_X1_add_153 : decode cX1_add 153 = .ok (.iconst 1, 1) := by decide +kernel
theorem d_X1_add_154 : decode cX1_add 154 = .ok (.iadd, 1) := by decide +kernel
theorem d_X1_add_155 : decode cX1_add 155 = .ok (.putfield 95, 3) := by decide +kernel
theorem d_X1_add_158 : decode cX1_add 158 = .ok (.goto (-37), 3) := by decide +kernel
theorem d_X1_add_161 : decode cX1_add 161 = .ok (.return_, 1) := by decide +kernel
def l_X1_add_21 (p1 : Int32) (s : Int32) (h : AH) : Option ((Int32 ⊕ Unit) × AH) := if s < (gI h 211 1) then some (.inr (), h) else bd (s_X9_atWide (some 212) s h) fun x1 => bd (s_X9_atWide (some 212) (s - 1) h) fun x2 => bd (ldivF ((x1 * ((1000000 - p1).toInt64)) + (x2 * p1.toInt64)) 1000000) fun x3 => bd (s_X9_putWide (some 212) s x3 h) fun q4 => some (.inl (s + (-1)), q4.2)
theorem tb_X1_add_21 {g : GP} {X : MX} {mcR msR : Nat} (hF : gF g = true) (hX : Cx g RX1 cX1_add 2 mcR msR none [] X) {Q : State → Prop} {p1 : Int32} {s : Int32} {d3 : Value} {d4 : Value} {d5 : Value} {d6 : Value} {h hz : AH} {z : (Int32 ⊕ Unit)} (e : l_X1_add_21 p1 s h = some (z, hz)) (kI : ∀ (s2 : Int32) (xd3 : Value) (xd4 : Value) (xd5 : Value) (xd6 : Value), z = .inl s2 → AR g X 0 0 Q hz 21 [.ref 211, .int p1, .int s2, xd3, xd4, xd5, xd6] []) (kE0 : ∀ (yy : Unit) (y1 : Value) (y2 : Value) (y3 : Value) (y4 : Value) (y5 : Value) (y6 : Value), z = .inr yy → AR g X 0 0 Q hz 81 [.ref 211, y1, y2, y3, y4, y5, y6] []) : AR g X 0 0 Q h 21 [.ref 211, .int p1, .int s, d3, d4, d5, d6] [] := by
  unfold l_X1_add_21 at e
  refine aw_iload_n (i := 2) hX rfl rfl d_X1_add_21 ?_
  refine aw_aload_n (i := 0) hX rfl rfl d_X1_add_22 ?_
  refine ar_getI hX fg_RX1_95 rfl d_X1_add_23 ?_
  refine aw_icmp_lt (t := 81) hX (by decide) d_X1_add_26 (fun c => ?_) (fun c => ?_)
  · rw [if_pos c] at e
    cases e
    exact kE0 () _ _ _ _ _ _ rfl
  · rw [if_neg c] at e
    refine aw_aload_n (i := 0) hX rfl rfl d_X1_add_29 ?_
    refine ar_getF hX hF fg_RX1_9 rfl d_X1_add_30 ?_
    show AR g X 0 0 _ _ 33 _ [.ref 212]
    refine aw_iload_n (i := 2) hX rfl rfl d_X1_add_33 ?_
    obtain ⟨x1, f_310, e_310⟩ := bd_some e
    clear e
    refine aw_callSN (av := [.ref 212, .int s]) (avr := [.int s, .ref 212]) hX (k_X9_atWide (cx_g hX) hF f_310) mi_X9_atWide rfl rfl nx27 w_38 (by decide) (Nat.le_of_ble_eq_true rfl) (Nat.zero_le _) (Nat.zero_le _) d_X1_add_34 ?_
    refine aw_ldc hX w_185 d_X1_add_37 ?_
    refine aw_iload_n (i := 1) hX rfl rfl d_X1_add_39 ?_
    refine aw_isub hX d_X1_add_40 ?_
    refine aw_i2l hX d_X1_add_41 ?_
    refine aw_lmul hX d_X1_add_42 ?_
    refine aw_lstore_n (i := 3) (lv2 := [.ref 211, .int p1, .int s, .long (x1 * ((1000000 - p1).toInt64)), jk, d5, d6]) hX rfl rfl rfl d_X1_add_43 ?_
    refine aw_aload_n (i := 0) hX rfl rfl d_X1_add_44 ?_
    refine ar_getF hX hF fg_RX1_9 rfl d_X1_add_45 ?_
    show AR g X 0 0 _ _ 48 _ [.ref 212]
    refine aw_iload_n (i := 2) hX rfl rfl d_X1_add_48 ?_
    refine aw_iconst (v := 1) hX (by decide) d_X1_add_49 ?_
    refine aw_isub hX d_X1_add_50 ?_
    obtain ⟨x2, f_311, e_311⟩ := bd_some e_310
    clear e_310
    refine aw_callSN (av := [.ref 212, .int (s - 1)]) (avr := [.int (s - 1), .ref 212]) hX (k_X9_atWide (cx_g hX) hF f_311) mi_X9_atWide rfl rfl nx27 w_38 (by decide) (Nat.le_of_ble_eq_true rfl) (Nat.zero_le _) (Nat.zero_le _) d_X1_add_51 ?_
    refine aw_iload_n (i := 1) hX rfl rfl d_X1_add_54 ?_
    refine aw_i2l hX d_X1_add_55 ?_
    refine aw_lmul hX d_X1_add_56 ?_
    refine aw_lstore (i := 5) (lv2 := [.ref 211, .int p1, .int s, .long (x1 * ((1000000 - p1).toInt64)), jk, .long (x2 * p1.toInt64), jk]) hX rfl rfl d_X1_add_57 ?_
    refine aw_aload_n (i := 0) hX rfl rfl d_X1_add_59 ?_
    refine ar_getF hX hF fg_RX1_9 rfl d_X1_add_60 ?_
    show AR g X 0 0 _ _ 63 _ [.ref 212]
    refine aw_iload_n (i := 2) hX rfl rfl d_X1_add_63 ?_
    refine aw_lload_n (i := 3) hX rfl rfl d_X1_add_64 ?_
    refine aw_lload (i := 5) hX rfl d_X1_add_65 ?_
    refine aw_ladd hX d_X1_add_67 ?_
    refine aw_ldc2 hX w_186 d_X1_add_68 ?_
    obtain ⟨x3, f_312, e_312⟩ := bd_some e_311
    clear e_311
    refine ar_ldiv hX f_312 d_X1_add_71 ?_
    obtain ⟨q4, f_313, e_313⟩ := bd_some e_312
    clear e_312
    refine aw_callSN (av := [.ref 212, .int s, .long x3]) (avr := [.long x3, .int s, .ref 212]) hX (k_X9_putWide (cx_g hX) hF f_313) mi_X9_putWide rfl rfl nx25 w_42 (by decide) (Nat.le_of_ble_eq_true rfl) (Nat.zero_le _) (Nat.zero_le _) d_X1_add_72 ?_
    refine aw_iinc (i := 2) (lv2 := [.ref 211, .int p1, .int (s + (-1)), .long (x1 * ((1000000 - p1).toInt64)), jk, .long (x2 * p1.toInt64), jk]) hX rfl (iz (b := (-1)) (by decide)) rfl rfl d_X1_add_75 ?_
    refine aw_goto (t := 21) hX (by decide) d_X1_add_78 ?_
    cases e_313
    exact kI (s + (-1)) _ _ _ _ rfl
theorem ti_X1_add_21 {g : GP} {X : MX} {mcR msR : Nat} (hF : gF g = true) (hX : Cx g RX1 cX1_add 2 mcR msR none [] X) {Q : State → Prop} {p1 : Int32} {y : Unit} {hz : AH} (kE0 : ∀ (y_1 : Value) (y_2 : Value) (y_3 : Value) (y_4 : Value) (y_5 : Value) (y_6 : Value), AR g X 0 0 Q hz 81 [.ref 211, y_1, y_2, y_3, y_4, y_5, y_6] []) (n : Nat) : ∀ (s : Int32) (d3 : Value) (d4 : Value) (d5 : Value) (d6 : Value) (h : AH), lpH (l_X1_add_21 p1) n s h = some (y, hz) → AR g X 0 0 Q h 21 [.ref 211, .int p1, .int s, d3, d4, d5, d6] [] := by
  induction n with
  | zero => intro s d3 d4 d5 d6 h e; cases e
  | succ n ih =>
    intro s d3 d4 d5 d6 h e
    obtain ⟨x, h1, e1, e2⟩ := lpH_succ e
    rcases e2 with ⟨s2, rfl, e3⟩ | ⟨rfl, rfl⟩
    · exact tb_X1_add_21 hF hX e1 (fun s3 x0 x1 x2 x3 hs => by cases hs; exact ih _ _ _ _ _ _ e3) (fun yy x0 x1 x2 x3 x4 x5 hy => by cases hy)
    · exact tb_X1_add_21 hF hX e1 (fun s3 x0 x1 x2 x3 hs => by cases hs) (fun yy x0 x1 x2 x3 x4 x5 hy => by cases hy; exact kE0 x0 x1 x2 x3 x4 x5)
theorem t_X1_add_21 {g : GP} {X : MX} {mcR msR : Nat} (hF : gF g = true) (hX : Cx g RX1 cX1_add 2 mcR msR none [] X) {Q : State → Prop} {p1 : Int32} {s : Int32} {d3 : Value} {d4 : Value} {d5 : Value} {d6 : Value} {h hz : AH} {n : Nat} {y : Unit} (e : lpH (l_X1_add_21 p1) n s h = some (y, hz)) (kE0 : ∀ (y_1 : Value) (y_2 : Value) (y_3 : Value) (y_4 : Value) (y_5 : Value) (y_6 : Value), AR g X 0 0 Q hz 81 [.ref 211, y_1, y_2, y_3, y_4, y_5, y_6] []) : AR g X 0 0 Q h 21 [.ref 211, .int p1, .int s, d3, d4, d5, d6] [] := ti_X1_add_21 hF hX kE0 n _ _ _ _ _ _ e
def l_X1_add_81 (s : Unit) (h : AH) : Option ((Unit ⊕ Unit) × AH) := if (gI h 211 2) ≤ (gI h 211 1) then some (.inr (), h) else bd (s_X9_atWide (some 212) (gI h 211 2) h) fun x7 => if x7 = 0 then some (.inl (), sI h 211 2 ((gI h 211 2) - 1)) else some (.inr (), h)
theorem tb_X1_add_81 {g : GP} {X : MX} {mcR msR : Nat} (hF : gF g = true) (hX : Cx g RX1 cX1_add 2 mcR msR none [] X) {Q : State → Prop} {s : Unit} {d1 : Value} {d2 : Value} {d3 : Value} {d4 : Value} {d5 : Value} {d6 : Value} {h hz : AH} {z : (Unit ⊕ Unit)} (e : l_X1_add_81 s h = some (z, hz)) (kI : ∀ (s2 : Unit) (xd1 : Value) (xd2 : Value) (xd3 : Value) (xd4 : Value) (xd5 : Value) (xd6 : Value), z = .inl s2 → AR g X 0 0 Q hz 81 [.ref 211, xd1, xd2, xd3, xd4, xd5, xd6] []) (kE0 : ∀ (yy : Unit) (y1 : Value) (y2 : Value) (y3 : Value) (y4 : Value) (y5 : Value) (y6 : Value), z = .inr yy → AR g X 0 0 Q hz 121 [.ref 211, y1, y2, y3, y4, y5, y6] []) : AR g X 0 0 Q h 81 [.ref 211, d1, d2, d3, d4, d5, d6] [] := by
  unfold l_X1_add_81 at e
  refine aw_aload_n (i := 0) hX rfl rfl d_X1_add_81 ?_
  refine ar_getI hX fg_RX1_98 rfl d_X1_add_82 ?_
  refine aw_aload_n (i := 0) hX rfl rfl d_X1_add_85 ?_
  refine ar_getI hX fg_RX1_95 rfl d_X1_add_86 ?_
  refine aw_icmp_le (t := 121) hX (by decide) d_X1_add_89 (fun c => ?_) (fun c => ?_)
  · rw [if_pos c] at e
    cases e
    exact kE0 () _ _ _ _ _ _ rfl
  · rw [if_neg c] at e
    refine aw_aload_n (i := 0) hX rfl rfl d_X1_add_92 ?_
    refine ar_getF hX hF fg_RX1_9 rfl d_X1_add_93 ?_
    show AR g X 0 0 _ _ 96 _ [.ref 212]
    refine aw_aload_n (i := 0) hX rfl rfl d_X1_add_96 ?_
    refine ar_getI hX fg_RX1_98 rfl d_X1_add_97 ?_
    obtain ⟨x7, f_314, e_314⟩ := bd_some e
    clear e
    refine aw_callSN (av := [.ref 212, .int (gI h 211 2)]) (avr := [.int (gI h 211 2), .ref 212]) hX (k_X9_atWide (cx_g hX) hF f_314) mi_X9_atWide rfl rfl nx27 w_38 (by decide) (Nat.le_of_ble_eq_true rfl) (Nat.zero_le _) (Nat.zero_le _) d_X1_add_100 ?_
    refine aw_lconst (v := 0) hX (by decide) d_X1_add_103 ?_
    refine aw_lcmp hX d_X1_add_104 ?_
    refine aw_if_ne (t := 121) hX (by decide) d_X1_add_105 (fun c => ?_) (fun c => ?_)
    · replace c := fun q => c (lc_eq.mpr q)
      rw [if_neg c] at e_314
      cases e_314
      exact kE0 () _ _ _ _ _ _ rfl
    · replace c := lc_eq.mp c
      rw [if_pos c] at e_314
      refine aw_aload_n (i := 0) hX rfl rfl d_X1_add_108 ?_
      refine aw_dup hX rfl d_X1_add_109 ?_
      refine ar_getI hX fg_RX1_98 rfl d_X1_add_110 ?_
      refine aw_iconst (v := 1) hX (by decide) d_X1_add_113 ?_
      refine aw_isub hX d_X1_add_114 ?_
      refine ar_putI hX fp_RX1_98 rfl d_X1_add_115 ?_
      refine aw_goto (t := 81) hX (by decide) d_X1_add_118 ?_
      cases e_314
      exact kI () _ _ _ _ _ _ rfl
theorem ti_X1_add_81 {g : GP} {X : MX} {mcR msR : Nat} (hF : gF g = true) (hX : Cx g RX1 cX1_add 2 mcR msR none [] X) {Q : State → Prop} {y : Unit} {hz : AH} (kE0 : ∀ (y_1 : Value) (y_2 : Value) (y_3 : Value) (y_4 : Value) (y_5 : Value) (y_6 : Value), AR g X 0 0 Q hz 121 [.ref 211, y_1, y_2, y_3, y_4, y_5, y_6] []) (n : Nat) : ∀ (s : Unit) (d1 : Value) (d2 : Value) (d3 : Value) (d4 : Value) (d5 : Value) (d6 : Value) (h : AH), lpH (l_X1_add_81) n s h = some (y, hz) → AR g X 0 0 Q h 81 [.ref 211, d1, d2, d3, d4, d5, d6] [] := by
  induction n with
  | zero => intro s d1 d2 d3 d4 d5 d6 h e; cases e
  | succ n ih =>
    intro s d1 d2 d3 d4 d5 d6 h e
    obtain ⟨x, h1, e1, e2⟩ := lpH_succ e
    rcases e2 with ⟨s2, rfl, e3⟩ | ⟨rfl, rfl⟩
    · exact tb_X1_add_81 hF hX e1 (fun s3 x0 x1 x2 x3 x4 x5 hs => by cases hs; exact ih _ _ _ _ _ _ _ _ e3) (fun yy x0 x1 x2 x3 x4 x5 hy => by cases hy)
    · exact tb_X1_add_81 hF hX e1 (fun s3 x0 x1 x2 x3 x4 x5 hs => by cases hs) (fun yy x0 x1 x2 x3 x4 x5 hy => by cases hy; exact kE0 x0 x1 x2 x3 x4 x5)
theorem t_X1_add_81 {g : GP} {X : MX} {mcR msR : Nat} (hF : gF g = true) (hX : Cx g RX1 cX1_add 2 mcR msR none [] X) {Q : State → Prop} {s : Unit} {d1 : Value} {d2 : Value} {d3 : Value} {d4 : Value} {d5 : Value} {d6 : Value} {h hz : AH} {n : Nat} {y : Unit} (e : lpH (l_X1_add_81) n s h = some (y, hz)) (kE0 : ∀ (y_1 : Value) (y_2 : Value) (y_3 : Value) (y_4 : Value) (y_5 : Value) (y_6 : Value), AR g X 0 0 Q hz 121 [.ref 211, y_1, y_2, y_3, y_4, y_5, y_6] []) : AR g X 0 0 Q h 81 [.ref 211, d1, d2, d3, d4, d5, d6] [] := ti_X1_add_81 hF hX kE0 n _ _ _ _ _ _ _ _ e
def l_X1_add_121 (s : Unit) (h : AH) : Option ((Unit ⊕ Unit) × AH) := if (gI h 211 2) ≤ (gI h 211 1) then some (.inr (), h) else bd (s_X9_atWide (some 212) (gI h 211 1) h) fun x10 => if x10 = 0 then some (.inl (), sI h 211 1 ((gI h 211 1) + 1)) else some (.inr (), h)
theorem tb_X1_add_121 {g : GP} {X : MX} {mcR msR : Nat} (hF : gF g = true) (hX : Cx g RX1 cX1_add 2 mcR msR none [] X) {Q : State → Prop} {s : Unit} {d1 : Value} {d2 : Value} {d3 : Value} {d4 : Value} {d5 : Value} {d6 : Value} {h hz : AH} {z : (Unit ⊕ Unit)} (e : l_X1_add_121 s h = some (z, hz)) (kI : ∀ (s2 : Unit) (xd1 : Value) (xd2 : Value) (xd3 : Value) (xd4 : Value) (xd5 : Value) (xd6 : Value), z = .inl s2 → AR g X 0 0 Q hz 121 [.ref 211, xd1, xd2, xd3, xd4, xd5, xd6] []) (kE0 : ∀ (yy : Unit) (y0 : Value) (y1 : Value) (y2 : Value) (y3 : Value) (y4 : Value) (y5 : Value) (y6 : Value), z = .inr yy → AR g X 0 0 Q hz 161 [y0, y1, y2, y3, y4, y5, y6] []) : AR g X 0 0 Q h 121 [.ref 211, d1, d2, d3, d4, d5, d6] [] := by
  unfold l_X1_add_121 at e
  refine aw_aload_n (i := 0) hX rfl rfl d_X1_add_121 ?_
  refine ar_getI hX fg_RX1_95 rfl d_X1_add_122 ?_
  refine aw_aload_n (i := 0) hX rfl rfl d_X1_add_125 ?_
  refine ar_getI hX fg_RX1_98 rfl d_X1_add_126 ?_
  refine aw_icmp_ge (t := 161) hX (by decide) d_X1_add_129 (fun c => ?_) (fun c => ?_)
  · rw [if_pos c] at e
    cases e
    exact kE0 () _ _ _ _ _ _ _ rfl
  · rw [if_neg c] at e
    refine aw_aload_n (i := 0) hX rfl rfl d_X1_add_132 ?_
    refine ar_getF hX hF fg_RX1_9 rfl d_X1_add_133 ?_
    show AR g X 0 0 _ _ 136 _ [.ref 212]
    refine aw_aload_n (i := 0) hX rfl rfl d_X1_add_136 ?_
    refine ar_getI hX fg_RX1_95 rfl d_X1_add_137 ?_
    obtain ⟨x10, f_315, e_315⟩ := bd_some e
    clear e
    refine aw_callSN (av := [.ref 212, .int (gI h 211 1)]) (avr := [.int (gI h 211 1), .ref 212]) hX (k_X9_atWide (cx_g hX) hF f_315) mi_X9_atWide rfl rfl nx27 w_38 (by decide) (Nat.le_of_ble_eq_true rfl) (Nat.zero_le _) (Nat.zero_le _) d_X1_add_140 ?_
    refine aw_lconst (v := 0) hX (by decide) d_X1_add_143 ?_
    refine aw_lcmp hX d_X1_add_144 ?_
    refine aw_if_ne (t := 161) hX (by decide) d_X1_add_145 (fun c => ?_) (fun c => ?_)
    · replace c := fun q => c (lc_eq.mpr q)
      rw [if_neg c] at e_315
      cases e_315
      exact kE0 () _ _ _ _ _ _ _ rfl
    · replace c := lc_eq.mp c
      rw [if_pos c] at e_315
      refine aw_aload_n (i := 0) hX rfl rfl d_X1_add_148 ?_
      refine aw_dup hX rfl d_X1_add_149 ?_
      refine ar_getI hX fg_RX1_95 rfl d_X1_add_150 ?_
      refine aw_iconst (v := 1) hX (by decide) d_X1_add_153 ?_
      refine aw_iadd hX d_X1_add_154 ?_
      refine ar_putI hX fp_RX1_95 rfl d_X1_add_155 ?_
      refine aw_goto (t := 121) hX (by decide) d_X1_add_158 ?_
      cases e_315
      exact kI () _ _ _ _ _ _ rfl
theorem ti_X1_add_121 {g : GP} {X : MX} {mcR msR : Nat} (hF : gF g = true) (hX : Cx g RX1 cX1_add 2 mcR msR none [] X) {Q : State → Prop} {y : Unit} {hz : AH} (kE0 : ∀ (y_0 : Value) (y_1 : Value) (y_2 : Value) (y_3 : Value) (y_4 : Value) (y_5 : Value) (y_6 : Value), AR g X 0 0 Q hz 161 [y_0, y_1, y_2, y_3, y_4, y_5, y_6] []) (n : Nat) : ∀ (s : Unit) (d1 : Value) (d2 : Value) (d3 : Value) (d4 : Value) (d5 : Value) (d6 : Value) (h : AH), lpH (l_X1_add_121) n s h = some (y, hz) → AR g X 0 0 Q h 121 [.ref 211, d1, d2, d3, d4, d5, d6] [] := by
  induction n with
  | zero => intro s d1 d2 d3 d4 d5 d6 h e; cases e
  | succ n ih =>
    intro s d1 d2 d3 d4 d5 d6 h e
    obtain ⟨x, h1, e1, e2⟩ := lpH_succ e
    rcases e2 with ⟨s2, rfl, e3⟩ | ⟨rfl, rfl⟩
    · exact tb_X1_add_121 hF hX e1 (fun s3 x0 x1 x2 x3 x4 x5 hs => by cases hs; exact ih _ _ _ _ _ _ _ _ e3) (fun yy x0 x1 x2 x3 x4 x5 x6 hy => by cases hy)
    · exact tb_X1_add_121 hF hX e1 (fun s3 x0 x1 x2 x3 x4 x5 hs => by cases hs) (fun yy x0 x1 x2 x3 x4 x5 x6 hy => by cases hy; exact kE0 x0 x1 x2 x3 x4 x5 x6)
theorem t_X1_add_121 {g : GP} {X : MX} {mcR msR : Nat} (hF : gF g = true) (hX : Cx g RX1 cX1_add 2 mcR msR none [] X) {Q : State → Prop} {s : Unit} {d1 : Value} {d2 : Value} {d3 : Value} {d4 : Value} {d5 : Value} {d6 : Value} {h hz : AH} {n : Nat} {y : Unit} (e : lpH (l_X1_add_121) n s h = some (y, hz)) (kE0 : ∀ (y_0 : Value) (y_1 : Value) (y_2 : Value) (y_3 : Value) (y_4 : Value) (y_5 : Value) (y_6 : Value), AR g X 0 0 Q hz 161 [y_0, y_1, y_2, y_3, y_4, y_5, y_6] []) : AR g X 0 0 Q h 121 [.ref 211, d1, d2, d3, d4, d5, d6] [] := ti_X1_add_121 hF hX kE0 n _ _ _ _ _ _ _ _ e
def s_X1_add (a0 : Int32) (h : AH) : Option (Unit × AH) := bd (lpH (l_X1_add_21 a0) FU (gI (sI h 211 2 (if 400 < ((gI h 211 2) + 1) then 400 else ((gI h 211 2) + 1))) 211 2) (sI h 211 2 (if 400 < ((gI h 211 2) + 1) then 400 else ((gI h 211 2) + 1)))) fun y5 => bd (lpH (l_X1_add_81) FU () y5.2) fun y8 => bd (lpH (l_X1_add_121) FU () y8.2) fun y11 => some ((), y11.2)
theorem t_X1_add {g : GP} {X : MX} {mcR msR : Nat} (hF : gF g = true) (hX : Cx g RX1 cX1_add 2 mcR msR none [] X) {a0 : Int32} {h hz : AH} {z : Unit} (e : s_X1_add a0 h = some (z, hz)) : AR g X 0 0 (QQ g X NT false hz (.inl none) 0 0) h 0 [.ref 211, .int a0, jk, jk, jk, jk, jk] [] := by
  unfold s_X1_add at e
  refine aw_aload_n (i := 0) hX rfl rfl d_X1_add_0 ?_
  refine aw_aload_n (i := 0) hX rfl rfl d_X1_add_1 ?_
  refine ar_getI hX fg_RX1_98 rfl d_X1_add_2 ?_
  refine aw_iconst (v := 1) hX (by decide) d_X1_add_5 ?_
  refine aw_iadd hX d_X1_add_6 ?_
  refine aw_sipush (v := 400) hX (by decide) d_X1_add_7 ?_
  refine ar_imin hX w_184 mth_imin (by decide) (Nat.le_of_ble_eq_true rfl) (Nat.zero_le _) (Nat.zero_le _) d_X1_add_10 ?_
  refine ar_putI hX fp_RX1_98 rfl d_X1_add_13 ?_
  refine aw_aload_n (i := 0) hX rfl rfl d_X1_add_16 ?_
  refine ar_getI hX fg_RX1_98 rfl d_X1_add_17 ?_
  refine aw_istore_n (i := 2) (lv2 := [.ref 211, .int a0, .int (gI (sI h 211 2 (if 400 < ((gI h 211 2) + 1) then 400 else ((gI h 211 2) + 1))) 211 2), jk, jk, jk, jk]) hX rfl rfl rfl d_X1_add_20 ?_
  obtain ⟨y5, f_316, e_316⟩ := bd_some e
  clear e
  refine t_X1_add_21 hF hX f_316 (fun d6_1 d6_2 d6_3 d6_4 d6_5 d6_6 => ?_)
  obtain ⟨y8, f_317, e_317⟩ := bd_some e_316
  clear e_316
  refine t_X1_add_81 hF hX f_317 (fun d9_1 d9_2 d9_3 d9_4 d9_5 d9_6 => ?_)
  obtain ⟨y11, f_318, e_318⟩ := bd_some e_317
  clear e_317
  refine t_X1_add_121 hF hX f_318 (fun d12_0 d12_1 d12_2 d12_3 d12_4 d12_5 d12_6 => ?_)
  cases e_318
  exact aw_return hX (Nat.zero_le _) (Nat.zero_le _) d_X1_add_161
theorem k_X1_add {g : GP} (hg : g.1.stackTraces = false) (hF : gF g = true) {a0 : Int32} {h hz : AH} {z : Unit} (e : s_X1_add a0 h = some (z, hz)) : Ctr g yX1_add (wsY yX1_add cX1_add 7 none) 2 0 0 [.ref 211, .int a0] NT false h none NT false hz := ctr_of (lv0 := [.ref 211, .int a0, jk, jk, jk, jk, jk]) rfl rfl (by decide) hg trivial (fun X hX hn => t_X1_add hF hX e)
theorem d_X1_clear_0 : decode cX1_clear 0 = .ok (.aload_n 0, 1) := by decide +kernel
theorem d_X1_clear_1 : decode cX1_clear 1 = .ok (.getfield 9, 3) := by decide +kernel
theorem d_X1_clear_4 : decode cX1_clear 4 = .ok (.lconst 0, 1) := by decide +kernel
theorem d_X1_clear_5 : decode cX1_clear 5 = .ok (.invokestatic 85, 3) := by decide +kernel
theorem d_X1_clear_8 : decode cX1_clear 8 = .ok (.aload_n 0, 1) := by decide +kernel
theorem d_X1_clear_9 : decode cX1_clear 9 = .ok (.getfield 9, 3) := by decide +kernel
theorem d_X1_clear_12 : decode cX1_clear 12 = .ok (.iconst 0, 1) := by decide +kernel
theorem d_X1_clear_13 : decode cX1_clear 13 = .ok (.ldc2_w 89, 3) := by decide +kernel
theorem d_X1_clear_16 : decode cX1_clear 16 = .ok (.invokestatic 91, 3) := by decide +kernel
theorem d_X1_clear_19 : decode cX1_clear 19 = .ok (.aload_n 0, 1) := by decide +kernel
theorem d_X1_clear_20 : decode cX1_clear 20 = .ok (.iconst 0, 1) := by decide +kernel
theorem d_X1_clear_21 : decode cX1_clear 21 = .ok (.putfield 95, 3) := by decide +kernel
theorem d_X1_clear_24 : decode cX1_clear 24 = .ok (.aload_n 0, 1) := by decide +kernel
theorem d_X1_clear_25 : decode cX1_clear 25 = .ok (.iconst 0, 1) := by decide +kernel
theorem d_X1_clear_26 : decode cX1_clear 26 = .ok (.putfield 98, 3) := by decide +kernel
theorem d_X1_clear_29 : decode cX1_clear 29 = .ok (.return_, 1) := by decide +kernel
def s_X1_clear (h : AH) : Option (Unit × AH) := bd (s_X9_fillWide (some 212) 0 h) fun q1 => bd (s_X9_putWide (some 212) 0 1000000000 q1.2) fun q2 => some ((), sI (sI q2.2 211 1 0) 211 2 0)
theorem t_X1_clear {g : GP} {X : MX} {mcR msR : Nat} (hF : gF g = true) (hX : Cx g RX1 cX1_clear 2 mcR msR none [] X) {h hz : AH} {z : Unit} (e : s_X1_clear h = some (z, hz)) : AR g X 0 0 (QQ g X NT false hz (.inl none) 0 0) h 0 [.ref 211] [] := by
  unfold s_X1_clear at e
  refine aw_aload_n (i := 0) hX rfl rfl d_X1_clear_0 ?_
  refine ar_getF hX hF fg_RX1_9 rfl d_X1_clear_1 ?_
  show AR g X 0 0 _ _ 4 _ [.ref 212]
  refine aw_lconst (v := 0) hX (by decide) d_X1_clear_4 ?_
  obtain ⟨q1, f_319, e_319⟩ := bd_some e
  clear e
  refine aw_callSN (av := [.ref 212, .long 0]) (avr := [.long 0, .ref 212]) hX (k_X9_fillWide (cx_g hX) hF f_319) mi_X9_fillWide rfl rfl nx24 w_51 (by decide) (Nat.le_of_ble_eq_true rfl) (Nat.zero_le _) (Nat.zero_le _) d_X1_clear_5 ?_
  refine aw_aload_n (i := 0) hX rfl rfl d_X1_clear_8 ?_
  refine ar_getF hX hF fg_RX1_9 rfl d_X1_clear_9 ?_
  show AR g X 0 0 _ _ 12 _ [.ref 212]
  refine aw_iconst (v := 0) hX (by decide) d_X1_clear_12 ?_
  refine aw_ldc2 hX w_187 d_X1_clear_13 ?_
  obtain ⟨q2, f_320, e_320⟩ := bd_some e_319
  clear e_319
  refine aw_callSN (av := [.ref 212, .int 0, .long 1000000000]) (avr := [.long 1000000000, .int 0, .ref 212]) hX (k_X9_putWide (cx_g hX) hF f_320) mi_X9_putWide rfl rfl nx25 w_42 (by decide) (Nat.le_of_ble_eq_true rfl) (Nat.zero_le _) (Nat.zero_le _) d_X1_clear_16 ?_
  refine aw_aload_n (i := 0) hX rfl rfl d_X1_clear_19 ?_
  refine aw_iconst (v := 0) hX (by decide) d_X1_clear_20 ?_
  refine ar_putI hX fp_RX1_95 rfl d_X1_clear_21 ?_
  refine aw_aload_n (i := 0) hX rfl rfl d_X1_clear_24 ?_
  refine aw_iconst (v := 0) hX (by decide) d_X1_clear_25 ?_
  refine ar_putI hX fp_RX1_98 rfl d_X1_clear_26 ?_
  cases e_320
  exact aw_return hX (Nat.zero_le _) (Nat.zero_le _) d_X1_clear_29
theorem k_X1_clear {g : GP} (hg : g.1.stackTraces = false) (hF : gF g = true) {h hz : AH} {z : Unit} (e : s_X1_clear h = some (z, hz)) : Ctr g yX1_clear (wsY yX1_clear cX1_clear 1 none) 2 0 0 [.ref 211] NT false h none NT false hz := ctr_of (lv0 := [.ref 211]) rfl rfl (by decide) hg trivial (fun X hX hn => t_X1_clear hF hX e)
theorem d_X1_standing_0 : decode cX1_standing 0 = .ok (.aload_n 0, 1) := by decide +kernel
theorem d_X1_standing_1 : decode cX1_standing 1 = .ok (.invokevirtual 26, 3) := by decide +kernel
theorem d_X1_standing_4 : decode cX1_standing 4 = .ok (.iconst 0, 1) := by decide +kernel
theorem d_X1_standing_5 : decode cX1_standing 5 = .ok (.istore 4, 2) := by decide +kernel
theorem d_X1_standing_7 : decode cX1_standing 7 = .ok (.iload 4, 2) := by decide +kernel
theorem d_X1_standing_9 : decode cX1_standing 9 = .ok (.aload_n 2, 1) := by decide +kernel
theorem d_X1_standing_10 : decode cX1_standing 10 = .ok (.getfield 29, 3) := by decide +kernel
theorem d_X1_standing_13 : decode cX1_standing 13 = .ok (.if_icmp .ge 58, 3) := by decide +kernel
theorem d_X1_standing_16 : decode cX1_standing 16 = .ok (.aload_n 1, 1) := by decide +kernel
theorem d_X1_standing_17 : decode cX1_standing 17 = .ok (.iload 4, 2) := by decide +kernel
theorem d_X1_standing_19 : decode cX1_standing 19 = .ok (.invokevirtual 35, 3) := by decide +kernel
theorem d_X1_standing_22 : decode cX1_standing 22 = .ok (.iload_n 3, 1) := by decide +kernel
theorem d_X1_standing_23 : decode cX1_standing 23 = .ok (.invokevirtual 41, 3) := by decide +kernel
theorem d_X1_standing_26 : decode cX1_standing 26 = .ok (.sipush 1000, 3) := by decide +kernel
theorem d_X1_standing_29 : decode cX1_standing 29 = .ok (.idiv, 1) := by decide +kernel
theorem d_X1_standing_30 : decode cX1_standing 30 = .ok (.istore 5, 2) := by decide +kernel
theorem d_X1_standing_32 : decode cX1_standing 32 = .ok (.aload_n 2, 1) := by decide +kernel
theorem d_X1_standing_33 : decode cX1_standing 33 = .ok (.getfield 47, 3) := by decide +kernel
theorem d_X1_standing_36 : decode cX1_standing 36 = .ok (.iload 4, 2) := by decide +kernel
theorem d_X1_standing_38 : decode cX1_standing 38 = .ok (.invokestatic 50, 3) := by decide +kernel
theorem d_X1_standing_41 : decode cX1_standing 41 = .ok (.istore 6, 2) := by decide +kernel
theorem d_X1_standing_43 : decode cX1_standing 43 = .ok (.iconst 0, 1) := by decide +kernel
theorem d_X1_standing_44 : decode cX1_standing 44 = .ok (.istore 7, 2) := by decide +kernel
theorem d_X1_standing_46 : decode cX1_standing 46 = .ok (.iload 7, 2) := by decide +kernel
theorem d_X1_standing_48 : decode cX1_standing 48 = .ok (.iload 6, 2) := by decide +kernel
theorem d_X1_standing_50 : decode cX1_standing 50 = .ok (.if_icmp .ge 15, 3) := by decide +kernel
theorem d_X1_standing_53 : decode cX1_standing 53 = .ok (.aload_n 0, 1) := by decide +kernel
theorem d_X1_standing_54 : decode cX1_standing 54 = .ok (.iload 5, 2) := by decide +kernel
theorem d_X1_standing_56 : decode cX1_standing 56 = .ok (.invokevirtual 54, 3) := by decide +kernel
theorem d_X1_standing_59 : decode cX1_standing 59 = .ok (.iinc 7 1, 3) := by decide +kernel
theorem d_X1_standing_62 : decode cX1_standing 62 = .ok (.goto (-16), 3) := by decide +kernel
theorem d_X1_standing_65 : decode cX1_standing 65 = .ok (.iinc 4 1, 3) := by decide +kernel
theorem d_X1_standing_68 : decode cX1_standing 68 = .ok (.goto (-61), 3) := by decide +kernel
theorem d_X1_standing_71 : decode cX1_standing 71 = .ok (.aload_n 0, 1) := by decide +kernel
theorem d_X1_standing_72 : decode cX1_standing 72 = .ok (.aload_n 2, 1) := by decide +kernel
theorem d_X1_standing_73 : decode cX1_standing 73 = .ok (.getfield 58, 3) := by decide +kernel
theorem d_X1_standing_76 : decode cX1_standing 76 = .ok (.invokevirtual 61, 3) := by decide +kernel
theorem d_X1_standing_79 : decode cX1_standing 79 = .ok (.ireturn, 1) := by decide +kernel
def l_X1_standing_46 (p2 : Nat) (p3 : Int32) (p4 : Int32) (p5 : Int32) (p6 : Int32) (s : Int32) (h : AH) : Option ((Int32 ⊕ Unit) × AH) := if p6 ≤ s then some (.inr (), h) else bd (s_X1_add p5 h) fun q7 => some (.inl (s + 1), q7.2)
theorem tb_X1_standing_46 {g : GP} {X : MX} {mcR msR : Nat} (hF : gF g = true) (hX : Cx g RX1 cX1_standing 3 mcR msR (some .int) [] X) {Q : State → Prop} {p2 : Nat} {p3 : Int32} {p4 : Int32} {p5 : Int32} {p6 : Int32} {s : Int32} (hl_0 : LAY p2 = (0, 8)) {h hz : AH} {z : (Int32 ⊕ Unit)} (e : l_X1_standing_46 p2 p3 p4 p5 p6 s h = some (z, hz)) (kI : ∀ (s2 : Int32), z = .inl s2 → AR g X 0 0 Q hz 46 [.ref 211, .ref 13, .ref p2, .int p3, .int p4, .int p5, .int p6, .int s2] []) (kE0 : ∀ (yy : Unit) (y5 : Value) (y6 : Value) (y7 : Value), z = .inr yy → AR g X 0 0 Q hz 65 [.ref 211, .ref 13, .ref p2, .int p3, .int p4, y5, y6, y7] []) : AR g X 0 0 Q h 46 [.ref 211, .ref 13, .ref p2, .int p3, .int p4, .int p5, .int p6, .int s] [] := by
  unfold l_X1_standing_46 at e
  refine aw_iload (i := 7) hX rfl d_X1_standing_46 ?_
  refine aw_iload (i := 6) hX rfl d_X1_standing_48 ?_
  refine aw_icmp_ge (t := 65) hX (by decide) d_X1_standing_50 (fun c => ?_) (fun c => ?_)
  · rw [if_pos c] at e
    cases e
    exact kE0 () _ _ _ rfl
  · rw [if_neg c] at e
    refine aw_aload_n (i := 0) hX rfl rfl d_X1_standing_53 ?_
    refine aw_iload (i := 5) hX rfl d_X1_standing_54 ?_
    obtain ⟨q7, f_321, e_321⟩ := bd_some e
    clear e
    refine aw_callV (b := 211) (av := [.int p5]) (avr := [.int p5]) hX (k_X1_add (cx_g hX) hF f_321) mi_X1_add rfl rfl w_198 w_199 w_200 (by decide) rfl (LAY_lt rfl (by decide)) rfl rfl (Nat.le_of_ble_eq_true rfl) (Nat.zero_le _) (Nat.zero_le _) d_X1_standing_56 ?_
    refine aw_iinc (i := 7) (lv2 := [.ref 211, .ref 13, .ref p2, .int p3, .int p4, .int p5, .int p6, .int (s + 1)]) hX rfl rfl rfl rfl d_X1_standing_59 ?_
    refine aw_goto (t := 46) hX (by decide) d_X1_standing_62 ?_
    cases e_321
    exact kI (s + 1)  rfl
theorem ti_X1_standing_46 {g : GP} {X : MX} {mcR msR : Nat} (hF : gF g = true) (hX : Cx g RX1 cX1_standing 3 mcR msR (some .int) [] X) {Q : State → Prop} {p2 : Nat} {p3 : Int32} {p4 : Int32} {p5 : Int32} {p6 : Int32} (hl_0 : LAY p2 = (0, 8)) {y : Unit} {hz : AH} (kE0 : ∀ (y_5 : Value) (y_6 : Value) (y_7 : Value), AR g X 0 0 Q hz 65 [.ref 211, .ref 13, .ref p2, .int p3, .int p4, y_5, y_6, y_7] []) (n : Nat) : ∀ (s : Int32) (h : AH), lpH (l_X1_standing_46 p2 p3 p4 p5 p6) n s h = some (y, hz) → AR g X 0 0 Q h 46 [.ref 211, .ref 13, .ref p2, .int p3, .int p4, .int p5, .int p6, .int s] [] := by
  induction n with
  | zero => intro s h e; cases e
  | succ n ih =>
    intro s h e
    obtain ⟨x, h1, e1, e2⟩ := lpH_succ e
    rcases e2 with ⟨s2, rfl, e3⟩ | ⟨rfl, rfl⟩
    · exact tb_X1_standing_46 hF hX hl_0 e1 (fun s3  hs => by cases hs; exact ih _  _ e3) (fun yy x0 x1 x2 hy => by cases hy)
    · exact tb_X1_standing_46 hF hX hl_0 e1 (fun s3  hs => by cases hs) (fun yy x0 x1 x2 hy => by cases hy; exact kE0 x0 x1 x2)
theorem t_X1_standing_46 {g : GP} {X : MX} {mcR msR : Nat} (hF : gF g = true) (hX : Cx g RX1 cX1_standing 3 mcR msR (some .int) [] X) {Q : State → Prop} {p2 : Nat} {p3 : Int32} {p4 : Int32} {p5 : Int32} {p6 : Int32} (hl_0 : LAY p2 = (0, 8)) {s : Int32} {h hz : AH} {n : Nat} {y : Unit} (e : lpH (l_X1_standing_46 p2 p3 p4 p5 p6) n s h = some (y, hz)) (kE0 : ∀ (y_5 : Value) (y_6 : Value) (y_7 : Value), AR g X 0 0 Q hz 65 [.ref 211, .ref 13, .ref p2, .int p3, .int p4, y_5, y_6, y_7] []) : AR g X 0 0 Q h 46 [.ref 211, .ref 13, .ref p2, .int p3, .int p4, .int p5, .int p6, .int s] [] := ti_X1_standing_46 hF hX hl_0 kE0 n _  _ e
def l_X1_standing_7 (p2 : Nat) (p3 : Int32) (s : Int32) (h : AH) : Option ((Int32 ⊕ Unit) × AH) := if (gI h p2 3) ≤ s then some (.inr (), h) else bd (s_X0_planBoughtBy s h) fun x2 => bd x2 fun t3 => if LAY t3 = (0, 2) then bd (s_X2_comingOn t3 p3 h) fun x4 => bd (idivF x4 1000) fun x5 => bd (s_X9_at (some (p2 + 4)) s h) fun x6 => bd (lpH (l_X1_standing_46 p2 p3 s x5 x6) FU 0 h) fun y8 => some (.inl (s + 1), y8.2) else none
theorem tb_X1_standing_7 {g : GP} {X : MX} {mcR msR : Nat} (hF : gF g = true) (hX : Cx g RX1 cX1_standing 3 mcR msR (some .int) [] X) {Q : State → Prop} {p2 : Nat} {p3 : Int32} {s : Int32} (hl_0 : LAY p2 = (0, 8)) {d5 : Value} {d6 : Value} {d7 : Value} {h hz : AH} {z : (Int32 ⊕ Unit)} (e : l_X1_standing_7 p2 p3 s h = some (z, hz)) (kI : ∀ (s2 : Int32) (xd5 : Value) (xd6 : Value) (xd7 : Value), z = .inl s2 → AR g X 0 0 Q hz 7 [.ref 211, .ref 13, .ref p2, .int p3, .int s2, xd5, xd6, xd7] []) (kE0 : ∀ (yy : Unit) (y1 : Value) (y3 : Value) (y4 : Value) (y5 : Value) (y6 : Value) (y7 : Value), z = .inr yy → AR g X 0 0 Q hz 71 [.ref 211, y1, .ref p2, y3, y4, y5, y6, y7] []) : AR g X 0 0 Q h 7 [.ref 211, .ref 13, .ref p2, .int p3, .int s, d5, d6, d7] [] := by
  unfold l_X1_standing_7 at e
  refine aw_iload (i := 4) hX rfl d_X1_standing_7 ?_
  refine aw_aload_n (i := 2) hX rfl rfl d_X1_standing_9 ?_
  refine ar_getI hX fg_RX1_29 (by assumption) d_X1_standing_10 ?_
  refine aw_icmp_ge (t := 71) hX (by decide) d_X1_standing_13 (fun c => ?_) (fun c => ?_)
  · rw [if_pos c] at e
    cases e
    exact kE0 () _ _ _ _ _ _ rfl
  · rw [if_neg c] at e
    refine aw_aload_n (i := 1) hX rfl rfl d_X1_standing_16 ?_
    refine aw_iload (i := 4) hX rfl d_X1_standing_17 ?_
    obtain ⟨x2, f_322, e_322⟩ := bd_some e
    clear e
    refine aw_callV (b := 13) (av := [.int s]) (avr := [.int s]) hX (k_X0_planBoughtBy (cx_g hX) hF f_322) mi_X0_planBoughtBy rfl rfl w_194 w_128 w_129 (by decide) rfl (LAY_lt rfl (by decide)) rfl rfl (Nat.le_of_ble_eq_true rfl) (Nat.zero_le _) (Nat.zero_le _) d_X1_standing_19 ?_
    refine aw_iload_n (i := 3) hX rfl rfl d_X1_standing_22 ?_
    obtain ⟨t3, f_323, e_323⟩ := bd_some e_322
    clear e_322
    obtain ⟨hlt3, e_324⟩ := if_some e_323
    clear e_323
    subst f_323
    obtain ⟨x4, f_325, e_325⟩ := bd_some e_324
    clear e_324
    refine aw_callV (b := t3) (av := [.int p3]) (avr := [.int p3]) hX (k_X2_comingOn (cx_g hX) hF f_325) mi_X2_comingOn rfl rfl w_195 w_113 w_114 (by decide) (by assumption) (LAY_lt (by assumption) (by decide)) rfl rfl (Nat.le_of_ble_eq_true rfl) (Nat.zero_le _) (Nat.zero_le _) d_X1_standing_23 ?_
    refine aw_sipush (v := 1000) hX (by decide) d_X1_standing_26 ?_
    obtain ⟨x5, f_326, e_326⟩ := bd_some e_325
    clear e_325
    refine ar_idiv hX f_326 d_X1_standing_29 ?_
    refine aw_istore (i := 5) (lv2 := [.ref 211, .ref 13, .ref p2, .int p3, .int s, .int x5, d6, d7]) hX rfl rfl d_X1_standing_30 ?_
    refine aw_aload_n (i := 2) hX rfl rfl d_X1_standing_32 ?_
    refine ar_getF hX hF fg_RX1_47 (by assumption) d_X1_standing_33 ?_
    refine aw_iload (i := 4) hX rfl d_X1_standing_36 ?_
    obtain ⟨x6, f_327, e_327⟩ := bd_some e_326
    clear e_326
    refine aw_callSN (av := [.ref (p2 + 4), .int s]) (avr := [.int s, .ref (p2 + 4)]) hX (k_X9_at (cx_g hX) hF f_327) mi_X9_at rfl rfl nx26 w_6 (by decide) (Nat.le_of_ble_eq_true rfl) (Nat.zero_le _) (Nat.zero_le _) d_X1_standing_38 ?_
    refine aw_istore (i := 6) (lv2 := [.ref 211, .ref 13, .ref p2, .int p3, .int s, .int x5, .int x6, d7]) hX rfl rfl d_X1_standing_41 ?_
    refine aw_iconst (v := 0) hX (by decide) d_X1_standing_43 ?_
    refine aw_istore (i := 7) (lv2 := [.ref 211, .ref 13, .ref p2, .int p3, .int s, .int x5, .int x6, .int 0]) hX rfl rfl d_X1_standing_44 ?_
    obtain ⟨y8, f_328, e_328⟩ := bd_some e_327
    clear e_327
    refine t_X1_standing_46 hF hX (by assumption) f_328 (fun d9_5 d9_6 d9_7 => ?_)
    refine aw_iinc (i := 4) (lv2 := [.ref 211, .ref 13, .ref p2, .int p3, .int (s + 1), d9_5, d9_6, d9_7]) hX rfl rfl rfl rfl d_X1_standing_65 ?_
    refine aw_goto (t := 7) hX (by decide) d_X1_standing_68 ?_
    cases e_328
    exact kI (s + 1) _ _ _ rfl
theorem ti_X1_standing_7 {g : GP} {X : MX} {mcR msR : Nat} (hF : gF g = true) (hX : Cx g RX1 cX1_standing 3 mcR msR (some .int) [] X) {Q : State → Prop} {p2 : Nat} {p3 : Int32} (hl_0 : LAY p2 = (0, 8)) {y : Unit} {hz : AH} (kE0 : ∀ (y_1 : Value) (y_3 : Value) (y_4 : Value) (y_5 : Value) (y_6 : Value) (y_7 : Value), AR g X 0 0 Q hz 71 [.ref 211, y_1, .ref p2, y_3, y_4, y_5, y_6, y_7] []) (n : Nat) : ∀ (s : Int32) (d5 : Value) (d6 : Value) (d7 : Value) (h : AH), lpH (l_X1_standing_7 p2 p3) n s h = some (y, hz) → AR g X 0 0 Q h 7 [.ref 211, .ref 13, .ref p2, .int p3, .int s, d5, d6, d7] [] := by
  induction n with
  | zero => intro s d5 d6 d7 h e; cases e
  | succ n ih =>
    intro s d5 d6 d7 h e
    obtain ⟨x, h1, e1, e2⟩ := lpH_succ e
    rcases e2 with ⟨s2, rfl, e3⟩ | ⟨rfl, rfl⟩
    · exact tb_X1_standing_7 hF hX hl_0 e1 (fun s3 x0 x1 x2 hs => by cases hs; exact ih _ _ _ _ _ e3) (fun yy x0 x1 x2 x3 x4 x5 hy => by cases hy)
    · exact tb_X1_standing_7 hF hX hl_0 e1 (fun s3 x0 x1 x2 hs => by cases hs) (fun yy x0 x1 x2 x3 x4 x5 hy => by cases hy; exact kE0 x0 x1 x2 x3 x4 x5)
theorem t_X1_standing_7 {g : GP} {X : MX} {mcR msR : Nat} (hF : gF g = true) (hX : Cx g RX1 cX1_standing 3 mcR msR (some .int) [] X) {Q : State → Prop} {p2 : Nat} {p3 : Int32} (hl_0 : LAY p2 = (0, 8)) {s : Int32} {d5 : Value} {d6 : Value} {d7 : Value} {h hz : AH} {n : Nat} {y : Unit} (e : lpH (l_X1_standing_7 p2 p3) n s h = some (y, hz)) (kE0 : ∀ (y_1 : Value) (y_3 : Value) (y_4 : Value) (y_5 : Value) (y_6 : Value) (y_7 : Value), AR g X 0 0 Q hz 71 [.ref 211, y_1, .ref p2, y_3, y_4, y_5, y_6, y_7] []) : AR g X 0 0 Q h 7 [.ref 211, .ref 13, .ref p2, .int p3, .int s, d5, d6, d7] [] := ti_X1_standing_7 hF hX hl_0 kE0 n _ _ _ _ _ e
def s_X1_standing (a0 : Option Nat) (a1 : Option Nat) (a2 : Int32) (h : AH) : Option (Int32 × AH) := if a0 = some 13 then bd a1 fun oa1 => if LAY oa1 = (0, 8) then bd (s_X1_clear h) fun q1 => bd (lpH (l_X1_standing_7 oa1 a2) FU 0 q1.2) fun y10 => bd (s_X1_above (gI y10.2 oa1 0) y10.2) fun x12 => some (x12, y10.2) else none else none
theorem t_X1_standing {g : GP} {X : MX} {mcR msR : Nat} (hF : gF g = true) (hX : Cx g RX1 cX1_standing 3 mcR msR (some .int) [] X) {a0 : Option Nat} {a1 : Option Nat} {a2 : Int32} {h hz : AH} {z : Int32} (e : s_X1_standing a0 a1 a2 h = some (z, hz)) : AR g X 0 0 (QQ g X NT false hz (.inl (some (.int z))) 0 0) h 0 [.ref 211, rfV a0, rfV a1, .int a2, jk, jk, jk, jk] [] := by
  unfold s_X1_standing at e
  obtain ⟨rfl, e_329⟩ := if_some e
  clear e
  obtain ⟨oa1, e0, e_330⟩ := bd_some e_329
  clear e_329
  subst e0
  obtain ⟨hl_a1, e_331⟩ := if_some e_330
  clear e_330
  refine aw_aload_n (i := 0) hX rfl rfl d_X1_standing_0 ?_
  obtain ⟨q1, f_332, e_332⟩ := bd_some e_331
  clear e_331
  refine aw_callV (b := 211) (av := []) (avr := []) hX (k_X1_clear (cx_g hX) hF f_332) mi_X1_clear rfl rfl w_190 w_191 w_192 (by decide) rfl (LAY_lt rfl (by decide)) rfl rfl (Nat.le_of_ble_eq_true rfl) (Nat.zero_le _) (Nat.zero_le _) d_X1_standing_1 ?_
  refine aw_iconst (v := 0) hX (by decide) d_X1_standing_4 ?_
  refine aw_istore (i := 4) (lv2 := [.ref 211, .ref 13, .ref oa1, .int a2, .int 0, jk, jk, jk]) hX rfl rfl d_X1_standing_5 ?_
  obtain ⟨y10, f_333, e_333⟩ := bd_some e_332
  clear e_332
  refine t_X1_standing_7 hF hX (by assumption) f_333 (fun d11_1 d11_3 d11_4 d11_5 d11_6 d11_7 => ?_)
  refine aw_aload_n (i := 0) hX rfl rfl d_X1_standing_71 ?_
  refine aw_aload_n (i := 2) hX rfl rfl d_X1_standing_72 ?_
  refine ar_getI hX fg_RX1_58 (by assumption) d_X1_standing_73 ?_
  obtain ⟨x12, f_334, e_334⟩ := bd_some e_333
  clear e_333
  refine aw_callV (b := 211) (av := [.int (gI y10.2 oa1 0)]) (avr := [.int (gI y10.2 oa1 0)]) hX (k_X1_above (cx_g hX) hF f_334) mi_X1_above rfl rfl w_203 w_204 w_205 (by decide) rfl (LAY_lt rfl (by decide)) rfl rfl (Nat.le_of_ble_eq_true rfl) (Nat.zero_le _) (Nat.zero_le _) d_X1_standing_76 ?_
  cases e_334
  exact aw_ireturn hX (Nat.zero_le _) (Nat.zero_le _) d_X1_standing_79
theorem k_X1_standing {g : GP} (hg : g.1.stackTraces = false) (hF : gF g = true) {a0 : Option Nat} {a1 : Option Nat} {a2 : Int32} {h hz : AH} {z : Int32} (e : s_X1_standing a0 a1 a2 h = some (z, hz)) : Ctr g yX1_standing (wsY yX1_standing cX1_standing 8 (some .int)) 3 0 0 [.ref 211, rfV a0, rfV a1, .int a2] NT false h (some (.int z)) NT false hz := ctr_of (lv0 := [.ref 211, rfV a0, rfV a1, .int a2, jk, jk, jk, jk]) (by cases a0 <;> cases a1 <;> rfl) (by cases a0 <;> cases a1 <;> rfl) (by decide) hg trivial (fun X hX hn => t_X1_standing hF hX e)
theorem d_X1_lookAt_0 : decode cX1_lookAt 0 = .ok (.aload_n 0, 1) := by decide +kernel
theorem d_X1_lookAt_1 : decode cX1_lookAt 1 = .ok (.getfield 19, 3) := by decide +kernel
theorem d_X1_lookAt_4 : decode cX1_lookAt 4 = .ok (.iload_n 3, 1) := by decide +kernel
theorem d_X1_lookAt_5 : decode cX1_lookAt 5 = .ok (.iconst 1, 1) := by decide +kernel
theorem d_X1_lookAt_6 : decode cX1_lookAt 6 = .ok (.invokestatic 68, 3) := by decide +kernel
theorem d_X1_lookAt_9 : decode cX1_lookAt 9 = .ok (.aload_n 1, 1) := by decide +kernel
theorem d_X1_lookAt_10 : decode cX1_lookAt 10 = .ok (.iload_n 3, 1) := by decide +kernel
theorem d_X1_lookAt_11 : decode cX1_lookAt 11 = .ok (.iconst 1, 1) := by decide +kernel
theorem d_X1_lookAt_12 : decode cX1_lookAt 12 = .ok (.invokevirtual 72, 3) := by decide +kernel
theorem d_X1_lookAt_15 : decode cX1_lookAt 15 = .ok (.astore 4, 2) := by decide +kernel
theorem d_X1_lookAt_17 : decode cX1_lookAt 17 = .ok (.iload_n 3, 1) := by decide +kernel
theorem d_X1_lookAt_18 : decode cX1_lookAt 18 = .ok (.sipush 401, 3) := by decide +kernel
theorem d_X1_lookAt_21 : decode cX1_lookAt 21 = .ok (.imul, 1) := by decide +kernel
theorem d_X1_lookAt_22 : decode cX1_lookAt 22 = .ok (.istore 5, 2) := by decide +kernel
theorem d_X1_lookAt_24 : decode cX1_lookAt 24 = .ok (.iconst 0, 1) := by decide +kernel
theorem d_X1_lookAt_25 : decode cX1_lookAt 25 = .ok (.istore 6, 2) := by decide +kernel
theorem d_X1_lookAt_27 : decode cX1_lookAt 27 = .ok (.iload 6, 2) := by decide +kernel
theorem d_X1_lookAt_29 : decode cX1_lookAt 29 = .ok (.aload_n 2, 1) := by decide +kernel
theorem d_X1_lookAt_30 : decode cX1_lookAt 30 = .ok (.getfield 76, 3) := by decide +kernel
theorem d_X1_lookAt_33 : decode cX1_lookAt 33 = .ok (.if_icmp .ge 89, 3) := by decide +kernel
theorem d_X1_lookAt_36 : decode cX1_lookAt 36 = .ok (.aload 4, 2) := by decide +kernel
theorem d_X1_lookAt_38 : decode cX1_lookAt 38 = .ok (.iload 6, 2) := by decide +kernel
theorem d_X1_lookAt_40 : decode cX1_lookAt 40 = .ok (.invokevirtual 41, 3) := by decide +kernel
theorem d_X1_lookAt_43 : decode cX1_lookAt 43 = .ok (.sipush 1000, 3) := by decide +kernel
theorem d_X1_lookAt_46 : decode cX1_lookAt 46 = .ok (.idiv, 1) := by decide +kernel
theorem d_X1_lookAt_47 : decode cX1_lookAt 47 = .ok (.istore 7, 2) := by decide +kernel
theorem d_X1_lookAt_49 : decode cX1_lookAt 49 = .ok (.aload_n 0, 1) := by decide +kernel
theorem d_X1_lookAt_50 : decode cX1_lookAt 50 = .ok (.invokevirtual 26, 3) := by decide +kernel
theorem d_X1_lookAt_53 : decode cX1_lookAt 53 = .ok (.iconst 1, 1) := by decide +kernel
theorem d_X1_lookAt_54 : decode cX1_lookAt 54 = .ok (.istore 8, 2) := by decide +kernel
theorem d_X1_lookAt_56 : decode cX1_lookAt 56 = .ok (.iload 8, 2) := by decide +kernel
theorem d_X1_lookAt_58 : decode cX1_lookAt 58 = .ok (.sipush 400, 3) := by decide +kernel
theorem d_X1_lookAt_61 : decode cX1_lookAt 61 = .ok (.if_icmp .gt 55, 3) := by decide +kernel
theorem d_X1_lookAt_64 : decode cX1_lookAt 64 = .ok (.iload 7, 2) := by decide +kernel
theorem d_X1_lookAt_66 : decode cX1_lookAt 66 = .ok (.ifCond .le 50, 3) := by decide +kernel
theorem d_X1_lookAt_69 : decode cX1_lookAt 69 = .ok (.aload_n 0, 1) := by decide +kernel
theorem d_X1_lookAt_70 : decode cX1_lookAt 70 = .ok (.iload 7, 2) := by decide +kernel
theorem d_X1_lookAt_72 : decode cX1_lookAt 72 = .ok (.invokevirtual 54, 3) := by decide +kernel
theorem d_X1_lookAt_75 : decode cX1_lookAt 75 = .ok (.aload_n 0, 1) := by decide +kernel
theorem d_X1_lookAt_76 : decode cX1_lookAt 76 = .ok (.getfield 15, 3) := by decide +kernel
theorem d_X1_lookAt_79 : decode cX1_lookAt 79 = .ok (.iload 5, 2) := by decide +kernel
theorem d_X1_lookAt_81 : decode cX1_lookAt 81 = .ok (.iload 8, 2) := by decide +kernel
theorem d_X1_lookAt_83 : decode cX1_lookAt 83 = .ok (.iadd, 1) := by decide +kernel
theorem d_X1_lookAt_84 : decode cX1_lookAt 84 = .ok (.aload_n 0, 1) := by decide +kernel
theorem d_X1_lookAt_85 : decode cX1_lookAt 85 = .ok (.getfield 15, 3) := by decide +kernel
theorem d_X1_lookAt_88 : decode cX1_lookAt 88 = .ok (.iload 5, 2) := by decide +kernel
theorem d_X1_lookAt_90 : decode cX1_lookAt 90 = .ok (.iload 8, 2) := by decide +kernel
theorem d_X1_lookAt_92 : decode cX1_lookAt 92 = .ok (.iadd, 1) := by decide +kernel
theorem d_X1_lookAt_93 : decode cX1_lookAt 93 = .ok (.invokestatic 50, 3) := by decide +kernel
theorem d_X1_lookAt_96 : decode cX1_lookAt 96 = .ok (.aload_n 0, 1) := by decide +kernel
theorem d_X1_lookAt_97 : decode cX1_lookAt 97 = .ok (.aload_n 2, 1) := by decide +kernel
theorem d_X1_lookAt_98 : decode cX1_lookAt 98 = .ok (.getfield 58, 3) := by decide +kernel
theorem d_X1_lookAt_101 : decode cX1_lookAt 101 = .ok (.invokevirtual 61, 3) := by decide +kernel
theorem d_X1_lookAt_104 : decode cX1_lookAt 104 = .ok (.invokestatic 79, 3) := by decide +kernel
theorem d_X1_lookAt_107 : decode cX1_lookAt 107 = .ok (.invokestatic 68, 3) := by decide +kernel
theorem d_X1_lookAt_110 : decode cX1_lookAt 110 = .ok (.iinc 8 1, 3) := by decide +kernel
theorem d_X1_lookAt_113 : decode cX1_lookAt 113 = .ok (.goto (-57), 3) := by decide +kernel
theorem d_X1_lookAt_116 : decode cX1_lookAt 116 = .ok (.iinc 6 1, 3) := by decide +kernel
theorem d_X1_lookAt_119 : decode cX1_lookAt 119 = .ok (.goto (-92), 3) := by decide +kernel
theorem d_X1_lookAt_122 : decode cX1_lookAt 122 = .ok (.return_, 1) := by decide +kernel
def l_X1_lookAt_56 (p2 : Nat) (p4 : Option Nat) (p5 : Int32) (p6 : Int32) (p7 : Int32) (s : Int32) (h : AH) : Option ((Int32 ⊕ Unit) × AH) := if 400 < s then some (.inr (), h) else if p7 ≤ 0 then some (.inr (), h) else bd (s_X1_add p7 h) fun q7 => bd (s_X9_at (some 213) (p5 + s) q7.2) fun x8 => bd (s_X1_above (gI q7.2 p2 0) q7.2) fun x9 => bd (s_X9_put (some 213) (p5 + s) (if x8 < x9 then x9 else x8) q7.2) fun q10 => some (.inl (s + 1), q10.2)
theorem tb_X1_lookAt_56 {g : GP} {X : MX} {mcR msR : Nat} (hF : gF g = true) (hX : Cx g RX1 cX1_lookAt 3 mcR msR none [] X) {Q : State → Prop} {p2 : Nat} {p4 : Option Nat} {p5 : Int32} {p6 : Int32} {p7 : Int32} {s : Int32} (hl_0 : LAY p2 = (0, 8)) {d1 : Value} {d3 : Value} {h hz : AH} {z : (Int32 ⊕ Unit)} (e : l_X1_lookAt_56 p2 p4 p5 p6 p7 s h = some (z, hz)) (kI : ∀ (s2 : Int32) (xd1 : Value) (xd3 : Value), z = .inl s2 → AR g X 0 0 Q hz 56 [.ref 211, xd1, .ref p2, xd3, rfV p4, .int p5, .int p6, .int p7, .int s2] []) (kE0 : ∀ (yy : Unit) (y1 : Value) (y3 : Value) (y7 : Value) (y8 : Value), z = .inr yy → AR g X 0 0 Q hz 116 [.ref 211, y1, .ref p2, y3, rfV p4, .int p5, .int p6, y7, y8] []) : AR g X 0 0 Q h 56 [.ref 211, d1, .ref p2, d3, rfV p4, .int p5, .int p6, .int p7, .int s] [] := by
  unfold l_X1_lookAt_56 at e
  refine aw_iload (i := 8) hX rfl d_X1_lookAt_56 ?_
  refine aw_sipush (v := 400) hX (by decide) d_X1_lookAt_58 ?_
  refine aw_icmp_gt (t := 116) hX (by decide) d_X1_lookAt_61 (fun c => ?_) (fun c => ?_)
  · rw [if_pos c] at e
    cases e
    exact kE0 () _ _ _ _ rfl
  · rw [if_neg c] at e
    refine aw_iload (i := 7) hX rfl d_X1_lookAt_64 ?_
    refine aw_if_le (t := 116) hX (by decide) d_X1_lookAt_66 (fun c => ?_) (fun c => ?_)
    · rw [if_pos c] at e
      cases e
      exact kE0 () _ _ _ _ rfl
    · rw [if_neg c] at e
      refine aw_aload_n (i := 0) hX rfl rfl d_X1_lookAt_69 ?_
      refine aw_iload (i := 7) hX rfl d_X1_lookAt_70 ?_
      obtain ⟨q7, f_335, e_335⟩ := bd_some e
      clear e
      refine aw_callV (b := 211) (av := [.int p7]) (avr := [.int p7]) hX (k_X1_add (cx_g hX) hF f_335) mi_X1_add rfl rfl w_198 w_199 w_200 (by decide) rfl (LAY_lt rfl (by decide)) rfl rfl (Nat.le_of_ble_eq_true rfl) (Nat.zero_le _) (Nat.zero_le _) d_X1_lookAt_72 ?_
      refine aw_aload_n (i := 0) hX rfl rfl d_X1_lookAt_75 ?_
      refine ar_getF hX hF fg_RX1_15 rfl d_X1_lookAt_76 ?_
      show AR g X 0 0 _ _ 79 _ [.ref 213]
      refine aw_iload (i := 5) hX rfl d_X1_lookAt_79 ?_
      refine aw_iload (i := 8) hX rfl d_X1_lookAt_81 ?_
      refine aw_iadd hX d_X1_lookAt_83 ?_
      refine aw_aload_n (i := 0) hX rfl rfl d_X1_lookAt_84 ?_
      refine ar_getF hX hF fg_RX1_15 rfl d_X1_lookAt_85 ?_
      show AR g X 0 0 _ _ 88 _ [.ref 213, .int (p5 + s), .ref 213]
      refine aw_iload (i := 5) hX rfl d_X1_lookAt_88 ?_
      refine aw_iload (i := 8) hX rfl d_X1_lookAt_90 ?_
      refine aw_iadd hX d_X1_lookAt_92 ?_
      obtain ⟨x8, f_336, e_336⟩ := bd_some e_335
      clear e_335
      refine aw_callSN (av := [.ref 213, .int (p5 + s)]) (avr := [.int (p5 + s), .ref 213]) hX (k_X9_at (cx_g hX) hF f_336) mi_X9_at rfl rfl nx26 w_6 (by decide) (Nat.le_of_ble_eq_true rfl) (Nat.zero_le _) (Nat.zero_le _) d_X1_lookAt_93 ?_
      refine aw_aload_n (i := 0) hX rfl rfl d_X1_lookAt_96 ?_
      refine aw_aload_n (i := 2) hX rfl rfl d_X1_lookAt_97 ?_
      refine ar_getI hX fg_RX1_58 (by assumption) d_X1_lookAt_98 ?_
      obtain ⟨x9, f_337, e_337⟩ := bd_some e_336
      clear e_336
      refine aw_callV (b := 211) (av := [.int (gI q7.2 p2 0)]) (avr := [.int (gI q7.2 p2 0)]) hX (k_X1_above (cx_g hX) hF f_337) mi_X1_above rfl rfl w_203 w_204 w_205 (by decide) rfl (LAY_lt rfl (by decide)) rfl rfl (Nat.le_of_ble_eq_true rfl) (Nat.zero_le _) (Nat.zero_le _) d_X1_lookAt_101 ?_
      refine ar_imax hX w_181 mth_imax (by decide) (Nat.le_of_ble_eq_true rfl) (Nat.zero_le _) (Nat.zero_le _) d_X1_lookAt_104 ?_
      obtain ⟨q10, f_338, e_338⟩ := bd_some e_337
      clear e_337
      refine aw_callSN (av := [.ref 213, .int (p5 + s), .int (if x8 < x9 then x9 else x8)]) (avr := [.int (if x8 < x9 then x9 else x8), .int (p5 + s), .ref 213]) hX (k_X9_put (cx_g hX) hF f_338) mi_X9_put rfl rfl nx32 w_83 (by decide) (Nat.le_of_ble_eq_true rfl) (Nat.zero_le _) (Nat.zero_le _) d_X1_lookAt_107 ?_
      refine aw_iinc (i := 8) (lv2 := [.ref 211, d1, .ref p2, d3, rfV p4, .int p5, .int p6, .int p7, .int (s + 1)]) hX rfl rfl rfl rfl d_X1_lookAt_110 ?_
      refine aw_goto (t := 56) hX (by decide) d_X1_lookAt_113 ?_
      cases e_338
      exact kI (s + 1) _ _ rfl
theorem ti_X1_lookAt_56 {g : GP} {X : MX} {mcR msR : Nat} (hF : gF g = true) (hX : Cx g RX1 cX1_lookAt 3 mcR msR none [] X) {Q : State → Prop} {p2 : Nat} {p4 : Option Nat} {p5 : Int32} {p6 : Int32} {p7 : Int32} (hl_0 : LAY p2 = (0, 8)) {y : Unit} {hz : AH} (kE0 : ∀ (y_1 : Value) (y_3 : Value) (y_7 : Value) (y_8 : Value), AR g X 0 0 Q hz 116 [.ref 211, y_1, .ref p2, y_3, rfV p4, .int p5, .int p6, y_7, y_8] []) (n : Nat) : ∀ (s : Int32) (d1 : Value) (d3 : Value) (h : AH), lpH (l_X1_lookAt_56 p2 p4 p5 p6 p7) n s h = some (y, hz) → AR g X 0 0 Q h 56 [.ref 211, d1, .ref p2, d3, rfV p4, .int p5, .int p6, .int p7, .int s] [] := by
  induction n with
  | zero => intro s d1 d3 h e; cases e
  | succ n ih =>
    intro s d1 d3 h e
    obtain ⟨x, h1, e1, e2⟩ := lpH_succ e
    rcases e2 with ⟨s2, rfl, e3⟩ | ⟨rfl, rfl⟩
    · exact tb_X1_lookAt_56 hF hX hl_0 e1 (fun s3 x0 x1 hs => by cases hs; exact ih _ _ _ _ e3) (fun yy x0 x1 x2 x3 hy => by cases hy)
    · exact tb_X1_lookAt_56 hF hX hl_0 e1 (fun s3 x0 x1 hs => by cases hs) (fun yy x0 x1 x2 x3 hy => by cases hy; exact kE0 x0 x1 x2 x3)
theorem t_X1_lookAt_56 {g : GP} {X : MX} {mcR msR : Nat} (hF : gF g = true) (hX : Cx g RX1 cX1_lookAt 3 mcR msR none [] X) {Q : State → Prop} {p2 : Nat} {p4 : Option Nat} {p5 : Int32} {p6 : Int32} {p7 : Int32} (hl_0 : LAY p2 = (0, 8)) {s : Int32} {d1 : Value} {d3 : Value} {h hz : AH} {n : Nat} {y : Unit} (e : lpH (l_X1_lookAt_56 p2 p4 p5 p6 p7) n s h = some (y, hz)) (kE0 : ∀ (y_1 : Value) (y_3 : Value) (y_7 : Value) (y_8 : Value), AR g X 0 0 Q hz 116 [.ref 211, y_1, .ref p2, y_3, rfV p4, .int p5, .int p6, y_7, y_8] []) : AR g X 0 0 Q h 56 [.ref 211, d1, .ref p2, d3, rfV p4, .int p5, .int p6, .int p7, .int s] [] := ti_X1_lookAt_56 hF hX hl_0 kE0 n _ _ _ _ e
def j_X1_lookAt_116_27 (p2 : Nat) (p4 : Option Nat) (p5 : Int32) (v6 : Int32) (h : AH) : Option ((Int32 ⊕ Unit) × AH) := some (.inl (v6 + 1), h)
theorem tj_X1_lookAt_116_27 {g : GP} {X : MX} {mcR msR : Nat} (hF : gF g = true) (hX : Cx g RX1 cX1_lookAt 3 mcR msR none [] X) {Q : State → Prop} {p2 : Nat} {p4 : Option Nat} {p5 : Int32} {v6 : Int32} (hl_0 : LAY p2 = (0, 8)) {d1 : Value} {d3 : Value} {d7 : Value} {d8 : Value} {h hz : AH} {z : (Int32 ⊕ Unit)} (e : j_X1_lookAt_116_27 p2 p4 p5 v6 h = some (z, hz)) (kI : ∀ (s2 : Int32) (xd1 : Value) (xd3 : Value) (xd7 : Value) (xd8 : Value), z = .inl s2 → AR g X 0 0 Q hz 27 [.ref 211, xd1, .ref p2, xd3, rfV p4, .int p5, .int s2, xd7, xd8] []) (kE0 : ∀ (yy : Unit) (y0 : Value) (y1 : Value) (y2 : Value) (y3 : Value) (y4 : Value) (y5 : Value) (y6 : Value) (y7 : Value) (y8 : Value), z = .inr yy → AR g X 0 0 Q hz 122 [y0, y1, y2, y3, y4, y5, y6, y7, y8] []) : AR g X 0 0 Q h 116 [.ref 211, d1, .ref p2, d3, rfV p4, .int p5, .int v6, d7, d8] [] := by
  unfold j_X1_lookAt_116_27 at e
  refine aw_iinc (i := 6) (lv2 := [.ref 211, d1, .ref p2, d3, rfV p4, .int p5, .int (v6 + 1), d7, d8]) hX rfl rfl rfl rfl d_X1_lookAt_116 ?_
  refine aw_goto (t := 27) hX (by decide) d_X1_lookAt_119 ?_
  cases e
  exact kI (v6 + 1) _ _ _ _ rfl
def l_X1_lookAt_27 (p2 : Nat) (p4 : Option Nat) (p5 : Int32) (s : Int32) (h : AH) : Option ((Int32 ⊕ Unit) × AH) := if (gI h p2 2) ≤ s then some (.inr (), h) else bd p4 fun t3 => if LAY t3 = (0, 2) then bd (s_X2_comingOn t3 s h) fun x4 => bd (idivF x4 1000) fun x5 => bd (s_X1_clear h) fun q6 => bd (lpH (l_X1_lookAt_56 p2 (some t3) p5 s x5) FU 1 q6.2) fun y11 => j_X1_lookAt_116_27 p2 (some t3) p5 s y11.2 else none
theorem tb_X1_lookAt_27 {g : GP} {X : MX} {mcR msR : Nat} (hF : gF g = true) (hX : Cx g RX1 cX1_lookAt 3 mcR msR none [] X) {Q : State → Prop} {p2 : Nat} {p4 : Option Nat} {p5 : Int32} {s : Int32} (hl_0 : LAY p2 = (0, 8)) {d1 : Value} {d3 : Value} {d7 : Value} {d8 : Value} {h hz : AH} {z : (Int32 ⊕ Unit)} (e : l_X1_lookAt_27 p2 p4 p5 s h = some (z, hz)) (kI : ∀ (s2 : Int32) (xd1 : Value) (xd3 : Value) (xd7 : Value) (xd8 : Value), z = .inl s2 → AR g X 0 0 Q hz 27 [.ref 211, xd1, .ref p2, xd3, rfV p4, .int p5, .int s2, xd7, xd8] []) (kE0 : ∀ (yy : Unit) (y0 : Value) (y1 : Value) (y2 : Value) (y3 : Value) (y4 : Value) (y5 : Value) (y6 : Value) (y7 : Value) (y8 : Value), z = .inr yy → AR g X 0 0 Q hz 122 [y0, y1, y2, y3, y4, y5, y6, y7, y8] []) : AR g X 0 0 Q h 27 [.ref 211, d1, .ref p2, d3, rfV p4, .int p5, .int s, d7, d8] [] := by
  unfold l_X1_lookAt_27 at e
  refine aw_iload (i := 6) hX rfl d_X1_lookAt_27 ?_
  refine aw_aload_n (i := 2) hX rfl rfl d_X1_lookAt_29 ?_
  refine ar_getI hX fg_RX1_76 (by assumption) d_X1_lookAt_30 ?_
  refine aw_icmp_ge (t := 122) hX (by decide) d_X1_lookAt_33 (fun c => ?_) (fun c => ?_)
  · rw [if_pos c] at e
    cases e
    exact kE0 () _ _ _ _ _ _ _ _ _ rfl
  · rw [if_neg c] at e
    refine aw_aloadO (i := 4) (o := p4) hX rfl d_X1_lookAt_36 ?_
    refine aw_iload (i := 6) hX rfl d_X1_lookAt_38 ?_
    obtain ⟨t3, f_339, e_339⟩ := bd_some e
    clear e
    obtain ⟨hlt3, e_340⟩ := if_some e_339
    clear e_339
    subst f_339
    obtain ⟨x4, f_341, e_341⟩ := bd_some e_340
    clear e_340
    refine aw_callV (b := t3) (av := [.int s]) (avr := [.int s]) hX (k_X2_comingOn (cx_g hX) hF f_341) mi_X2_comingOn rfl rfl w_195 w_113 w_114 (by decide) (by assumption) (LAY_lt (by assumption) (by decide)) rfl rfl (Nat.le_of_ble_eq_true rfl) (Nat.zero_le _) (Nat.zero_le _) d_X1_lookAt_40 ?_
    refine aw_sipush (v := 1000) hX (by decide) d_X1_lookAt_43 ?_
    obtain ⟨x5, f_342, e_342⟩ := bd_some e_341
    clear e_341
    refine ar_idiv hX f_342 d_X1_lookAt_46 ?_
    refine aw_istore (i := 7) (lv2 := [.ref 211, d1, .ref p2, d3, .ref t3, .int p5, .int s, .int x5, d8]) hX rfl rfl d_X1_lookAt_47 ?_
    refine aw_aload_n (i := 0) hX rfl rfl d_X1_lookAt_49 ?_
    obtain ⟨q6, f_343, e_343⟩ := bd_some e_342
    clear e_342
    refine aw_callV (b := 211) (av := []) (avr := []) hX (k_X1_clear (cx_g hX) hF f_343) mi_X1_clear rfl rfl w_190 w_191 w_192 (by decide) rfl (LAY_lt rfl (by decide)) rfl rfl (Nat.le_of_ble_eq_true rfl) (Nat.zero_le _) (Nat.zero_le _) d_X1_lookAt_50 ?_
    refine aw_iconst (v := 1) hX (by decide) d_X1_lookAt_53 ?_
    refine aw_istore (i := 8) (lv2 := [.ref 211, d1, .ref p2, d3, .ref t3, .int p5, .int s, .int x5, .int 1]) hX rfl rfl d_X1_lookAt_54 ?_
    obtain ⟨y11, f_344, e_344⟩ := bd_some e_343
    clear e_343
    refine t_X1_lookAt_56 hF hX (by assumption) f_344 (fun d12_1 d12_3 d12_7 d12_8 => ?_)
    exact tj_X1_lookAt_116_27 hF hX (by assumption) e_344 kI kE0
theorem ti_X1_lookAt_27 {g : GP} {X : MX} {mcR msR : Nat} (hF : gF g = true) (hX : Cx g RX1 cX1_lookAt 3 mcR msR none [] X) {Q : State → Prop} {p2 : Nat} {p4 : Option Nat} {p5 : Int32} (hl_0 : LAY p2 = (0, 8)) {y : Unit} {hz : AH} (kE0 : ∀ (y_0 : Value) (y_1 : Value) (y_2 : Value) (y_3 : Value) (y_4 : Value) (y_5 : Value) (y_6 : Value) (y_7 : Value) (y_8 : Value), AR g X 0 0 Q hz 122 [y_0, y_1, y_2, y_3, y_4, y_5, y_6, y_7, y_8] []) (n : Nat) : ∀ (s : Int32) (d1 : Value) (d3 : Value) (d7 : Value) (d8 : Value) (h : AH), lpH (l_X1_lookAt_27 p2 p4 p5) n s h = some (y, hz) → AR g X 0 0 Q h 27 [.ref 211, d1, .ref p2, d3, rfV p4, .int p5, .int s, d7, d8] [] := by
  induction n with
  | zero => intro s d1 d3 d7 d8 h e; cases e
  | succ n ih =>
    intro s d1 d3 d7 d8 h e
    obtain ⟨x, h1, e1, e2⟩ := lpH_succ e
    rcases e2 with ⟨s2, rfl, e3⟩ | ⟨rfl, rfl⟩
    · exact tb_X1_lookAt_27 hF hX hl_0 e1 (fun s3 x0 x1 x2 x3 hs => by cases hs; exact ih _ _ _ _ _ _ e3) (fun yy x0 x1 x2 x3 x4 x5 x6 x7 x8 hy => by cases hy)
    · exact tb_X1_lookAt_27 hF hX hl_0 e1 (fun s3 x0 x1 x2 x3 hs => by cases hs) (fun yy x0 x1 x2 x3 x4 x5 x6 x7 x8 hy => by cases hy; exact kE0 x0 x1 x2 x3 x4 x5 x6 x7 x8)
theorem t_X1_lookAt_27 {g : GP} {X : MX} {mcR msR : Nat} (hF : gF g = true) (hX : Cx g RX1 cX1_lookAt 3 mcR msR none [] X) {Q : State → Prop} {p2 : Nat} {p4 : Option Nat} {p5 : Int32} (hl_0 : LAY p2 = (0, 8)) {s : Int32} {d1 : Value} {d3 : Value} {d7 : Value} {d8 : Value} {h hz : AH} {n : Nat} {y : Unit} (e : lpH (l_X1_lookAt_27 p2 p4 p5) n s h = some (y, hz)) (kE0 : ∀ (y_0 : Value) (y_1 : Value) (y_2 : Value) (y_3 : Value) (y_4 : Value) (y_5 : Value) (y_6 : Value) (y_7 : Value) (y_8 : Value), AR g X 0 0 Q hz 122 [y_0, y_1, y_2, y_3, y_4, y_5, y_6, y_7, y_8] []) : AR g X 0 0 Q h 27 [.ref 211, d1, .ref p2, d3, rfV p4, .int p5, .int s, d7, d8] [] := ti_X1_lookAt_27 hF hX hl_0 kE0 n _ _ _ _ _ _ e
def s_X1_lookAt (a0 : Option Nat) (a1 : Option Nat) (a2 : Int32) (h : AH) : Option (Unit × AH) := if a0 = some 13 then bd a1 fun oa1 => if LAY oa1 = (0, 8) then bd (s_X9_put (some 214) a2 1 h) fun q1 => bd (s_X0_planOf a2 1 q1.2) fun x2 => bd (lpH (l_X1_lookAt_27 oa1 x2 (a2 * 401)) FU 0 q1.2) fun y13 => some ((), y13.2) else none else none
theorem t_X1_lookAt {g : GP} {X : MX} {mcR msR : Nat} (hF : gF g = true) (hX : Cx g RX1 cX1_lookAt 3 mcR msR none [] X) {a0 : Option Nat} {a1 : Option Nat} {a2 : Int32} {h hz : AH} {z : Unit} (e : s_X1_lookAt a0 a1 a2 h = some (z, hz)) : AR g X 0 0 (QQ g X NT false hz (.inl none) 0 0) h 0 [.ref 211, rfV a0, rfV a1, .int a2, jk, jk, jk, jk, jk] [] := by
  unfold s_X1_lookAt at e
  obtain ⟨rfl, e_345⟩ := if_some e
  clear e
  obtain ⟨oa1, e0, e_346⟩ := bd_some e_345
  clear e_345
  subst e0
  obtain ⟨hl_a1, e_347⟩ := if_some e_346
  clear e_346
  refine aw_aload_n (i := 0) hX rfl rfl d_X1_lookAt_0 ?_
  refine ar_getF hX hF fg_RX1_19 rfl d_X1_lookAt_1 ?_
  show AR g X 0 0 _ _ 4 _ [.ref 214]
  refine aw_iload_n (i := 3) hX rfl rfl d_X1_lookAt_4 ?_
  refine aw_iconst (v := 1) hX (by decide) d_X1_lookAt_5 ?_
  obtain ⟨q1, f_348, e_348⟩ := bd_some e_347
  clear e_347
  refine aw_callSN (av := [.ref 214, .int a2, .int 1]) (avr := [.int 1, .int a2, .ref 214]) hX (k_X9_put (cx_g hX) hF f_348) mi_X9_put rfl rfl nx32 w_83 (by decide) (Nat.le_of_ble_eq_true rfl) (Nat.zero_le _) (Nat.zero_le _) d_X1_lookAt_6 ?_
  refine aw_aload_n (i := 1) hX rfl rfl d_X1_lookAt_9 ?_
  refine aw_iload_n (i := 3) hX rfl rfl d_X1_lookAt_10 ?_
  refine aw_iconst (v := 1) hX (by decide) d_X1_lookAt_11 ?_
  obtain ⟨x2, f_349, e_349⟩ := bd_some e_348
  clear e_348
  refine aw_callV (b := 13) (av := [.int a2, .int 1]) (avr := [.int 1, .int a2]) hX (k_X0_planOf (cx_g hX) hF f_349) mi_X0_planOf rfl rfl w_206 w_15 w_16 (by decide) rfl (LAY_lt rfl (by decide)) rfl rfl (Nat.le_of_ble_eq_true rfl) (Nat.zero_le _) (Nat.zero_le _) d_X1_lookAt_12 ?_
  refine aw_astoreO (i := 4) (lv2 := [.ref 211, .ref 13, .ref oa1, .int a2, rfV x2, jk, jk, jk, jk]) hX rfl rfl d_X1_lookAt_15 ?_
  refine aw_iload_n (i := 3) hX rfl rfl d_X1_lookAt_17 ?_
  refine aw_sipush (v := 401) hX (by decide) d_X1_lookAt_18 ?_
  refine aw_imul hX d_X1_lookAt_21 ?_
  refine aw_istore (i := 5) (lv2 := [.ref 211, .ref 13, .ref oa1, .int a2, rfV x2, .int (a2 * 401), jk, jk, jk]) hX (by show List.set (List.set _ _ (uncV (rfV _))) _ _ = _; rw [uncV_rfV]; rfl) rfl d_X1_lookAt_22 ?_
  refine aw_iconst (v := 0) hX (by decide) d_X1_lookAt_24 ?_
  refine aw_istore (i := 6) (lv2 := [.ref 211, .ref 13, .ref oa1, .int a2, rfV x2, .int (a2 * 401), .int 0, jk, jk]) hX rfl rfl d_X1_lookAt_25 ?_
  obtain ⟨y13, f_350, e_350⟩ := bd_some e_349
  clear e_349
  refine t_X1_lookAt_27 hF hX (by assumption) f_350 (fun d14_0 d14_1 d14_2 d14_3 d14_4 d14_5 d14_6 d14_7 d14_8 => ?_)
  cases e_350
  exact aw_return hX (Nat.zero_le _) (Nat.zero_le _) d_X1_lookAt_122
theorem k_X1_lookAt {g : GP} (hg : g.1.stackTraces = false) (hF : gF g = true) {a0 : Option Nat} {a1 : Option Nat} {a2 : Int32} {h hz : AH} {z : Unit} (e : s_X1_lookAt a0 a1 a2 h = some (z, hz)) : Ctr g yX1_lookAt (wsY yX1_lookAt cX1_lookAt 9 none) 3 0 0 [.ref 211, rfV a0, rfV a1, .int a2] NT false h none NT false hz := ctr_of (lv0 := [.ref 211, rfV a0, rfV a1, .int a2, jk, jk, jk, jk, jk]) (by cases a0 <;> cases a1 <;> rfl) (by cases a0 <;> cases a1 <;> rfl) (by decide) hg trivial (fun X hX hn => t_X1_lookAt hF hX e)
theorem d_X1_mostBelow_0 : decode cX1_mostBelow 0 = .ok (.aload_n 0, 1) := by decide +kernel
theorem d_X1_mostBelow_1 : decode cX1_mostBelow 1 = .ok (.getfield 19, 3) := by decide +kernel
theorem d_X1_mostBelow_4 : decode cX1_mostBelow 4 = .ok (.iload_n 3, 1) := by decide +kernel
theorem d_X1_mostBelow_5 : decode cX1_mostBelow 5 = .ok (.invokestatic 50, 3) := by decide +kernel
theorem d_X1_mostBelow_8 : decode cX1_mostBelow 8 = .ok (.ifCond .ne 10, 3) := by decide +kernel
theorem d_X1_mostBelow_11 : decode cX1_mostBelow 11 = .ok (.aload_n 0, 1) := by decide +kernel
theorem d_X1_mostBelow_12 : decode cX1_mostBelow 12 = .ok (.aload_n 1, 1) := by decide +kernel
theorem d_X1_mostBelow_13 : decode cX1_mostBelow 13 = .ok (.aload_n 2, 1) := by decide +kernel
theorem d_X1_mostBelow_14 : decode cX1_mostBelow 14 = .ok (.iload_n 3, 1) := by decide +kernel
theorem d_X1_mostBelow_15 : decode cX1_mostBelow 15 = .ok (.invokevirtual 64, 3) := by decide +kernel
theorem d_X1_mostBelow_18 : decode cX1_mostBelow 18 = .ok (.sipush 400, 3) := by decide +kernel
theorem d_X1_mostBelow_21 : decode cX1_mostBelow 21 = .ok (.istore 5, 2) := by decide +kernel
theorem d_X1_mostBelow_23 : decode cX1_mostBelow 23 = .ok (.iload 5, 2) := by decide +kernel
theorem d_X1_mostBelow_25 : decode cX1_mostBelow 25 = .ok (.iconst 1, 1) := by decide +kernel
theorem d_X1_mostBelow_26 : decode cX1_mostBelow 26 = .ok (.if_icmp .le 29, 3) := by decide +kernel
theorem d_X1_mostBelow_29 : decode cX1_mostBelow 29 = .ok (.aload_n 0, 1) := by decide +kernel
theorem d_X1_mostBelow_30 : decode cX1_mostBelow 30 = .ok (.getfield 15, 3) := by decide +kernel
theorem d_X1_mostBelow_33 : decode cX1_mostBelow 33 = .ok (.iload_n 3, 1) := by decide +kernel
theorem d_X1_mostBelow_34 : decode cX1_mostBelow 34 = .ok (.sipush 401, 3) := by decide +kernel
theorem d_X1_mostBelow_37 : decode cX1_mostBelow 37 = .ok (.imul, 1) := by decide +kernel
theorem d_X1_mostBelow_38 : decode cX1_mostBelow 38 = .ok (.iload 5, 2) := by decide +kernel
theorem d_X1_mostBelow_40 : decode cX1_mostBelow 40 = .ok (.iadd, 1) := by decide +kernel
theorem d_X1_mostBelow_41 : decode cX1_mostBelow 41 = .ok (.invokestatic 50, 3) := by decide +kernel
theorem d_X1_mostBelow_44 : decode cX1_mostBelow 44 = .ok (.iload 4, 2) := by decide +kernel
theorem d_X1_mostBelow_46 : decode cX1_mostBelow 46 = .ok (.if_icmp .le 9, 3) := by decide +kernel
theorem d_X1_mostBelow_49 : decode cX1_mostBelow 49 = .ok (.iinc 5 (-1), 3) := by decide +kernel
theorem d_X1_mostBelow_52 : decode cX1_mostBelow 52 = .ok (.goto (-29), 3) := by decide +kernel
theorem d_X1_mostBelow_55 : decode cX1_mostBelow 55 = .ok (.iload 5, 2) := by decide +kernel
theorem d_X1_mostBelow_57 : decode cX1_mostBelow 57 = .ok (.ireturn, 1) := by decide +kernel
def l_X1_mostBelow_23 (p3 : Int32) (p4 : Int32) (s : Int32) (h : AH) : Option ((Int32 ⊕ Int32) × AH) := if s ≤ 1 then some (.inr s, h) else bd (s_X9_at (some 213) ((p3 * 401) + s) h) fun x2 => if x2 ≤ p4 then some (.inr s, h) else some (.inl (s + (-1)), h)
theorem tb_X1_mostBelow_23 {g : GP} {X : MX} {mcR msR : Nat} (hF : gF g = true) (hX : Cx g RX1 cX1_mostBelow 4 mcR msR (some .int) [] X) {Q : State → Prop} {p3 : Int32} {p4 : Int32} {s : Int32} {d1 : Value} {d2 : Value} {h hz : AH} {z : (Int32 ⊕ Int32)} (e : l_X1_mostBelow_23 p3 p4 s h = some (z, hz)) (kI : ∀ (s2 : Int32) (xd1 : Value) (xd2 : Value), z = .inl s2 → AR g X 0 0 Q hz 23 [.ref 211, xd1, xd2, .int p3, .int p4, .int s2] []) (kE0 : ∀ (yy : Int32) (y0 : Value) (y1 : Value) (y2 : Value) (y3 : Value) (y4 : Value), z = .inr yy → AR g X 0 0 Q hz 55 [y0, y1, y2, y3, y4, .int yy] []) : AR g X 0 0 Q h 23 [.ref 211, d1, d2, .int p3, .int p4, .int s] [] := by
  unfold l_X1_mostBelow_23 at e
  refine aw_iload (i := 5) hX rfl d_X1_mostBelow_23 ?_
  refine aw_iconst (v := 1) hX (by decide) d_X1_mostBelow_25 ?_
  refine aw_icmp_le (t := 55) hX (by decide) d_X1_mostBelow_26 (fun c => ?_) (fun c => ?_)
  · rw [if_pos c] at e
    cases e
    exact kE0 s _ _ _ _ _ rfl
  · rw [if_neg c] at e
    refine aw_aload_n (i := 0) hX rfl rfl d_X1_mostBelow_29 ?_
    refine ar_getF hX hF fg_RX1_15 rfl d_X1_mostBelow_30 ?_
    show AR g X 0 0 _ _ 33 _ [.ref 213]
    refine aw_iload_n (i := 3) hX rfl rfl d_X1_mostBelow_33 ?_
    refine aw_sipush (v := 401) hX (by decide) d_X1_mostBelow_34 ?_
    refine aw_imul hX d_X1_mostBelow_37 ?_
    refine aw_iload (i := 5) hX rfl d_X1_mostBelow_38 ?_
    refine aw_iadd hX d_X1_mostBelow_40 ?_
    obtain ⟨x2, f_351, e_351⟩ := bd_some e
    clear e
    refine aw_callSN (av := [.ref 213, .int ((p3 * 401) + s)]) (avr := [.int ((p3 * 401) + s), .ref 213]) hX (k_X9_at (cx_g hX) hF f_351) mi_X9_at rfl rfl nx26 w_6 (by decide) (Nat.le_of_ble_eq_true rfl) (Nat.zero_le _) (Nat.zero_le _) d_X1_mostBelow_41 ?_
    refine aw_iload (i := 4) hX rfl d_X1_mostBelow_44 ?_
    refine aw_icmp_le (t := 55) hX (by decide) d_X1_mostBelow_46 (fun c => ?_) (fun c => ?_)
    · rw [if_pos c] at e_351
      cases e_351
      exact kE0 s _ _ _ _ _ rfl
    · rw [if_neg c] at e_351
      refine aw_iinc (i := 5) (lv2 := [.ref 211, d1, d2, .int p3, .int p4, .int (s + (-1))]) hX rfl (iz (b := (-1)) (by decide)) rfl rfl d_X1_mostBelow_49 ?_
      refine aw_goto (t := 23) hX (by decide) d_X1_mostBelow_52 ?_
      cases e_351
      exact kI (s + (-1)) _ _ rfl
theorem ti_X1_mostBelow_23 {g : GP} {X : MX} {mcR msR : Nat} (hF : gF g = true) (hX : Cx g RX1 cX1_mostBelow 4 mcR msR (some .int) [] X) {Q : State → Prop} {p3 : Int32} {p4 : Int32} {y : Int32} {hz : AH} (kE0 : ∀ (y_0 : Value) (y_1 : Value) (y_2 : Value) (y_3 : Value) (y_4 : Value), AR g X 0 0 Q hz 55 [y_0, y_1, y_2, y_3, y_4, .int y] []) (n : Nat) : ∀ (s : Int32) (d1 : Value) (d2 : Value) (h : AH), lpH (l_X1_mostBelow_23 p3 p4) n s h = some (y, hz) → AR g X 0 0 Q h 23 [.ref 211, d1, d2, .int p3, .int p4, .int s] [] := by
  induction n with
  | zero => intro s d1 d2 h e; cases e
  | succ n ih =>
    intro s d1 d2 h e
    obtain ⟨x, h1, e1, e2⟩ := lpH_succ e
    rcases e2 with ⟨s2, rfl, e3⟩ | ⟨rfl, rfl⟩
    · exact tb_X1_mostBelow_23 hF hX e1 (fun s3 x0 x1 hs => by cases hs; exact ih _ _ _ _ e3) (fun yy x0 x1 x2 x3 x4 hy => by cases hy)
    · exact tb_X1_mostBelow_23 hF hX e1 (fun s3 x0 x1 hs => by cases hs) (fun yy x0 x1 x2 x3 x4 hy => by cases hy; exact kE0 x0 x1 x2 x3 x4)
theorem t_X1_mostBelow_23 {g : GP} {X : MX} {mcR msR : Nat} (hF : gF g = true) (hX : Cx g RX1 cX1_mostBelow 4 mcR msR (some .int) [] X) {Q : State → Prop} {p3 : Int32} {p4 : Int32} {s : Int32} {d1 : Value} {d2 : Value} {h hz : AH} {n : Nat} {y : Int32} (e : lpH (l_X1_mostBelow_23 p3 p4) n s h = some (y, hz)) (kE0 : ∀ (y_0 : Value) (y_1 : Value) (y_2 : Value) (y_3 : Value) (y_4 : Value), AR g X 0 0 Q hz 55 [y_0, y_1, y_2, y_3, y_4, .int y] []) : AR g X 0 0 Q h 23 [.ref 211, d1, d2, .int p3, .int p4, .int s] [] := ti_X1_mostBelow_23 hF hX kE0 n _ _ _ _ e
def j_X1_mostBelow_18 (v3 : Int32) (v4 : Int32) (h : AH) : Option (Int32 × AH) := bd (lpH (l_X1_mostBelow_23 v3 v4) FU 400 h) fun y3 => some (y3.1, y3.2)
theorem tj_X1_mostBelow_18 {g : GP} {X : MX} {mcR msR : Nat} (hF : gF g = true) (hX : Cx g RX1 cX1_mostBelow 4 mcR msR (some .int) [] X) {v3 : Int32} {v4 : Int32} {d1 : Value} {d2 : Value} {d5 : Value} {h hz : AH} {z : Int32} (e : j_X1_mostBelow_18 v3 v4 h = some (z, hz)) : AR g X 0 0 (QQ g X NT false hz (.inl (some (.int z))) 0 0) h 18 [.ref 211, d1, d2, .int v3, .int v4, d5] [] := by
  unfold j_X1_mostBelow_18 at e
  refine aw_sipush (v := 400) hX (by decide) d_X1_mostBelow_18 ?_
  refine aw_istore (i := 5) (lv2 := [.ref 211, d1, d2, .int v3, .int v4, .int 400]) hX rfl rfl d_X1_mostBelow_21 ?_
  obtain ⟨y3, f_352, e_352⟩ := bd_some e
  clear e
  refine t_X1_mostBelow_23 hF hX f_352 (fun d4_0 d4_1 d4_2 d4_3 d4_4 => ?_)
  refine aw_iload (i := 5) hX rfl d_X1_mostBelow_55 ?_
  cases e_352
  exact aw_ireturn hX (Nat.zero_le _) (Nat.zero_le _) d_X1_mostBelow_57
def s_X1_mostBelow (a0 : Option Nat) (a1 : Option Nat) (a2 : Int32) (a3 : Int32) (h : AH) : Option (Int32 × AH) := if a0 = some 13 then bd a1 fun oa1 => if LAY oa1 = (0, 8) then bd (s_X9_at (some 214) a2 h) fun x1 => if x1 = 0 then bd (s_X1_lookAt (some 13) (some oa1) a2 h) fun q5 => j_X1_mostBelow_18 a2 a3 q5.2 else j_X1_mostBelow_18 a2 a3 h else none else none
theorem t_X1_mostBelow {g : GP} {X : MX} {mcR msR : Nat} (hF : gF g = true) (hX : Cx g RX1 cX1_mostBelow 4 mcR msR (some .int) [] X) {a0 : Option Nat} {a1 : Option Nat} {a2 : Int32} {a3 : Int32} {h hz : AH} {z : Int32} (e : s_X1_mostBelow a0 a1 a2 a3 h = some (z, hz)) : AR g X 0 0 (QQ g X NT false hz (.inl (some (.int z))) 0 0) h 0 [.ref 211, rfV a0, rfV a1, .int a2, .int a3, jk] [] := by
  unfold s_X1_mostBelow at e
  obtain ⟨rfl, e_353⟩ := if_some e
  clear e
  obtain ⟨oa1, e0, e_354⟩ := bd_some e_353
  clear e_353
  subst e0
  obtain ⟨hl_a1, e_355⟩ := if_some e_354
  clear e_354
  refine aw_aload_n (i := 0) hX rfl rfl d_X1_mostBelow_0 ?_
  refine ar_getF hX hF fg_RX1_19 rfl d_X1_mostBelow_1 ?_
  show AR g X 0 0 _ _ 4 _ [.ref 214]
  refine aw_iload_n (i := 3) hX rfl rfl d_X1_mostBelow_4 ?_
  obtain ⟨x1, f_356, e_356⟩ := bd_some e_355
  clear e_355
  refine aw_callSN (av := [.ref 214, .int a2]) (avr := [.int a2, .ref 214]) hX (k_X9_at (cx_g hX) hF f_356) mi_X9_at rfl rfl nx26 w_6 (by decide) (Nat.le_of_ble_eq_true rfl) (Nat.zero_le _) (Nat.zero_le _) d_X1_mostBelow_5 ?_
  refine aw_if_ne (t := 18) hX (by decide) d_X1_mostBelow_8 (fun c => ?_) (fun c => ?_)
  · rw [if_neg c] at e_356
    exact tj_X1_mostBelow_18 hF hX e_356
  · rw [if_pos c] at e_356
    refine aw_aload_n (i := 0) hX rfl rfl d_X1_mostBelow_11 ?_
    refine aw_aload_n (i := 1) hX rfl rfl d_X1_mostBelow_12 ?_
    refine aw_aload_n (i := 2) hX rfl rfl d_X1_mostBelow_13 ?_
    refine aw_iload_n (i := 3) hX rfl rfl d_X1_mostBelow_14 ?_
    obtain ⟨q5, f_357, e_357⟩ := bd_some e_356
    clear e_356
    refine aw_callV (b := 211) (av := [.ref 13, .ref oa1, .int a2]) (avr := [.int a2, .ref oa1, .ref 13]) hX (k_X1_lookAt (cx_g hX) hF f_357) mi_X1_lookAt rfl rfl w_209 w_210 w_211 (by decide) rfl (LAY_lt rfl (by decide)) rfl rfl (Nat.le_of_ble_eq_true rfl) (Nat.zero_le _) (Nat.zero_le _) d_X1_mostBelow_15 ?_
    exact tj_X1_mostBelow_18 hF hX e_357
theorem k_X1_mostBelow {g : GP} (hg : g.1.stackTraces = false) (hF : gF g = true) {a0 : Option Nat} {a1 : Option Nat} {a2 : Int32} {a3 : Int32} {h hz : AH} {z : Int32} (e : s_X1_mostBelow a0 a1 a2 a3 h = some (z, hz)) : Ctr g yX1_mostBelow (wsY yX1_mostBelow cX1_mostBelow 6 (some .int)) 4 0 0 [.ref 211, rfV a0, rfV a1, .int a2, .int a3] NT false h (some (.int z)) NT false hz := ctr_of (lv0 := [.ref 211, rfV a0, rfV a1, .int a2, .int a3, jk]) (by cases a0 <;> cases a1 <;> rfl) (by cases a0 <;> cases a1 <;> rfl) (by decide) hg trivial (fun X hX hn => t_X1_mostBelow hF hX e)
