/-! 25.search: functions and contracts, by program -/
theorem d_X5_forget_0 : decode cX5_forget 0 = .ok (.aload_n 0, 1) := by decide +kernel
theorem d_X5_forget_1 : decode cX5_forget 1 = .ok (.iconst 0, 1) := by decide +kernel
theorem d_X5_forget_2 : decode cX5_forget 2 = .ok (.putfield 25, 3) := by decide +kernel
theorem d_X5_forget_5 : decode cX5_forget 5 = .ok (.aload_n 0, 1) := by decide +kernel
theorem d_X5_forget_6 : decode cX5_forget 6 = .ok (.iconst 0, 1) := by decide +kernel
theorem d_X5_forget_7 : decode cX5_forget 7 = .ok (.putfield 29, 3) := by decide +kernel
theorem d_X5_forget_10 : decode cX5_forget 10 = .ok (.return_, 1) := by decide +kernel
def s_X5_forget (h : AH) : Option (Unit × AH) := some ((), sI (sI h 215 4 0) 215 5 0)
theorem t_X5_forget {g : GP} {X : MX} {mcR msR : Nat} (hF : gF g = true) (hX : Cx g RX5 cX5_forget 1 mcR msR none [] X) {h hz : AH} {z : Unit} (e : s_X5_forget h = some (z, hz)) : AR g X 0 0 (QQ g X NT false hz (.inl none) 0 0) h 0 [.ref 215] [] := by
  unfold s_X5_forget at e
  refine aw_aload_n (i := 0) hX rfl rfl d_X5_forget_0 ?_
  refine aw_iconst (v := 0) hX (by decide) d_X5_forget_1 ?_
  refine ar_putZ hX fp_RX5_25 rfl (by decide) d_X5_forget_2 ?_
  refine aw_aload_n (i := 0) hX rfl rfl d_X5_forget_5 ?_
  refine aw_iconst (v := 0) hX (by decide) d_X5_forget_6 ?_
  refine ar_putZ hX fp_RX5_29 rfl (by decide) d_X5_forget_7 ?_
  cases e
  exact aw_return hX (Nat.zero_le _) (Nat.zero_le _) d_X5_forget_10
theorem k_X5_forget {g : GP} (hg : g.1.stackTraces = false) (hF : gF g = true) {h hz : AH} {z : Unit} (e : s_X5_forget h = some (z, hz)) : Ctr g yX5_forget (wsY yX5_forget cX5_forget 1 none) 1 0 0 [.ref 215] NT false h none NT false hz := ctr_of (lv0 := [.ref 215]) rfl rfl (by decide) hg trivial (fun X hX hn => t_X5_forget hF hX e)
theorem d_X5_keepBetter_0 : decode cX5_keepBetter 0 = .ok (.lload_n 3, 1) := by decide +kernel
theorem d_X5_keepBetter_1 : decode cX5_keepBetter 1 = .ok (.aload_n 0, 1) := by decide +kernel
theorem d_X5_keepBetter_2 : decode cX5_keepBetter 2 = .ok (.getfield 21, 3) := by decide +kernel
theorem d_X5_keepBetter_5 : decode cX5_keepBetter 5 = .ok (.iload_n 1, 1) := by decide +kernel
theorem d_X5_keepBetter_6 : decode cX5_keepBetter 6 = .ok (.iconst 1, 1) := by decide +kernel
theorem d_X5_keepBetter_7 : decode cX5_keepBetter 7 = .ok (.iadd, 1) := by decide +kernel
theorem d_X5_keepBetter_8 : decode cX5_keepBetter 8 = .ok (.invokestatic 98, 3) := by decide +kernel
theorem d_X5_keepBetter_11 : decode cX5_keepBetter 11 = .ok (.lcmp, 1) := by decide +kernel
theorem d_X5_keepBetter_12 : decode cX5_keepBetter 12 = .ok (.ifCond .le 24, 3) := by decide +kernel
theorem d_X5_keepBetter_15 : decode cX5_keepBetter 15 = .ok (.aload_n 0, 1) := by decide +kernel
theorem d_X5_keepBetter_16 : decode cX5_keepBetter 16 = .ok (.getfield 21, 3) := by decide +kernel
theorem d_X5_keepBetter_19 : decode cX5_keepBetter 19 = .ok (.iload_n 1, 1) := by decide +kernel
theorem d_X5_keepBetter_20 : decode cX5_keepBetter 20 = .ok (.iload_n 2, 1) := by decide +kernel
theorem d_X5_keepBetter_21 : decode cX5_keepBetter 21 = .ok (.i2l, 1) := by decide +kernel
theorem d_X5_keepBetter_22 : decode cX5_keepBetter 22 = .ok (.invokestatic 47, 3) := by decide +kernel
theorem d_X5_keepBetter_25 : decode cX5_keepBetter 25 = .ok (.aload_n 0, 1) := by decide +kernel
theorem d_X5_keepBetter_26 : decode cX5_keepBetter 26 = .ok (.getfield 21, 3) := by decide +kernel
theorem d_X5_keepBetter_29 : decode cX5_keepBetter 29 = .ok (.iload_n 1, 1) := by decide +kernel
theorem d_X5_keepBetter_30 : decode cX5_keepBetter 30 = .ok (.iconst 1, 1) := by decide +kernel
theorem d_X5_keepBetter_31 : decode cX5_keepBetter 31 = .ok (.iadd, 1) := by decide +kernel
theorem d_X5_keepBetter_32 : decode cX5_keepBetter 32 = .ok (.lload_n 3, 1) := by decide +kernel
theorem d_X5_keepBetter_33 : decode cX5_keepBetter 33 = .ok (.invokestatic 47, 3) := by decide +kernel
theorem d_X5_keepBetter_36 : decode cX5_keepBetter 36 = .ok (.return_, 1) := by decide +kernel
def s_X5_keepBetter (a0 : Int32) (a1 : Int32) (a2 : Int64) (h : AH) : Option (Unit × AH) := bd (s_X9_atWide (some 219) (a0 + 1) h) fun x1 => if a2 ≤ x1 then some ((), h) else bd (s_X9_putWide (some 219) a0 a1.toInt64 h) fun q2 => bd (s_X9_putWide (some 219) (a0 + 1) a2 q2.2) fun q3 => some ((), q3.2)
theorem t_X5_keepBetter {g : GP} {X : MX} {mcR msR : Nat} (hF : gF g = true) (hX : Cx g RX5 cX5_keepBetter 2 mcR msR none [] X) {a0 : Int32} {a1 : Int32} {a2 : Int64} {h hz : AH} {z : Unit} (e : s_X5_keepBetter a0 a1 a2 h = some (z, hz)) : AR g X 0 0 (QQ g X NT false hz (.inl none) 0 0) h 0 [.ref 215, .int a0, .int a1, .long a2, jk] [] := by
  unfold s_X5_keepBetter at e
  refine aw_lload_n (i := 3) hX rfl rfl d_X5_keepBetter_0 ?_
  refine aw_aload_n (i := 0) hX rfl rfl d_X5_keepBetter_1 ?_
  refine ar_getF hX hF fg_RX5_21 rfl d_X5_keepBetter_2 ?_
  show AR g X 0 0 _ _ 5 _ [.ref 219, .long a2]
  refine aw_iload_n (i := 1) hX rfl rfl d_X5_keepBetter_5 ?_
  refine aw_iconst (v := 1) hX (by decide) d_X5_keepBetter_6 ?_
  refine aw_iadd hX d_X5_keepBetter_7 ?_
  obtain ⟨x1, f_627, e_627⟩ := bd_some e
  clear e
  refine aw_callSN (av := [.ref 219, .int (a0 + 1)]) (avr := [.int (a0 + 1), .ref 219]) hX (k_X9_atWide (cx_g hX) hF f_627) mi_X9_atWide rfl rfl nx31 w_38 (by decide) (Nat.le_of_ble_eq_true rfl) (Nat.zero_le _) (Nat.zero_le _) d_X5_keepBetter_8 ?_
  refine aw_lcmp hX d_X5_keepBetter_11 ?_
  refine aw_if_le (t := 36) hX (by decide) d_X5_keepBetter_12 (fun c => ?_) (fun c => ?_)
  · replace c := lc_le.mp c
    rw [if_pos c] at e_627
    cases e_627
    exact aw_return hX (Nat.zero_le _) (Nat.zero_le _) d_X5_keepBetter_36
  · replace c := fun q => c (lc_le.mpr q)
    rw [if_neg c] at e_627
    refine aw_aload_n (i := 0) hX rfl rfl d_X5_keepBetter_15 ?_
    refine ar_getF hX hF fg_RX5_21 rfl d_X5_keepBetter_16 ?_
    show AR g X 0 0 _ _ 19 _ [.ref 219]
    refine aw_iload_n (i := 1) hX rfl rfl d_X5_keepBetter_19 ?_
    refine aw_iload_n (i := 2) hX rfl rfl d_X5_keepBetter_20 ?_
    refine aw_i2l hX d_X5_keepBetter_21 ?_
    obtain ⟨q2, f_628, e_628⟩ := bd_some e_627
    clear e_627
    refine aw_callSN (av := [.ref 219, .int a0, .long a1.toInt64]) (avr := [.long a1.toInt64, .int a0, .ref 219]) hX (k_X9_putWide (cx_g hX) hF f_628) mi_X9_putWide rfl rfl nx29 w_42 (by decide) (Nat.le_of_ble_eq_true rfl) (Nat.zero_le _) (Nat.zero_le _) d_X5_keepBetter_22 ?_
    refine aw_aload_n (i := 0) hX rfl rfl d_X5_keepBetter_25 ?_
    refine ar_getF hX hF fg_RX5_21 rfl d_X5_keepBetter_26 ?_
    show AR g X 0 0 _ _ 29 _ [.ref 219]
    refine aw_iload_n (i := 1) hX rfl rfl d_X5_keepBetter_29 ?_
    refine aw_iconst (v := 1) hX (by decide) d_X5_keepBetter_30 ?_
    refine aw_iadd hX d_X5_keepBetter_31 ?_
    refine aw_lload_n (i := 3) hX rfl rfl d_X5_keepBetter_32 ?_
    obtain ⟨q3, f_629, e_629⟩ := bd_some e_628
    clear e_628
    refine aw_callSN (av := [.ref 219, .int (a0 + 1), .long a2]) (avr := [.long a2, .int (a0 + 1), .ref 219]) hX (k_X9_putWide (cx_g hX) hF f_629) mi_X9_putWide rfl rfl nx29 w_42 (by decide) (Nat.le_of_ble_eq_true rfl) (Nat.zero_le _) (Nat.zero_le _) d_X5_keepBetter_33 ?_
    cases e_629
    exact aw_return hX (Nat.zero_le _) (Nat.zero_le _) d_X5_keepBetter_36
theorem k_X5_keepBetter {g : GP} (hg : g.1.stackTraces = false) (hF : gF g = true) {a0 : Int32} {a1 : Int32} {a2 : Int64} {h hz : AH} {z : Unit} (e : s_X5_keepBetter a0 a1 a2 h = some (z, hz)) : Ctr g yX5_keepBetter (wsY yX5_keepBetter cX5_keepBetter 5 none) 2 0 0 [.ref 215, .int a0, .int a1, .long a2] NT false h none NT false hz := ctr_of (lv0 := [.ref 215, .int a0, .int a1, .long a2, jk]) rfl rfl (by decide) hg trivial (fun X hX hn => t_X5_keepBetter hF hX e)
theorem d_X5_weigh_0 : decode cX5_weigh 0 = .ok (.aload_n 1, 1) := by decide +kernel
theorem d_X5_weigh_1 : decode cX5_weigh 1 = .ok (.getfield 32, 3) := by decide +kernel
theorem d_X5_weigh_4 : decode cX5_weigh 4 = .ok (.astore_n 3, 1) := by decide +kernel
theorem d_X5_weigh_5 : decode cX5_weigh 5 = .ok (.iconst 0, 1) := by decide +kernel
theorem d_X5_weigh_6 : decode cX5_weigh 6 = .ok (.istore 4, 2) := by decide +kernel
theorem d_X5_weigh_8 : decode cX5_weigh 8 = .ok (.iload 4, 2) := by decide +kernel
theorem d_X5_weigh_10 : decode cX5_weigh 10 = .ok (.aload_n 3, 1) := by decide +kernel
theorem d_X5_weigh_11 : decode cX5_weigh 11 = .ok (.getfield 65, 3) := by decide +kernel
theorem d_X5_weigh_14 : decode cX5_weigh 14 = .ok (.if_icmp .ge 38, 3) := by decide +kernel
theorem d_X5_weigh_17 : decode cX5_weigh 17 = .ok (.aload_n 0, 1) := by decide +kernel
theorem d_X5_weigh_18 : decode cX5_weigh 18 = .ok (.getfield 15, 3) := by decide +kernel
theorem d_X5_weigh_21 : decode cX5_weigh 21 = .ok (.iload 4, 2) := by decide +kernel
theorem d_X5_weigh_23 : decode cX5_weigh 23 = .ok (.aload_n 1, 1) := by decide +kernel
theorem d_X5_weigh_24 : decode cX5_weigh 24 = .ok (.iload 4, 2) := by decide +kernel
theorem d_X5_weigh_26 : decode cX5_weigh 26 = .ok (.aload_n 0, 1) := by decide +kernel
theorem d_X5_weigh_27 : decode cX5_weigh 27 = .ok (.getfield 9, 3) := by decide +kernel
theorem d_X5_weigh_30 : decode cX5_weigh 30 = .ok (.aload_n 1, 1) := by decide +kernel
theorem d_X5_weigh_31 : decode cX5_weigh 31 = .ok (.iload 4, 2) := by decide +kernel
theorem d_X5_weigh_33 : decode cX5_weigh 33 = .ok (.iconst 3, 1) := by decide +kernel
theorem d_X5_weigh_34 : decode cX5_weigh 34 = .ok (.invokevirtual 69, 3) := by decide +kernel
theorem d_X5_weigh_37 : decode cX5_weigh 37 = .ok (.invokevirtual 73, 3) := by decide +kernel
theorem d_X5_weigh_40 : decode cX5_weigh 40 = .ok (.invokevirtual 79, 3) := by decide +kernel
theorem d_X5_weigh_43 : decode cX5_weigh 43 = .ok (.invokestatic 51, 3) := by decide +kernel
theorem d_X5_weigh_46 : decode cX5_weigh 46 = .ok (.iinc 4 1, 3) := by decide +kernel
theorem d_X5_weigh_49 : decode cX5_weigh 49 = .ok (.goto (-41), 3) := by decide +kernel
theorem d_X5_weigh_52 : decode cX5_weigh 52 = .ok (.aload_n 1, 1) := by decide +kernel
theorem d_X5_weigh_53 : decode cX5_weigh 53 = .ok (.aload_n 0, 1) := by decide +kernel
theorem d_X5_weigh_54 : decode cX5_weigh 54 = .ok (.getfield 15, 3) := by decide +kernel
theorem d_X5_weigh_57 : decode cX5_weigh 57 = .ok (.aload_n 0, 1) := by decide +kernel
theorem d_X5_weigh_58 : decode cX5_weigh 58 = .ok (.getfield 9, 3) := by decide +kernel
theorem d_X5_weigh_61 : decode cX5_weigh 61 = .ok (.aload_n 3, 1) := by decide +kernel
theorem d_X5_weigh_62 : decode cX5_weigh 62 = .ok (.getfield 83, 3) := by decide +kernel
theorem d_X5_weigh_65 : decode cX5_weigh 65 = .ok (.invokevirtual 86, 3) := by decide +kernel
theorem d_X5_weigh_68 : decode cX5_weigh 68 = .ok (.lstore 4, 2) := by decide +kernel
theorem d_X5_weigh_70 : decode cX5_weigh 70 = .ok (.aload_n 1, 1) := by decide +kernel
theorem d_X5_weigh_71 : decode cX5_weigh 71 = .ok (.aload_n 0, 1) := by decide +kernel
theorem d_X5_weigh_72 : decode cX5_weigh 72 = .ok (.getfield 15, 3) := by decide +kernel
theorem d_X5_weigh_75 : decode cX5_weigh 75 = .ok (.invokevirtual 90, 3) := by decide +kernel
theorem d_X5_weigh_78 : decode cX5_weigh 78 = .ok (.lstore 6, 2) := by decide +kernel
theorem d_X5_weigh_80 : decode cX5_weigh 80 = .ok (.aload_n 0, 1) := by decide +kernel
theorem d_X5_weigh_81 : decode cX5_weigh 81 = .ok (.iconst 0, 1) := by decide +kernel
theorem d_X5_weigh_82 : decode cX5_weigh 82 = .ok (.iload_n 2, 1) := by decide +kernel
theorem d_X5_weigh_83 : decode cX5_weigh 83 = .ok (.lload 4, 2) := by decide +kernel
theorem d_X5_weigh_85 : decode cX5_weigh 85 = .ok (.invokevirtual 94, 3) := by decide +kernel
theorem d_X5_weigh_88 : decode cX5_weigh 88 = .ok (.aload_n 0, 1) := by decide +kernel
theorem d_X5_weigh_89 : decode cX5_weigh 89 = .ok (.iconst 2, 1) := by decide +kernel
theorem d_X5_weigh_90 : decode cX5_weigh 90 = .ok (.iload_n 2, 1) := by decide +kernel
theorem d_X5_weigh_91 : decode cX5_weigh 91 = .ok (.lload 6, 2) := by decide +kernel
theorem d_X5_weigh_93 : decode cX5_weigh 93 = .ok (.invokevirtual 94, 3) := by decide +kernel
theorem d_X5_weigh_96 : decode cX5_weigh 96 = .ok (.aload_n 0, 1) := by decide +kernel
theorem d_X5_weigh_97 : decode cX5_weigh 97 = .ok (.getfield 21, 3) := by decide +kernel
theorem d_X5_weigh_100 : decode cX5_weigh 100 = .ok (.iconst 4, 1) := by decide +kernel
theorem d_X5_weigh_101 : decode cX5_weigh 101 = .ok (.invokestatic 98, 3) := by decide +kernel
theorem d_X5_weigh_104 : decode cX5_weigh 104 = .ok (.ldc2_w 45, 3) := by decide +kernel
theorem d_X5_weigh_107 : decode cX5_weigh 107 = .ok (.lcmp, 1) := by decide +kernel
theorem d_X5_weigh_108 : decode cX5_weigh 108 = .ok (.ifCond .ne 28, 3) := by decide +kernel
theorem d_X5_weigh_111 : decode cX5_weigh 111 = .ok (.lload 4, 2) := by decide +kernel
theorem d_X5_weigh_113 : decode cX5_weigh 113 = .ok (.ldc2_w 102, 3) := by decide +kernel
theorem d_X5_weigh_116 : decode cX5_weigh 116 = .ok (.aload_n 3, 1) := by decide +kernel
theorem d_X5_weigh_117 : decode cX5_weigh 117 = .ok (.getfield 104, 3) := by decide +kernel
theorem d_X5_weigh_120 : decode cX5_weigh 120 = .ok (.i2l, 1) := by decide +kernel
theorem d_X5_weigh_121 : decode cX5_weigh 121 = .ok (.lmul, 1) := by decide +kernel
theorem d_X5_weigh_122 : decode cX5_weigh 122 = .ok (.lcmp, 1) := by decide +kernel
theorem d_X5_weigh_123 : decode cX5_weigh 123 = .ok (.ifCond .lt 13, 3) := by decide +kernel
theorem d_X5_weigh_126 : decode cX5_weigh 126 = .ok (.aload_n 0, 1) := by decide +kernel
theorem d_X5_weigh_127 : decode cX5_weigh 127 = .ok (.getfield 21, 3) := by decide +kernel
theorem d_X5_weigh_130 : decode cX5_weigh 130 = .ok (.iconst 4, 1) := by decide +kernel
theorem d_X5_weigh_131 : decode cX5_weigh 131 = .ok (.iload_n 2, 1) := by decide +kernel
theorem d_X5_weigh_132 : decode cX5_weigh 132 = .ok (.i2l, 1) := by decide +kernel
theorem d_X5_weigh_133 : decode cX5_weigh 133 = .ok (.invokestatic 47, 3) := by decide +kernel
theorem d_X5_weigh_136 : decode cX5_weigh 136 = .ok (.return_, 1) := by decide +kernel
def l_X5_weigh_8 (p2 : Int32) (p3 : Nat) (s : Int32) (h : AH) : Option ((Int32 ⊕ Unit) × AH) := if (gI h p3 3) ≤ s then some (.inr (), h) else bd (s_X0_planOf s 3 h) fun x2 => bd x2 fun t3 => if LAY t3 = (0, 2) then bd (s_X2_value t3 h) fun x4 => bd (s_X0_choose s (some 216) x4 h) fun x5 => bd (s_X9_put (some 217) s x5 h) fun q6 => some (.inl (s + 1), q6.2) else none
theorem tb_X5_weigh_8 {g : GP} {X : MX} {mcR msR : Nat} (hF : gF g = true) (hX : Cx g RX5 cX5_weigh 5 mcR msR none [] X) {Q : State → Prop} {p2 : Int32} {p3 : Nat} {s : Int32} (hl_0 : LAY p3 = (0, 8)) {d5 : Value} {d6 : Value} {d7 : Value} {h hz : AH} {z : (Int32 ⊕ Unit)} (e : l_X5_weigh_8 p2 p3 s h = some (z, hz)) (kI : ∀ (s2 : Int32) (xd5 : Value) (xd6 : Value) (xd7 : Value), z = .inl s2 → AR g X 0 0 Q hz 8 [.ref 215, .ref 13, .int p2, .ref p3, .int s2, xd5, xd6, xd7] []) (kE0 : ∀ (yy : Unit) (y4 : Value) (y5 : Value) (y6 : Value) (y7 : Value), z = .inr yy → AR g X 0 0 Q hz 52 [.ref 215, .ref 13, .int p2, .ref p3, y4, y5, y6, y7] []) : AR g X 0 0 Q h 8 [.ref 215, .ref 13, .int p2, .ref p3, .int s, d5, d6, d7] [] := by
  unfold l_X5_weigh_8 at e
  refine aw_iload (i := 4) hX rfl d_X5_weigh_8 ?_
  refine aw_aload_n (i := 3) hX rfl rfl d_X5_weigh_10 ?_
  refine ar_getI hX fg_RX5_65 (by assumption) d_X5_weigh_11 ?_
  refine aw_icmp_ge (t := 52) hX (by decide) d_X5_weigh_14 (fun c => ?_) (fun c => ?_)
  · rw [if_pos c] at e
    cases e
    exact kE0 () _ _ _ _ rfl
  · rw [if_neg c] at e
    refine aw_aload_n (i := 0) hX rfl rfl d_X5_weigh_17 ?_
    refine ar_getF hX hF fg_RX5_15 rfl d_X5_weigh_18 ?_
    show AR g X 0 0 _ _ 21 _ [.ref 217]
    refine aw_iload (i := 4) hX rfl d_X5_weigh_21 ?_
    refine aw_aload_n (i := 1) hX rfl rfl d_X5_weigh_23 ?_
    refine aw_iload (i := 4) hX rfl d_X5_weigh_24 ?_
    refine aw_aload_n (i := 0) hX rfl rfl d_X5_weigh_26 ?_
    refine ar_getF hX hF fg_RX5_9 rfl d_X5_weigh_27 ?_
    show AR g X 0 0 _ _ 30 _ [.ref 216, .int s, .ref 13, .int s, .ref 217]
    refine aw_aload_n (i := 1) hX rfl rfl d_X5_weigh_30 ?_
    refine aw_iload (i := 4) hX rfl d_X5_weigh_31 ?_
    refine aw_iconst (v := 3) hX (by decide) d_X5_weigh_33 ?_
    obtain ⟨x2, f_630, e_630⟩ := bd_some e
    clear e
    refine aw_callV (b := 13) (av := [.int s, .int 3]) (avr := [.int 3, .int s]) hX (k_X0_planOf (cx_g hX) hF f_630) mi_X0_planOf rfl rfl w_364 w_15 w_16 (by decide) rfl (LAY_lt rfl (by decide)) rfl rfl (Nat.le_of_ble_eq_true rfl) (Nat.zero_le _) (Nat.zero_le _) d_X5_weigh_34 ?_
    obtain ⟨t3, f_631, e_631⟩ := bd_some e_630
    clear e_630
    obtain ⟨hlt3, e_632⟩ := if_some e_631
    clear e_631
    subst f_631
    obtain ⟨x4, f_633, e_633⟩ := bd_some e_632
    clear e_632
    refine aw_callV (b := t3) (av := []) (avr := []) hX (k_X2_value (cx_g hX) hF f_633) mi_X2_value rfl rfl w_365 w_20 w_21 (by decide) (by assumption) (LAY_lt (by assumption) (by decide)) rfl rfl (Nat.le_of_ble_eq_true rfl) (Nat.zero_le _) (Nat.zero_le _) d_X5_weigh_37 ?_
    obtain ⟨x5, f_634, e_634⟩ := bd_some e_633
    clear e_633
    refine aw_callV (b := 13) (av := [.int s, .ref 216, .long x4]) (avr := [.long x4, .ref 216, .int s]) hX (k_X0_choose (cx_g hX) hF f_634) mi_X0_choose rfl rfl w_366 w_108 w_109 (by decide) rfl (LAY_lt rfl (by decide)) rfl rfl (Nat.le_of_ble_eq_true rfl) (Nat.zero_le _) (Nat.zero_le _) d_X5_weigh_40 ?_
    obtain ⟨q6, f_635, e_635⟩ := bd_some e_634
    clear e_634
    refine aw_callSN (av := [.ref 217, .int s, .int x5]) (avr := [.int x5, .int s, .ref 217]) hX (k_X9_put (cx_g hX) hF f_635) mi_X9_put rfl rfl nx30 w_83 (by decide) (Nat.le_of_ble_eq_true rfl) (Nat.zero_le _) (Nat.zero_le _) d_X5_weigh_43 ?_
    refine aw_iinc (i := 4) (lv2 := [.ref 215, .ref 13, .int p2, .ref p3, .int (s + 1), d5, d6, d7]) hX rfl rfl rfl rfl d_X5_weigh_46 ?_
    refine aw_goto (t := 8) hX (by decide) d_X5_weigh_49 ?_
    cases e_635
    exact kI (s + 1) _ _ _ rfl
theorem ti_X5_weigh_8 {g : GP} {X : MX} {mcR msR : Nat} (hF : gF g = true) (hX : Cx g RX5 cX5_weigh 5 mcR msR none [] X) {Q : State → Prop} {p2 : Int32} {p3 : Nat} (hl_0 : LAY p3 = (0, 8)) {y : Unit} {hz : AH} (kE0 : ∀ (y_4 : Value) (y_5 : Value) (y_6 : Value) (y_7 : Value), AR g X 0 0 Q hz 52 [.ref 215, .ref 13, .int p2, .ref p3, y_4, y_5, y_6, y_7] []) (n : Nat) : ∀ (s : Int32) (d5 : Value) (d6 : Value) (d7 : Value) (h : AH), lpH (l_X5_weigh_8 p2 p3) n s h = some (y, hz) → AR g X 0 0 Q h 8 [.ref 215, .ref 13, .int p2, .ref p3, .int s, d5, d6, d7] [] := by
  induction n with
  | zero => intro s d5 d6 d7 h e; cases e
  | succ n ih =>
    intro s d5 d6 d7 h e
    obtain ⟨x, h1, e1, e2⟩ := lpH_succ e
    rcases e2 with ⟨s2, rfl, e3⟩ | ⟨rfl, rfl⟩
    · exact tb_X5_weigh_8 hF hX hl_0 e1 (fun s3 x0 x1 x2 hs => by cases hs; exact ih _ _ _ _ _ e3) (fun yy x0 x1 x2 x3 hy => by cases hy)
    · exact tb_X5_weigh_8 hF hX hl_0 e1 (fun s3 x0 x1 x2 hs => by cases hs) (fun yy x0 x1 x2 x3 hy => by cases hy; exact kE0 x0 x1 x2 x3)
theorem t_X5_weigh_8 {g : GP} {X : MX} {mcR msR : Nat} (hF : gF g = true) (hX : Cx g RX5 cX5_weigh 5 mcR msR none [] X) {Q : State → Prop} {p2 : Int32} {p3 : Nat} (hl_0 : LAY p3 = (0, 8)) {s : Int32} {d5 : Value} {d6 : Value} {d7 : Value} {h hz : AH} {n : Nat} {y : Unit} (e : lpH (l_X5_weigh_8 p2 p3) n s h = some (y, hz)) (kE0 : ∀ (y_4 : Value) (y_5 : Value) (y_6 : Value) (y_7 : Value), AR g X 0 0 Q hz 52 [.ref 215, .ref 13, .int p2, .ref p3, y_4, y_5, y_6, y_7] []) : AR g X 0 0 Q h 8 [.ref 215, .ref 13, .int p2, .ref p3, .int s, d5, d6, d7] [] := ti_X5_weigh_8 hF hX hl_0 kE0 n _ _ _ _ _ e
def s_X5_weigh (a0 : Option Nat) (a1 : Int32) (h : AH) : Option (Unit × AH) := if a0 = some 13 then bd (gR h 13 1) fun t1 => if LAY t1 = (0, 8) then bd (lpH (l_X5_weigh_8 a1 t1) FU 0 h) fun y7 => bd (s_X0_takings (some 217) (some 216) (some (t1 + 4)) y7.2) fun x9 => bd (s_X0_fullOfAll (some 217) y7.2) fun x10 => bd (s_X5_keepBetter 0 a1 x9 y7.2) fun q11 => bd (s_X5_keepBetter 2 a1 x10 q11.2) fun q12 => bd (s_X9_atWide (some 219) 4 q12.2) fun x13 => if x13 = (-1) then if x9 < (1000 * ((gI q12.2 t1 1).toInt64)) then some ((), q12.2) else bd (s_X9_putWide (some 219) 4 a1.toInt64 q12.2) fun q14 => some ((), q14.2) else some ((), q12.2) else none else none
theorem t_X5_weigh {g : GP} {X : MX} {mcR msR : Nat} (hF : gF g = true) (hX : Cx g RX5 cX5_weigh 5 mcR msR none [] X) {a0 : Option Nat} {a1 : Int32} {h hz : AH} {z : Unit} (e : s_X5_weigh a0 a1 h = some (z, hz)) : AR g X 0 0 (QQ g X NT false hz (.inl none) 0 0) h 0 [.ref 215, rfV a0, .int a1, jk, jk, jk, jk, jk] [] := by
  unfold s_X5_weigh at e
  obtain ⟨rfl, e_636⟩ := if_some e
  clear e
  refine aw_aload_n (i := 1) hX rfl rfl d_X5_weigh_0 ?_
  obtain ⟨t1, f_637, e_637⟩ := bd_some e_636
  clear e_636
  obtain ⟨hlt1, e_638⟩ := if_some e_637
  clear e_637
  refine ar_getR hX fg_RX5_32 rfl f_637 d_X5_weigh_1 ?_
  refine aw_astore_n (i := 3) (lv2 := [.ref 215, .ref 13, .int a1, .ref t1, jk, jk, jk, jk]) hX rfl rfl rfl d_X5_weigh_4 ?_
  refine aw_iconst (v := 0) hX (by decide) d_X5_weigh_5 ?_
  refine aw_istore (i := 4) (lv2 := [.ref 215, .ref 13, .int a1, .ref t1, .int 0, jk, jk, jk]) hX rfl rfl d_X5_weigh_6 ?_
  obtain ⟨y7, f_639, e_639⟩ := bd_some e_638
  clear e_638
  refine t_X5_weigh_8 hF hX (by assumption) f_639 (fun d8_4 d8_5 d8_6 d8_7 => ?_)
  refine aw_aload_n (i := 1) hX rfl rfl d_X5_weigh_52 ?_
  refine aw_aload_n (i := 0) hX rfl rfl d_X5_weigh_53 ?_
  refine ar_getF hX hF fg_RX5_15 rfl d_X5_weigh_54 ?_
  show AR g X 0 0 _ _ 57 _ [.ref 217, .ref 13]
  refine aw_aload_n (i := 0) hX rfl rfl d_X5_weigh_57 ?_
  refine ar_getF hX hF fg_RX5_9 rfl d_X5_weigh_58 ?_
  show AR g X 0 0 _ _ 61 _ [.ref 216, .ref 217, .ref 13]
  refine aw_aload_n (i := 3) hX rfl rfl d_X5_weigh_61 ?_
  refine ar_getF hX hF fg_RX5_83 (by assumption) d_X5_weigh_62 ?_
  obtain ⟨x9, f_640, e_640⟩ := bd_some e_639
  clear e_639
  refine aw_callV (b := 13) (av := [.ref 217, .ref 216, .ref (t1 + 4)]) (avr := [.ref (t1 + 4), .ref 216, .ref 217]) hX (k_X0_takings (cx_g hX) hF f_640) mi_X0_takings rfl rfl w_368 w_159 w_160 (by decide) rfl (LAY_lt rfl (by decide)) rfl rfl (Nat.le_of_ble_eq_true rfl) (Nat.zero_le _) (Nat.zero_le _) d_X5_weigh_65 ?_
  refine aw_lstore (i := 4) (lv2 := [.ref 215, .ref 13, .int a1, .ref t1, .long x9, jk, d8_6, d8_7]) hX rfl rfl d_X5_weigh_68 ?_
  refine aw_aload_n (i := 1) hX rfl rfl d_X5_weigh_70 ?_
  refine aw_aload_n (i := 0) hX rfl rfl d_X5_weigh_71 ?_
  refine ar_getF hX hF fg_RX5_15 rfl d_X5_weigh_72 ?_
  show AR g X 0 0 _ _ 75 _ [.ref 217, .ref 13]
  obtain ⟨x10, f_641, e_641⟩ := bd_some e_640
  clear e_640
  refine aw_callV (b := 13) (av := [.ref 217]) (avr := [.ref 217]) hX (k_X0_fullOfAll (cx_g hX) hF f_641) mi_X0_fullOfAll rfl rfl w_370 w_371 w_372 (by decide) rfl (LAY_lt rfl (by decide)) rfl rfl (Nat.le_of_ble_eq_true rfl) (Nat.zero_le _) (Nat.zero_le _) d_X5_weigh_75 ?_
  refine aw_lstore (i := 6) (lv2 := [.ref 215, .ref 13, .int a1, .ref t1, .long x9, jk, .long x10, jk]) hX rfl rfl d_X5_weigh_78 ?_
  refine aw_aload_n (i := 0) hX rfl rfl d_X5_weigh_80 ?_
  refine aw_iconst (v := 0) hX (by decide) d_X5_weigh_81 ?_
  refine aw_iload_n (i := 2) hX rfl rfl d_X5_weigh_82 ?_
  refine aw_lload (i := 4) hX rfl d_X5_weigh_83 ?_
  obtain ⟨q11, f_642, e_642⟩ := bd_some e_641
  clear e_641
  refine aw_callV (b := 215) (av := [.int 0, .int a1, .long x9]) (avr := [.long x9, .int a1, .int 0]) hX (k_X5_keepBetter (cx_g hX) hF f_642) mi_X5_keepBetter rfl rfl w_375 w_376 w_377 (by decide) rfl (LAY_lt rfl (by decide)) rfl rfl (Nat.le_of_ble_eq_true rfl) (Nat.zero_le _) (Nat.zero_le _) d_X5_weigh_85 ?_
  refine aw_aload_n (i := 0) hX rfl rfl d_X5_weigh_88 ?_
  refine aw_iconst (v := 2) hX (by decide) d_X5_weigh_89 ?_
  refine aw_iload_n (i := 2) hX rfl rfl d_X5_weigh_90 ?_
  refine aw_lload (i := 6) hX rfl d_X5_weigh_91 ?_
  obtain ⟨q12, f_643, e_643⟩ := bd_some e_642
  clear e_642
  refine aw_callV (b := 215) (av := [.int 2, .int a1, .long x10]) (avr := [.long x10, .int a1, .int 2]) hX (k_X5_keepBetter (cx_g hX) hF f_643) mi_X5_keepBetter rfl rfl w_375 w_376 w_377 (by decide) rfl (LAY_lt rfl (by decide)) rfl rfl (Nat.le_of_ble_eq_true rfl) (Nat.zero_le _) (Nat.zero_le _) d_X5_weigh_93 ?_
  refine aw_aload_n (i := 0) hX rfl rfl d_X5_weigh_96 ?_
  refine ar_getF hX hF fg_RX5_21 rfl d_X5_weigh_97 ?_
  show AR g X 0 0 _ _ 100 _ [.ref 219]
  refine aw_iconst (v := 4) hX (by decide) d_X5_weigh_100 ?_
  obtain ⟨x13, f_644, e_644⟩ := bd_some e_643
  clear e_643
  refine aw_callSN (av := [.ref 219, .int 4]) (avr := [.int 4, .ref 219]) hX (k_X9_atWide (cx_g hX) hF f_644) mi_X9_atWide rfl rfl nx31 w_38 (by decide) (Nat.le_of_ble_eq_true rfl) (Nat.zero_le _) (Nat.zero_le _) d_X5_weigh_101 ?_
  refine aw_ldc2 hX w_378 d_X5_weigh_104 ?_
  refine aw_lcmp hX d_X5_weigh_107 ?_
  refine aw_if_ne (t := 136) hX (by decide) d_X5_weigh_108 (fun c => ?_) (fun c => ?_)
  · replace c := fun q => c (lc_eq.mpr q)
    rw [if_neg c] at e_644
    cases e_644
    exact aw_return hX (Nat.zero_le _) (Nat.zero_le _) d_X5_weigh_136
  · replace c := lc_eq.mp c
    rw [if_pos c] at e_644
    refine aw_lload (i := 4) hX rfl d_X5_weigh_111 ?_
    refine aw_ldc2 hX w_379 d_X5_weigh_113 ?_
    refine aw_aload_n (i := 3) hX rfl rfl d_X5_weigh_116 ?_
    refine ar_getI hX fg_RX5_104 (by assumption) d_X5_weigh_117 ?_
    refine aw_i2l hX d_X5_weigh_120 ?_
    refine aw_lmul hX d_X5_weigh_121 ?_
    refine aw_lcmp hX d_X5_weigh_122 ?_
    refine aw_if_lt (t := 136) hX (by decide) d_X5_weigh_123 (fun c => ?_) (fun c => ?_)
    · replace c := lc_lt.mp c
      rw [if_pos c] at e_644
      cases e_644
      exact aw_return hX (Nat.zero_le _) (Nat.zero_le _) d_X5_weigh_136
    · replace c := fun q => c (lc_lt.mpr q)
      rw [if_neg c] at e_644
      refine aw_aload_n (i := 0) hX rfl rfl d_X5_weigh_126 ?_
      refine ar_getF hX hF fg_RX5_21 rfl d_X5_weigh_127 ?_
      show AR g X 0 0 _ _ 130 _ [.ref 219]
      refine aw_iconst (v := 4) hX (by decide) d_X5_weigh_130 ?_
      refine aw_iload_n (i := 2) hX rfl rfl d_X5_weigh_131 ?_
      refine aw_i2l hX d_X5_weigh_132 ?_
      obtain ⟨q14, f_645, e_645⟩ := bd_some e_644
      clear e_644
      refine aw_callSN (av := [.ref 219, .int 4, .long a1.toInt64]) (avr := [.long a1.toInt64, .int 4, .ref 219]) hX (k_X9_putWide (cx_g hX) hF f_645) mi_X9_putWide rfl rfl nx29 w_42 (by decide) (Nat.le_of_ble_eq_true rfl) (Nat.zero_le _) (Nat.zero_le _) d_X5_weigh_133 ?_
      cases e_645
      exact aw_return hX (Nat.zero_le _) (Nat.zero_le _) d_X5_weigh_136
theorem k_X5_weigh {g : GP} (hg : g.1.stackTraces = false) (hF : gF g = true) {a0 : Option Nat} {a1 : Int32} {h hz : AH} {z : Unit} (e : s_X5_weigh a0 a1 h = some (z, hz)) : Ctr g yX5_weigh (wsY yX5_weigh cX5_weigh 8 none) 5 0 0 [.ref 215, rfV a0, .int a1] NT false h none NT false hz := ctr_of (lv0 := [.ref 215, rfV a0, .int a1, jk, jk, jk, jk, jk]) (by cases a0 <;> rfl) (by cases a0 <;> rfl) (by decide) hg trivial (fun X hX hn => t_X5_weigh hF hX e)
theorem d_X5_throughPrices_0 : decode cX5_throughPrices 0 = .ok (.aload_n 1, 1) := by decide +kernel
theorem d_X5_throughPrices_1 : decode cX5_throughPrices 1 = .ok (.getfield 32, 3) := by decide +kernel
theorem d_X5_throughPrices_4 : decode cX5_throughPrices 4 = .ok (.getfield 38, 3) := by decide +kernel
theorem d_X5_throughPrices_7 : decode cX5_throughPrices 7 = .ok (.aload_n 0, 1) := by decide +kernel
theorem d_X5_throughPrices_8 : decode cX5_throughPrices 8 = .ok (.getfield 9, 3) := by decide +kernel
theorem d_X5_throughPrices_11 : decode cX5_throughPrices 11 = .ok (.invokestatic 41, 3) := by decide +kernel
theorem d_X5_throughPrices_14 : decode cX5_throughPrices 14 = .ok (.aload_n 0, 1) := by decide +kernel
theorem d_X5_throughPrices_15 : decode cX5_throughPrices 15 = .ok (.getfield 21, 3) := by decide +kernel
theorem d_X5_throughPrices_18 : decode cX5_throughPrices 18 = .ok (.iconst 1, 1) := by decide +kernel
theorem d_X5_throughPrices_19 : decode cX5_throughPrices 19 = .ok (.ldc2_w 45, 3) := by decide +kernel
theorem d_X5_throughPrices_22 : decode cX5_throughPrices 22 = .ok (.invokestatic 47, 3) := by decide +kernel
theorem d_X5_throughPrices_25 : decode cX5_throughPrices 25 = .ok (.aload_n 0, 1) := by decide +kernel
theorem d_X5_throughPrices_26 : decode cX5_throughPrices 26 = .ok (.getfield 21, 3) := by decide +kernel
theorem d_X5_throughPrices_29 : decode cX5_throughPrices 29 = .ok (.iconst 3, 1) := by decide +kernel
theorem d_X5_throughPrices_30 : decode cX5_throughPrices 30 = .ok (.ldc2_w 45, 3) := by decide +kernel
theorem d_X5_throughPrices_33 : decode cX5_throughPrices 33 = .ok (.invokestatic 47, 3) := by decide +kernel
theorem d_X5_throughPrices_36 : decode cX5_throughPrices 36 = .ok (.aload_n 0, 1) := by decide +kernel
theorem d_X5_throughPrices_37 : decode cX5_throughPrices 37 = .ok (.getfield 21, 3) := by decide +kernel
theorem d_X5_throughPrices_40 : decode cX5_throughPrices 40 = .ok (.iconst 4, 1) := by decide +kernel
theorem d_X5_throughPrices_41 : decode cX5_throughPrices 41 = .ok (.ldc2_w 45, 3) := by decide +kernel
theorem d_X5_throughPrices_44 : decode cX5_throughPrices 44 = .ok (.invokestatic 47, 3) := by decide +kernel
theorem d_X5_throughPrices_47 : decode cX5_throughPrices 47 = .ok (.iconst 0, 1) := by decide +kernel
theorem d_X5_throughPrices_48 : decode cX5_throughPrices 48 = .ok (.istore 6, 2) := by decide +kernel
theorem d_X5_throughPrices_50 : decode cX5_throughPrices 50 = .ok (.iload_n 3, 1) := by decide +kernel
theorem d_X5_throughPrices_51 : decode cX5_throughPrices 51 = .ok (.istore 7, 2) := by decide +kernel
theorem d_X5_throughPrices_53 : decode cX5_throughPrices 53 = .ok (.iload 7, 2) := by decide +kernel
theorem d_X5_throughPrices_55 : decode cX5_throughPrices 55 = .ok (.iload 4, 2) := by decide +kernel
theorem d_X5_throughPrices_57 : decode cX5_throughPrices 57 = .ok (.if_icmp .gt 46, 3) := by decide +kernel
theorem d_X5_throughPrices_60 : decode cX5_throughPrices 60 = .ok (.iload 6, 2) := by decide +kernel
theorem d_X5_throughPrices_62 : decode cX5_throughPrices 62 = .ok (.bipush 60, 2) := by decide +kernel
theorem d_X5_throughPrices_64 : decode cX5_throughPrices 64 = .ok (.if_icmp .ge 39, 3) := by decide +kernel
theorem d_X5_throughPrices_67 : decode cX5_throughPrices 67 = .ok (.aload_n 0, 1) := by decide +kernel
theorem d_X5_throughPrices_68 : decode cX5_throughPrices 68 = .ok (.getfield 9, 3) := by decide +kernel
theorem d_X5_throughPrices_71 : decode cX5_throughPrices 71 = .ok (.iload_n 2, 1) := by decide +kernel
theorem d_X5_throughPrices_72 : decode cX5_throughPrices 72 = .ok (.iload 7, 2) := by decide +kernel
theorem d_X5_throughPrices_74 : decode cX5_throughPrices 74 = .ok (.invokestatic 51, 3) := by decide +kernel
theorem d_X5_throughPrices_77 : decode cX5_throughPrices 77 = .ok (.aload_n 0, 1) := by decide +kernel
theorem d_X5_throughPrices_78 : decode cX5_throughPrices 78 = .ok (.aload_n 1, 1) := by decide +kernel
theorem d_X5_throughPrices_79 : decode cX5_throughPrices 79 = .ok (.iload 7, 2) := by decide +kernel
theorem d_X5_throughPrices_81 : decode cX5_throughPrices 81 = .ok (.invokevirtual 55, 3) := by decide +kernel
theorem d_X5_throughPrices_84 : decode cX5_throughPrices 84 = .ok (.iinc 6 1, 3) := by decide +kernel
theorem d_X5_throughPrices_87 : decode cX5_throughPrices 87 = .ok (.iload 7, 2) := by decide +kernel
theorem d_X5_throughPrices_89 : decode cX5_throughPrices 89 = .ok (.iload 5, 2) := by decide +kernel
theorem d_X5_throughPrices_91 : decode cX5_throughPrices 91 = .ok (.sipush 10000, 3) := by decide +kernel
theorem d_X5_throughPrices_94 : decode cX5_throughPrices 94 = .ok (.invokestatic 59, 3) := by decide +kernel
theorem d_X5_throughPrices_97 : decode cX5_throughPrices 97 = .ok (.iadd, 1) := by decide +kernel
theorem d_X5_throughPrices_98 : decode cX5_throughPrices 98 = .ok (.istore 7, 2) := by decide +kernel
theorem d_X5_throughPrices_100 : decode cX5_throughPrices 100 = .ok (.goto (-47), 3) := by decide +kernel
theorem d_X5_throughPrices_103 : decode cX5_throughPrices 103 = .ok (.aload_n 0, 1) := by decide +kernel
theorem d_X5_throughPrices_104 : decode cX5_throughPrices 104 = .ok (.iconst 1, 1) := by decide +kernel
theorem d_X5_throughPrices_105 : decode cX5_throughPrices 105 = .ok (.putfield 25, 3) := by decide +kernel
theorem d_X5_throughPrices_108 : decode cX5_throughPrices 108 = .ok (.iload 6, 2) := by decide +kernel
theorem d_X5_throughPrices_110 : decode cX5_throughPrices 110 = .ok (.ireturn, 1) := by decide +kernel
def l_X5_throughPrices_53 (p2 : Int32) (p4 : Int32) (p5 : Int32) (s : (Int32 × Int32)) (h : AH) : Option (((Int32 × Int32) ⊕ Int32) × AH) := if p4 < s.2 then some (.inr s.1, h) else if 60 ≤ s.1 then some (.inr s.1, h) else bd (s_X9_put (some 216) p2 s.2 h) fun q6 => bd (s_X5_weigh (some 13) s.2 q6.2) fun q7 => some (.inl (s.1 + 1, (s.2 + (if 10000 < p5 then 10000 else p5))), q7.2)
theorem tb_X5_throughPrices_53 {g : GP} {X : MX} {mcR msR : Nat} (hF : gF g = true) (hX : Cx g RX5 cX5_throughPrices 6 mcR msR (some .int) [] X) {Q : State → Prop} {p2 : Int32} {p4 : Int32} {p5 : Int32} {s : (Int32 × Int32)} {d3 : Value} {h hz : AH} {z : ((Int32 × Int32) ⊕ Int32)} (e : l_X5_throughPrices_53 p2 p4 p5 s h = some (z, hz)) (kI : ∀ (s2 : (Int32 × Int32)) (xd3 : Value), z = .inl s2 → AR g X 0 0 Q hz 53 [.ref 215, .ref 13, .int p2, xd3, .int p4, .int p5, .int s2.1, .int s2.2] []) (kE0 : ∀ (yy : Int32) (y1 : Value) (y2 : Value) (y3 : Value) (y4 : Value) (y5 : Value) (y7 : Value), z = .inr yy → AR g X 0 0 Q hz 103 [.ref 215, y1, y2, y3, y4, y5, .int yy, y7] []) : AR g X 0 0 Q h 53 [.ref 215, .ref 13, .int p2, d3, .int p4, .int p5, .int s.1, .int s.2] [] := by
  unfold l_X5_throughPrices_53 at e
  refine aw_iload (i := 7) hX rfl d_X5_throughPrices_53 ?_
  refine aw_iload (i := 4) hX rfl d_X5_throughPrices_55 ?_
  refine aw_icmp_gt (t := 103) hX (by decide) d_X5_throughPrices_57 (fun c => ?_) (fun c => ?_)
  · rw [if_pos c] at e
    cases e
    exact kE0 s.1 _ _ _ _ _ _ rfl
  · rw [if_neg c] at e
    refine aw_iload (i := 6) hX rfl d_X5_throughPrices_60 ?_
    refine aw_bipush (v := 60) hX (by decide) d_X5_throughPrices_62 ?_
    refine aw_icmp_ge (t := 103) hX (by decide) d_X5_throughPrices_64 (fun c => ?_) (fun c => ?_)
    · rw [if_pos c] at e
      cases e
      exact kE0 s.1 _ _ _ _ _ _ rfl
    · rw [if_neg c] at e
      refine aw_aload_n (i := 0) hX rfl rfl d_X5_throughPrices_67 ?_
      refine ar_getF hX hF fg_RX5_9 rfl d_X5_throughPrices_68 ?_
      show AR g X 0 0 _ _ 71 _ [.ref 216]
      refine aw_iload_n (i := 2) hX rfl rfl d_X5_throughPrices_71 ?_
      refine aw_iload (i := 7) hX rfl d_X5_throughPrices_72 ?_
      obtain ⟨q6, f_646, e_646⟩ := bd_some e
      clear e
      refine aw_callSN (av := [.ref 216, .int p2, .int s.2]) (avr := [.int s.2, .int p2, .ref 216]) hX (k_X9_put (cx_g hX) hF f_646) mi_X9_put rfl rfl nx30 w_83 (by decide) (Nat.le_of_ble_eq_true rfl) (Nat.zero_le _) (Nat.zero_le _) d_X5_throughPrices_74 ?_
      refine aw_aload_n (i := 0) hX rfl rfl d_X5_throughPrices_77 ?_
      refine aw_aload_n (i := 1) hX rfl rfl d_X5_throughPrices_78 ?_
      refine aw_iload (i := 7) hX rfl d_X5_throughPrices_79 ?_
      obtain ⟨q7, f_647, e_647⟩ := bd_some e_646
      clear e_646
      refine aw_callV (b := 215) (av := [.ref 13, .int s.2]) (avr := [.int s.2, .ref 13]) hX (k_X5_weigh (cx_g hX) hF f_647) mi_X5_weigh rfl rfl w_383 w_384 w_385 (by decide) rfl (LAY_lt rfl (by decide)) rfl rfl (Nat.le_of_ble_eq_true rfl) (Nat.zero_le _) (Nat.zero_le _) d_X5_throughPrices_81 ?_
      refine aw_iinc (i := 6) (lv2 := [.ref 215, .ref 13, .int p2, d3, .int p4, .int p5, .int (s.1 + 1), .int s.2]) hX rfl rfl rfl rfl d_X5_throughPrices_84 ?_
      refine aw_iload (i := 7) hX rfl d_X5_throughPrices_87 ?_
      refine aw_iload (i := 5) hX rfl d_X5_throughPrices_89 ?_
      refine aw_sipush (v := 10000) hX (by decide) d_X5_throughPrices_91 ?_
      refine ar_imin hX w_386 mth_imin (by decide) (Nat.le_of_ble_eq_true rfl) (Nat.zero_le _) (Nat.zero_le _) d_X5_throughPrices_94 ?_
      refine aw_iadd hX d_X5_throughPrices_97 ?_
      refine aw_istore (i := 7) (lv2 := [.ref 215, .ref 13, .int p2, d3, .int p4, .int p5, .int (s.1 + 1), .int (s.2 + (if 10000 < p5 then 10000 else p5))]) hX rfl rfl d_X5_throughPrices_98 ?_
      refine aw_goto (t := 53) hX (by decide) d_X5_throughPrices_100 ?_
      cases e_647
      exact kI (s.1 + 1, (s.2 + (if 10000 < p5 then 10000 else p5))) _ rfl
theorem ti_X5_throughPrices_53 {g : GP} {X : MX} {mcR msR : Nat} (hF : gF g = true) (hX : Cx g RX5 cX5_throughPrices 6 mcR msR (some .int) [] X) {Q : State → Prop} {p2 : Int32} {p4 : Int32} {p5 : Int32} {y : Int32} {hz : AH} (kE0 : ∀ (y_1 : Value) (y_2 : Value) (y_3 : Value) (y_4 : Value) (y_5 : Value) (y_7 : Value), AR g X 0 0 Q hz 103 [.ref 215, y_1, y_2, y_3, y_4, y_5, .int y, y_7] []) (n : Nat) : ∀ (s : (Int32 × Int32)) (d3 : Value) (h : AH), lpH (l_X5_throughPrices_53 p2 p4 p5) n s h = some (y, hz) → AR g X 0 0 Q h 53 [.ref 215, .ref 13, .int p2, d3, .int p4, .int p5, .int s.1, .int s.2] [] := by
  induction n with
  | zero => intro s d3 h e; cases e
  | succ n ih =>
    intro s d3 h e
    obtain ⟨x, h1, e1, e2⟩ := lpH_succ e
    rcases e2 with ⟨s2, rfl, e3⟩ | ⟨rfl, rfl⟩
    · exact tb_X5_throughPrices_53 hF hX e1 (fun s3 x0 hs => by cases hs; exact ih _ _ _ e3) (fun yy x0 x1 x2 x3 x4 x5 hy => by cases hy)
    · exact tb_X5_throughPrices_53 hF hX e1 (fun s3 x0 hs => by cases hs) (fun yy x0 x1 x2 x3 x4 x5 hy => by cases hy; exact kE0 x0 x1 x2 x3 x4 x5)
theorem t_X5_throughPrices_53 {g : GP} {X : MX} {mcR msR : Nat} (hF : gF g = true) (hX : Cx g RX5 cX5_throughPrices 6 mcR msR (some .int) [] X) {Q : State → Prop} {p2 : Int32} {p4 : Int32} {p5 : Int32} {s : (Int32 × Int32)} {d3 : Value} {h hz : AH} {n : Nat} {y : Int32} (e : lpH (l_X5_throughPrices_53 p2 p4 p5) n s h = some (y, hz)) (kE0 : ∀ (y_1 : Value) (y_2 : Value) (y_3 : Value) (y_4 : Value) (y_5 : Value) (y_7 : Value), AR g X 0 0 Q hz 103 [.ref 215, y_1, y_2, y_3, y_4, y_5, .int y, y_7] []) : AR g X 0 0 Q h 53 [.ref 215, .ref 13, .int p2, d3, .int p4, .int p5, .int s.1, .int s.2] [] := ti_X5_throughPrices_53 hF hX kE0 n _ _ _ e
def j_X5_throughPrices_103 (v6 : Int32) (h : AH) : Option (Int32 × AH) := some (v6, sI h 215 4 1)
theorem tj_X5_throughPrices_103 {g : GP} {X : MX} {mcR msR : Nat} (hF : gF g = true) (hX : Cx g RX5 cX5_throughPrices 6 mcR msR (some .int) [] X) {v6 : Int32} {d1 : Value} {d2 : Value} {d3 : Value} {d4 : Value} {d5 : Value} {d7 : Value} {h hz : AH} {z : Int32} (e : j_X5_throughPrices_103 v6 h = some (z, hz)) : AR g X 0 0 (QQ g X NT false hz (.inl (some (.int z))) 0 0) h 103 [.ref 215, d1, d2, d3, d4, d5, .int v6, d7] [] := by
  unfold j_X5_throughPrices_103 at e
  refine aw_aload_n (i := 0) hX rfl rfl d_X5_throughPrices_103 ?_
  refine aw_iconst (v := 1) hX (by decide) d_X5_throughPrices_104 ?_
  refine ar_putZ hX fp_RX5_25 rfl (by decide) d_X5_throughPrices_105 ?_
  refine aw_iload (i := 6) hX rfl d_X5_throughPrices_108 ?_
  cases e
  exact aw_ireturn hX (Nat.zero_le _) (Nat.zero_le _) d_X5_throughPrices_110
def s_X5_throughPrices (a0 : Option Nat) (a1 : Int32) (a2 : Int32) (a3 : Int32) (a4 : Int32) (h : AH) : Option (Int32 × AH) := if a0 = some 13 then bd (gR h 13 1) fun t1 => if LAY t1 = (0, 8) then bd (s_X9_copyRow (some (t1 + 7)) (some 216) h) fun q2 => bd (s_X9_putWide (some 219) 1 (-1) q2.2) fun q3 => bd (s_X9_putWide (some 219) 3 (-1) q3.2) fun q4 => bd (s_X9_putWide (some 219) 4 (-1) q4.2) fun q5 => bd (lpH (l_X5_throughPrices_53 a1 a3 a4) FU (0, a2) q5.2) fun y8 => j_X5_throughPrices_103 y8.1 y8.2 else none else none
theorem t_X5_throughPrices {g : GP} {X : MX} {mcR msR : Nat} (hF : gF g = true) (hX : Cx g RX5 cX5_throughPrices 6 mcR msR (some .int) [] X) {a0 : Option Nat} {a1 : Int32} {a2 : Int32} {a3 : Int32} {a4 : Int32} {h hz : AH} {z : Int32} (e : s_X5_throughPrices a0 a1 a2 a3 a4 h = some (z, hz)) : AR g X 0 0 (QQ g X NT false hz (.inl (some (.int z))) 0 0) h 0 [.ref 215, rfV a0, .int a1, .int a2, .int a3, .int a4, jk, jk] [] := by
  unfold s_X5_throughPrices at e
  obtain ⟨rfl, e_648⟩ := if_some e
  clear e
  refine aw_aload_n (i := 1) hX rfl rfl d_X5_throughPrices_0 ?_
  obtain ⟨t1, f_649, e_649⟩ := bd_some e_648
  clear e_648
  obtain ⟨hlt1, e_650⟩ := if_some e_649
  clear e_649
  refine ar_getR hX fg_RX5_32 rfl f_649 d_X5_throughPrices_1 ?_
  refine ar_getF hX hF fg_RX5_38 (by assumption) d_X5_throughPrices_4 ?_
  refine aw_aload_n (i := 0) hX rfl rfl d_X5_throughPrices_7 ?_
  refine ar_getF hX hF fg_RX5_9 rfl d_X5_throughPrices_8 ?_
  show AR g X 0 0 _ _ 11 _ [.ref 216, .ref (t1 + 7)]
  obtain ⟨q2, f_651, e_651⟩ := bd_some e_650
  clear e_650
  refine aw_callSN (av := [.ref (t1 + 7), .ref 216]) (avr := [.ref 216, .ref (t1 + 7)]) hX (k_X9_copyRow (cx_g hX) hF f_651) mi_X9_copyRow rfl rfl nx28 w_156 (by decide) (Nat.le_of_ble_eq_true rfl) (Nat.zero_le _) (Nat.zero_le _) d_X5_throughPrices_11 ?_
  refine aw_aload_n (i := 0) hX rfl rfl d_X5_throughPrices_14 ?_
  refine ar_getF hX hF fg_RX5_21 rfl d_X5_throughPrices_15 ?_
  show AR g X 0 0 _ _ 18 _ [.ref 219]
  refine aw_iconst (v := 1) hX (by decide) d_X5_throughPrices_18 ?_
  refine aw_ldc2 hX w_378 d_X5_throughPrices_19 ?_
  obtain ⟨q3, f_652, e_652⟩ := bd_some e_651
  clear e_651
  refine aw_callSN (av := [.ref 219, .int 1, .long (-1)]) (avr := [.long (-1), .int 1, .ref 219]) hX (k_X9_putWide (cx_g hX) hF f_652) mi_X9_putWide rfl rfl nx29 w_42 (by decide) (Nat.le_of_ble_eq_true rfl) (Nat.zero_le _) (Nat.zero_le _) d_X5_throughPrices_22 ?_
  refine aw_aload_n (i := 0) hX rfl rfl d_X5_throughPrices_25 ?_
  refine ar_getF hX hF fg_RX5_21 rfl d_X5_throughPrices_26 ?_
  show AR g X 0 0 _ _ 29 _ [.ref 219]
  refine aw_iconst (v := 3) hX (by decide) d_X5_throughPrices_29 ?_
  refine aw_ldc2 hX w_378 d_X5_throughPrices_30 ?_
  obtain ⟨q4, f_653, e_653⟩ := bd_some e_652
  clear e_652
  refine aw_callSN (av := [.ref 219, .int 3, .long (-1)]) (avr := [.long (-1), .int 3, .ref 219]) hX (k_X9_putWide (cx_g hX) hF f_653) mi_X9_putWide rfl rfl nx29 w_42 (by decide) (Nat.le_of_ble_eq_true rfl) (Nat.zero_le _) (Nat.zero_le _) d_X5_throughPrices_33 ?_
  refine aw_aload_n (i := 0) hX rfl rfl d_X5_throughPrices_36 ?_
  refine ar_getF hX hF fg_RX5_21 rfl d_X5_throughPrices_37 ?_
  show AR g X 0 0 _ _ 40 _ [.ref 219]
  refine aw_iconst (v := 4) hX (by decide) d_X5_throughPrices_40 ?_
  refine aw_ldc2 hX w_378 d_X5_throughPrices_41 ?_
  obtain ⟨q5, f_654, e_654⟩ := bd_some e_653
  clear e_653
  refine aw_callSN (av := [.ref 219, .int 4, .long (-1)]) (avr := [.long (-1), .int 4, .ref 219]) hX (k_X9_putWide (cx_g hX) hF f_654) mi_X9_putWide rfl rfl nx29 w_42 (by decide) (Nat.le_of_ble_eq_true rfl) (Nat.zero_le _) (Nat.zero_le _) d_X5_throughPrices_44 ?_
  refine aw_iconst (v := 0) hX (by decide) d_X5_throughPrices_47 ?_
  refine aw_istore (i := 6) (lv2 := [.ref 215, .ref 13, .int a1, .int a2, .int a3, .int a4, .int 0, jk]) hX rfl rfl d_X5_throughPrices_48 ?_
  refine aw_iload_n (i := 3) hX rfl rfl d_X5_throughPrices_50 ?_
  refine aw_istore (i := 7) (lv2 := [.ref 215, .ref 13, .int a1, .int a2, .int a3, .int a4, .int 0, .int a2]) hX rfl rfl d_X5_throughPrices_51 ?_
  obtain ⟨y8, f_655, e_655⟩ := bd_some e_654
  clear e_654
  refine t_X5_throughPrices_53 hF hX f_655 (fun d9_1 d9_2 d9_3 d9_4 d9_5 d9_7 => ?_)
  exact tj_X5_throughPrices_103 hF hX e_655
theorem k_X5_throughPrices {g : GP} (hg : g.1.stackTraces = false) (hF : gF g = true) {a0 : Option Nat} {a1 : Int32} {a2 : Int32} {a3 : Int32} {a4 : Int32} {h hz : AH} {z : Int32} (e : s_X5_throughPrices a0 a1 a2 a3 a4 h = some (z, hz)) : Ctr g yX5_throughPrices (wsY yX5_throughPrices cX5_throughPrices 8 (some .int)) 6 0 0 [.ref 215, rfV a0, .int a1, .int a2, .int a3, .int a4] NT false h (some (.int z)) NT false hz := ctr_of (lv0 := [.ref 215, rfV a0, .int a1, .int a2, .int a3, .int a4, jk, jk]) (by cases a0 <;> rfl) (by cases a0 <;> rfl) (by decide) hg trivial (fun X hX hn => t_X5_throughPrices hF hX e)
theorem d_X5_earnedBySet_0 : decode cX5_earnedBySet 0 = .ok (.aload_n 1, 1) := by decide +kernel
theorem d_X5_earnedBySet_1 : decode cX5_earnedBySet 1 = .ok (.getfield 32, 3) := by decide +kernel
theorem d_X5_earnedBySet_4 : decode cX5_earnedBySet 4 = .ok (.astore_n 2, 1) := by decide +kernel
theorem d_X5_earnedBySet_5 : decode cX5_earnedBySet 5 = .ok (.iconst 0, 1) := by decide +kernel
theorem d_X5_earnedBySet_6 : decode cX5_earnedBySet 6 = .ok (.istore_n 3, 1) := by decide +kernel
theorem d_X5_earnedBySet_7 : decode cX5_earnedBySet 7 = .ok (.iload_n 3, 1) := by decide +kernel
theorem d_X5_earnedBySet_8 : decode cX5_earnedBySet 8 = .ok (.aload_n 2, 1) := by decide +kernel
theorem d_X5_earnedBySet_9 : decode cX5_earnedBySet 9 = .ok (.getfield 65, 3) := by decide +kernel
theorem d_X5_earnedBySet_12 : decode cX5_earnedBySet 12 = .ok (.if_icmp .ge 47, 3) := by decide +kernel
theorem d_X5_earnedBySet_15 : decode cX5_earnedBySet 15 = .ok (.aload_n 1, 1) := by decide +kernel
theorem d_X5_earnedBySet_16 : decode cX5_earnedBySet 16 = .ok (.getfield 124, 3) := by decide +kernel
theorem d_X5_earnedBySet_19 : decode cX5_earnedBySet 19 = .ok (.aload_n 2, 1) := by decide +kernel
theorem d_X5_earnedBySet_20 : decode cX5_earnedBySet 20 = .ok (.iload_n 3, 1) := by decide +kernel
theorem d_X5_earnedBySet_21 : decode cX5_earnedBySet 21 = .ok (.iconst 1, 1) := by decide +kernel
theorem d_X5_earnedBySet_22 : decode cX5_earnedBySet 22 = .ok (.aload_n 0, 1) := by decide +kernel
theorem d_X5_earnedBySet_23 : decode cX5_earnedBySet 23 = .ok (.getfield 18, 3) := by decide +kernel
theorem d_X5_earnedBySet_26 : decode cX5_earnedBySet 26 = .ok (.invokevirtual 128, 3) := by decide +kernel
theorem d_X5_earnedBySet_29 : decode cX5_earnedBySet 29 = .ok (.aload_n 0, 1) := by decide +kernel
theorem d_X5_earnedBySet_30 : decode cX5_earnedBySet 30 = .ok (.getfield 15, 3) := by decide +kernel
theorem d_X5_earnedBySet_33 : decode cX5_earnedBySet 33 = .ok (.iload_n 3, 1) := by decide +kernel
theorem d_X5_earnedBySet_34 : decode cX5_earnedBySet 34 = .ok (.aload_n 1, 1) := by decide +kernel
theorem d_X5_earnedBySet_35 : decode cX5_earnedBySet 35 = .ok (.iload_n 3, 1) := by decide +kernel
theorem d_X5_earnedBySet_36 : decode cX5_earnedBySet 36 = .ok (.aload_n 0, 1) := by decide +kernel
theorem d_X5_earnedBySet_37 : decode cX5_earnedBySet 37 = .ok (.getfield 9, 3) := by decide +kernel
theorem d_X5_earnedBySet_40 : decode cX5_earnedBySet 40 = .ok (.aload_n 1, 1) := by decide +kernel
theorem d_X5_earnedBySet_41 : decode cX5_earnedBySet 41 = .ok (.getfield 124, 3) := by decide +kernel
theorem d_X5_earnedBySet_44 : decode cX5_earnedBySet 44 = .ok (.invokevirtual 73, 3) := by decide +kernel
theorem d_X5_earnedBySet_47 : decode cX5_earnedBySet 47 = .ok (.invokevirtual 79, 3) := by decide +kernel
theorem d_X5_earnedBySet_50 : decode cX5_earnedBySet 50 = .ok (.invokestatic 51, 3) := by decide +kernel
theorem d_X5_earnedBySet_53 : decode cX5_earnedBySet 53 = .ok (.iinc 3 1, 3) := by decide +kernel
theorem d_X5_earnedBySet_56 : decode cX5_earnedBySet 56 = .ok (.goto (-49), 3) := by decide +kernel
theorem d_X5_earnedBySet_59 : decode cX5_earnedBySet 59 = .ok (.aload_n 1, 1) := by decide +kernel
theorem d_X5_earnedBySet_60 : decode cX5_earnedBySet 60 = .ok (.aload_n 0, 1) := by decide +kernel
theorem d_X5_earnedBySet_61 : decode cX5_earnedBySet 61 = .ok (.getfield 15, 3) := by decide +kernel
theorem d_X5_earnedBySet_64 : decode cX5_earnedBySet 64 = .ok (.aload_n 0, 1) := by decide +kernel
theorem d_X5_earnedBySet_65 : decode cX5_earnedBySet 65 = .ok (.getfield 9, 3) := by decide +kernel
theorem d_X5_earnedBySet_68 : decode cX5_earnedBySet 68 = .ok (.aload_n 2, 1) := by decide +kernel
theorem d_X5_earnedBySet_69 : decode cX5_earnedBySet 69 = .ok (.getfield 83, 3) := by decide +kernel
theorem d_X5_earnedBySet_72 : decode cX5_earnedBySet 72 = .ok (.invokevirtual 86, 3) := by decide +kernel
theorem d_X5_earnedBySet_75 : decode cX5_earnedBySet 75 = .ok (.lreturn, 1) := by decide +kernel
def l_X5_earnedBySet_7 (p2 : Nat) (s : Int32) (h : AH) : Option ((Int32 ⊕ Unit) × AH) := if (gI h p2 3) ≤ s then some (.inr (), h) else bd (s_X2_make 23 (some p2) s 1 (some 218) h) fun q2 => bd (s_X2_value 23 q2.2) fun x3 => bd (s_X0_choose s (some 216) x3 q2.2) fun x4 => bd (s_X9_put (some 217) s x4 q2.2) fun q5 => some (.inl (s + 1), q5.2)
theorem tb_X5_earnedBySet_7 {g : GP} {X : MX} {mcR msR : Nat} (hF : gF g = true) (hX : Cx g RX5 cX5_earnedBySet 5 mcR msR (some .long) [] X) {Q : State → Prop} {p2 : Nat} {s : Int32} (hl_0 : LAY p2 = (0, 8)) {h hz : AH} {z : (Int32 ⊕ Unit)} (e : l_X5_earnedBySet_7 p2 s h = some (z, hz)) (kI : ∀ (s2 : Int32), z = .inl s2 → AR g X 0 0 Q hz 7 [.ref 215, .ref 13, .ref p2, .int s2] []) (kE0 : ∀ (yy : Unit) (y3 : Value), z = .inr yy → AR g X 0 0 Q hz 59 [.ref 215, .ref 13, .ref p2, y3] []) : AR g X 0 0 Q h 7 [.ref 215, .ref 13, .ref p2, .int s] [] := by
  unfold l_X5_earnedBySet_7 at e
  refine aw_iload_n (i := 3) hX rfl rfl d_X5_earnedBySet_7 ?_
  refine aw_aload_n (i := 2) hX rfl rfl d_X5_earnedBySet_8 ?_
  refine ar_getI hX fg_RX5_65 (by assumption) d_X5_earnedBySet_9 ?_
  refine aw_icmp_ge (t := 59) hX (by decide) d_X5_earnedBySet_12 (fun c => ?_) (fun c => ?_)
  · rw [if_pos c] at e
    cases e
    exact kE0 () _ rfl
  · rw [if_neg c] at e
    refine aw_aload_n (i := 1) hX rfl rfl d_X5_earnedBySet_15 ?_
    refine ar_getF hX hF fg_RX5_124 rfl d_X5_earnedBySet_16 ?_
    show AR g X 0 0 _ _ 19 _ [.ref 23]
    refine aw_aload_n (i := 2) hX rfl rfl d_X5_earnedBySet_19 ?_
    refine aw_iload_n (i := 3) hX rfl rfl d_X5_earnedBySet_20 ?_
    refine aw_iconst (v := 1) hX (by decide) d_X5_earnedBySet_21 ?_
    refine aw_aload_n (i := 0) hX rfl rfl d_X5_earnedBySet_22 ?_
    refine ar_getF hX hF fg_RX5_18 rfl d_X5_earnedBySet_23 ?_
    show AR g X 0 0 _ _ 26 _ [.ref 218, .int 1, .int s, .ref p2, .ref 23]
    obtain ⟨q2, f_656, e_656⟩ := bd_some e
    clear e
    refine aw_callV (b := 23) (av := [.ref p2, .int s, .int 1, .ref 218]) (avr := [.ref 218, .int 1, .int s, .ref p2]) hX (k_X2_make (cx_g hX) hF f_656) mi_X2_make rfl rfl w_389 w_98 w_99 (by decide) rfl (LAY_lt rfl (by decide)) rfl rfl (Nat.le_of_ble_eq_true rfl) (Nat.zero_le _) (Nat.zero_le _) d_X5_earnedBySet_26 ?_
    refine aw_aload_n (i := 0) hX rfl rfl d_X5_earnedBySet_29 ?_
    refine ar_getF hX hF fg_RX5_15 rfl d_X5_earnedBySet_30 ?_
    show AR g X 0 0 _ _ 33 _ [.ref 217]
    refine aw_iload_n (i := 3) hX rfl rfl d_X5_earnedBySet_33 ?_
    refine aw_aload_n (i := 1) hX rfl rfl d_X5_earnedBySet_34 ?_
    refine aw_iload_n (i := 3) hX rfl rfl d_X5_earnedBySet_35 ?_
    refine aw_aload_n (i := 0) hX rfl rfl d_X5_earnedBySet_36 ?_
    refine ar_getF hX hF fg_RX5_9 rfl d_X5_earnedBySet_37 ?_
    show AR g X 0 0 _ _ 40 _ [.ref 216, .int s, .ref 13, .int s, .ref 217]
    refine aw_aload_n (i := 1) hX rfl rfl d_X5_earnedBySet_40 ?_
    refine ar_getF hX hF fg_RX5_124 rfl d_X5_earnedBySet_41 ?_
    show AR g X 0 0 _ _ 44 _ [.ref 23, .ref 216, .int s, .ref 13, .int s, .ref 217]
    obtain ⟨x3, f_657, e_657⟩ := bd_some e_656
    clear e_656
    refine aw_callV (b := 23) (av := []) (avr := []) hX (k_X2_value (cx_g hX) hF f_657) mi_X2_value rfl rfl w_365 w_20 w_21 (by decide) rfl (LAY_lt rfl (by decide)) rfl rfl (Nat.le_of_ble_eq_true rfl) (Nat.zero_le _) (Nat.zero_le _) d_X5_earnedBySet_44 ?_
    obtain ⟨x4, f_658, e_658⟩ := bd_some e_657
    clear e_657
    refine aw_callV (b := 13) (av := [.int s, .ref 216, .long x3]) (avr := [.long x3, .ref 216, .int s]) hX (k_X0_choose (cx_g hX) hF f_658) mi_X0_choose rfl rfl w_366 w_108 w_109 (by decide) rfl (LAY_lt rfl (by decide)) rfl rfl (Nat.le_of_ble_eq_true rfl) (Nat.zero_le _) (Nat.zero_le _) d_X5_earnedBySet_47 ?_
    obtain ⟨q5, f_659, e_659⟩ := bd_some e_658
    clear e_658
    refine aw_callSN (av := [.ref 217, .int s, .int x4]) (avr := [.int x4, .int s, .ref 217]) hX (k_X9_put (cx_g hX) hF f_659) mi_X9_put rfl rfl nx30 w_83 (by decide) (Nat.le_of_ble_eq_true rfl) (Nat.zero_le _) (Nat.zero_le _) d_X5_earnedBySet_50 ?_
    refine aw_iinc (i := 3) (lv2 := [.ref 215, .ref 13, .ref p2, .int (s + 1)]) hX rfl rfl rfl rfl d_X5_earnedBySet_53 ?_
    refine aw_goto (t := 7) hX (by decide) d_X5_earnedBySet_56 ?_
    cases e_659
    exact kI (s + 1)  rfl
theorem ti_X5_earnedBySet_7 {g : GP} {X : MX} {mcR msR : Nat} (hF : gF g = true) (hX : Cx g RX5 cX5_earnedBySet 5 mcR msR (some .long) [] X) {Q : State → Prop} {p2 : Nat} (hl_0 : LAY p2 = (0, 8)) {y : Unit} {hz : AH} (kE0 : ∀ (y_3 : Value), AR g X 0 0 Q hz 59 [.ref 215, .ref 13, .ref p2, y_3] []) (n : Nat) : ∀ (s : Int32) (h : AH), lpH (l_X5_earnedBySet_7 p2) n s h = some (y, hz) → AR g X 0 0 Q h 7 [.ref 215, .ref 13, .ref p2, .int s] [] := by
  induction n with
  | zero => intro s h e; cases e
  | succ n ih =>
    intro s h e
    obtain ⟨x, h1, e1, e2⟩ := lpH_succ e
    rcases e2 with ⟨s2, rfl, e3⟩ | ⟨rfl, rfl⟩
    · exact tb_X5_earnedBySet_7 hF hX hl_0 e1 (fun s3  hs => by cases hs; exact ih _  _ e3) (fun yy x0 hy => by cases hy)
    · exact tb_X5_earnedBySet_7 hF hX hl_0 e1 (fun s3  hs => by cases hs) (fun yy x0 hy => by cases hy; exact kE0 x0)
theorem t_X5_earnedBySet_7 {g : GP} {X : MX} {mcR msR : Nat} (hF : gF g = true) (hX : Cx g RX5 cX5_earnedBySet 5 mcR msR (some .long) [] X) {Q : State → Prop} {p2 : Nat} (hl_0 : LAY p2 = (0, 8)) {s : Int32} {h hz : AH} {n : Nat} {y : Unit} (e : lpH (l_X5_earnedBySet_7 p2) n s h = some (y, hz)) (kE0 : ∀ (y_3 : Value), AR g X 0 0 Q hz 59 [.ref 215, .ref 13, .ref p2, y_3] []) : AR g X 0 0 Q h 7 [.ref 215, .ref 13, .ref p2, .int s] [] := ti_X5_earnedBySet_7 hF hX hl_0 kE0 n _  _ e
def s_X5_earnedBySet (a0 : Option Nat) (h : AH) : Option (Int64 × AH) := if a0 = some 13 then bd (gR h 13 1) fun t1 => if LAY t1 = (0, 8) then bd (lpH (l_X5_earnedBySet_7 t1) FU 0 h) fun y6 => bd (s_X0_takings (some 217) (some 216) (some (t1 + 4)) y6.2) fun x8 => some (x8, y6.2) else none else none
theorem t_X5_earnedBySet {g : GP} {X : MX} {mcR msR : Nat} (hF : gF g = true) (hX : Cx g RX5 cX5_earnedBySet 5 mcR msR (some .long) [] X) {a0 : Option Nat} {h hz : AH} {z : Int64} (e : s_X5_earnedBySet a0 h = some (z, hz)) : AR g X 0 0 (QQ g X NT false hz (.inl (some (.long z))) 0 0) h 0 [.ref 215, rfV a0, jk, jk] [] := by
  unfold s_X5_earnedBySet at e
  obtain ⟨rfl, e_660⟩ := if_some e
  clear e
  refine aw_aload_n (i := 1) hX rfl rfl d_X5_earnedBySet_0 ?_
  obtain ⟨t1, f_661, e_661⟩ := bd_some e_660
  clear e_660
  obtain ⟨hlt1, e_662⟩ := if_some e_661
  clear e_661
  refine ar_getR hX fg_RX5_32 rfl f_661 d_X5_earnedBySet_1 ?_
  refine aw_astore_n (i := 2) (lv2 := [.ref 215, .ref 13, .ref t1, jk]) hX rfl rfl rfl d_X5_earnedBySet_4 ?_
  refine aw_iconst (v := 0) hX (by decide) d_X5_earnedBySet_5 ?_
  refine aw_istore_n (i := 3) (lv2 := [.ref 215, .ref 13, .ref t1, .int 0]) hX rfl rfl rfl d_X5_earnedBySet_6 ?_
  obtain ⟨y6, f_663, e_663⟩ := bd_some e_662
  clear e_662
  refine t_X5_earnedBySet_7 hF hX (by assumption) f_663 (fun d7_3 => ?_)
  refine aw_aload_n (i := 1) hX rfl rfl d_X5_earnedBySet_59 ?_
  refine aw_aload_n (i := 0) hX rfl rfl d_X5_earnedBySet_60 ?_
  refine ar_getF hX hF fg_RX5_15 rfl d_X5_earnedBySet_61 ?_
  show AR g X 0 0 _ _ 64 _ [.ref 217, .ref 13]
  refine aw_aload_n (i := 0) hX rfl rfl d_X5_earnedBySet_64 ?_
  refine ar_getF hX hF fg_RX5_9 rfl d_X5_earnedBySet_65 ?_
  show AR g X 0 0 _ _ 68 _ [.ref 216, .ref 217, .ref 13]
  refine aw_aload_n (i := 2) hX rfl rfl d_X5_earnedBySet_68 ?_
  refine ar_getF hX hF fg_RX5_83 (by assumption) d_X5_earnedBySet_69 ?_
  obtain ⟨x8, f_664, e_664⟩ := bd_some e_663
  clear e_663
  refine aw_callV (b := 13) (av := [.ref 217, .ref 216, .ref (t1 + 4)]) (avr := [.ref (t1 + 4), .ref 216, .ref 217]) hX (k_X0_takings (cx_g hX) hF f_664) mi_X0_takings rfl rfl w_368 w_159 w_160 (by decide) rfl (LAY_lt rfl (by decide)) rfl rfl (Nat.le_of_ble_eq_true rfl) (Nat.zero_le _) (Nat.zero_le _) d_X5_earnedBySet_72 ?_
  cases e_664
  exact aw_lreturn hX (Nat.zero_le _) (Nat.zero_le _) d_X5_earnedBySet_75
theorem k_X5_earnedBySet {g : GP} (hg : g.1.stackTraces = false) (hF : gF g = true) {a0 : Option Nat} {h hz : AH} {z : Int64} (e : s_X5_earnedBySet a0 h = some (z, hz)) : Ctr g yX5_earnedBySet (wsY yX5_earnedBySet cX5_earnedBySet 4 (some .long)) 5 0 0 [.ref 215, rfV a0] NT false h (some (.long z)) NT false hz := ctr_of (lv0 := [.ref 215, rfV a0, jk, jk]) (by cases a0 <;> rfl) (by cases a0 <;> rfl) (by decide) hg trivial (fun X hX hn => t_X5_earnedBySet hF hX e)
theorem d_X5_throughPairs_0 : decode cX5_throughPairs 0 = .ok (.aload_n 1, 1) := by decide +kernel
theorem d_X5_throughPairs_1 : decode cX5_throughPairs 1 = .ok (.getfield 32, 3) := by decide +kernel
theorem d_X5_throughPairs_4 : decode cX5_throughPairs 4 = .ok (.getfield 38, 3) := by decide +kernel
theorem d_X5_throughPairs_7 : decode cX5_throughPairs 7 = .ok (.aload_n 0, 1) := by decide +kernel
theorem d_X5_throughPairs_8 : decode cX5_throughPairs 8 = .ok (.getfield 9, 3) := by decide +kernel
theorem d_X5_throughPairs_11 : decode cX5_throughPairs 11 = .ok (.invokestatic 41, 3) := by decide +kernel
theorem d_X5_throughPairs_14 : decode cX5_throughPairs 14 = .ok (.aload_n 0, 1) := by decide +kernel
theorem d_X5_throughPairs_15 : decode cX5_throughPairs 15 = .ok (.getfield 9, 3) := by decide +kernel
theorem d_X5_throughPairs_18 : decode cX5_throughPairs 18 = .ok (.iconst 3, 1) := by decide +kernel
theorem d_X5_throughPairs_19 : decode cX5_throughPairs 19 = .ok (.iload_n 2, 1) := by decide +kernel
theorem d_X5_throughPairs_20 : decode cX5_throughPairs 20 = .ok (.invokestatic 51, 3) := by decide +kernel
theorem d_X5_throughPairs_23 : decode cX5_throughPairs 23 = .ok (.aload_n 0, 1) := by decide +kernel
theorem d_X5_throughPairs_24 : decode cX5_throughPairs 24 = .ok (.getfield 18, 3) := by decide +kernel
theorem d_X5_throughPairs_27 : decode cX5_throughPairs 27 = .ok (.iconst 0, 1) := by decide +kernel
theorem d_X5_throughPairs_28 : decode cX5_throughPairs 28 = .ok (.invokestatic 107, 3) := by decide +kernel
theorem d_X5_throughPairs_31 : decode cX5_throughPairs 31 = .ok (.ldc2_w 45, 3) := by decide +kernel
theorem d_X5_throughPairs_34 : decode cX5_throughPairs 34 = .ok (.lstore_n 3, 1) := by decide +kernel
theorem d_X5_throughPairs_35 : decode cX5_throughPairs 35 = .ok (.iconst 0, 1) := by decide +kernel
theorem d_X5_throughPairs_36 : decode cX5_throughPairs 36 = .ok (.istore 5, 2) := by decide +kernel
theorem d_X5_throughPairs_38 : decode cX5_throughPairs 38 = .ok (.iload 5, 2) := by decide +kernel
theorem d_X5_throughPairs_40 : decode cX5_throughPairs 40 = .ok (.aload_n 1, 1) := by decide +kernel
theorem d_X5_throughPairs_41 : decode cX5_throughPairs 41 = .ok (.getfield 32, 3) := by decide +kernel
theorem d_X5_throughPairs_44 : decode cX5_throughPairs 44 = .ok (.getfield 111, 3) := by decide +kernel
theorem d_X5_throughPairs_47 : decode cX5_throughPairs 47 = .ok (.if_icmp .ge 102, 3) := by decide +kernel
theorem d_X5_throughPairs_50 : decode cX5_throughPairs 50 = .ok (.aload_n 0, 1) := by decide +kernel
theorem d_X5_throughPairs_51 : decode cX5_throughPairs 51 = .ok (.getfield 18, 3) := by decide +kernel
theorem d_X5_throughPairs_54 : decode cX5_throughPairs 54 = .ok (.iload 5, 2) := by decide +kernel
theorem d_X5_throughPairs_56 : decode cX5_throughPairs 56 = .ok (.iconst 1, 1) := by decide +kernel
theorem d_X5_throughPairs_57 : decode cX5_throughPairs 57 = .ok (.invokestatic 51, 3) := by decide +kernel
theorem d_X5_throughPairs_60 : decode cX5_throughPairs 60 = .ok (.iload 5, 2) := by decide +kernel
theorem d_X5_throughPairs_62 : decode cX5_throughPairs 62 = .ok (.iconst 1, 1) := by decide +kernel
theorem d_X5_throughPairs_63 : decode cX5_throughPairs 63 = .ok (.iadd, 1) := by decide +kernel
theorem d_X5_throughPairs_64 : decode cX5_throughPairs 64 = .ok (.istore 6, 2) := by decide +kernel
theorem d_X5_throughPairs_66 : decode cX5_throughPairs 66 = .ok (.iload 6, 2) := by decide +kernel
theorem d_X5_throughPairs_68 : decode cX5_throughPairs 68 = .ok (.aload_n 1, 1) := by decide +kernel
theorem d_X5_throughPairs_69 : decode cX5_throughPairs 69 = .ok (.getfield 32, 3) := by decide +kernel
theorem d_X5_throughPairs_72 : decode cX5_throughPairs 72 = .ok (.getfield 111, 3) := by decide +kernel
theorem d_X5_throughPairs_75 : decode cX5_throughPairs 75 = .ok (.if_icmp .ge 58, 3) := by decide +kernel
theorem d_X5_throughPairs_78 : decode cX5_throughPairs 78 = .ok (.aload_n 0, 1) := by decide +kernel
theorem d_X5_throughPairs_79 : decode cX5_throughPairs 79 = .ok (.getfield 18, 3) := by decide +kernel
theorem d_X5_throughPairs_82 : decode cX5_throughPairs 82 = .ok (.iload 6, 2) := by decide +kernel
theorem d_X5_throughPairs_84 : decode cX5_throughPairs 84 = .ok (.iconst 1, 1) := by decide +kernel
theorem d_X5_throughPairs_85 : decode cX5_throughPairs 85 = .ok (.invokestatic 51, 3) := by decide +kernel
theorem d_X5_throughPairs_88 : decode cX5_throughPairs 88 = .ok (.aload_n 0, 1) := by decide +kernel
theorem d_X5_throughPairs_89 : decode cX5_throughPairs 89 = .ok (.aload_n 1, 1) := by decide +kernel
theorem d_X5_throughPairs_90 : decode cX5_throughPairs 90 = .ok (.invokevirtual 114, 3) := by decide +kernel
theorem d_X5_throughPairs_93 : decode cX5_throughPairs 93 = .ok (.lstore 7, 2) := by decide +kernel
theorem d_X5_throughPairs_95 : decode cX5_throughPairs 95 = .ok (.aload_n 0, 1) := by decide +kernel
theorem d_X5_throughPairs_96 : decode cX5_throughPairs 96 = .ok (.getfield 18, 3) := by decide +kernel
theorem d_X5_throughPairs_99 : decode cX5_throughPairs 99 = .ok (.iload 6, 2) := by decide +kernel
theorem d_X5_throughPairs_101 : decode cX5_throughPairs 101 = .ok (.iconst 0, 1) := by decide +kernel
theorem d_X5_throughPairs_102 : decode cX5_throughPairs 102 = .ok (.invokestatic 51, 3) := by decide +kernel
theorem d_X5_throughPairs_105 : decode cX5_throughPairs 105 = .ok (.lload 7, 2) := by decide +kernel
theorem d_X5_throughPairs_107 : decode cX5_throughPairs 107 = .ok (.lload_n 3, 1) := by decide +kernel
theorem d_X5_throughPairs_108 : decode cX5_throughPairs 108 = .ok (.lcmp, 1) := by decide +kernel
theorem d_X5_throughPairs_109 : decode cX5_throughPairs 109 = .ok (.ifCond .le 18, 3) := by decide +kernel
theorem d_X5_throughPairs_112 : decode cX5_throughPairs 112 = .ok (.lload 7, 2) := by decide +kernel
theorem d_X5_throughPairs_114 : decode cX5_throughPairs 114 = .ok (.lstore_n 3, 1) := by decide +kernel
theorem d_X5_throughPairs_115 : decode cX5_throughPairs 115 = .ok (.aload_n 0, 1) := by decide +kernel
theorem d_X5_throughPairs_116 : decode cX5_throughPairs 116 = .ok (.iload 5, 2) := by decide +kernel
theorem d_X5_throughPairs_118 : decode cX5_throughPairs 118 = .ok (.putfield 118, 3) := by decide +kernel
theorem d_X5_throughPairs_121 : decode cX5_throughPairs 121 = .ok (.aload_n 0, 1) := by decide +kernel
theorem d_X5_throughPairs_122 : decode cX5_throughPairs 122 = .ok (.iload 6, 2) := by decide +kernel
theorem d_X5_throughPairs_124 : decode cX5_throughPairs 124 = .ok (.putfield 121, 3) := by decide +kernel
theorem d_X5_throughPairs_127 : decode cX5_throughPairs 127 = .ok (.iinc 6 1, 3) := by decide +kernel
theorem d_X5_throughPairs_130 : decode cX5_throughPairs 130 = .ok (.goto (-64), 3) := by decide +kernel
theorem d_X5_throughPairs_133 : decode cX5_throughPairs 133 = .ok (.aload_n 0, 1) := by decide +kernel
theorem d_X5_throughPairs_134 : decode cX5_throughPairs 134 = .ok (.getfield 18, 3) := by decide +kernel
theorem d_X5_throughPairs_137 : decode cX5_throughPairs 137 = .ok (.iload 5, 2) := by decide +kernel
theorem d_X5_throughPairs_139 : decode cX5_throughPairs 139 = .ok (.iconst 0, 1) := by decide +kernel
theorem d_X5_throughPairs_140 : decode cX5_throughPairs 140 = .ok (.invokestatic 51, 3) := by decide +kernel
theorem d_X5_throughPairs_143 : decode cX5_throughPairs 143 = .ok (.iinc 5 1, 3) := by decide +kernel
theorem d_X5_throughPairs_146 : decode cX5_throughPairs 146 = .ok (.goto (-108), 3) := by decide +kernel
theorem d_X5_throughPairs_149 : decode cX5_throughPairs 149 = .ok (.aload_n 0, 1) := by decide +kernel
theorem d_X5_throughPairs_150 : decode cX5_throughPairs 150 = .ok (.iconst 1, 1) := by decide +kernel
theorem d_X5_throughPairs_151 : decode cX5_throughPairs 151 = .ok (.putfield 29, 3) := by decide +kernel
theorem d_X5_throughPairs_154 : decode cX5_throughPairs 154 = .ok (.lload_n 3, 1) := by decide +kernel
theorem d_X5_throughPairs_155 : decode cX5_throughPairs 155 = .ok (.lreturn, 1) := by decide +kernel
def j_X5_throughPairs_127_66 (v3 : Int64) (p5 : Int32) (v6 : Int32) (h : AH) : Option (((Int64 × Int32) ⊕ Int64) × AH) := some (.inl (v3, v6 + 1), h)
theorem tj_X5_throughPairs_127_66 {g : GP} {X : MX} {mcR msR : Nat} (hF : gF g = true) (hX : Cx g RX5 cX5_throughPairs 6 mcR msR (some .long) [] X) {Q : State → Prop} {v3 : Int64} {p5 : Int32} {v6 : Int32} {d2 : Value} {d7 : Value} {d8 : Value} {h hz : AH} {z : ((Int64 × Int32) ⊕ Int64)} (e : j_X5_throughPairs_127_66 v3 p5 v6 h = some (z, hz)) (kI : ∀ (s2 : (Int64 × Int32)) (xd2 : Value) (xd7 : Value) (xd8 : Value), z = .inl s2 → AR g X 0 0 Q hz 66 [.ref 215, .ref 13, xd2, .long s2.1, jk, .int p5, .int s2.2, xd7, xd8] []) (kE0 : ∀ (yy : Int64) (y2 : Value) (y6 : Value) (y7 : Value) (y8 : Value), z = .inr yy → AR g X 0 0 Q hz 133 [.ref 215, .ref 13, y2, .long yy, jk, .int p5, y6, y7, y8] []) : AR g X 0 0 Q h 127 [.ref 215, .ref 13, d2, .long v3, jk, .int p5, .int v6, d7, d8] [] := by
  unfold j_X5_throughPairs_127_66 at e
  refine aw_iinc (i := 6) (lv2 := [.ref 215, .ref 13, d2, .long v3, jk, .int p5, .int (v6 + 1), d7, d8]) hX rfl rfl rfl rfl d_X5_throughPairs_127 ?_
  refine aw_goto (t := 66) hX (by decide) d_X5_throughPairs_130 ?_
  cases e
  exact kI (v3, v6 + 1) _ _ _ rfl
def l_X5_throughPairs_66 (p5 : Int32) (s : (Int64 × Int32)) (h : AH) : Option (((Int64 × Int32) ⊕ Int64) × AH) := bd (gR h 13 1) fun t7 => if LAY t7 = (0, 8) then if (gI h t7 2) ≤ s.2 then some (.inr s.1, h) else bd (s_X9_put (some 218) s.2 1 h) fun q8 => bd (s_X5_earnedBySet (some 13) q8.2) fun q9 => bd (s_X9_put (some 218) s.2 0 q9.2) fun q10 => if q9.1 ≤ s.1 then j_X5_throughPairs_127_66 s.1 p5 s.2 q10.2 else j_X5_throughPairs_127_66 q9.1 p5 s.2 (sI (sI q10.2 215 6 p5) 215 7 s.2) else none
theorem tb_X5_throughPairs_66 {g : GP} {X : MX} {mcR msR : Nat} (hF : gF g = true) (hX : Cx g RX5 cX5_throughPairs 6 mcR msR (some .long) [] X) {Q : State → Prop} {p5 : Int32} {s : (Int64 × Int32)} {d2 : Value} {d7 : Value} {d8 : Value} {h hz : AH} {z : ((Int64 × Int32) ⊕ Int64)} (e : l_X5_throughPairs_66 p5 s h = some (z, hz)) (kI : ∀ (s2 : (Int64 × Int32)) (xd2 : Value) (xd7 : Value) (xd8 : Value), z = .inl s2 → AR g X 0 0 Q hz 66 [.ref 215, .ref 13, xd2, .long s2.1, jk, .int p5, .int s2.2, xd7, xd8] []) (kE0 : ∀ (yy : Int64) (y2 : Value) (y6 : Value) (y7 : Value) (y8 : Value), z = .inr yy → AR g X 0 0 Q hz 133 [.ref 215, .ref 13, y2, .long yy, jk, .int p5, y6, y7, y8] []) : AR g X 0 0 Q h 66 [.ref 215, .ref 13, d2, .long s.1, jk, .int p5, .int s.2, d7, d8] [] := by
  unfold l_X5_throughPairs_66 at e
  refine aw_iload (i := 6) hX rfl d_X5_throughPairs_66 ?_
  refine aw_aload_n (i := 1) hX rfl rfl d_X5_throughPairs_68 ?_
  obtain ⟨t7, f_665, e_665⟩ := bd_some e
  clear e
  obtain ⟨hlt7, e_666⟩ := if_some e_665
  clear e_665
  refine ar_getR hX fg_RX5_32 rfl f_665 d_X5_throughPairs_69 ?_
  refine ar_getI hX fg_RX5_111 (by assumption) d_X5_throughPairs_72 ?_
  refine aw_icmp_ge (t := 133) hX (by decide) d_X5_throughPairs_75 (fun c => ?_) (fun c => ?_)
  · rw [if_pos c] at e_666
    cases e_666
    exact kE0 s.1 _ _ _ _ rfl
  · rw [if_neg c] at e_666
    refine aw_aload_n (i := 0) hX rfl rfl d_X5_throughPairs_78 ?_
    refine ar_getF hX hF fg_RX5_18 rfl d_X5_throughPairs_79 ?_
    show AR g X 0 0 _ _ 82 _ [.ref 218]
    refine aw_iload (i := 6) hX rfl d_X5_throughPairs_82 ?_
    refine aw_iconst (v := 1) hX (by decide) d_X5_throughPairs_84 ?_
    obtain ⟨q8, f_667, e_667⟩ := bd_some e_666
    clear e_666
    refine aw_callSN (av := [.ref 218, .int s.2, .int 1]) (avr := [.int 1, .int s.2, .ref 218]) hX (k_X9_put (cx_g hX) hF f_667) mi_X9_put rfl rfl nx30 w_83 (by decide) (Nat.le_of_ble_eq_true rfl) (Nat.zero_le _) (Nat.zero_le _) d_X5_throughPairs_85 ?_
    refine aw_aload_n (i := 0) hX rfl rfl d_X5_throughPairs_88 ?_
    refine aw_aload_n (i := 1) hX rfl rfl d_X5_throughPairs_89 ?_
    obtain ⟨q9, f_668, e_668⟩ := bd_some e_667
    clear e_667
    refine aw_callV (b := 215) (av := [.ref 13]) (avr := [.ref 13]) hX (k_X5_earnedBySet (cx_g hX) hF f_668) mi_X5_earnedBySet rfl rfl w_392 w_393 w_394 (by decide) rfl (LAY_lt rfl (by decide)) rfl rfl (Nat.le_of_ble_eq_true rfl) (Nat.zero_le _) (Nat.zero_le _) d_X5_throughPairs_90 ?_
    refine aw_lstore (i := 7) (lv2 := [.ref 215, .ref 13, d2, .long s.1, jk, .int p5, .int s.2, .long q9.1, jk]) hX rfl rfl d_X5_throughPairs_93 ?_
    refine aw_aload_n (i := 0) hX rfl rfl d_X5_throughPairs_95 ?_
    refine ar_getF hX hF fg_RX5_18 rfl d_X5_throughPairs_96 ?_
    show AR g X 0 0 _ _ 99 _ [.ref 218]
    refine aw_iload (i := 6) hX rfl d_X5_throughPairs_99 ?_
    refine aw_iconst (v := 0) hX (by decide) d_X5_throughPairs_101 ?_
    obtain ⟨q10, f_669, e_669⟩ := bd_some e_668
    clear e_668
    refine aw_callSN (av := [.ref 218, .int s.2, .int 0]) (avr := [.int 0, .int s.2, .ref 218]) hX (k_X9_put (cx_g hX) hF f_669) mi_X9_put rfl rfl nx30 w_83 (by decide) (Nat.le_of_ble_eq_true rfl) (Nat.zero_le _) (Nat.zero_le _) d_X5_throughPairs_102 ?_
    refine aw_lload (i := 7) hX rfl d_X5_throughPairs_105 ?_
    refine aw_lload_n (i := 3) hX rfl rfl d_X5_throughPairs_107 ?_
    refine aw_lcmp hX d_X5_throughPairs_108 ?_
    refine aw_if_le (t := 127) hX (by decide) d_X5_throughPairs_109 (fun c => ?_) (fun c => ?_)
    · replace c := lc_le.mp c
      rw [if_pos c] at e_669
      exact tj_X5_throughPairs_127_66 hF hX e_669 kI kE0
    · replace c := fun q => c (lc_le.mpr q)
      rw [if_neg c] at e_669
      refine aw_lload (i := 7) hX rfl d_X5_throughPairs_112 ?_
      refine aw_lstore_n (i := 3) (lv2 := [.ref 215, .ref 13, _, .long q9.1, jk, .int p5, .int s.2, .long q9.1, jk]) hX rfl rfl rfl d_X5_throughPairs_114 ?_
      refine aw_aload_n (i := 0) hX rfl rfl d_X5_throughPairs_115 ?_
      refine aw_iload (i := 5) hX rfl d_X5_throughPairs_116 ?_
      refine ar_putI hX fp_RX5_118 rfl d_X5_throughPairs_118 ?_
      refine aw_aload_n (i := 0) hX rfl rfl d_X5_throughPairs_121 ?_
      refine aw_iload (i := 6) hX rfl d_X5_throughPairs_122 ?_
      refine ar_putI hX fp_RX5_121 rfl d_X5_throughPairs_124 ?_
      exact tj_X5_throughPairs_127_66 hF hX e_669 kI kE0
theorem ti_X5_throughPairs_66 {g : GP} {X : MX} {mcR msR : Nat} (hF : gF g = true) (hX : Cx g RX5 cX5_throughPairs 6 mcR msR (some .long) [] X) {Q : State → Prop} {p5 : Int32} {y : Int64} {hz : AH} (kE0 : ∀ (y_2 : Value) (y_6 : Value) (y_7 : Value) (y_8 : Value), AR g X 0 0 Q hz 133 [.ref 215, .ref 13, y_2, .long y, jk, .int p5, y_6, y_7, y_8] []) (n : Nat) : ∀ (s : (Int64 × Int32)) (d2 : Value) (d7 : Value) (d8 : Value) (h : AH), lpH (l_X5_throughPairs_66 p5) n s h = some (y, hz) → AR g X 0 0 Q h 66 [.ref 215, .ref 13, d2, .long s.1, jk, .int p5, .int s.2, d7, d8] [] := by
  induction n with
  | zero => intro s d2 d7 d8 h e; cases e
  | succ n ih =>
    intro s d2 d7 d8 h e
    obtain ⟨x, h1, e1, e2⟩ := lpH_succ e
    rcases e2 with ⟨s2, rfl, e3⟩ | ⟨rfl, rfl⟩
    · exact tb_X5_throughPairs_66 hF hX e1 (fun s3 x0 x1 x2 hs => by cases hs; exact ih _ _ _ _ _ e3) (fun yy x0 x1 x2 x3 hy => by cases hy)
    · exact tb_X5_throughPairs_66 hF hX e1 (fun s3 x0 x1 x2 hs => by cases hs) (fun yy x0 x1 x2 x3 hy => by cases hy; exact kE0 x0 x1 x2 x3)
theorem t_X5_throughPairs_66 {g : GP} {X : MX} {mcR msR : Nat} (hF : gF g = true) (hX : Cx g RX5 cX5_throughPairs 6 mcR msR (some .long) [] X) {Q : State → Prop} {p5 : Int32} {s : (Int64 × Int32)} {d2 : Value} {d7 : Value} {d8 : Value} {h hz : AH} {n : Nat} {y : Int64} (e : lpH (l_X5_throughPairs_66 p5) n s h = some (y, hz)) (kE0 : ∀ (y_2 : Value) (y_6 : Value) (y_7 : Value) (y_8 : Value), AR g X 0 0 Q hz 133 [.ref 215, .ref 13, y_2, .long y, jk, .int p5, y_6, y_7, y_8] []) : AR g X 0 0 Q h 66 [.ref 215, .ref 13, d2, .long s.1, jk, .int p5, .int s.2, d7, d8] [] := ti_X5_throughPairs_66 hF hX kE0 n _ _ _ _ _ e
def l_X5_throughPairs_38 (s : (Int64 × Int32)) (h : AH) : Option (((Int64 × Int32) ⊕ Int64) × AH) := bd (gR h 13 1) fun t5 => if LAY t5 = (0, 8) then if (gI h t5 2) ≤ s.2 then some (.inr s.1, h) else bd (s_X9_put (some 218) s.2 1 h) fun q6 => bd (lpH (l_X5_throughPairs_66 s.2) FU (s.1, (s.2 + 1)) q6.2) fun y11 => bd (s_X9_put (some 218) s.2 0 y11.2) fun q13 => some (.inl (y11.1, s.2 + 1), q13.2) else none
theorem tb_X5_throughPairs_38 {g : GP} {X : MX} {mcR msR : Nat} (hF : gF g = true) (hX : Cx g RX5 cX5_throughPairs 6 mcR msR (some .long) [] X) {Q : State → Prop} {s : (Int64 × Int32)} {d2 : Value} {d6 : Value} {d7 : Value} {d8 : Value} {h hz : AH} {z : ((Int64 × Int32) ⊕ Int64)} (e : l_X5_throughPairs_38 s h = some (z, hz)) (kI : ∀ (s2 : (Int64 × Int32)) (xd2 : Value) (xd6 : Value) (xd7 : Value) (xd8 : Value), z = .inl s2 → AR g X 0 0 Q hz 38 [.ref 215, .ref 13, xd2, .long s2.1, jk, .int s2.2, xd6, xd7, xd8] []) (kE0 : ∀ (yy : Int64) (y1 : Value) (y2 : Value) (y5 : Value) (y6 : Value) (y7 : Value) (y8 : Value), z = .inr yy → AR g X 0 0 Q hz 149 [.ref 215, y1, y2, .long yy, jk, y5, y6, y7, y8] []) : AR g X 0 0 Q h 38 [.ref 215, .ref 13, d2, .long s.1, jk, .int s.2, d6, d7, d8] [] := by
  unfold l_X5_throughPairs_38 at e
  refine aw_iload (i := 5) hX rfl d_X5_throughPairs_38 ?_
  refine aw_aload_n (i := 1) hX rfl rfl d_X5_throughPairs_40 ?_
  obtain ⟨t5, f_670, e_670⟩ := bd_some e
  clear e
  obtain ⟨hlt5, e_671⟩ := if_some e_670
  clear e_670
  refine ar_getR hX fg_RX5_32 rfl f_670 d_X5_throughPairs_41 ?_
  refine ar_getI hX fg_RX5_111 (by assumption) d_X5_throughPairs_44 ?_
  refine aw_icmp_ge (t := 149) hX (by decide) d_X5_throughPairs_47 (fun c => ?_) (fun c => ?_)
  · rw [if_pos c] at e_671
    cases e_671
    exact kE0 s.1 _ _ _ _ _ _ rfl
  · rw [if_neg c] at e_671
    refine aw_aload_n (i := 0) hX rfl rfl d_X5_throughPairs_50 ?_
    refine ar_getF hX hF fg_RX5_18 rfl d_X5_throughPairs_51 ?_
    show AR g X 0 0 _ _ 54 _ [.ref 218]
    refine aw_iload (i := 5) hX rfl d_X5_throughPairs_54 ?_
    refine aw_iconst (v := 1) hX (by decide) d_X5_throughPairs_56 ?_
    obtain ⟨q6, f_672, e_672⟩ := bd_some e_671
    clear e_671
    refine aw_callSN (av := [.ref 218, .int s.2, .int 1]) (avr := [.int 1, .int s.2, .ref 218]) hX (k_X9_put (cx_g hX) hF f_672) mi_X9_put rfl rfl nx30 w_83 (by decide) (Nat.le_of_ble_eq_true rfl) (Nat.zero_le _) (Nat.zero_le _) d_X5_throughPairs_57 ?_
    refine aw_iload (i := 5) hX rfl d_X5_throughPairs_60 ?_
    refine aw_iconst (v := 1) hX (by decide) d_X5_throughPairs_62 ?_
    refine aw_iadd hX d_X5_throughPairs_63 ?_
    refine aw_istore (i := 6) (lv2 := [.ref 215, .ref 13, d2, .long s.1, jk, .int s.2, .int (s.2 + 1), d7, d8]) hX rfl rfl d_X5_throughPairs_64 ?_
    obtain ⟨y11, f_673, e_673⟩ := bd_some e_672
    clear e_672
    refine t_X5_throughPairs_66 hF hX f_673 (fun d12_2 d12_6 d12_7 d12_8 => ?_)
    refine aw_aload_n (i := 0) hX rfl rfl d_X5_throughPairs_133 ?_
    refine ar_getF hX hF fg_RX5_18 rfl d_X5_throughPairs_134 ?_
    show AR g X 0 0 _ _ 137 _ [.ref 218]
    refine aw_iload (i := 5) hX rfl d_X5_throughPairs_137 ?_
    refine aw_iconst (v := 0) hX (by decide) d_X5_throughPairs_139 ?_
    obtain ⟨q13, f_674, e_674⟩ := bd_some e_673
    clear e_673
    refine aw_callSN (av := [.ref 218, .int s.2, .int 0]) (avr := [.int 0, .int s.2, .ref 218]) hX (k_X9_put (cx_g hX) hF f_674) mi_X9_put rfl rfl nx30 w_83 (by decide) (Nat.le_of_ble_eq_true rfl) (Nat.zero_le _) (Nat.zero_le _) d_X5_throughPairs_140 ?_
    refine aw_iinc (i := 5) (lv2 := [.ref 215, .ref 13, d12_2, .long y11.1, jk, .int (s.2 + 1), d12_6, d12_7, d12_8]) hX rfl rfl rfl rfl d_X5_throughPairs_143 ?_
    refine aw_goto (t := 38) hX (by decide) d_X5_throughPairs_146 ?_
    cases e_674
    exact kI (y11.1, s.2 + 1) _ _ _ _ rfl
theorem ti_X5_throughPairs_38 {g : GP} {X : MX} {mcR msR : Nat} (hF : gF g = true) (hX : Cx g RX5 cX5_throughPairs 6 mcR msR (some .long) [] X) {Q : State → Prop} {y : Int64} {hz : AH} (kE0 : ∀ (y_1 : Value) (y_2 : Value) (y_5 : Value) (y_6 : Value) (y_7 : Value) (y_8 : Value), AR g X 0 0 Q hz 149 [.ref 215, y_1, y_2, .long y, jk, y_5, y_6, y_7, y_8] []) (n : Nat) : ∀ (s : (Int64 × Int32)) (d2 : Value) (d6 : Value) (d7 : Value) (d8 : Value) (h : AH), lpH (l_X5_throughPairs_38) n s h = some (y, hz) → AR g X 0 0 Q h 38 [.ref 215, .ref 13, d2, .long s.1, jk, .int s.2, d6, d7, d8] [] := by
  induction n with
  | zero => intro s d2 d6 d7 d8 h e; cases e
  | succ n ih =>
    intro s d2 d6 d7 d8 h e
    obtain ⟨x, h1, e1, e2⟩ := lpH_succ e
    rcases e2 with ⟨s2, rfl, e3⟩ | ⟨rfl, rfl⟩
    · exact tb_X5_throughPairs_38 hF hX e1 (fun s3 x0 x1 x2 x3 hs => by cases hs; exact ih _ _ _ _ _ _ e3) (fun yy x0 x1 x2 x3 x4 x5 hy => by cases hy)
    · exact tb_X5_throughPairs_38 hF hX e1 (fun s3 x0 x1 x2 x3 hs => by cases hs) (fun yy x0 x1 x2 x3 x4 x5 hy => by cases hy; exact kE0 x0 x1 x2 x3 x4 x5)
theorem t_X5_throughPairs_38 {g : GP} {X : MX} {mcR msR : Nat} (hF : gF g = true) (hX : Cx g RX5 cX5_throughPairs 6 mcR msR (some .long) [] X) {Q : State → Prop} {s : (Int64 × Int32)} {d2 : Value} {d6 : Value} {d7 : Value} {d8 : Value} {h hz : AH} {n : Nat} {y : Int64} (e : lpH (l_X5_throughPairs_38) n s h = some (y, hz)) (kE0 : ∀ (y_1 : Value) (y_2 : Value) (y_5 : Value) (y_6 : Value) (y_7 : Value) (y_8 : Value), AR g X 0 0 Q hz 149 [.ref 215, y_1, y_2, .long y, jk, y_5, y_6, y_7, y_8] []) : AR g X 0 0 Q h 38 [.ref 215, .ref 13, d2, .long s.1, jk, .int s.2, d6, d7, d8] [] := ti_X5_throughPairs_38 hF hX kE0 n _ _ _ _ _ _ e
def s_X5_throughPairs (a0 : Option Nat) (a1 : Int32) (h : AH) : Option (Int64 × AH) := if a0 = some 13 then bd (gR h 13 1) fun t1 => if LAY t1 = (0, 8) then bd (s_X9_copyRow (some (t1 + 7)) (some 216) h) fun q2 => bd (s_X9_put (some 216) 3 a1 q2.2) fun q3 => bd (s_X9_fillRow (some 218) 0 q3.2) fun q4 => bd (lpH (l_X5_throughPairs_38) FU ((-1), 0) q4.2) fun y14 => some (y14.1, sI y14.2 215 5 1) else none else none
theorem t_X5_throughPairs {g : GP} {X : MX} {mcR msR : Nat} (hF : gF g = true) (hX : Cx g RX5 cX5_throughPairs 6 mcR msR (some .long) [] X) {a0 : Option Nat} {a1 : Int32} {h hz : AH} {z : Int64} (e : s_X5_throughPairs a0 a1 h = some (z, hz)) : AR g X 0 0 (QQ g X NT false hz (.inl (some (.long z))) 0 0) h 0 [.ref 215, rfV a0, .int a1, jk, jk, jk, jk, jk, jk] [] := by
  unfold s_X5_throughPairs at e
  obtain ⟨rfl, e_675⟩ := if_some e
  clear e
  refine aw_aload_n (i := 1) hX rfl rfl d_X5_throughPairs_0 ?_
  obtain ⟨t1, f_676, e_676⟩ := bd_some e_675
  clear e_675
  obtain ⟨hlt1, e_677⟩ := if_some e_676
  clear e_676
  refine ar_getR hX fg_RX5_32 rfl f_676 d_X5_throughPairs_1 ?_
  refine ar_getF hX hF fg_RX5_38 (by assumption) d_X5_throughPairs_4 ?_
  refine aw_aload_n (i := 0) hX rfl rfl d_X5_throughPairs_7 ?_
  refine ar_getF hX hF fg_RX5_9 rfl d_X5_throughPairs_8 ?_
  show AR g X 0 0 _ _ 11 _ [.ref 216, .ref (t1 + 7)]
  obtain ⟨q2, f_678, e_678⟩ := bd_some e_677
  clear e_677
  refine aw_callSN (av := [.ref (t1 + 7), .ref 216]) (avr := [.ref 216, .ref (t1 + 7)]) hX (k_X9_copyRow (cx_g hX) hF f_678) mi_X9_copyRow rfl rfl nx28 w_156 (by decide) (Nat.le_of_ble_eq_true rfl) (Nat.zero_le _) (Nat.zero_le _) d_X5_throughPairs_11 ?_
  refine aw_aload_n (i := 0) hX rfl rfl d_X5_throughPairs_14 ?_
  refine ar_getF hX hF fg_RX5_9 rfl d_X5_throughPairs_15 ?_
  show AR g X 0 0 _ _ 18 _ [.ref 216]
  refine aw_iconst (v := 3) hX (by decide) d_X5_throughPairs_18 ?_
  refine aw_iload_n (i := 2) hX rfl rfl d_X5_throughPairs_19 ?_
  obtain ⟨q3, f_679, e_679⟩ := bd_some e_678
  clear e_678
  refine aw_callSN (av := [.ref 216, .int 3, .int a1]) (avr := [.int a1, .int 3, .ref 216]) hX (k_X9_put (cx_g hX) hF f_679) mi_X9_put rfl rfl nx30 w_83 (by decide) (Nat.le_of_ble_eq_true rfl) (Nat.zero_le _) (Nat.zero_le _) d_X5_throughPairs_20 ?_
  refine aw_aload_n (i := 0) hX rfl rfl d_X5_throughPairs_23 ?_
  refine ar_getF hX hF fg_RX5_18 rfl d_X5_throughPairs_24 ?_
  show AR g X 0 0 _ _ 27 _ [.ref 218]
  refine aw_iconst (v := 0) hX (by decide) d_X5_throughPairs_27 ?_
  obtain ⟨q4, f_680, e_680⟩ := bd_some e_679
  clear e_679
  refine aw_callSN (av := [.ref 218, .int 0]) (avr := [.int 0, .ref 218]) hX (k_X9_fillRow (cx_g hX) hF f_680) mi_X9_fillRow rfl rfl nx33 w_178 (by decide) (Nat.le_of_ble_eq_true rfl) (Nat.zero_le _) (Nat.zero_le _) d_X5_throughPairs_28 ?_
  refine aw_ldc2 hX w_378 d_X5_throughPairs_31 ?_
  refine aw_lstore_n (i := 3) (lv2 := [.ref 215, .ref 13, .int a1, .long (-1), jk, jk, jk, jk, jk]) hX rfl rfl rfl d_X5_throughPairs_34 ?_
  refine aw_iconst (v := 0) hX (by decide) d_X5_throughPairs_35 ?_
  refine aw_istore (i := 5) (lv2 := [.ref 215, .ref 13, .int a1, .long (-1), jk, .int 0, jk, jk, jk]) hX rfl rfl d_X5_throughPairs_36 ?_
  obtain ⟨y14, f_681, e_681⟩ := bd_some e_680
  clear e_680
  refine t_X5_throughPairs_38 hF hX f_681 (fun d15_1 d15_2 d15_5 d15_6 d15_7 d15_8 => ?_)
  refine aw_aload_n (i := 0) hX rfl rfl d_X5_throughPairs_149 ?_
  refine aw_iconst (v := 1) hX (by decide) d_X5_throughPairs_150 ?_
  refine ar_putZ hX fp_RX5_29 rfl (by decide) d_X5_throughPairs_151 ?_
  refine aw_lload_n (i := 3) hX rfl rfl d_X5_throughPairs_154 ?_
  cases e_681
  exact aw_lreturn hX (Nat.zero_le _) (Nat.zero_le _) d_X5_throughPairs_155
theorem k_X5_throughPairs {g : GP} (hg : g.1.stackTraces = false) (hF : gF g = true) {a0 : Option Nat} {a1 : Int32} {h hz : AH} {z : Int64} (e : s_X5_throughPairs a0 a1 h = some (z, hz)) : Ctr g yX5_throughPairs (wsY yX5_throughPairs cX5_throughPairs 9 (some .long)) 6 0 0 [.ref 215, rfV a0, .int a1] NT false h (some (.long z)) NT false hz := ctr_of (lv0 := [.ref 215, rfV a0, .int a1, jk, jk, jk, jk, jk, jk]) (by cases a0 <;> rfl) (by cases a0 <;> rfl) (by decide) hg trivial (fun X hX hn => t_X5_throughPairs hF hX e)
