/-! 27.run: functions and contracts, by program -/
theorem rfV_cat (o : Option Nat) : (rfV o).category = 1 := by cases o <;> rfl
theorem d_X4_start_0 : decode cX4_start 0 = .ok (.aload_n 0, 1) := by decide +kernel
theorem d_X4_start_1 : decode cX4_start 1 = .ok (.iconst 1, 1) := by decide +kernel
theorem d_X4_start_2 : decode cX4_start 2 = .ok (.putfield 21, 3) := by decide +kernel
theorem d_X4_start_5 : decode cX4_start 5 = .ok (.aload_n 0, 1) := by decide +kernel
theorem d_X4_start_6 : decode cX4_start 6 = .ok (.iconst 0, 1) := by decide +kernel
theorem d_X4_start_7 : decode cX4_start 7 = .ok (.putfield 25, 3) := by decide +kernel
theorem d_X4_start_10 : decode cX4_start 10 = .ok (.aload_n 0, 1) := by decide +kernel
theorem d_X4_start_11 : decode cX4_start 11 = .ok (.iload_n 1, 1) := by decide +kernel
theorem d_X4_start_12 : decode cX4_start 12 = .ok (.putfield 29, 3) := by decide +kernel
theorem d_X4_start_15 : decode cX4_start 15 = .ok (.aload_n 0, 1) := by decide +kernel
theorem d_X4_start_16 : decode cX4_start 16 = .ok (.getfield 9, 3) := by decide +kernel
theorem d_X4_start_19 : decode cX4_start 19 = .ok (.iconst 0, 1) := by decide +kernel
theorem d_X4_start_20 : decode cX4_start 20 = .ok (.invokestatic 32, 3) := by decide +kernel
theorem d_X4_start_23 : decode cX4_start 23 = .ok (.aload_n 0, 1) := by decide +kernel
theorem d_X4_start_24 : decode cX4_start 24 = .ok (.getfield 15, 3) := by decide +kernel
theorem d_X4_start_27 : decode cX4_start 27 = .ok (.iconst 0, 1) := by decide +kernel
theorem d_X4_start_28 : decode cX4_start 28 = .ok (.invokestatic 32, 3) := by decide +kernel
theorem d_X4_start_31 : decode cX4_start 31 = .ok (.aload_n 0, 1) := by decide +kernel
theorem d_X4_start_32 : decode cX4_start 32 = .ok (.getfield 18, 3) := by decide +kernel
theorem d_X4_start_35 : decode cX4_start 35 = .ok (.iconst 0, 1) := by decide +kernel
theorem d_X4_start_36 : decode cX4_start 36 = .ok (.invokestatic 32, 3) := by decide +kernel
theorem d_X4_start_39 : decode cX4_start 39 = .ok (.return_, 1) := by decide +kernel
def s_X4_start (th : Nat) (a0 : Int32) (h : AH) : Option (Unit × AH) := if LAY th = (0, 4) then bd (s_X9_fillRow (some (th + 1)) 0 (sI (sI (sI h th 0 1) th 1 0) th 2 a0)) fun q1 => bd (s_X9_fillRow (some (th + 2)) 0 q1.2) fun q2 => bd (s_X9_fillRow (some (th + 3)) 0 q2.2) fun q3 => some ((), q3.2) else none
theorem t_X4_start {g : GP} {X : MX} {mcR msR : Nat} (hF : gF g = true) (hX : Cx g RX4 cX4_start 2 mcR msR none [] X) {th : Nat} {a0 : Int32} {h hz : AH} {z : Unit} (e : s_X4_start th a0 h = some (z, hz)) : AR g X 0 0 (QQ g X NT false hz (.inl none) 0 0) h 0 [.ref th, .int a0] [] := by
  unfold s_X4_start at e
  obtain ⟨hl_this, e_561⟩ := if_some e
  clear e
  refine aw_aload_n (i := 0) hX rfl rfl d_X4_start_0 ?_
  refine aw_iconst (v := 1) hX (by decide) d_X4_start_1 ?_
  refine ar_putZ hX fp_RX4_21 (by assumption) (by decide) d_X4_start_2 ?_
  refine aw_aload_n (i := 0) hX rfl rfl d_X4_start_5 ?_
  refine aw_iconst (v := 0) hX (by decide) d_X4_start_6 ?_
  refine ar_putI hX fp_RX4_25 (by assumption) d_X4_start_7 ?_
  refine aw_aload_n (i := 0) hX rfl rfl d_X4_start_10 ?_
  refine aw_iload_n (i := 1) hX rfl rfl d_X4_start_11 ?_
  refine ar_putI hX fp_RX4_29 (by assumption) d_X4_start_12 ?_
  refine aw_aload_n (i := 0) hX rfl rfl d_X4_start_15 ?_
  refine ar_getF hX hF fg_RX4_9 (by assumption) d_X4_start_16 ?_
  refine aw_iconst (v := 0) hX (by decide) d_X4_start_19 ?_
  obtain ⟨q1, f_562, e_562⟩ := bd_some e_561
  clear e_561
  refine aw_callSN (av := [.ref (th + 1), .int 0]) (avr := [.int 0, .ref (th + 1)]) hX (k_X9_fillRow (cx_g hX) hF f_562) mi_X9_fillRow rfl rfl nx14 w_178 (by decide) (Nat.le_of_ble_eq_true rfl) (Nat.zero_le _) (Nat.zero_le _) d_X4_start_20 ?_
  refine aw_aload_n (i := 0) hX rfl rfl d_X4_start_23 ?_
  refine ar_getF hX hF fg_RX4_15 (by assumption) d_X4_start_24 ?_
  refine aw_iconst (v := 0) hX (by decide) d_X4_start_27 ?_
  obtain ⟨q2, f_563, e_563⟩ := bd_some e_562
  clear e_562
  refine aw_callSN (av := [.ref (th + 2), .int 0]) (avr := [.int 0, .ref (th + 2)]) hX (k_X9_fillRow (cx_g hX) hF f_563) mi_X9_fillRow rfl rfl nx14 w_178 (by decide) (Nat.le_of_ble_eq_true rfl) (Nat.zero_le _) (Nat.zero_le _) d_X4_start_28 ?_
  refine aw_aload_n (i := 0) hX rfl rfl d_X4_start_31 ?_
  refine ar_getF hX hF fg_RX4_18 (by assumption) d_X4_start_32 ?_
  refine aw_iconst (v := 0) hX (by decide) d_X4_start_35 ?_
  obtain ⟨q3, f_564, e_564⟩ := bd_some e_563
  clear e_563
  refine aw_callSN (av := [.ref (th + 3), .int 0]) (avr := [.int 0, .ref (th + 3)]) hX (k_X9_fillRow (cx_g hX) hF f_564) mi_X9_fillRow rfl rfl nx14 w_178 (by decide) (Nat.le_of_ble_eq_true rfl) (Nat.zero_le _) (Nat.zero_le _) d_X4_start_36 ?_
  cases e_564
  exact aw_return hX (Nat.zero_le _) (Nat.zero_le _) d_X4_start_39
theorem k_X4_start {g : GP} (hg : g.1.stackTraces = false) (hF : gF g = true) {th : Nat} {a0 : Int32} {h hz : AH} {z : Unit} (e : s_X4_start th a0 h = some (z, hz)) : Ctr g yX4_start (wsY yX4_start cX4_start 2 none) 2 0 0 [.ref th, .int a0] NT false h none NT false hz := ctr_of (lv0 := [.ref th, .int a0]) rfl rfl (by decide) hg trivial (fun X hX hn => t_X4_start hF hX e)
theorem d_X4_copy_0 : decode cX4_copy 0 = .ok (.aload_n 0, 1) := by decide +kernel
theorem d_X4_copy_1 : decode cX4_copy 1 = .ok (.aload_n 1, 1) := by decide +kernel
theorem d_X4_copy_2 : decode cX4_copy 2 = .ok (.getfield 21, 3) := by decide +kernel
theorem d_X4_copy_5 : decode cX4_copy 5 = .ok (.putfield 21, 3) := by decide +kernel
theorem d_X4_copy_8 : decode cX4_copy 8 = .ok (.aload_n 0, 1) := by decide +kernel
theorem d_X4_copy_9 : decode cX4_copy 9 = .ok (.aload_n 1, 1) := by decide +kernel
theorem d_X4_copy_10 : decode cX4_copy 10 = .ok (.getfield 25, 3) := by decide +kernel
theorem d_X4_copy_13 : decode cX4_copy 13 = .ok (.putfield 25, 3) := by decide +kernel
theorem d_X4_copy_16 : decode cX4_copy 16 = .ok (.aload_n 0, 1) := by decide +kernel
theorem d_X4_copy_17 : decode cX4_copy 17 = .ok (.aload_n 1, 1) := by decide +kernel
theorem d_X4_copy_18 : decode cX4_copy 18 = .ok (.getfield 29, 3) := by decide +kernel
theorem d_X4_copy_21 : decode cX4_copy 21 = .ok (.putfield 29, 3) := by decide +kernel
theorem d_X4_copy_24 : decode cX4_copy 24 = .ok (.aload_n 1, 1) := by decide +kernel
theorem d_X4_copy_25 : decode cX4_copy 25 = .ok (.getfield 9, 3) := by decide +kernel
theorem d_X4_copy_28 : decode cX4_copy 28 = .ok (.aload_n 0, 1) := by decide +kernel
theorem d_X4_copy_29 : decode cX4_copy 29 = .ok (.getfield 9, 3) := by decide +kernel
theorem d_X4_copy_32 : decode cX4_copy 32 = .ok (.invokestatic 36, 3) := by decide +kernel
theorem d_X4_copy_35 : decode cX4_copy 35 = .ok (.aload_n 1, 1) := by decide +kernel
theorem d_X4_copy_36 : decode cX4_copy 36 = .ok (.getfield 15, 3) := by decide +kernel
theorem d_X4_copy_39 : decode cX4_copy 39 = .ok (.aload_n 0, 1) := by decide +kernel
theorem d_X4_copy_40 : decode cX4_copy 40 = .ok (.getfield 15, 3) := by decide +kernel
theorem d_X4_copy_43 : decode cX4_copy 43 = .ok (.invokestatic 36, 3) := by decide +kernel
theorem d_X4_copy_46 : decode cX4_copy 46 = .ok (.aload_n 1, 1) := by decide +kernel
theorem d_X4_copy_47 : decode cX4_copy 47 = .ok (.getfield 18, 3) := by decide +kernel
theorem d_X4_copy_50 : decode cX4_copy 50 = .ok (.aload_n 0, 1) := by decide +kernel
theorem d_X4_copy_51 : decode cX4_copy 51 = .ok (.getfield 18, 3) := by decide +kernel
theorem d_X4_copy_54 : decode cX4_copy 54 = .ok (.invokestatic 36, 3) := by decide +kernel
theorem d_X4_copy_57 : decode cX4_copy 57 = .ok (.return_, 1) := by decide +kernel
def s_X4_copy (th : Nat) (a0 : Option Nat) (h : AH) : Option (Unit × AH) := if LAY th = (0, 4) then bd a0 fun oa0 => if LAY oa0 = (0, 4) then if (gI h oa0 0) = 0 ∨ (gI h oa0 0) = 1 then bd (s_X9_copyRow (some (oa0 + 1)) (some (th + 1)) (sI (sI (sI h th 0 (gI h oa0 0)) th 1 (gI (sI h th 0 (gI h oa0 0)) oa0 1)) th 2 (gI (sI (sI h th 0 (gI h oa0 0)) th 1 (gI (sI h th 0 (gI h oa0 0)) oa0 1)) oa0 2))) fun q1 => bd (s_X9_copyRow (some (oa0 + 2)) (some (th + 2)) q1.2) fun q2 => bd (s_X9_copyRow (some (oa0 + 3)) (some (th + 3)) q2.2) fun q3 => some ((), q3.2) else none else none else none
theorem t_X4_copy {g : GP} {X : MX} {mcR msR : Nat} (hF : gF g = true) (hX : Cx g RX4 cX4_copy 2 mcR msR none [] X) {th : Nat} {a0 : Option Nat} {h hz : AH} {z : Unit} (e : s_X4_copy th a0 h = some (z, hz)) : AR g X 0 0 (QQ g X NT false hz (.inl none) 0 0) h 0 [.ref th, rfV a0] [] := by
  unfold s_X4_copy at e
  obtain ⟨hl_this, e_565⟩ := if_some e
  clear e
  obtain ⟨oa0, e0, e_566⟩ := bd_some e_565
  clear e_565
  subst e0
  obtain ⟨hl_a0, e_567⟩ := if_some e_566
  clear e_566
  refine aw_aload_n (i := 0) hX rfl rfl d_X4_copy_0 ?_
  refine aw_aload_n (i := 1) hX rfl rfl d_X4_copy_1 ?_
  refine ar_getI hX fg_RX4_21 (by assumption) d_X4_copy_2 ?_
  obtain ⟨hz1, e_568⟩ := if_some e_567
  clear e_567
  refine ar_putZ hX fp_RX4_21 (by assumption) hz1 d_X4_copy_5 ?_
  refine aw_aload_n (i := 0) hX rfl rfl d_X4_copy_8 ?_
  refine aw_aload_n (i := 1) hX rfl rfl d_X4_copy_9 ?_
  refine ar_getI hX fg_RX4_25 (by assumption) d_X4_copy_10 ?_
  refine ar_putI hX fp_RX4_25 (by assumption) d_X4_copy_13 ?_
  refine aw_aload_n (i := 0) hX rfl rfl d_X4_copy_16 ?_
  refine aw_aload_n (i := 1) hX rfl rfl d_X4_copy_17 ?_
  refine ar_getI hX fg_RX4_29 (by assumption) d_X4_copy_18 ?_
  refine ar_putI hX fp_RX4_29 (by assumption) d_X4_copy_21 ?_
  refine aw_aload_n (i := 1) hX rfl rfl d_X4_copy_24 ?_
  refine ar_getF hX hF fg_RX4_9 (by assumption) d_X4_copy_25 ?_
  refine aw_aload_n (i := 0) hX rfl rfl d_X4_copy_28 ?_
  refine ar_getF hX hF fg_RX4_9 (by assumption) d_X4_copy_29 ?_
  obtain ⟨q1, f_569, e_569⟩ := bd_some e_568
  clear e_568
  refine aw_callSN (av := [.ref (oa0 + 1), .ref (th + 1)]) (avr := [.ref (th + 1), .ref (oa0 + 1)]) hX (k_X9_copyRow (cx_g hX) hF f_569) mi_X9_copyRow rfl rfl nx15 w_156 (by decide) (Nat.le_of_ble_eq_true rfl) (Nat.zero_le _) (Nat.zero_le _) d_X4_copy_32 ?_
  refine aw_aload_n (i := 1) hX rfl rfl d_X4_copy_35 ?_
  refine ar_getF hX hF fg_RX4_15 (by assumption) d_X4_copy_36 ?_
  refine aw_aload_n (i := 0) hX rfl rfl d_X4_copy_39 ?_
  refine ar_getF hX hF fg_RX4_15 (by assumption) d_X4_copy_40 ?_
  obtain ⟨q2, f_570, e_570⟩ := bd_some e_569
  clear e_569
  refine aw_callSN (av := [.ref (oa0 + 2), .ref (th + 2)]) (avr := [.ref (th + 2), .ref (oa0 + 2)]) hX (k_X9_copyRow (cx_g hX) hF f_570) mi_X9_copyRow rfl rfl nx15 w_156 (by decide) (Nat.le_of_ble_eq_true rfl) (Nat.zero_le _) (Nat.zero_le _) d_X4_copy_43 ?_
  refine aw_aload_n (i := 1) hX rfl rfl d_X4_copy_46 ?_
  refine ar_getF hX hF fg_RX4_18 (by assumption) d_X4_copy_47 ?_
  refine aw_aload_n (i := 0) hX rfl rfl d_X4_copy_50 ?_
  refine ar_getF hX hF fg_RX4_18 (by assumption) d_X4_copy_51 ?_
  obtain ⟨q3, f_571, e_571⟩ := bd_some e_570
  clear e_570
  refine aw_callSN (av := [.ref (oa0 + 3), .ref (th + 3)]) (avr := [.ref (th + 3), .ref (oa0 + 3)]) hX (k_X9_copyRow (cx_g hX) hF f_571) mi_X9_copyRow rfl rfl nx15 w_156 (by decide) (Nat.le_of_ble_eq_true rfl) (Nat.zero_le _) (Nat.zero_le _) d_X4_copy_54 ?_
  cases e_571
  exact aw_return hX (Nat.zero_le _) (Nat.zero_le _) d_X4_copy_57
theorem k_X4_copy {g : GP} (hg : g.1.stackTraces = false) (hF : gF g = true) {th : Nat} {a0 : Option Nat} {h hz : AH} {z : Unit} (e : s_X4_copy th a0 h = some (z, hz)) : Ctr g yX4_copy (wsY yX4_copy cX4_copy 2 none) 2 0 0 [.ref th, rfV a0] NT false h none NT false hz := ctr_of (lv0 := [.ref th, rfV a0]) (by cases a0 <;> rfl) (by cases a0 <;> rfl) (by decide) hg trivial (fun X hX hn => t_X4_copy hF hX e)
theorem d_X4_draw_0 : decode cX4_draw 0 = .ok (.aload_n 0, 1) := by decide +kernel
theorem d_X4_draw_1 : decode cX4_draw 1 = .ok (.aload_n 0, 1) := by decide +kernel
theorem d_X4_draw_2 : decode cX4_draw 2 = .ok (.getfield 29, 3) := by decide +kernel
theorem d_X4_draw_5 : decode cX4_draw 5 = .ok (.ldc 99, 2) := by decide +kernel
theorem d_X4_draw_7 : decode cX4_draw 7 = .ok (.imul, 1) := by decide +kernel
theorem d_X4_draw_8 : decode cX4_draw 8 = .ok (.sipush 12345, 3) := by decide +kernel
theorem d_X4_draw_11 : decode cX4_draw 11 = .ok (.iadd, 1) := by decide +kernel
theorem d_X4_draw_12 : decode cX4_draw 12 = .ok (.putfield 29, 3) := by decide +kernel
theorem d_X4_draw_15 : decode cX4_draw 15 = .ok (.aload_n 0, 1) := by decide +kernel
theorem d_X4_draw_16 : decode cX4_draw 16 = .ok (.getfield 29, 3) := by decide +kernel
theorem d_X4_draw_19 : decode cX4_draw 19 = .ok (.bipush 16, 2) := by decide +kernel
theorem d_X4_draw_21 : decode cX4_draw 21 = .ok (.iushr, 1) := by decide +kernel
theorem d_X4_draw_22 : decode cX4_draw 22 = .ok (.sipush 32767, 3) := by decide +kernel
theorem d_X4_draw_25 : decode cX4_draw 25 = .ok (.iand, 1) := by decide +kernel
theorem d_X4_draw_26 : decode cX4_draw 26 = .ok (.sipush 1000, 3) := by decide +kernel
theorem d_X4_draw_29 : decode cX4_draw 29 = .ok (.irem, 1) := by decide +kernel
theorem d_X4_draw_30 : decode cX4_draw 30 = .ok (.ireturn, 1) := by decide +kernel
def s_X4_draw (th : Nat) (h : AH) : Option (Int32 × AH) := if LAY th = (0, 4) then bd (iremF ((iushrF (gI (sI h th 2 (((gI h th 2) * 1103515245) + 12345)) th 2) 16) &&& 32767) 1000) fun x1 => some (x1, sI h th 2 (((gI h th 2) * 1103515245) + 12345)) else none
theorem t_X4_draw {g : GP} {X : MX} {mcR msR : Nat} (hF : gF g = true) (hX : Cx g RX4 cX4_draw 1 mcR msR (some .int) [] X) {th : Nat} {h hz : AH} {z : Int32} (e : s_X4_draw th h = some (z, hz)) : AR g X 0 0 (QQ g X NT false hz (.inl (some (.int z))) 0 0) h 0 [.ref th] [] := by
  unfold s_X4_draw at e
  obtain ⟨hl_this, e_572⟩ := if_some e
  clear e
  refine aw_aload_n (i := 0) hX rfl rfl d_X4_draw_0 ?_
  refine aw_aload_n (i := 0) hX rfl rfl d_X4_draw_1 ?_
  refine ar_getI hX fg_RX4_29 (by assumption) d_X4_draw_2 ?_
  refine aw_ldc hX w_326 d_X4_draw_5 ?_
  refine aw_imul hX d_X4_draw_7 ?_
  refine aw_sipush (v := 12345) hX (by decide) d_X4_draw_8 ?_
  refine aw_iadd hX d_X4_draw_11 ?_
  refine ar_putI hX fp_RX4_29 (by assumption) d_X4_draw_12 ?_
  refine aw_aload_n (i := 0) hX rfl rfl d_X4_draw_15 ?_
  refine ar_getI hX fg_RX4_29 (by assumption) d_X4_draw_16 ?_
  refine aw_bipush (v := 16) hX (by decide) d_X4_draw_19 ?_
  refine aw_iushr hX d_X4_draw_21 ?_
  refine aw_sipush (v := 32767) hX (by decide) d_X4_draw_22 ?_
  refine aw_iand hX d_X4_draw_25 ?_
  refine aw_sipush (v := 1000) hX (by decide) d_X4_draw_26 ?_
  obtain ⟨x1, f_573, e_573⟩ := bd_some e_572
  clear e_572
  refine ar_irem hX f_573 d_X4_draw_29 ?_
  cases e_573
  exact aw_ireturn hX (Nat.zero_le _) (Nat.zero_le _) d_X4_draw_30
theorem k_X4_draw {g : GP} (hg : g.1.stackTraces = false) (hF : gF g = true) {th : Nat} {h hz : AH} {z : Int32} (e : s_X4_draw th h = some (z, hz)) : Ctr g yX4_draw (wsY yX4_draw cX4_draw 1 (some .int)) 1 0 0 [.ref th] NT false h (some (.int z)) NT false hz := ctr_of (lv0 := [.ref th]) rfl rfl (by decide) hg trivial (fun X hX hn => t_X4_draw hF hX e)
theorem d_X4_canCome_0 : decode cX4_canCome 0 = .ok (.aload_n 1, 1) := by decide +kernel
theorem d_X4_canCome_1 : decode cX4_canCome 1 = .ok (.iload_n 2, 1) := by decide +kernel
theorem d_X4_canCome_2 : decode cX4_canCome 2 = .ok (.iconst 1, 1) := by decide +kernel
theorem d_X4_canCome_3 : decode cX4_canCome 3 = .ok (.invokevirtual 82, 3) := by decide +kernel
theorem d_X4_canCome_6 : decode cX4_canCome 6 = .ok (.istore 4, 2) := by decide +kernel
theorem d_X4_canCome_8 : decode cX4_canCome 8 = .ok (.iload_n 3, 1) := by decide +kernel
theorem d_X4_canCome_9 : decode cX4_canCome 9 = .ok (.ifCond .eq 22, 3) := by decide +kernel
theorem d_X4_canCome_12 : decode cX4_canCome 12 = .ok (.iload 4, 2) := by decide +kernel
theorem d_X4_canCome_14 : decode cX4_canCome 14 = .ok (.sipush 1000, 3) := by decide +kernel
theorem d_X4_canCome_17 : decode cX4_canCome 17 = .ok (.aload_n 1, 1) := by decide +kernel
theorem d_X4_canCome_18 : decode cX4_canCome 18 = .ok (.iload_n 2, 1) := by decide +kernel
theorem d_X4_canCome_19 : decode cX4_canCome 19 = .ok (.iconst 3, 1) := by decide +kernel
theorem d_X4_canCome_20 : decode cX4_canCome 20 = .ok (.invokevirtual 82, 3) := by decide +kernel
theorem d_X4_canCome_23 : decode cX4_canCome 23 = .ok (.isub, 1) := by decide +kernel
theorem d_X4_canCome_24 : decode cX4_canCome 24 = .ok (.imul, 1) := by decide +kernel
theorem d_X4_canCome_25 : decode cX4_canCome 25 = .ok (.sipush 1000, 3) := by decide +kernel
theorem d_X4_canCome_28 : decode cX4_canCome 28 = .ok (.idiv, 1) := by decide +kernel
theorem d_X4_canCome_29 : decode cX4_canCome 29 = .ok (.istore 4, 2) := by decide +kernel
theorem d_X4_canCome_31 : decode cX4_canCome 31 = .ok (.aload_n 0, 1) := by decide +kernel
theorem d_X4_canCome_32 : decode cX4_canCome 32 = .ok (.invokevirtual 44, 3) := by decide +kernel
theorem d_X4_canCome_35 : decode cX4_canCome 35 = .ok (.iload 4, 2) := by decide +kernel
theorem d_X4_canCome_37 : decode cX4_canCome 37 = .ok (.if_icmp .ge 7, 3) := by decide +kernel
theorem d_X4_canCome_40 : decode cX4_canCome 40 = .ok (.iconst 1, 1) := by decide +kernel
theorem d_X4_canCome_41 : decode cX4_canCome 41 = .ok (.goto 4, 3) := by decide +kernel
theorem d_X4_canCome_44 : decode cX4_canCome 44 = .ok (.iconst 0, 1) := by decide +kernel
theorem d_X4_canCome_45 : decode cX4_canCome 45 = .ok (.ireturn, 1) := by decide +kernel
def j_X4_canCome_31 (v0 : Nat) (v4 : Int32) (h : AH) : Option (Int32 × AH) := bd (s_X4_draw v0 h) fun q2 => if v4 ≤ q2.1 then some (0, q2.2) else some (1, q2.2)
theorem tj_X4_canCome_31 {g : GP} {X : MX} {mcR msR : Nat} (hF : gF g = true) (hX : Cx g RX4 cX4_canCome 3 mcR msR (some .boolean) [] X) {v0 : Nat} {v4 : Int32} (hl_0 : LAY v0 = (0, 4)) {d1 : Value} {d2 : Value} {d3 : Value} {h hz : AH} {z : Int32} (e : j_X4_canCome_31 v0 v4 h = some (z, hz)) : AR g X 0 0 (QQ g X NT false hz (.inl (some (.int z))) 0 0) h 31 [.ref v0, d1, d2, d3, .int v4] [] := by
  unfold j_X4_canCome_31 at e
  refine aw_aload_n (i := 0) hX rfl rfl d_X4_canCome_31 ?_
  obtain ⟨q2, f_574, e_574⟩ := bd_some e
  clear e
  refine aw_callV (b := v0) (av := []) (avr := []) hX (k_X4_draw (cx_g hX) hF f_574) mi_X4_draw rfl rfl w_330 w_331 w_332 (by decide) (by assumption) (LAY_lt (by assumption) (by decide)) rfl rfl (Nat.le_of_ble_eq_true rfl) (Nat.zero_le _) (Nat.zero_le _) d_X4_canCome_32 ?_
  refine aw_iload (i := 4) hX rfl d_X4_canCome_35 ?_
  refine aw_icmp_ge (t := 44) hX (by decide) d_X4_canCome_37 (fun c => ?_) (fun c => ?_)
  · rw [if_pos c] at e_574
    refine aw_iconst (v := 0) hX (by decide) d_X4_canCome_44 ?_
    cases e_574
    exact aw_zreturn hX (by decide) (Nat.zero_le _) (Nat.zero_le _) d_X4_canCome_45
  · rw [if_neg c] at e_574
    refine aw_iconst (v := 1) hX (by decide) d_X4_canCome_40 ?_
    refine aw_goto (t := 45) hX (by decide) d_X4_canCome_41 ?_
    cases e_574
    exact aw_zreturn hX (by decide) (Nat.zero_le _) (Nat.zero_le _) d_X4_canCome_45
def s_X4_canCome (th : Nat) (a0 : Option Nat) (a1 : Int32) (a2 : Int32) (h : AH) : Option (Int32 × AH) := if LAY th = (0, 4) then bd a0 fun oa0 => if LAY oa0 = (0, 8) then bd (s_X8_ofKind oa0 a1 1 h) fun x1 => if a2 = 0 then j_X4_canCome_31 th x1 h else bd (s_X8_ofKind oa0 a1 3 h) fun x3 => bd (idivF (x1 * (1000 - x3)) 1000) fun x4 => j_X4_canCome_31 th x4 h else none else none
theorem t_X4_canCome {g : GP} {X : MX} {mcR msR : Nat} (hF : gF g = true) (hX : Cx g RX4 cX4_canCome 3 mcR msR (some .boolean) [] X) {th : Nat} {a0 : Option Nat} {a1 : Int32} {a2 : Int32} {h hz : AH} {z : Int32} (e : s_X4_canCome th a0 a1 a2 h = some (z, hz)) : AR g X 0 0 (QQ g X NT false hz (.inl (some (.int z))) 0 0) h 0 [.ref th, rfV a0, .int a1, .int a2, jk] [] := by
  unfold s_X4_canCome at e
  obtain ⟨hl_this, e_575⟩ := if_some e
  clear e
  obtain ⟨oa0, e0, e_576⟩ := bd_some e_575
  clear e_575
  subst e0
  obtain ⟨hl_a0, e_577⟩ := if_some e_576
  clear e_576
  refine aw_aload_n (i := 1) hX rfl rfl d_X4_canCome_0 ?_
  refine aw_iload_n (i := 2) hX rfl rfl d_X4_canCome_1 ?_
  refine aw_iconst (v := 1) hX (by decide) d_X4_canCome_2 ?_
  obtain ⟨x1, f_578, e_578⟩ := bd_some e_577
  clear e_577
  refine aw_callV (b := oa0) (av := [.int a1, .int 1]) (avr := [.int 1, .int a1]) hX (k_X8_ofKind (cx_g hX) hF f_578) mi_X8_ofKind rfl rfl w_327 w_10 w_11 (by decide) (by assumption) (LAY_lt (by assumption) (by decide)) rfl rfl (Nat.le_of_ble_eq_true rfl) (Nat.zero_le _) (Nat.zero_le _) d_X4_canCome_3 ?_
  refine aw_istore (i := 4) (lv2 := [.ref th, .ref oa0, .int a1, .int a2, .int x1]) hX rfl rfl d_X4_canCome_6 ?_
  refine aw_iload_n (i := 3) hX rfl rfl d_X4_canCome_8 ?_
  refine aw_if_eq (t := 31) hX (by decide) d_X4_canCome_9 (fun c => ?_) (fun c => ?_)
  · rw [if_pos c] at e_578
    exact tj_X4_canCome_31 hF hX (by assumption) e_578
  · rw [if_neg c] at e_578
    refine aw_iload (i := 4) hX rfl d_X4_canCome_12 ?_
    refine aw_sipush (v := 1000) hX (by decide) d_X4_canCome_14 ?_
    refine aw_aload_n (i := 1) hX rfl rfl d_X4_canCome_17 ?_
    refine aw_iload_n (i := 2) hX rfl rfl d_X4_canCome_18 ?_
    refine aw_iconst (v := 3) hX (by decide) d_X4_canCome_19 ?_
    obtain ⟨x3, f_579, e_579⟩ := bd_some e_578
    clear e_578
    refine aw_callV (b := oa0) (av := [.int a1, .int 3]) (avr := [.int 3, .int a1]) hX (k_X8_ofKind (cx_g hX) hF f_579) mi_X8_ofKind rfl rfl w_327 w_10 w_11 (by decide) (by assumption) (LAY_lt (by assumption) (by decide)) rfl rfl (Nat.le_of_ble_eq_true rfl) (Nat.zero_le _) (Nat.zero_le _) d_X4_canCome_20 ?_
    refine aw_isub hX d_X4_canCome_23 ?_
    refine aw_imul hX d_X4_canCome_24 ?_
    refine aw_sipush (v := 1000) hX (by decide) d_X4_canCome_25 ?_
    obtain ⟨x4, f_580, e_580⟩ := bd_some e_579
    clear e_579
    refine ar_idiv hX f_580 d_X4_canCome_28 ?_
    refine aw_istore (i := 4) (lv2 := [.ref th, .ref oa0, .int a1, .int a2, .int x4]) hX rfl rfl d_X4_canCome_29 ?_
    exact tj_X4_canCome_31 hF hX (by assumption) e_580
theorem k_X4_canCome {g : GP} (hg : g.1.stackTraces = false) (hF : gF g = true) {th : Nat} {a0 : Option Nat} {a1 : Int32} {a2 : Int32} {h hz : AH} {z : Int32} (e : s_X4_canCome th a0 a1 a2 h = some (z, hz)) : Ctr g yX4_canCome (wsY yX4_canCome cX4_canCome 5 (some .boolean)) 3 0 0 [.ref th, rfV a0, .int a1, .int a2] NT false h (some (.int z)) NT false hz := ctr_of (lv0 := [.ref th, rfV a0, .int a1, .int a2, jk]) (by cases a0 <;> rfl) (by cases a0 <;> rfl) (by decide) hg trivial (fun X hX hn => t_X4_canCome hF hX e)
theorem d_X4_comes_0 : decode cX4_comes 0 = .ok (.aload_n 3, 1) := by decide +kernel
theorem d_X4_comes_1 : decode cX4_comes 1 = .ok (.iload 4, 2) := by decide +kernel
theorem d_X4_comes_3 : decode cX4_comes 3 = .ok (.aload_n 3, 1) := by decide +kernel
theorem d_X4_comes_4 : decode cX4_comes 4 = .ok (.iload 5, 2) := by decide +kernel
theorem d_X4_comes_6 : decode cX4_comes 6 = .ok (.invokevirtual 85, 3) := by decide +kernel
theorem d_X4_comes_9 : decode cX4_comes 9 = .ok (.iload 5, 2) := by decide +kernel
theorem d_X4_comes_11 : decode cX4_comes 11 = .ok (.invokevirtual 91, 3) := by decide +kernel
theorem d_X4_comes_14 : decode cX4_comes 14 = .ok (.ifCond .eq 5, 3) := by decide +kernel
theorem d_X4_comes_17 : decode cX4_comes 17 = .ok (.iconst 1, 1) := by decide +kernel
theorem d_X4_comes_18 : decode cX4_comes 18 = .ok (.ireturn, 1) := by decide +kernel
theorem d_X4_comes_19 : decode cX4_comes 19 = .ok (.aload_n 3, 1) := by decide +kernel
theorem d_X4_comes_20 : decode cX4_comes 20 = .ok (.invokevirtual 95, 3) := by decide +kernel
theorem d_X4_comes_23 : decode cX4_comes 23 = .ok (.ifCond .eq 20, 3) := by decide +kernel
theorem d_X4_comes_26 : decode cX4_comes 26 = .ok (.aload_n 0, 1) := by decide +kernel
theorem d_X4_comes_27 : decode cX4_comes 27 = .ok (.invokevirtual 44, 3) := by decide +kernel
theorem d_X4_comes_30 : decode cX4_comes 30 = .ok (.aload_n 1, 1) := by decide +kernel
theorem d_X4_comes_31 : decode cX4_comes 31 = .ok (.iload_n 2, 1) := by decide +kernel
theorem d_X4_comes_32 : decode cX4_comes 32 = .ok (.iconst 4, 1) := by decide +kernel
theorem d_X4_comes_33 : decode cX4_comes 33 = .ok (.invokevirtual 82, 3) := by decide +kernel
theorem d_X4_comes_36 : decode cX4_comes 36 = .ok (.if_icmp .ge 7, 3) := by decide +kernel
theorem d_X4_comes_39 : decode cX4_comes 39 = .ok (.iconst 1, 1) := by decide +kernel
theorem d_X4_comes_40 : decode cX4_comes 40 = .ok (.goto 4, 3) := by decide +kernel
theorem d_X4_comes_43 : decode cX4_comes 43 = .ok (.iconst 0, 1) := by decide +kernel
theorem d_X4_comes_44 : decode cX4_comes 44 = .ok (.ireturn, 1) := by decide +kernel
def s_X4_comes (th : Nat) (a0 : Option Nat) (a1 : Int32) (a2 : Option Nat) (a3 : Int32) (a4 : Int32) (h : AH) : Option (Int32 × AH) := if LAY th = (0, 4) then bd a0 fun oa0 => if LAY oa0 = (0, 8) then bd a2 fun oa2 => if LAY oa2 = (0, 2) then bd (s_X2_leftOfTen oa2 a4 h) fun x1 => bd (s_X2_takes oa2 a3 x1 a4 h) fun x2 => if x2 = 0 then bd (s_X2_isOfHabit oa2 h) fun x3 => if x3 = 0 then some (0, h) else bd (s_X4_draw th h) fun q4 => bd (s_X8_ofKind oa0 a1 4 q4.2) fun x5 => if x5 ≤ q4.1 then some (0, q4.2) else some (1, q4.2) else some (1, h) else none else none else none
theorem t_X4_comes {g : GP} {X : MX} {mcR msR : Nat} (hF : gF g = true) (hX : Cx g RX4 cX4_comes 3 mcR msR (some .boolean) [] X) {th : Nat} {a0 : Option Nat} {a1 : Int32} {a2 : Option Nat} {a3 : Int32} {a4 : Int32} {h hz : AH} {z : Int32} (e : s_X4_comes th a0 a1 a2 a3 a4 h = some (z, hz)) : AR g X 0 0 (QQ g X NT false hz (.inl (some (.int z))) 0 0) h 0 [.ref th, rfV a0, .int a1, rfV a2, .int a3, .int a4] [] := by
  unfold s_X4_comes at e
  obtain ⟨hl_this, e_581⟩ := if_some e
  clear e
  obtain ⟨oa0, e0, e_582⟩ := bd_some e_581
  clear e_581
  subst e0
  obtain ⟨hl_a0, e_583⟩ := if_some e_582
  clear e_582
  obtain ⟨oa2, e0, e_584⟩ := bd_some e_583
  clear e_583
  subst e0
  obtain ⟨hl_a2, e_585⟩ := if_some e_584
  clear e_584
  refine aw_aload_n (i := 3) hX rfl rfl d_X4_comes_0 ?_
  refine aw_iload (i := 4) hX rfl d_X4_comes_1 ?_
  refine aw_aload_n (i := 3) hX rfl rfl d_X4_comes_3 ?_
  refine aw_iload (i := 5) hX rfl d_X4_comes_4 ?_
  obtain ⟨x1, f_586, e_586⟩ := bd_some e_585
  clear e_585
  refine aw_callV (b := oa2) (av := [.int a4]) (avr := [.int a4]) hX (k_X2_leftOfTen (cx_g hX) hF f_586) mi_X2_leftOfTen rfl rfl w_333 w_63 w_64 (by decide) (by assumption) (LAY_lt (by assumption) (by decide)) rfl rfl (Nat.le_of_ble_eq_true rfl) (Nat.zero_le _) (Nat.zero_le _) d_X4_comes_6 ?_
  refine aw_iload (i := 5) hX rfl d_X4_comes_9 ?_
  obtain ⟨x2, f_587, e_587⟩ := bd_some e_586
  clear e_586
  refine aw_callV (b := oa2) (av := [.int a3, .int x1, .int a4]) (avr := [.int a4, .int x1, .int a3]) hX (k_X2_takes (cx_g hX) hF f_587) mi_X2_takes rfl rfl w_334 w_68 w_69 (by decide) (by assumption) (LAY_lt (by assumption) (by decide)) rfl rfl (Nat.le_of_ble_eq_true rfl) (Nat.zero_le _) (Nat.zero_le _) d_X4_comes_11 ?_
  refine aw_if_eq (t := 19) hX (by decide) d_X4_comes_14 (fun c => ?_) (fun c => ?_)
  · rw [if_pos c] at e_587
    refine aw_aload_n (i := 3) hX rfl rfl d_X4_comes_19 ?_
    obtain ⟨x3, f_588, e_588⟩ := bd_some e_587
    clear e_587
    refine aw_callV (b := oa2) (av := []) (avr := []) hX (k_X2_isOfHabit (cx_g hX) hF f_588) mi_X2_isOfHabit rfl rfl w_335 w_75 w_76 (by decide) (by assumption) (LAY_lt (by assumption) (by decide)) rfl rfl (Nat.le_of_ble_eq_true rfl) (Nat.zero_le _) (Nat.zero_le _) d_X4_comes_20 ?_
    refine aw_if_eq (t := 43) hX (by decide) d_X4_comes_23 (fun c => ?_) (fun c => ?_)
    · rw [if_pos c] at e_588
      refine aw_iconst (v := 0) hX (by decide) d_X4_comes_43 ?_
      cases e_588
      exact aw_zreturn hX (by decide) (Nat.zero_le _) (Nat.zero_le _) d_X4_comes_44
    · rw [if_neg c] at e_588
      refine aw_aload_n (i := 0) hX rfl rfl d_X4_comes_26 ?_
      obtain ⟨q4, f_589, e_589⟩ := bd_some e_588
      clear e_588
      refine aw_callV (b := th) (av := []) (avr := []) hX (k_X4_draw (cx_g hX) hF f_589) mi_X4_draw rfl rfl w_330 w_331 w_332 (by decide) (by assumption) (LAY_lt (by assumption) (by decide)) rfl rfl (Nat.le_of_ble_eq_true rfl) (Nat.zero_le _) (Nat.zero_le _) d_X4_comes_27 ?_
      refine aw_aload_n (i := 1) hX rfl rfl d_X4_comes_30 ?_
      refine aw_iload_n (i := 2) hX rfl rfl d_X4_comes_31 ?_
      refine aw_iconst (v := 4) hX (by decide) d_X4_comes_32 ?_
      obtain ⟨x5, f_590, e_590⟩ := bd_some e_589
      clear e_589
      refine aw_callV (b := oa0) (av := [.int a1, .int 4]) (avr := [.int 4, .int a1]) hX (k_X8_ofKind (cx_g hX) hF f_590) mi_X8_ofKind rfl rfl w_327 w_10 w_11 (by decide) (by assumption) (LAY_lt (by assumption) (by decide)) rfl rfl (Nat.le_of_ble_eq_true rfl) (Nat.zero_le _) (Nat.zero_le _) d_X4_comes_33 ?_
      refine aw_icmp_ge (t := 43) hX (by decide) d_X4_comes_36 (fun c => ?_) (fun c => ?_)
      · rw [if_pos c] at e_590
        refine aw_iconst (v := 0) hX (by decide) d_X4_comes_43 ?_
        cases e_590
        exact aw_zreturn hX (by decide) (Nat.zero_le _) (Nat.zero_le _) d_X4_comes_44
      · rw [if_neg c] at e_590
        refine aw_iconst (v := 1) hX (by decide) d_X4_comes_39 ?_
        refine aw_goto (t := 44) hX (by decide) d_X4_comes_40 ?_
        cases e_590
        exact aw_zreturn hX (by decide) (Nat.zero_le _) (Nat.zero_le _) d_X4_comes_44
  · rw [if_neg c] at e_587
    refine aw_iconst (v := 1) hX (by decide) d_X4_comes_17 ?_
    cases e_587
    exact aw_zreturn hX (by decide) (Nat.zero_le _) (Nat.zero_le _) d_X4_comes_18
theorem k_X4_comes {g : GP} (hg : g.1.stackTraces = false) (hF : gF g = true) {th : Nat} {a0 : Option Nat} {a1 : Int32} {a2 : Option Nat} {a3 : Int32} {a4 : Int32} {h hz : AH} {z : Int32} (e : s_X4_comes th a0 a1 a2 a3 a4 h = some (z, hz)) : Ctr g yX4_comes (wsY yX4_comes cX4_comes 6 (some .boolean)) 3 0 0 [.ref th, rfV a0, .int a1, rfV a2, .int a3, .int a4] NT false h (some (.int z)) NT false hz := ctr_of (lv0 := [.ref th, rfV a0, .int a1, rfV a2, .int a3, .int a4]) (by cases a0 <;> cases a2 <;> rfl) (by cases a0 <;> cases a2 <;> rfl) (by decide) hg trivial (fun X hX hn => t_X4_comes hF hX e)
theorem d_X4_play_0 : decode cX4_play 0 = .ok (.aload_n 0, 1) := by decide +kernel
theorem d_X4_play_1 : decode cX4_play 1 = .ok (.invokevirtual 44, 3) := by decide +kernel
theorem d_X4_play_4 : decode cX4_play 4 = .ok (.aload_n 2, 1) := by decide +kernel
theorem d_X4_play_5 : decode cX4_play 5 = .ok (.iload_n 3, 1) := by decide +kernel
theorem d_X4_play_6 : decode cX4_play 6 = .ok (.iconst 2, 1) := by decide +kernel
theorem d_X4_play_7 : decode cX4_play 7 = .ok (.invokevirtual 48, 3) := by decide +kernel
theorem d_X4_play_10 : decode cX4_play 10 = .ok (.if_icmp .ge 7, 3) := by decide +kernel
theorem d_X4_play_13 : decode cX4_play 13 = .ok (.iconst 1, 1) := by decide +kernel
theorem d_X4_play_14 : decode cX4_play 14 = .ok (.goto 4, 3) := by decide +kernel
theorem d_X4_play_17 : decode cX4_play 17 = .ok (.iconst 0, 1) := by decide +kernel
theorem d_X4_play_18 : decode cX4_play 18 = .ok (.istore 4, 2) := by decide +kernel
theorem d_X4_play_20 : decode cX4_play 20 = .ok (.aload_n 0, 1) := by decide +kernel
theorem d_X4_play_21 : decode cX4_play 21 = .ok (.getfield 18, 3) := by decide +kernel
theorem d_X4_play_24 : decode cX4_play 24 = .ok (.iload_n 3, 1) := by decide +kernel
theorem d_X4_play_25 : decode cX4_play 25 = .ok (.iload 4, 2) := by decide +kernel
theorem d_X4_play_27 : decode cX4_play 27 = .ok (.ifCond .eq 7, 3) := by decide +kernel
theorem d_X4_play_30 : decode cX4_play 30 = .ok (.iconst 1, 1) := by decide +kernel
theorem d_X4_play_31 : decode cX4_play 31 = .ok (.goto 4, 3) := by decide +kernel
theorem d_X4_play_34 : decode cX4_play 34 = .ok (.iconst 0, 1) := by decide +kernel
theorem d_X4_play_35 : decode cX4_play 35 = .ok (.invokestatic 54, 3) := by decide +kernel
theorem d_X4_play_38 : decode cX4_play 38 = .ok (.iconst 0, 1) := by decide +kernel
theorem d_X4_play_39 : decode cX4_play 39 = .ok (.istore 5, 2) := by decide +kernel
theorem d_X4_play_41 : decode cX4_play 41 = .ok (.iconst 0, 1) := by decide +kernel
theorem d_X4_play_42 : decode cX4_play 42 = .ok (.istore 6, 2) := by decide +kernel
theorem d_X4_play_44 : decode cX4_play 44 = .ok (.iload 6, 2) := by decide +kernel
theorem d_X4_play_46 : decode cX4_play 46 = .ok (.aload_n 2, 1) := by decide +kernel
theorem d_X4_play_47 : decode cX4_play 47 = .ok (.getfield 58, 3) := by decide +kernel
theorem d_X4_play_50 : decode cX4_play 50 = .ok (.if_icmp .ge 123, 3) := by decide +kernel
theorem d_X4_play_53 : decode cX4_play 53 = .ok (.aload_n 1, 1) := by decide +kernel
theorem d_X4_play_54 : decode cX4_play 54 = .ok (.iload 6, 2) := by decide +kernel
theorem d_X4_play_56 : decode cX4_play 56 = .ok (.invokevirtual 61, 3) := by decide +kernel
theorem d_X4_play_59 : decode cX4_play 59 = .ok (.astore 7, 2) := by decide +kernel
theorem d_X4_play_61 : decode cX4_play 61 = .ok (.aload_n 2, 1) := by decide +kernel
theorem d_X4_play_62 : decode cX4_play 62 = .ok (.getfield 67, 3) := by decide +kernel
theorem d_X4_play_65 : decode cX4_play 65 = .ok (.iload 6, 2) := by decide +kernel
theorem d_X4_play_67 : decode cX4_play 67 = .ok (.invokestatic 70, 3) := by decide +kernel
theorem d_X4_play_70 : decode cX4_play 70 = .ok (.istore 8, 2) := by decide +kernel
theorem d_X4_play_72 : decode cX4_play 72 = .ok (.iconst 0, 1) := by decide +kernel
theorem d_X4_play_73 : decode cX4_play 73 = .ok (.istore 9, 2) := by decide +kernel
theorem d_X4_play_75 : decode cX4_play 75 = .ok (.iconst 0, 1) := by decide +kernel
theorem d_X4_play_76 : decode cX4_play 76 = .ok (.istore 10, 2) := by decide +kernel
theorem d_X4_play_78 : decode cX4_play 78 = .ok (.iload 10, 2) := by decide +kernel
theorem d_X4_play_80 : decode cX4_play 80 = .ok (.iload 8, 2) := by decide +kernel
theorem d_X4_play_82 : decode cX4_play 82 = .ok (.if_icmp .ge 69, 3) := by decide +kernel
theorem d_X4_play_85 : decode cX4_play 85 = .ok (.aload_n 0, 1) := by decide +kernel
theorem d_X4_play_86 : decode cX4_play 86 = .ok (.aload_n 2, 1) := by decide +kernel
theorem d_X4_play_87 : decode cX4_play 87 = .ok (.iload 6, 2) := by decide +kernel
theorem d_X4_play_89 : decode cX4_play 89 = .ok (.iload 4, 2) := by decide +kernel
theorem d_X4_play_91 : decode cX4_play 91 = .ok (.invokevirtual 74, 3) := by decide +kernel
theorem d_X4_play_94 : decode cX4_play 94 = .ok (.ifCond .eq 48, 3) := by decide +kernel
theorem d_X4_play_97 : decode cX4_play 97 = .ok (.aload_n 0, 1) := by decide +kernel
theorem d_X4_play_98 : decode cX4_play 98 = .ok (.aload_n 2, 1) := by decide +kernel
theorem d_X4_play_99 : decode cX4_play 99 = .ok (.iload 6, 2) := by decide +kernel
theorem d_X4_play_101 : decode cX4_play 101 = .ok (.aload 7, 2) := by decide +kernel
theorem d_X4_play_103 : decode cX4_play 103 = .ok (.iload_n 3, 1) := by decide +kernel
theorem d_X4_play_104 : decode cX4_play 104 = .ok (.aload_n 0, 1) := by decide +kernel
theorem d_X4_play_105 : decode cX4_play 105 = .ok (.getfield 9, 3) := by decide +kernel
theorem d_X4_play_108 : decode cX4_play 108 = .ok (.iload 5, 2) := by decide +kernel
theorem d_X4_play_110 : decode cX4_play 110 = .ok (.invokestatic 70, 3) := by decide +kernel
theorem d_X4_play_113 : decode cX4_play 113 = .ok (.invokevirtual 78, 3) := by decide +kernel
theorem d_X4_play_116 : decode cX4_play 116 = .ok (.ifCond .eq 26, 3) := by decide +kernel
theorem d_X4_play_119 : decode cX4_play 119 = .ok (.aload_n 0, 1) := by decide +kernel
theorem d_X4_play_120 : decode cX4_play 120 = .ok (.getfield 9, 3) := by decide +kernel
theorem d_X4_play_123 : decode cX4_play 123 = .ok (.iload 5, 2) := by decide +kernel
theorem d_X4_play_125 : decode cX4_play 125 = .ok (.aload_n 0, 1) := by decide +kernel
theorem d_X4_play_126 : decode cX4_play 126 = .ok (.getfield 9, 3) := by decide +kernel
theorem d_X4_play_129 : decode cX4_play 129 = .ok (.iload 5, 2) := by decide +kernel
theorem d_X4_play_131 : decode cX4_play 131 = .ok (.invokestatic 70, 3) := by decide +kernel
theorem d_X4_play_134 : decode cX4_play 134 = .ok (.iconst 1, 1) := by decide +kernel
theorem d_X4_play_135 : decode cX4_play 135 = .ok (.iadd, 1) := by decide +kernel
theorem d_X4_play_136 : decode cX4_play 136 = .ok (.invokestatic 54, 3) := by decide +kernel
theorem d_X4_play_139 : decode cX4_play 139 = .ok (.iinc 9 1, 3) := by decide +kernel
theorem d_X4_play_142 : decode cX4_play 142 = .ok (.iinc 5 1, 3) := by decide +kernel
theorem d_X4_play_145 : decode cX4_play 145 = .ok (.iinc 10 1, 3) := by decide +kernel
theorem d_X4_play_148 : decode cX4_play 148 = .ok (.goto (-70), 3) := by decide +kernel
theorem d_X4_play_151 : decode cX4_play 151 = .ok (.aload_n 0, 1) := by decide +kernel
theorem d_X4_play_152 : decode cX4_play 152 = .ok (.getfield 15, 3) := by decide +kernel
theorem d_X4_play_155 : decode cX4_play 155 = .ok (.iload_n 3, 1) := by decide +kernel
theorem d_X4_play_156 : decode cX4_play 156 = .ok (.bipush 6, 2) := by decide +kernel
theorem d_X4_play_158 : decode cX4_play 158 = .ok (.imul, 1) := by decide +kernel
theorem d_X4_play_159 : decode cX4_play 159 = .ok (.iload 6, 2) := by decide +kernel
theorem d_X4_play_161 : decode cX4_play 161 = .ok (.iadd, 1) := by decide +kernel
theorem d_X4_play_162 : decode cX4_play 162 = .ok (.iload 9, 2) := by decide +kernel
theorem d_X4_play_164 : decode cX4_play 164 = .ok (.invokestatic 54, 3) := by decide +kernel
theorem d_X4_play_167 : decode cX4_play 167 = .ok (.iinc 6 1, 3) := by decide +kernel
theorem d_X4_play_170 : decode cX4_play 170 = .ok (.goto (-126), 3) := by decide +kernel
theorem d_X4_play_173 : decode cX4_play 173 = .ok (.return_, 1) := by decide +kernel
def j_X4_play_142_78 (p0 : Nat) (p2 : Nat) (p3 : Int32) (p4 : Int32) (v5 : Int32) (p6 : Int32) (p7 : Option Nat) (p8 : Int32) (v9 : Int32) (v10 : Int32) (h : AH) : Option (((Int32 × Int32 × Int32) ⊕ (Int32 × Int32)) × AH) := some (.inl (v5 + 1, v9, v10 + 1), h)
theorem tj_X4_play_142_78 {g : GP} {X : MX} {mcR msR : Nat} (hF : gF g = true) (hX : Cx g RX4 cX4_play 4 mcR msR none [] X) {Q : State → Prop} {p0 : Nat} {p2 : Nat} {p3 : Int32} {p4 : Int32} {v5 : Int32} {p6 : Int32} {p7 : Option Nat} {p8 : Int32} {v9 : Int32} {v10 : Int32} (hl_0 : LAY p0 = (0, 4)) (hl_1 : LAY p2 = (0, 8)) {h hz : AH} {z : ((Int32 × Int32 × Int32) ⊕ (Int32 × Int32))} (e : j_X4_play_142_78 p0 p2 p3 p4 v5 p6 p7 p8 v9 v10 h = some (z, hz)) (kI : ∀ (s2 : (Int32 × Int32 × Int32)), z = .inl s2 → AR g X 0 0 Q hz 78 [.ref p0, .ref 13, .ref p2, .int p3, .int p4, .int s2.1, .int p6, rfV p7, .int p8, .int s2.2.1, .int s2.2.2] []) (kE0 : ∀ (yy : (Int32 × Int32)) (y7 : Value) (y8 : Value) (y10 : Value), z = .inr yy → AR g X 0 0 Q hz 151 [.ref p0, .ref 13, .ref p2, .int p3, .int p4, .int yy.1, .int p6, y7, y8, .int yy.2, y10] []) : AR g X 0 0 Q h 142 [.ref p0, .ref 13, .ref p2, .int p3, .int p4, .int v5, .int p6, rfV p7, .int p8, .int v9, .int v10] [] := by
  unfold j_X4_play_142_78 at e
  refine aw_iinc (i := 5) (lv2 := [.ref p0, .ref 13, .ref p2, .int p3, .int p4, .int (v5 + 1), .int p6, rfV p7, .int p8, .int v9, .int v10]) hX rfl rfl rfl rfl d_X4_play_142 ?_
  refine aw_iinc (i := 10) (lv2 := [.ref p0, .ref 13, .ref p2, .int p3, .int p4, .int (v5 + 1), .int p6, rfV p7, .int p8, .int v9, .int (v10 + 1)]) hX rfl rfl rfl rfl d_X4_play_145 ?_
  refine aw_goto (t := 78) hX (by decide) d_X4_play_148 ?_
  cases e
  exact kI (v5 + 1, v9, v10 + 1)  rfl
def l_X4_play_78 (p0 : Nat) (p2 : Nat) (p3 : Int32) (p4 : Int32) (p6 : Int32) (p7 : Option Nat) (p8 : Int32) (s : (Int32 × Int32 × Int32)) (h : AH) : Option (((Int32 × Int32 × Int32) ⊕ (Int32 × Int32)) × AH) := if p8 ≤ s.2.2 then some (.inr (s.1, s.2.1), h) else bd (s_X4_canCome p0 (some p2) p6 p4 h) fun q6 => if q6.1 = 0 then j_X4_play_142_78 p0 p2 p3 p4 s.1 p6 p7 p8 s.2.1 s.2.2 q6.2 else bd (s_X9_at (some (p0 + 1)) s.1 q6.2) fun x7 => bd (s_X4_comes p0 (some p2) p6 p7 p3 x7 q6.2) fun q8 => if q8.1 = 0 then j_X4_play_142_78 p0 p2 p3 p4 s.1 p6 p7 p8 s.2.1 s.2.2 q8.2 else bd (s_X9_at (some (p0 + 1)) s.1 q8.2) fun x9 => bd (s_X9_put (some (p0 + 1)) s.1 (x9 + 1) q8.2) fun q10 => j_X4_play_142_78 p0 p2 p3 p4 s.1 p6 p7 p8 (s.2.1 + 1) s.2.2 q10.2
theorem tb_X4_play_78 {g : GP} {X : MX} {mcR msR : Nat} (hF : gF g = true) (hX : Cx g RX4 cX4_play 4 mcR msR none [] X) {Q : State → Prop} {p0 : Nat} {p2 : Nat} {p3 : Int32} {p4 : Int32} {p6 : Int32} {p7 : Option Nat} {p8 : Int32} {s : (Int32 × Int32 × Int32)} (hl_0 : LAY p0 = (0, 4)) (hl_1 : LAY p2 = (0, 8)) {h hz : AH} {z : ((Int32 × Int32 × Int32) ⊕ (Int32 × Int32))} (e : l_X4_play_78 p0 p2 p3 p4 p6 p7 p8 s h = some (z, hz)) (kI : ∀ (s2 : (Int32 × Int32 × Int32)), z = .inl s2 → AR g X 0 0 Q hz 78 [.ref p0, .ref 13, .ref p2, .int p3, .int p4, .int s2.1, .int p6, rfV p7, .int p8, .int s2.2.1, .int s2.2.2] []) (kE0 : ∀ (yy : (Int32 × Int32)) (y7 : Value) (y8 : Value) (y10 : Value), z = .inr yy → AR g X 0 0 Q hz 151 [.ref p0, .ref 13, .ref p2, .int p3, .int p4, .int yy.1, .int p6, y7, y8, .int yy.2, y10] []) : AR g X 0 0 Q h 78 [.ref p0, .ref 13, .ref p2, .int p3, .int p4, .int s.1, .int p6, rfV p7, .int p8, .int s.2.1, .int s.2.2] [] := by
  unfold l_X4_play_78 at e
  refine aw_iload (i := 10) hX rfl d_X4_play_78 ?_
  refine aw_iload (i := 8) hX rfl d_X4_play_80 ?_
  refine aw_icmp_ge (t := 151) hX (by decide) d_X4_play_82 (fun c => ?_) (fun c => ?_)
  · rw [if_pos c] at e
    cases e
    exact kE0 (s.1, s.2.1) _ _ _ rfl
  · rw [if_neg c] at e
    refine aw_aload_n (i := 0) hX rfl rfl d_X4_play_85 ?_
    refine aw_aload_n (i := 2) hX rfl rfl d_X4_play_86 ?_
    refine aw_iload (i := 6) hX rfl d_X4_play_87 ?_
    refine aw_iload (i := 4) hX rfl d_X4_play_89 ?_
    obtain ⟨q6, f_591, e_591⟩ := bd_some e
    clear e
    refine aw_callV (b := p0) (av := [.ref p2, .int p6, .int p4]) (avr := [.int p4, .int p6, .ref p2]) hX (k_X4_canCome (cx_g hX) hF f_591) mi_X4_canCome rfl rfl w_341 w_342 w_343 (by decide) (by assumption) (LAY_lt (by assumption) (by decide)) rfl rfl (Nat.le_of_ble_eq_true rfl) (Nat.zero_le _) (Nat.zero_le _) d_X4_play_91 ?_
    refine aw_if_eq (t := 142) hX (by decide) d_X4_play_94 (fun c => ?_) (fun c => ?_)
    · rw [if_pos c] at e_591
      exact tj_X4_play_142_78 hF hX (by assumption) (by assumption) e_591 kI kE0
    · rw [if_neg c] at e_591
      refine aw_aload_n (i := 0) hX rfl rfl d_X4_play_97 ?_
      refine aw_aload_n (i := 2) hX rfl rfl d_X4_play_98 ?_
      refine aw_iload (i := 6) hX rfl d_X4_play_99 ?_
      refine aw_aloadO (i := 7) (o := p7) hX rfl d_X4_play_101 ?_
      refine aw_iload_n (i := 3) hX rfl rfl d_X4_play_103 ?_
      refine aw_aload_n (i := 0) hX rfl rfl d_X4_play_104 ?_
      refine ar_getF hX hF fg_RX4_9 (by assumption) d_X4_play_105 ?_
      refine aw_iload (i := 5) hX rfl d_X4_play_108 ?_
      obtain ⟨x7, f_592, e_592⟩ := bd_some e_591
      clear e_591
      refine aw_callSN (av := [.ref (p0 + 1), .int s.1]) (avr := [.int s.1, .ref (p0 + 1)]) (st := [.int p3, rfV p7, .int p6, .ref p2, .ref p0]) hX (k_X9_at (cx_g hX) hF f_592) mi_X9_at rfl rfl nx36 w_6 (by decide) (by simp only [stW, List.map_cons, List.map_nil, rfV_cat, List.sum_cons, List.sum_nil]; exact Nat.le_of_ble_eq_true rfl) (Nat.zero_le _) (Nat.zero_le _) d_X4_play_110 ?_
      obtain ⟨q8, f_593, e_593⟩ := bd_some e_592
      clear e_592
      refine aw_callV (b := p0) (av := [.ref p2, .int p6, rfV p7, .int p3, .int x7]) (avr := [.int x7, .int p3, rfV p7, .int p6, .ref p2]) hX (k_X4_comes (cx_g hX) hF f_593) mi_X4_comes rfl rfl w_345 w_346 w_347 (by decide) (by assumption) (LAY_lt (by assumption) (by decide)) rfl rfl (Nat.le_of_ble_eq_true rfl) (Nat.zero_le _) (Nat.zero_le _) d_X4_play_113 ?_
      refine aw_if_eq (t := 142) hX (by decide) d_X4_play_116 (fun c => ?_) (fun c => ?_)
      · rw [if_pos c] at e_593
        exact tj_X4_play_142_78 hF hX (by assumption) (by assumption) e_593 kI kE0
      · rw [if_neg c] at e_593
        refine aw_aload_n (i := 0) hX rfl rfl d_X4_play_119 ?_
        refine ar_getF hX hF fg_RX4_9 (by assumption) d_X4_play_120 ?_
        refine aw_iload (i := 5) hX rfl d_X4_play_123 ?_
        refine aw_aload_n (i := 0) hX rfl rfl d_X4_play_125 ?_
        refine ar_getF hX hF fg_RX4_9 (by assumption) d_X4_play_126 ?_
        refine aw_iload (i := 5) hX rfl d_X4_play_129 ?_
        obtain ⟨x9, f_594, e_594⟩ := bd_some e_593
        clear e_593
        refine aw_callSN (av := [.ref (p0 + 1), .int s.1]) (avr := [.int s.1, .ref (p0 + 1)]) hX (k_X9_at (cx_g hX) hF f_594) mi_X9_at rfl rfl nx36 w_6 (by decide) (Nat.le_of_ble_eq_true rfl) (Nat.zero_le _) (Nat.zero_le _) d_X4_play_131 ?_
        refine aw_iconst (v := 1) hX (by decide) d_X4_play_134 ?_
        refine aw_iadd hX d_X4_play_135 ?_
        obtain ⟨q10, f_595, e_595⟩ := bd_some e_594
        clear e_594
        refine aw_callSN (av := [.ref (p0 + 1), .int s.1, .int (x9 + 1)]) (avr := [.int (x9 + 1), .int s.1, .ref (p0 + 1)]) hX (k_X9_put (cx_g hX) hF f_595) mi_X9_put rfl rfl nx35 w_83 (by decide) (Nat.le_of_ble_eq_true rfl) (Nat.zero_le _) (Nat.zero_le _) d_X4_play_136 ?_
        refine aw_iinc (i := 9) (lv2 := [.ref p0, .ref 13, .ref p2, .int p3, .int p4, .int s.1, .int p6, rfV p7, .int p8, .int (s.2.1 + 1), .int s.2.2]) hX rfl rfl rfl rfl d_X4_play_139 ?_
        exact tj_X4_play_142_78 hF hX (by assumption) (by assumption) e_595 kI kE0
theorem ti_X4_play_78 {g : GP} {X : MX} {mcR msR : Nat} (hF : gF g = true) (hX : Cx g RX4 cX4_play 4 mcR msR none [] X) {Q : State → Prop} {p0 : Nat} {p2 : Nat} {p3 : Int32} {p4 : Int32} {p6 : Int32} {p7 : Option Nat} {p8 : Int32} (hl_0 : LAY p0 = (0, 4)) (hl_1 : LAY p2 = (0, 8)) {y : (Int32 × Int32)} {hz : AH} (kE0 : ∀ (y_7 : Value) (y_8 : Value) (y_10 : Value), AR g X 0 0 Q hz 151 [.ref p0, .ref 13, .ref p2, .int p3, .int p4, .int y.1, .int p6, y_7, y_8, .int y.2, y_10] []) (n : Nat) : ∀ (s : (Int32 × Int32 × Int32)) (h : AH), lpH (l_X4_play_78 p0 p2 p3 p4 p6 p7 p8) n s h = some (y, hz) → AR g X 0 0 Q h 78 [.ref p0, .ref 13, .ref p2, .int p3, .int p4, .int s.1, .int p6, rfV p7, .int p8, .int s.2.1, .int s.2.2] [] := by
  induction n with
  | zero => intro s h e; cases e
  | succ n ih =>
    intro s h e
    obtain ⟨x, h1, e1, e2⟩ := lpH_succ e
    rcases e2 with ⟨s2, rfl, e3⟩ | ⟨rfl, rfl⟩
    · exact tb_X4_play_78 hF hX hl_0 hl_1 e1 (fun s3  hs => by cases hs; exact ih _  _ e3) (fun yy x0 x1 x2 hy => by cases hy)
    · exact tb_X4_play_78 hF hX hl_0 hl_1 e1 (fun s3  hs => by cases hs) (fun yy x0 x1 x2 hy => by cases hy; exact kE0 x0 x1 x2)
theorem t_X4_play_78 {g : GP} {X : MX} {mcR msR : Nat} (hF : gF g = true) (hX : Cx g RX4 cX4_play 4 mcR msR none [] X) {Q : State → Prop} {p0 : Nat} {p2 : Nat} {p3 : Int32} {p4 : Int32} {p6 : Int32} {p7 : Option Nat} {p8 : Int32} (hl_0 : LAY p0 = (0, 4)) (hl_1 : LAY p2 = (0, 8)) {s : (Int32 × Int32 × Int32)} {h hz : AH} {n : Nat} {y : (Int32 × Int32)} (e : lpH (l_X4_play_78 p0 p2 p3 p4 p6 p7 p8) n s h = some (y, hz)) (kE0 : ∀ (y_7 : Value) (y_8 : Value) (y_10 : Value), AR g X 0 0 Q hz 151 [.ref p0, .ref 13, .ref p2, .int p3, .int p4, .int y.1, .int p6, y_7, y_8, .int y.2, y_10] []) : AR g X 0 0 Q h 78 [.ref p0, .ref 13, .ref p2, .int p3, .int p4, .int s.1, .int p6, rfV p7, .int p8, .int s.2.1, .int s.2.2] [] := ti_X4_play_78 hF hX hl_0 hl_1 kE0 n _  _ e
def l_X4_play_44 (p0 : Nat) (p2 : Nat) (p3 : Int32) (p4 : Int32) (s : (Int32 × Int32)) (h : AH) : Option (((Int32 × Int32) ⊕ Unit) × AH) := if (gI h p2 3) ≤ s.2 then some (.inr (), h) else bd (s_X0_planBoughtBy s.2 h) fun x4 => bd (s_X9_at (some (p2 + 4)) s.2 h) fun x5 => bd (lpH (l_X4_play_78 p0 p2 p3 p4 s.2 x4 x5) FU (s.1, 0, 0) h) fun y11 => bd (s_X9_put (some (p0 + 2)) ((p3 * 6) + s.2) y11.1.2 y11.2) fun q13 => some (.inl (y11.1.1, s.2 + 1), q13.2)
theorem tb_X4_play_44 {g : GP} {X : MX} {mcR msR : Nat} (hF : gF g = true) (hX : Cx g RX4 cX4_play 4 mcR msR none [] X) {Q : State → Prop} {p0 : Nat} {p2 : Nat} {p3 : Int32} {p4 : Int32} {s : (Int32 × Int32)} (hl_0 : LAY p0 = (0, 4)) (hl_1 : LAY p2 = (0, 8)) {d7 : Value} {d8 : Value} {d9 : Value} {d10 : Value} {h hz : AH} {z : ((Int32 × Int32) ⊕ Unit)} (e : l_X4_play_44 p0 p2 p3 p4 s h = some (z, hz)) (kI : ∀ (s2 : (Int32 × Int32)) (xd7 : Value) (xd8 : Value) (xd9 : Value) (xd10 : Value), z = .inl s2 → AR g X 0 0 Q hz 44 [.ref p0, .ref 13, .ref p2, .int p3, .int p4, .int s2.1, .int s2.2, xd7, xd8, xd9, xd10] []) (kE0 : ∀ (yy : Unit) (y0 : Value) (y1 : Value) (y2 : Value) (y3 : Value) (y4 : Value) (y5 : Value) (y6 : Value) (y7 : Value) (y8 : Value) (y9 : Value) (y10 : Value), z = .inr yy → AR g X 0 0 Q hz 173 [y0, y1, y2, y3, y4, y5, y6, y7, y8, y9, y10] []) : AR g X 0 0 Q h 44 [.ref p0, .ref 13, .ref p2, .int p3, .int p4, .int s.1, .int s.2, d7, d8, d9, d10] [] := by
  unfold l_X4_play_44 at e
  refine aw_iload (i := 6) hX rfl d_X4_play_44 ?_
  refine aw_aload_n (i := 2) hX rfl rfl d_X4_play_46 ?_
  refine ar_getI hX fg_RX4_58 (by assumption) d_X4_play_47 ?_
  refine aw_icmp_ge (t := 173) hX (by decide) d_X4_play_50 (fun c => ?_) (fun c => ?_)
  · rw [if_pos c] at e
    cases e
    exact kE0 () _ _ _ _ _ _ _ _ _ _ _ rfl
  · rw [if_neg c] at e
    refine aw_aload_n (i := 1) hX rfl rfl d_X4_play_53 ?_
    refine aw_iload (i := 6) hX rfl d_X4_play_54 ?_
    obtain ⟨x4, f_596, e_596⟩ := bd_some e
    clear e
    refine aw_callV (b := 13) (av := [.int s.2]) (avr := [.int s.2]) hX (k_X0_planBoughtBy (cx_g hX) hF f_596) mi_X0_planBoughtBy rfl rfl w_338 w_128 w_129 (by decide) rfl (LAY_lt rfl (by decide)) rfl rfl (Nat.le_of_ble_eq_true rfl) (Nat.zero_le _) (Nat.zero_le _) d_X4_play_56 ?_
    refine aw_astoreO (i := 7) (lv2 := [.ref p0, .ref 13, .ref p2, .int p3, .int p4, .int s.1, .int s.2, rfV x4, d8, d9, d10]) hX rfl rfl d_X4_play_59 ?_
    refine aw_aload_n (i := 2) hX rfl rfl d_X4_play_61 ?_
    refine ar_getF hX hF fg_RX4_67 (by assumption) d_X4_play_62 ?_
    refine aw_iload (i := 6) hX rfl d_X4_play_65 ?_
    obtain ⟨x5, f_597, e_597⟩ := bd_some e_596
    clear e_596
    refine aw_callSN (av := [.ref (p2 + 4), .int s.2]) (avr := [.int s.2, .ref (p2 + 4)]) hX (k_X9_at (cx_g hX) hF f_597) mi_X9_at rfl rfl nx36 w_6 (by decide) (Nat.le_of_ble_eq_true rfl) (Nat.zero_le _) (Nat.zero_le _) d_X4_play_67 ?_
    refine aw_istore (i := 8) (lv2 := [.ref p0, .ref 13, .ref p2, .int p3, .int p4, .int s.1, .int s.2, rfV x4, .int x5, d9, d10]) hX (by show List.set (List.set _ _ (uncV (rfV _))) _ _ = _; rw [uncV_rfV]; rfl) rfl d_X4_play_70 ?_
    refine aw_iconst (v := 0) hX (by decide) d_X4_play_72 ?_
    refine aw_istore (i := 9) (lv2 := [.ref p0, .ref 13, .ref p2, .int p3, .int p4, .int s.1, .int s.2, rfV x4, .int x5, .int 0, d10]) hX rfl rfl d_X4_play_73 ?_
    refine aw_iconst (v := 0) hX (by decide) d_X4_play_75 ?_
    refine aw_istore (i := 10) (lv2 := [.ref p0, .ref 13, .ref p2, .int p3, .int p4, .int s.1, .int s.2, rfV x4, .int x5, .int 0, .int 0]) hX rfl rfl d_X4_play_76 ?_
    obtain ⟨y11, f_598, e_598⟩ := bd_some e_597
    clear e_597
    refine t_X4_play_78 hF hX (by assumption) (by assumption) f_598 (fun d12_7 d12_8 d12_10 => ?_)
    refine aw_aload_n (i := 0) hX rfl rfl d_X4_play_151 ?_
    refine ar_getF hX hF fg_RX4_15 (by assumption) d_X4_play_152 ?_
    refine aw_iload_n (i := 3) hX rfl rfl d_X4_play_155 ?_
    refine aw_bipush (v := 6) hX (by decide) d_X4_play_156 ?_
    refine aw_imul hX d_X4_play_158 ?_
    refine aw_iload (i := 6) hX rfl d_X4_play_159 ?_
    refine aw_iadd hX d_X4_play_161 ?_
    refine aw_iload (i := 9) hX rfl d_X4_play_162 ?_
    obtain ⟨q13, f_599, e_599⟩ := bd_some e_598
    clear e_598
    refine aw_callSN (av := [.ref (p0 + 2), .int ((p3 * 6) + s.2), .int y11.1.2]) (avr := [.int y11.1.2, .int ((p3 * 6) + s.2), .ref (p0 + 2)]) hX (k_X9_put (cx_g hX) hF f_599) mi_X9_put rfl rfl nx35 w_83 (by decide) (Nat.le_of_ble_eq_true rfl) (Nat.zero_le _) (Nat.zero_le _) d_X4_play_164 ?_
    refine aw_iinc (i := 6) (lv2 := [.ref p0, .ref 13, .ref p2, .int p3, .int p4, .int y11.1.1, .int (s.2 + 1), d12_7, d12_8, .int y11.1.2, d12_10]) hX rfl rfl rfl rfl d_X4_play_167 ?_
    refine aw_goto (t := 44) hX (by decide) d_X4_play_170 ?_
    cases e_599
    exact kI (y11.1.1, s.2 + 1) _ _ _ _ rfl
theorem ti_X4_play_44 {g : GP} {X : MX} {mcR msR : Nat} (hF : gF g = true) (hX : Cx g RX4 cX4_play 4 mcR msR none [] X) {Q : State → Prop} {p0 : Nat} {p2 : Nat} {p3 : Int32} {p4 : Int32} (hl_0 : LAY p0 = (0, 4)) (hl_1 : LAY p2 = (0, 8)) {y : Unit} {hz : AH} (kE0 : ∀ (y_0 : Value) (y_1 : Value) (y_2 : Value) (y_3 : Value) (y_4 : Value) (y_5 : Value) (y_6 : Value) (y_7 : Value) (y_8 : Value) (y_9 : Value) (y_10 : Value), AR g X 0 0 Q hz 173 [y_0, y_1, y_2, y_3, y_4, y_5, y_6, y_7, y_8, y_9, y_10] []) (n : Nat) : ∀ (s : (Int32 × Int32)) (d7 : Value) (d8 : Value) (d9 : Value) (d10 : Value) (h : AH), lpH (l_X4_play_44 p0 p2 p3 p4) n s h = some (y, hz) → AR g X 0 0 Q h 44 [.ref p0, .ref 13, .ref p2, .int p3, .int p4, .int s.1, .int s.2, d7, d8, d9, d10] [] := by
  induction n with
  | zero => intro s d7 d8 d9 d10 h e; cases e
  | succ n ih =>
    intro s d7 d8 d9 d10 h e
    obtain ⟨x, h1, e1, e2⟩ := lpH_succ e
    rcases e2 with ⟨s2, rfl, e3⟩ | ⟨rfl, rfl⟩
    · exact tb_X4_play_44 hF hX hl_0 hl_1 e1 (fun s3 x0 x1 x2 x3 hs => by cases hs; exact ih _ _ _ _ _ _ e3) (fun yy x0 x1 x2 x3 x4 x5 x6 x7 x8 x9 x10 hy => by cases hy)
    · exact tb_X4_play_44 hF hX hl_0 hl_1 e1 (fun s3 x0 x1 x2 x3 hs => by cases hs) (fun yy x0 x1 x2 x3 x4 x5 x6 x7 x8 x9 x10 hy => by cases hy; exact kE0 x0 x1 x2 x3 x4 x5 x6 x7 x8 x9 x10)
theorem t_X4_play_44 {g : GP} {X : MX} {mcR msR : Nat} (hF : gF g = true) (hX : Cx g RX4 cX4_play 4 mcR msR none [] X) {Q : State → Prop} {p0 : Nat} {p2 : Nat} {p3 : Int32} {p4 : Int32} (hl_0 : LAY p0 = (0, 4)) (hl_1 : LAY p2 = (0, 8)) {s : (Int32 × Int32)} {d7 : Value} {d8 : Value} {d9 : Value} {d10 : Value} {h hz : AH} {n : Nat} {y : Unit} (e : lpH (l_X4_play_44 p0 p2 p3 p4) n s h = some (y, hz)) (kE0 : ∀ (y_0 : Value) (y_1 : Value) (y_2 : Value) (y_3 : Value) (y_4 : Value) (y_5 : Value) (y_6 : Value) (y_7 : Value) (y_8 : Value) (y_9 : Value) (y_10 : Value), AR g X 0 0 Q hz 173 [y_0, y_1, y_2, y_3, y_4, y_5, y_6, y_7, y_8, y_9, y_10] []) : AR g X 0 0 Q h 44 [.ref p0, .ref 13, .ref p2, .int p3, .int p4, .int s.1, .int s.2, d7, d8, d9, d10] [] := ti_X4_play_44 hF hX hl_0 hl_1 kE0 n _ _ _ _ _ _ e
def j_X4_play_35 (v0 : Nat) (v2 : Nat) (v3 : Int32) (v4 : Int32) (k0 : Int32) (k1 : Int32) (k2 : Nat) (h : AH) : Option (Unit × AH) := bd (s_X9_put (some k2) k1 k0 h) fun q3 => bd (lpH (l_X4_play_44 v0 v2 v3 v4) FU (0, 0) q3.2) fun y14 => some ((), y14.2)
theorem tj_X4_play_35 {g : GP} {X : MX} {mcR msR : Nat} (hF : gF g = true) (hX : Cx g RX4 cX4_play 4 mcR msR none [] X) {v0 : Nat} {v2 : Nat} {v3 : Int32} {v4 : Int32} {k0 : Int32} {k1 : Int32} {k2 : Nat} (hl_0 : LAY v0 = (0, 4)) (hl_1 : LAY v2 = (0, 8)) {d5 : Value} {d6 : Value} {d7 : Value} {d8 : Value} {d9 : Value} {d10 : Value} {h hz : AH} {z : Unit} (e : j_X4_play_35 v0 v2 v3 v4 k0 k1 k2 h = some (z, hz)) : AR g X 0 0 (QQ g X NT false hz (.inl none) 0 0) h 35 [.ref v0, .ref 13, .ref v2, .int v3, .int v4, d5, d6, d7, d8, d9, d10] [.int k0, .int k1, .ref k2] := by
  unfold j_X4_play_35 at e
  obtain ⟨q3, f_600, e_600⟩ := bd_some e
  clear e
  refine aw_callSN (av := [.ref k2, .int k1, .int k0]) (avr := [.int k0, .int k1, .ref k2]) hX (k_X9_put (cx_g hX) hF f_600) mi_X9_put rfl rfl nx35 w_83 (by decide) (Nat.le_of_ble_eq_true rfl) (Nat.zero_le _) (Nat.zero_le _) d_X4_play_35 ?_
  refine aw_iconst (v := 0) hX (by decide) d_X4_play_38 ?_
  refine aw_istore (i := 5) (lv2 := [.ref v0, .ref 13, .ref v2, .int v3, .int v4, .int 0, d6, d7, d8, d9, d10]) hX rfl rfl d_X4_play_39 ?_
  refine aw_iconst (v := 0) hX (by decide) d_X4_play_41 ?_
  refine aw_istore (i := 6) (lv2 := [.ref v0, .ref 13, .ref v2, .int v3, .int v4, .int 0, .int 0, d7, d8, d9, d10]) hX rfl rfl d_X4_play_42 ?_
  obtain ⟨y14, f_601, e_601⟩ := bd_some e_600
  clear e_600
  refine t_X4_play_44 hF hX (by assumption) (by assumption) f_601 (fun d15_0 d15_1 d15_2 d15_3 d15_4 d15_5 d15_6 d15_7 d15_8 d15_9 d15_10 => ?_)
  cases e_601
  exact aw_return hX (Nat.zero_le _) (Nat.zero_le _) d_X4_play_173
def j_X4_play_18 (v0 : Nat) (v2 : Nat) (v3 : Int32) (k0 : Int32) (h : AH) : Option (Unit × AH) := if k0 = 0 then j_X4_play_35 v0 v2 v3 k0 0 v3 (v0 + 3) h else j_X4_play_35 v0 v2 v3 k0 1 v3 (v0 + 3) h
theorem tj_X4_play_18 {g : GP} {X : MX} {mcR msR : Nat} (hF : gF g = true) (hX : Cx g RX4 cX4_play 4 mcR msR none [] X) {v0 : Nat} {v2 : Nat} {v3 : Int32} {k0 : Int32} (hl_0 : LAY v0 = (0, 4)) (hl_1 : LAY v2 = (0, 8)) {d4 : Value} {d5 : Value} {d6 : Value} {d7 : Value} {d8 : Value} {d9 : Value} {d10 : Value} {h hz : AH} {z : Unit} (e : j_X4_play_18 v0 v2 v3 k0 h = some (z, hz)) : AR g X 0 0 (QQ g X NT false hz (.inl none) 0 0) h 18 [.ref v0, .ref 13, .ref v2, .int v3, d4, d5, d6, d7, d8, d9, d10] [.int k0] := by
  unfold j_X4_play_18 at e
  refine aw_istore (i := 4) (lv2 := [.ref v0, .ref 13, .ref v2, .int v3, .int k0, d5, d6, d7, d8, d9, d10]) hX rfl rfl d_X4_play_18 ?_
  refine aw_aload_n (i := 0) hX rfl rfl d_X4_play_20 ?_
  refine ar_getF hX hF fg_RX4_18 (by assumption) d_X4_play_21 ?_
  refine aw_iload_n (i := 3) hX rfl rfl d_X4_play_24 ?_
  refine aw_iload (i := 4) hX rfl d_X4_play_25 ?_
  refine aw_if_eq (t := 34) hX (by decide) d_X4_play_27 (fun c => ?_) (fun c => ?_)
  · rw [if_pos c] at e
    refine aw_iconst (v := 0) hX (by decide) d_X4_play_34 ?_
    exact tj_X4_play_35 hF hX (by assumption) (by assumption) e
  · rw [if_neg c] at e
    refine aw_iconst (v := 1) hX (by decide) d_X4_play_30 ?_
    refine aw_goto (t := 35) hX (by decide) d_X4_play_31 ?_
    exact tj_X4_play_35 hF hX (by assumption) (by assumption) e
def s_X4_play (th : Nat) (a0 : Option Nat) (a1 : Option Nat) (a2 : Int32) (h : AH) : Option (Unit × AH) := if LAY th = (0, 4) then if a0 = some 13 then bd a1 fun oa1 => if LAY oa1 = (0, 8) then bd (s_X4_draw th h) fun q1 => bd (s_X8_ofEvening oa1 a2 2 q1.2) fun x2 => if x2 ≤ q1.1 then j_X4_play_18 th oa1 a2 0 q1.2 else j_X4_play_18 th oa1 a2 1 q1.2 else none else none else none
theorem t_X4_play {g : GP} {X : MX} {mcR msR : Nat} (hF : gF g = true) (hX : Cx g RX4 cX4_play 4 mcR msR none [] X) {th : Nat} {a0 : Option Nat} {a1 : Option Nat} {a2 : Int32} {h hz : AH} {z : Unit} (e : s_X4_play th a0 a1 a2 h = some (z, hz)) : AR g X 0 0 (QQ g X NT false hz (.inl none) 0 0) h 0 [.ref th, rfV a0, rfV a1, .int a2, jk, jk, jk, jk, jk, jk, jk] [] := by
  unfold s_X4_play at e
  obtain ⟨hl_this, e_602⟩ := if_some e
  clear e
  obtain ⟨rfl, e_603⟩ := if_some e_602
  clear e_602
  obtain ⟨oa1, e0, e_604⟩ := bd_some e_603
  clear e_603
  subst e0
  obtain ⟨hl_a1, e_605⟩ := if_some e_604
  clear e_604
  refine aw_aload_n (i := 0) hX rfl rfl d_X4_play_0 ?_
  obtain ⟨q1, f_606, e_606⟩ := bd_some e_605
  clear e_605
  refine aw_callV (b := th) (av := []) (avr := []) hX (k_X4_draw (cx_g hX) hF f_606) mi_X4_draw rfl rfl w_330 w_331 w_332 (by decide) (by assumption) (LAY_lt (by assumption) (by decide)) rfl rfl (Nat.le_of_ble_eq_true rfl) (Nat.zero_le _) (Nat.zero_le _) d_X4_play_1 ?_
  refine aw_aload_n (i := 2) hX rfl rfl d_X4_play_4 ?_
  refine aw_iload_n (i := 3) hX rfl rfl d_X4_play_5 ?_
  refine aw_iconst (v := 2) hX (by decide) d_X4_play_6 ?_
  obtain ⟨x2, f_607, e_607⟩ := bd_some e_606
  clear e_606
  refine aw_callV (b := oa1) (av := [.int a2, .int 2]) (avr := [.int 2, .int a2]) hX (k_X8_ofEvening (cx_g hX) hF f_607) mi_X8_ofEvening rfl rfl w_336 w_33 w_34 (by decide) (by assumption) (LAY_lt (by assumption) (by decide)) rfl rfl (Nat.le_of_ble_eq_true rfl) (Nat.zero_le _) (Nat.zero_le _) d_X4_play_7 ?_
  refine aw_icmp_ge (t := 17) hX (by decide) d_X4_play_10 (fun c => ?_) (fun c => ?_)
  · rw [if_pos c] at e_607
    refine aw_iconst (v := 0) hX (by decide) d_X4_play_17 ?_
    exact tj_X4_play_18 hF hX (by assumption) (by assumption) e_607
  · rw [if_neg c] at e_607
    refine aw_iconst (v := 1) hX (by decide) d_X4_play_13 ?_
    refine aw_goto (t := 18) hX (by decide) d_X4_play_14 ?_
    exact tj_X4_play_18 hF hX (by assumption) (by assumption) e_607
theorem k_X4_play {g : GP} (hg : g.1.stackTraces = false) (hF : gF g = true) {th : Nat} {a0 : Option Nat} {a1 : Option Nat} {a2 : Int32} {h hz : AH} {z : Unit} (e : s_X4_play th a0 a1 a2 h = some (z, hz)) : Ctr g yX4_play (wsY yX4_play cX4_play 11 none) 4 0 0 [.ref th, rfV a0, rfV a1, .int a2] NT false h none NT false hz := ctr_of (lv0 := [.ref th, rfV a0, rfV a1, .int a2, jk, jk, jk, jk, jk, jk, jk]) (by cases a0 <;> cases a1 <;> rfl) (by cases a0 <;> cases a1 <;> rfl) (by decide) hg trivial (fun X hX hn => t_X4_play hF hX e)
theorem d_X4_goOn_0 : decode cX4_goOn 0 = .ok (.iconst 0, 1) := by decide +kernel
theorem d_X4_goOn_1 : decode cX4_goOn 1 = .ok (.istore 4, 2) := by decide +kernel
theorem d_X4_goOn_3 : decode cX4_goOn 3 = .ok (.iload 4, 2) := by decide +kernel
theorem d_X4_goOn_5 : decode cX4_goOn 5 = .ok (.iload_n 3, 1) := by decide +kernel
theorem d_X4_goOn_6 : decode cX4_goOn 6 = .ok (.if_icmp .ge 29, 3) := by decide +kernel
theorem d_X4_goOn_9 : decode cX4_goOn 9 = .ok (.aload_n 0, 1) := by decide +kernel
theorem d_X4_goOn_10 : decode cX4_goOn 10 = .ok (.aload_n 1, 1) := by decide +kernel
theorem d_X4_goOn_11 : decode cX4_goOn 11 = .ok (.aload_n 2, 1) := by decide +kernel
theorem d_X4_goOn_12 : decode cX4_goOn 12 = .ok (.aload_n 0, 1) := by decide +kernel
theorem d_X4_goOn_13 : decode cX4_goOn 13 = .ok (.getfield 25, 3) := by decide +kernel
theorem d_X4_goOn_16 : decode cX4_goOn 16 = .ok (.invokevirtual 40, 3) := by decide +kernel
theorem d_X4_goOn_19 : decode cX4_goOn 19 = .ok (.aload_n 0, 1) := by decide +kernel
theorem d_X4_goOn_20 : decode cX4_goOn 20 = .ok (.dup, 1) := by decide +kernel
theorem d_X4_goOn_21 : decode cX4_goOn 21 = .ok (.getfield 25, 3) := by decide +kernel
theorem d_X4_goOn_24 : decode cX4_goOn 24 = .ok (.iconst 1, 1) := by decide +kernel
theorem d_X4_goOn_25 : decode cX4_goOn 25 = .ok (.iadd, 1) := by decide +kernel
theorem d_X4_goOn_26 : decode cX4_goOn 26 = .ok (.putfield 25, 3) := by decide +kernel
theorem d_X4_goOn_29 : decode cX4_goOn 29 = .ok (.iinc 4 1, 3) := by decide +kernel
theorem d_X4_goOn_32 : decode cX4_goOn 32 = .ok (.goto (-29), 3) := by decide +kernel
theorem d_X4_goOn_35 : decode cX4_goOn 35 = .ok (.return_, 1) := by decide +kernel
def l_X4_goOn_3 (p0 : Nat) (p2 : Nat) (p3 : Int32) (s : Int32) (h : AH) : Option ((Int32 ⊕ Unit) × AH) := if p3 ≤ s then some (.inr (), h) else bd (s_X4_play p0 (some 13) (some p2) (gI h p0 1) h) fun q1 => some (.inl (s + 1), sI q1.2 p0 1 ((gI q1.2 p0 1) + 1))
theorem tb_X4_goOn_3 {g : GP} {X : MX} {mcR msR : Nat} (hF : gF g = true) (hX : Cx g RX4 cX4_goOn 5 mcR msR none [] X) {Q : State → Prop} {p0 : Nat} {p2 : Nat} {p3 : Int32} {s : Int32} (hl_0 : LAY p0 = (0, 4)) (hl_1 : LAY p2 = (0, 8)) {h hz : AH} {z : (Int32 ⊕ Unit)} (e : l_X4_goOn_3 p0 p2 p3 s h = some (z, hz)) (kI : ∀ (s2 : Int32), z = .inl s2 → AR g X 0 0 Q hz 3 [.ref p0, .ref 13, .ref p2, .int p3, .int s2] []) (kE0 : ∀ (yy : Unit) (y0 : Value) (y1 : Value) (y2 : Value) (y3 : Value) (y4 : Value), z = .inr yy → AR g X 0 0 Q hz 35 [y0, y1, y2, y3, y4] []) : AR g X 0 0 Q h 3 [.ref p0, .ref 13, .ref p2, .int p3, .int s] [] := by
  unfold l_X4_goOn_3 at e
  refine aw_iload (i := 4) hX rfl d_X4_goOn_3 ?_
  refine aw_iload_n (i := 3) hX rfl rfl d_X4_goOn_5 ?_
  refine aw_icmp_ge (t := 35) hX (by decide) d_X4_goOn_6 (fun c => ?_) (fun c => ?_)
  · rw [if_pos c] at e
    cases e
    exact kE0 () _ _ _ _ _ rfl
  · rw [if_neg c] at e
    refine aw_aload_n (i := 0) hX rfl rfl d_X4_goOn_9 ?_
    refine aw_aload_n (i := 1) hX rfl rfl d_X4_goOn_10 ?_
    refine aw_aload_n (i := 2) hX rfl rfl d_X4_goOn_11 ?_
    refine aw_aload_n (i := 0) hX rfl rfl d_X4_goOn_12 ?_
    refine ar_getI hX fg_RX4_25 (by assumption) d_X4_goOn_13 ?_
    obtain ⟨q1, f_608, e_608⟩ := bd_some e
    clear e
    refine aw_callV (b := p0) (av := [.ref 13, .ref p2, .int (gI h p0 1)]) (avr := [.int (gI h p0 1), .ref p2, .ref 13]) hX (k_X4_play (cx_g hX) hF f_608) mi_X4_play rfl rfl w_349 w_350 w_351 (by decide) (by assumption) (LAY_lt (by assumption) (by decide)) rfl rfl (Nat.le_of_ble_eq_true rfl) (Nat.zero_le _) (Nat.zero_le _) d_X4_goOn_16 ?_
    refine aw_aload_n (i := 0) hX rfl rfl d_X4_goOn_19 ?_
    refine aw_dup hX rfl d_X4_goOn_20 ?_
    refine ar_getI hX fg_RX4_25 (by assumption) d_X4_goOn_21 ?_
    refine aw_iconst (v := 1) hX (by decide) d_X4_goOn_24 ?_
    refine aw_iadd hX d_X4_goOn_25 ?_
    refine ar_putI hX fp_RX4_25 (by assumption) d_X4_goOn_26 ?_
    refine aw_iinc (i := 4) (lv2 := [.ref p0, .ref 13, .ref p2, .int p3, .int (s + 1)]) hX rfl rfl rfl rfl d_X4_goOn_29 ?_
    refine aw_goto (t := 3) hX (by decide) d_X4_goOn_32 ?_
    cases e_608
    exact kI (s + 1)  rfl
theorem ti_X4_goOn_3 {g : GP} {X : MX} {mcR msR : Nat} (hF : gF g = true) (hX : Cx g RX4 cX4_goOn 5 mcR msR none [] X) {Q : State → Prop} {p0 : Nat} {p2 : Nat} {p3 : Int32} (hl_0 : LAY p0 = (0, 4)) (hl_1 : LAY p2 = (0, 8)) {y : Unit} {hz : AH} (kE0 : ∀ (y_0 : Value) (y_1 : Value) (y_2 : Value) (y_3 : Value) (y_4 : Value), AR g X 0 0 Q hz 35 [y_0, y_1, y_2, y_3, y_4] []) (n : Nat) : ∀ (s : Int32) (h : AH), lpH (l_X4_goOn_3 p0 p2 p3) n s h = some (y, hz) → AR g X 0 0 Q h 3 [.ref p0, .ref 13, .ref p2, .int p3, .int s] [] := by
  induction n with
  | zero => intro s h e; cases e
  | succ n ih =>
    intro s h e
    obtain ⟨x, h1, e1, e2⟩ := lpH_succ e
    rcases e2 with ⟨s2, rfl, e3⟩ | ⟨rfl, rfl⟩
    · exact tb_X4_goOn_3 hF hX hl_0 hl_1 e1 (fun s3  hs => by cases hs; exact ih _  _ e3) (fun yy x0 x1 x2 x3 x4 hy => by cases hy)
    · exact tb_X4_goOn_3 hF hX hl_0 hl_1 e1 (fun s3  hs => by cases hs) (fun yy x0 x1 x2 x3 x4 hy => by cases hy; exact kE0 x0 x1 x2 x3 x4)
theorem t_X4_goOn_3 {g : GP} {X : MX} {mcR msR : Nat} (hF : gF g = true) (hX : Cx g RX4 cX4_goOn 5 mcR msR none [] X) {Q : State → Prop} {p0 : Nat} {p2 : Nat} {p3 : Int32} (hl_0 : LAY p0 = (0, 4)) (hl_1 : LAY p2 = (0, 8)) {s : Int32} {h hz : AH} {n : Nat} {y : Unit} (e : lpH (l_X4_goOn_3 p0 p2 p3) n s h = some (y, hz)) (kE0 : ∀ (y_0 : Value) (y_1 : Value) (y_2 : Value) (y_3 : Value) (y_4 : Value), AR g X 0 0 Q hz 35 [y_0, y_1, y_2, y_3, y_4] []) : AR g X 0 0 Q h 3 [.ref p0, .ref 13, .ref p2, .int p3, .int s] [] := ti_X4_goOn_3 hF hX hl_0 hl_1 kE0 n _  _ e
def s_X4_goOn (th : Nat) (a0 : Option Nat) (a1 : Option Nat) (a2 : Int32) (h : AH) : Option (Unit × AH) := if LAY th = (0, 4) then if a0 = some 13 then bd a1 fun oa1 => if LAY oa1 = (0, 8) then bd (lpH (l_X4_goOn_3 th oa1 a2) FU 0 h) fun y2 => some ((), y2.2) else none else none else none
theorem t_X4_goOn {g : GP} {X : MX} {mcR msR : Nat} (hF : gF g = true) (hX : Cx g RX4 cX4_goOn 5 mcR msR none [] X) {th : Nat} {a0 : Option Nat} {a1 : Option Nat} {a2 : Int32} {h hz : AH} {z : Unit} (e : s_X4_goOn th a0 a1 a2 h = some (z, hz)) : AR g X 0 0 (QQ g X NT false hz (.inl none) 0 0) h 0 [.ref th, rfV a0, rfV a1, .int a2, jk] [] := by
  unfold s_X4_goOn at e
  obtain ⟨hl_this, e_609⟩ := if_some e
  clear e
  obtain ⟨rfl, e_610⟩ := if_some e_609
  clear e_609
  obtain ⟨oa1, e0, e_611⟩ := bd_some e_610
  clear e_610
  subst e0
  obtain ⟨hl_a1, e_612⟩ := if_some e_611
  clear e_611
  refine aw_iconst (v := 0) hX (by decide) d_X4_goOn_0 ?_
  refine aw_istore (i := 4) (lv2 := [.ref th, .ref 13, .ref oa1, .int a2, .int 0]) hX rfl rfl d_X4_goOn_1 ?_
  obtain ⟨y2, f_613, e_613⟩ := bd_some e_612
  clear e_612
  refine t_X4_goOn_3 hF hX (by assumption) (by assumption) f_613 (fun d3_0 d3_1 d3_2 d3_3 d3_4 => ?_)
  cases e_613
  exact aw_return hX (Nat.zero_le _) (Nat.zero_le _) d_X4_goOn_35
theorem k_X4_goOn {g : GP} (hg : g.1.stackTraces = false) (hF : gF g = true) {th : Nat} {a0 : Option Nat} {a1 : Option Nat} {a2 : Int32} {h hz : AH} {z : Unit} (e : s_X4_goOn th a0 a1 a2 h = some (z, hz)) : Ctr g yX4_goOn (wsY yX4_goOn cX4_goOn 5 none) 5 0 0 [.ref th, rfV a0, rfV a1, .int a2] NT false h none NT false hz := ctr_of (lv0 := [.ref th, rfV a0, rfV a1, .int a2, jk]) (by cases a0 <;> cases a1 <;> rfl) (by cases a0 <;> cases a1 <;> rfl) (by decide) hg trivial (fun X hX hn => t_X4_goOn hF hX e)
theorem d_X4_cameOf_0 : decode cX4_cameOf 0 = .ok (.aload_n 0, 1) := by decide +kernel
theorem d_X4_cameOf_1 : decode cX4_cameOf 1 = .ok (.getfield 15, 3) := by decide +kernel
theorem d_X4_cameOf_4 : decode cX4_cameOf 4 = .ok (.iload_n 1, 1) := by decide +kernel
theorem d_X4_cameOf_5 : decode cX4_cameOf 5 = .ok (.bipush 6, 2) := by decide +kernel
theorem d_X4_cameOf_7 : decode cX4_cameOf 7 = .ok (.imul, 1) := by decide +kernel
theorem d_X4_cameOf_8 : decode cX4_cameOf 8 = .ok (.iload_n 2, 1) := by decide +kernel
theorem d_X4_cameOf_9 : decode cX4_cameOf 9 = .ok (.iadd, 1) := by decide +kernel
theorem d_X4_cameOf_10 : decode cX4_cameOf 10 = .ok (.invokestatic 70, 3) := by decide +kernel
theorem d_X4_cameOf_13 : decode cX4_cameOf 13 = .ok (.ireturn, 1) := by decide +kernel
def s_X4_cameOf (th : Nat) (a0 : Int32) (a1 : Int32) (h : AH) : Option Int32 := if LAY th = (0, 4) then bd (s_X9_at (some (th + 2)) ((a0 * 6) + a1) h) fun x1 => some x1 else none
theorem t_X4_cameOf {g : GP} {X : MX} {mcR msR : Nat} (hF : gF g = true) (hX : Cx g RX4 cX4_cameOf 2 mcR msR (some .int) [] X) {th : Nat} {a0 : Int32} {a1 : Int32} {h : AH} {z : Int32} (e : s_X4_cameOf th a0 a1 h = some z) : AR g X 0 0 (QQ g X NT false h (.inl (some (.int z))) 0 0) h 0 [.ref th, .int a0, .int a1] [] := by
  unfold s_X4_cameOf at e
  obtain ⟨hl_this, e_614⟩ := if_some e
  clear e
  refine aw_aload_n (i := 0) hX rfl rfl d_X4_cameOf_0 ?_
  refine ar_getF hX hF fg_RX4_15 (by assumption) d_X4_cameOf_1 ?_
  refine aw_iload_n (i := 1) hX rfl rfl d_X4_cameOf_4 ?_
  refine aw_bipush (v := 6) hX (by decide) d_X4_cameOf_5 ?_
  refine aw_imul hX d_X4_cameOf_7 ?_
  refine aw_iload_n (i := 2) hX rfl rfl d_X4_cameOf_8 ?_
  refine aw_iadd hX d_X4_cameOf_9 ?_
  obtain ⟨x1, f_615, e_615⟩ := bd_some e_614
  clear e_614
  refine aw_callSN (av := [.ref (th + 2), .int ((a0 * 6) + a1)]) (avr := [.int ((a0 * 6) + a1), .ref (th + 2)]) hX (k_X9_at (cx_g hX) hF f_615) mi_X9_at rfl rfl nx36 w_6 (by decide) (Nat.le_of_ble_eq_true rfl) (Nat.zero_le _) (Nat.zero_le _) d_X4_cameOf_10 ?_
  cases e_615
  exact aw_ireturn hX (Nat.zero_le _) (Nat.zero_le _) d_X4_cameOf_13
theorem k_X4_cameOf {g : GP} (hg : g.1.stackTraces = false) (hF : gF g = true) {th : Nat} {a0 : Int32} {a1 : Int32} {h : AH} {z : Int32} (e : s_X4_cameOf th a0 a1 h = some z) : Ctr g yX4_cameOf (wsY yX4_cameOf cX4_cameOf 3 (some .int)) 2 0 0 [.ref th, .int a0, .int a1] NT false h (some (.int z)) NT false h := ctr_of (lv0 := [.ref th, .int a0, .int a1]) rfl rfl (by decide) hg trivial (fun X hX hn => t_X4_cameOf hF hX e)
theorem d_X4_cameOn_0 : decode cX4_cameOn 0 = .ok (.iconst 0, 1) := by decide +kernel
theorem d_X4_cameOn_1 : decode cX4_cameOn 1 = .ok (.istore_n 2, 1) := by decide +kernel
theorem d_X4_cameOn_2 : decode cX4_cameOn 2 = .ok (.iconst 0, 1) := by decide +kernel
theorem d_X4_cameOn_3 : decode cX4_cameOn 3 = .ok (.istore_n 3, 1) := by decide +kernel
theorem d_X4_cameOn_4 : decode cX4_cameOn 4 = .ok (.iload_n 3, 1) := by decide +kernel
theorem d_X4_cameOn_5 : decode cX4_cameOn 5 = .ok (.bipush 6, 2) := by decide +kernel
theorem d_X4_cameOn_7 : decode cX4_cameOn 7 = .ok (.if_icmp .ge 18, 3) := by decide +kernel
theorem d_X4_cameOn_10 : decode cX4_cameOn 10 = .ok (.iload_n 2, 1) := by decide +kernel
theorem d_X4_cameOn_11 : decode cX4_cameOn 11 = .ok (.aload_n 0, 1) := by decide +kernel
theorem d_X4_cameOn_12 : decode cX4_cameOn 12 = .ok (.iload_n 1, 1) := by decide +kernel
theorem d_X4_cameOn_13 : decode cX4_cameOn 13 = .ok (.iload_n 3, 1) := by decide +kernel
theorem d_X4_cameOn_14 : decode cX4_cameOn 14 = .ok (.invokevirtual 100, 3) := by decide +kernel
theorem d_X4_cameOn_17 : decode cX4_cameOn 17 = .ok (.iadd, 1) := by decide +kernel
theorem d_X4_cameOn_18 : decode cX4_cameOn 18 = .ok (.istore_n 2, 1) := by decide +kernel
theorem d_X4_cameOn_19 : decode cX4_cameOn 19 = .ok (.iinc 3 1, 3) := by decide +kernel
theorem d_X4_cameOn_22 : decode cX4_cameOn 22 = .ok (.goto (-18), 3) := by decide +kernel
theorem d_X4_cameOn_25 : decode cX4_cameOn 25 = .ok (.iload_n 2, 1) := by decide +kernel
theorem d_X4_cameOn_26 : decode cX4_cameOn 26 = .ok (.ireturn, 1) := by decide +kernel
def l_X4_cameOn_4 (p0 : Nat) (p1 : Int32) (h : AH) (s : (Int32 × Int32)) : Option ((Int32 × Int32) ⊕ Int32) := if 6 ≤ s.2 then some (.inr s.1) else bd (s_X4_cameOf p0 p1 s.2 h) fun x1 => some (.inl ((s.1 + x1), s.2 + 1))
theorem tb_X4_cameOn_4 {g : GP} {X : MX} {mcR msR : Nat} (hF : gF g = true) (hX : Cx g RX4 cX4_cameOn 3 mcR msR (some .int) [] X) {Q : State → Prop} {p0 : Nat} {p1 : Int32} {s : (Int32 × Int32)} (hl_0 : LAY p0 = (0, 4)) {h : AH} {z : ((Int32 × Int32) ⊕ Int32)} (e : l_X4_cameOn_4 p0 p1 h s = some z) (kI : ∀ (s2 : (Int32 × Int32)), z = .inl s2 → AR g X 0 0 Q h 4 [.ref p0, .int p1, .int s2.1, .int s2.2] []) (kE0 : ∀ (yy : Int32) (y0 : Value) (y1 : Value) (y3 : Value), z = .inr yy → AR g X 0 0 Q h 25 [y0, y1, .int yy, y3] []) : AR g X 0 0 Q h 4 [.ref p0, .int p1, .int s.1, .int s.2] [] := by
  unfold l_X4_cameOn_4 at e
  refine aw_iload_n (i := 3) hX rfl rfl d_X4_cameOn_4 ?_
  refine aw_bipush (v := 6) hX (by decide) d_X4_cameOn_5 ?_
  refine aw_icmp_ge (t := 25) hX (by decide) d_X4_cameOn_7 (fun c => ?_) (fun c => ?_)
  · rw [if_pos c] at e
    cases e
    exact kE0 s.1 _ _ _ rfl
  · rw [if_neg c] at e
    refine aw_iload_n (i := 2) hX rfl rfl d_X4_cameOn_10 ?_
    refine aw_aload_n (i := 0) hX rfl rfl d_X4_cameOn_11 ?_
    refine aw_iload_n (i := 1) hX rfl rfl d_X4_cameOn_12 ?_
    refine aw_iload_n (i := 3) hX rfl rfl d_X4_cameOn_13 ?_
    obtain ⟨x1, f_616, e_616⟩ := bd_some e
    clear e
    refine aw_callV (b := p0) (av := [.int p1, .int s.2]) (avr := [.int s.2, .int p1]) hX (k_X4_cameOf (cx_g hX) hF f_616) mi_X4_cameOf rfl rfl w_353 w_354 w_355 (by decide) (by assumption) (LAY_lt (by assumption) (by decide)) rfl rfl (Nat.le_of_ble_eq_true rfl) (Nat.zero_le _) (Nat.zero_le _) d_X4_cameOn_14 ?_
    refine aw_iadd hX d_X4_cameOn_17 ?_
    refine aw_istore_n (i := 2) (lv2 := [.ref p0, .int p1, .int (s.1 + x1), .int s.2]) hX rfl rfl rfl d_X4_cameOn_18 ?_
    refine aw_iinc (i := 3) (lv2 := [.ref p0, .int p1, .int (s.1 + x1), .int (s.2 + 1)]) hX rfl rfl rfl rfl d_X4_cameOn_19 ?_
    refine aw_goto (t := 4) hX (by decide) d_X4_cameOn_22 ?_
    cases e_616
    exact kI ((s.1 + x1), s.2 + 1)  rfl
theorem ti_X4_cameOn_4 {g : GP} {X : MX} {mcR msR : Nat} (hF : gF g = true) (hX : Cx g RX4 cX4_cameOn 3 mcR msR (some .int) [] X) {Q : State → Prop} {p0 : Nat} {p1 : Int32} (hl_0 : LAY p0 = (0, 4)) {y : Int32} {h : AH} (kE0 : ∀ (y_0 : Value) (y_1 : Value) (y_3 : Value), AR g X 0 0 Q h 25 [y_0, y_1, .int y, y_3] []) (n : Nat) : ∀ (s : (Int32 × Int32)), lpP (l_X4_cameOn_4 p0 p1 h) n s = some y → AR g X 0 0 Q h 4 [.ref p0, .int p1, .int s.1, .int s.2] [] := by
  induction n with
  | zero => intro s e; cases e
  | succ n ih =>
    intro s e
    obtain ⟨x, e1, e2⟩ := lpP_succ e
    rcases e2 with ⟨s2, rfl, e3⟩ | rfl
    · exact tb_X4_cameOn_4 hF hX hl_0 e1 (fun s3  hs => by cases hs; exact ih _   e3) (fun yy x0 x1 x2 hy => by cases hy)
    · exact tb_X4_cameOn_4 hF hX hl_0 e1 (fun s3  hs => by cases hs) (fun yy x0 x1 x2 hy => by cases hy; exact kE0 x0 x1 x2)
theorem t_X4_cameOn_4 {g : GP} {X : MX} {mcR msR : Nat} (hF : gF g = true) (hX : Cx g RX4 cX4_cameOn 3 mcR msR (some .int) [] X) {Q : State → Prop} {p0 : Nat} {p1 : Int32} (hl_0 : LAY p0 = (0, 4)) {s : (Int32 × Int32)} {h : AH} {n : Nat} {y : Int32} (e : lpP (l_X4_cameOn_4 p0 p1 h) n s = some y) (kE0 : ∀ (y_0 : Value) (y_1 : Value) (y_3 : Value), AR g X 0 0 Q h 25 [y_0, y_1, .int y, y_3] []) : AR g X 0 0 Q h 4 [.ref p0, .int p1, .int s.1, .int s.2] [] := ti_X4_cameOn_4 hF hX hl_0 kE0 n _   e
def s_X4_cameOn (th : Nat) (a0 : Int32) (h : AH) : Option Int32 := if LAY th = (0, 4) then bd (lpP (l_X4_cameOn_4 th a0 h) FU (0, 0)) fun y2 => some y2 else none
theorem t_X4_cameOn {g : GP} {X : MX} {mcR msR : Nat} (hF : gF g = true) (hX : Cx g RX4 cX4_cameOn 3 mcR msR (some .int) [] X) {th : Nat} {a0 : Int32} {h : AH} {z : Int32} (e : s_X4_cameOn th a0 h = some z) : AR g X 0 0 (QQ g X NT false h (.inl (some (.int z))) 0 0) h 0 [.ref th, .int a0, jk, jk] [] := by
  unfold s_X4_cameOn at e
  obtain ⟨hl_this, e_617⟩ := if_some e
  clear e
  refine aw_iconst (v := 0) hX (by decide) d_X4_cameOn_0 ?_
  refine aw_istore_n (i := 2) (lv2 := [.ref th, .int a0, .int 0, jk]) hX rfl rfl rfl d_X4_cameOn_1 ?_
  refine aw_iconst (v := 0) hX (by decide) d_X4_cameOn_2 ?_
  refine aw_istore_n (i := 3) (lv2 := [.ref th, .int a0, .int 0, .int 0]) hX rfl rfl rfl d_X4_cameOn_3 ?_
  obtain ⟨y2, f_618, e_618⟩ := bd_some e_617
  clear e_617
  refine t_X4_cameOn_4 hF hX (by assumption) f_618 (fun d3_0 d3_1 d3_3 => ?_)
  refine aw_iload_n (i := 2) hX rfl rfl d_X4_cameOn_25 ?_
  cases e_618
  exact aw_ireturn hX (Nat.zero_le _) (Nat.zero_le _) d_X4_cameOn_26
theorem k_X4_cameOn {g : GP} (hg : g.1.stackTraces = false) (hF : gF g = true) {th : Nat} {a0 : Int32} {h : AH} {z : Int32} (e : s_X4_cameOn th a0 h = some z) : Ctr g yX4_cameOn (wsY yX4_cameOn cX4_cameOn 4 (some .int)) 3 0 0 [.ref th, .int a0] NT false h (some (.int z)) NT false h := ctr_of (lv0 := [.ref th, .int a0, jk, jk]) rfl rfl (by decide) hg trivial (fun X hX hn => t_X4_cameOn hF hX e)
theorem d_X4_coinsOn_0 : decode cX4_coinsOn 0 = .ok (.iconst 0, 1) := by decide +kernel
theorem d_X4_coinsOn_1 : decode cX4_coinsOn 1 = .ok (.istore 4, 2) := by decide +kernel
theorem d_X4_coinsOn_3 : decode cX4_coinsOn 3 = .ok (.iconst 0, 1) := by decide +kernel
theorem d_X4_coinsOn_4 : decode cX4_coinsOn 4 = .ok (.istore 5, 2) := by decide +kernel
theorem d_X4_coinsOn_6 : decode cX4_coinsOn 6 = .ok (.iload 5, 2) := by decide +kernel
theorem d_X4_coinsOn_8 : decode cX4_coinsOn 8 = .ok (.aload_n 2, 1) := by decide +kernel
theorem d_X4_coinsOn_9 : decode cX4_coinsOn 9 = .ok (.getfield 58, 3) := by decide +kernel
theorem d_X4_coinsOn_12 : decode cX4_coinsOn 12 = .ok (.if_icmp .ge 37, 3) := by decide +kernel
theorem d_X4_coinsOn_15 : decode cX4_coinsOn 15 = .ok (.iload 4, 2) := by decide +kernel
theorem d_X4_coinsOn_17 : decode cX4_coinsOn 17 = .ok (.aload_n 1, 1) := by decide +kernel
theorem d_X4_coinsOn_18 : decode cX4_coinsOn 18 = .ok (.getfield 103, 3) := by decide +kernel
theorem d_X4_coinsOn_21 : decode cX4_coinsOn 21 = .ok (.iload 5, 2) := by decide +kernel
theorem d_X4_coinsOn_23 : decode cX4_coinsOn 23 = .ok (.invokestatic 70, 3) := by decide +kernel
theorem d_X4_coinsOn_26 : decode cX4_coinsOn 26 = .ok (.ifCond .ne 13, 3) := by decide +kernel
theorem d_X4_coinsOn_29 : decode cX4_coinsOn 29 = .ok (.aload_n 0, 1) := by decide +kernel
theorem d_X4_coinsOn_30 : decode cX4_coinsOn 30 = .ok (.iload_n 3, 1) := by decide +kernel
theorem d_X4_coinsOn_31 : decode cX4_coinsOn 31 = .ok (.iload 5, 2) := by decide +kernel
theorem d_X4_coinsOn_33 : decode cX4_coinsOn 33 = .ok (.invokevirtual 100, 3) := by decide +kernel
theorem d_X4_coinsOn_36 : decode cX4_coinsOn 36 = .ok (.goto 4, 3) := by decide +kernel
theorem d_X4_coinsOn_39 : decode cX4_coinsOn 39 = .ok (.iconst 0, 1) := by decide +kernel
theorem d_X4_coinsOn_40 : decode cX4_coinsOn 40 = .ok (.iadd, 1) := by decide +kernel
theorem d_X4_coinsOn_41 : decode cX4_coinsOn 41 = .ok (.istore 4, 2) := by decide +kernel
theorem d_X4_coinsOn_43 : decode cX4_coinsOn 43 = .ok (.iinc 5 1, 3) := by decide +kernel
theorem d_X4_coinsOn_46 : decode cX4_coinsOn 46 = .ok (.goto (-40), 3) := by decide +kernel
theorem d_X4_coinsOn_49 : decode cX4_coinsOn 49 = .ok (.iload 4, 2) := by decide +kernel
theorem d_X4_coinsOn_51 : decode cX4_coinsOn 51 = .ok (.aload_n 2, 1) := by decide +kernel
theorem d_X4_coinsOn_52 : decode cX4_coinsOn 52 = .ok (.iload_n 3, 1) := by decide +kernel
theorem d_X4_coinsOn_53 : decode cX4_coinsOn 53 = .ok (.iconst 1, 1) := by decide +kernel
theorem d_X4_coinsOn_54 : decode cX4_coinsOn 54 = .ok (.invokevirtual 48, 3) := by decide +kernel
theorem d_X4_coinsOn_57 : decode cX4_coinsOn 57 = .ok (.imul, 1) := by decide +kernel
theorem d_X4_coinsOn_58 : decode cX4_coinsOn 58 = .ok (.ireturn, 1) := by decide +kernel
def j_X4_coinsOn_40_6 (p0 : Nat) (p2 : Nat) (p3 : Int32) (v5 : Int32) (k0 : Int32) (k1 : Int32) (h : AH) : Option ((Int32 × Int32) ⊕ Int32) := some (.inl ((k1 + k0), v5 + 1))
theorem tj_X4_coinsOn_40_6 {g : GP} {X : MX} {mcR msR : Nat} (hF : gF g = true) (hX : Cx g RX4 cX4_coinsOn 3 mcR msR (some .int) [] X) {Q : State → Prop} {p0 : Nat} {p2 : Nat} {p3 : Int32} {v5 : Int32} {k0 : Int32} {k1 : Int32} (hl_0 : LAY p0 = (0, 4)) (hl_1 : LAY p2 = (0, 8)) {d4 : Value} {h : AH} {z : ((Int32 × Int32) ⊕ Int32)} (e : j_X4_coinsOn_40_6 p0 p2 p3 v5 k0 k1 h = some z) (kI : ∀ (s2 : (Int32 × Int32)), z = .inl s2 → AR g X 0 0 Q h 6 [.ref p0, .ref 13, .ref p2, .int p3, .int s2.1, .int s2.2] []) (kE0 : ∀ (yy : Int32) (y0 : Value) (y1 : Value) (y5 : Value), z = .inr yy → AR g X 0 0 Q h 49 [y0, y1, .ref p2, .int p3, .int yy, y5] []) : AR g X 0 0 Q h 40 [.ref p0, .ref 13, .ref p2, .int p3, d4, .int v5] [.int k0, .int k1] := by
  unfold j_X4_coinsOn_40_6 at e
  refine aw_iadd hX d_X4_coinsOn_40 ?_
  refine aw_istore (i := 4) (lv2 := [.ref p0, .ref 13, .ref p2, .int p3, .int (k1 + k0), .int v5]) hX rfl rfl d_X4_coinsOn_41 ?_
  refine aw_iinc (i := 5) (lv2 := [.ref p0, .ref 13, .ref p2, .int p3, .int (k1 + k0), .int (v5 + 1)]) hX rfl rfl rfl rfl d_X4_coinsOn_43 ?_
  refine aw_goto (t := 6) hX (by decide) d_X4_coinsOn_46 ?_
  cases e
  exact kI ((k1 + k0), v5 + 1)  rfl
def l_X4_coinsOn_6 (p0 : Nat) (p2 : Nat) (p3 : Int32) (h : AH) (s : (Int32 × Int32)) : Option ((Int32 × Int32) ⊕ Int32) := if (gI h p2 3) ≤ s.2 then some (.inr s.1) else bd (s_X9_at (some 14) s.2 h) fun x1 => if x1 = 0 then bd (s_X4_cameOf p0 p3 s.2 h) fun x2 => j_X4_coinsOn_40_6 p0 p2 p3 s.2 x2 s.1 h else j_X4_coinsOn_40_6 p0 p2 p3 s.2 0 s.1 h
theorem tb_X4_coinsOn_6 {g : GP} {X : MX} {mcR msR : Nat} (hF : gF g = true) (hX : Cx g RX4 cX4_coinsOn 3 mcR msR (some .int) [] X) {Q : State → Prop} {p0 : Nat} {p2 : Nat} {p3 : Int32} {s : (Int32 × Int32)} (hl_0 : LAY p0 = (0, 4)) (hl_1 : LAY p2 = (0, 8)) {h : AH} {z : ((Int32 × Int32) ⊕ Int32)} (e : l_X4_coinsOn_6 p0 p2 p3 h s = some z) (kI : ∀ (s2 : (Int32 × Int32)), z = .inl s2 → AR g X 0 0 Q h 6 [.ref p0, .ref 13, .ref p2, .int p3, .int s2.1, .int s2.2] []) (kE0 : ∀ (yy : Int32) (y0 : Value) (y1 : Value) (y5 : Value), z = .inr yy → AR g X 0 0 Q h 49 [y0, y1, .ref p2, .int p3, .int yy, y5] []) : AR g X 0 0 Q h 6 [.ref p0, .ref 13, .ref p2, .int p3, .int s.1, .int s.2] [] := by
  unfold l_X4_coinsOn_6 at e
  refine aw_iload (i := 5) hX rfl d_X4_coinsOn_6 ?_
  refine aw_aload_n (i := 2) hX rfl rfl d_X4_coinsOn_8 ?_
  refine ar_getI hX fg_RX4_58 (by assumption) d_X4_coinsOn_9 ?_
  refine aw_icmp_ge (t := 49) hX (by decide) d_X4_coinsOn_12 (fun c => ?_) (fun c => ?_)
  · rw [if_pos c] at e
    cases e
    exact kE0 s.1 _ _ _ rfl
  · rw [if_neg c] at e
    refine aw_iload (i := 4) hX rfl d_X4_coinsOn_15 ?_
    refine aw_aload_n (i := 1) hX rfl rfl d_X4_coinsOn_17 ?_
    refine ar_getF hX hF fg_RX4_103 rfl d_X4_coinsOn_18 ?_
    show AR g X 0 0 _ _ 21 _ [.ref 14, .int s.1]
    refine aw_iload (i := 5) hX rfl d_X4_coinsOn_21 ?_
    obtain ⟨x1, f_619, e_619⟩ := bd_some e
    clear e
    refine aw_callSN (av := [.ref 14, .int s.2]) (avr := [.int s.2, .ref 14]) hX (k_X9_at (cx_g hX) hF f_619) mi_X9_at rfl rfl nx36 w_6 (by decide) (Nat.le_of_ble_eq_true rfl) (Nat.zero_le _) (Nat.zero_le _) d_X4_coinsOn_23 ?_
    refine aw_if_ne (t := 39) hX (by decide) d_X4_coinsOn_26 (fun c => ?_) (fun c => ?_)
    · rw [if_neg c] at e_619
      refine aw_iconst (v := 0) hX (by decide) d_X4_coinsOn_39 ?_
      exact tj_X4_coinsOn_40_6 hF hX (by assumption) (by assumption) e_619 kI kE0
    · rw [if_pos c] at e_619
      refine aw_aload_n (i := 0) hX rfl rfl d_X4_coinsOn_29 ?_
      refine aw_iload_n (i := 3) hX rfl rfl d_X4_coinsOn_30 ?_
      refine aw_iload (i := 5) hX rfl d_X4_coinsOn_31 ?_
      obtain ⟨x2, f_620, e_620⟩ := bd_some e_619
      clear e_619
      refine aw_callV (b := p0) (av := [.int p3, .int s.2]) (avr := [.int s.2, .int p3]) hX (k_X4_cameOf (cx_g hX) hF f_620) mi_X4_cameOf rfl rfl w_353 w_354 w_355 (by decide) (by assumption) (LAY_lt (by assumption) (by decide)) rfl rfl (Nat.le_of_ble_eq_true rfl) (Nat.zero_le _) (Nat.zero_le _) d_X4_coinsOn_33 ?_
      refine aw_goto (t := 40) hX (by decide) d_X4_coinsOn_36 ?_
      exact tj_X4_coinsOn_40_6 hF hX (by assumption) (by assumption) e_620 kI kE0
theorem ti_X4_coinsOn_6 {g : GP} {X : MX} {mcR msR : Nat} (hF : gF g = true) (hX : Cx g RX4 cX4_coinsOn 3 mcR msR (some .int) [] X) {Q : State → Prop} {p0 : Nat} {p2 : Nat} {p3 : Int32} (hl_0 : LAY p0 = (0, 4)) (hl_1 : LAY p2 = (0, 8)) {y : Int32} {h : AH} (kE0 : ∀ (y_0 : Value) (y_1 : Value) (y_5 : Value), AR g X 0 0 Q h 49 [y_0, y_1, .ref p2, .int p3, .int y, y_5] []) (n : Nat) : ∀ (s : (Int32 × Int32)), lpP (l_X4_coinsOn_6 p0 p2 p3 h) n s = some y → AR g X 0 0 Q h 6 [.ref p0, .ref 13, .ref p2, .int p3, .int s.1, .int s.2] [] := by
  induction n with
  | zero => intro s e; cases e
  | succ n ih =>
    intro s e
    obtain ⟨x, e1, e2⟩ := lpP_succ e
    rcases e2 with ⟨s2, rfl, e3⟩ | rfl
    · exact tb_X4_coinsOn_6 hF hX hl_0 hl_1 e1 (fun s3  hs => by cases hs; exact ih _   e3) (fun yy x0 x1 x2 hy => by cases hy)
    · exact tb_X4_coinsOn_6 hF hX hl_0 hl_1 e1 (fun s3  hs => by cases hs) (fun yy x0 x1 x2 hy => by cases hy; exact kE0 x0 x1 x2)
theorem t_X4_coinsOn_6 {g : GP} {X : MX} {mcR msR : Nat} (hF : gF g = true) (hX : Cx g RX4 cX4_coinsOn 3 mcR msR (some .int) [] X) {Q : State → Prop} {p0 : Nat} {p2 : Nat} {p3 : Int32} (hl_0 : LAY p0 = (0, 4)) (hl_1 : LAY p2 = (0, 8)) {s : (Int32 × Int32)} {h : AH} {n : Nat} {y : Int32} (e : lpP (l_X4_coinsOn_6 p0 p2 p3 h) n s = some y) (kE0 : ∀ (y_0 : Value) (y_1 : Value) (y_5 : Value), AR g X 0 0 Q h 49 [y_0, y_1, .ref p2, .int p3, .int y, y_5] []) : AR g X 0 0 Q h 6 [.ref p0, .ref 13, .ref p2, .int p3, .int s.1, .int s.2] [] := ti_X4_coinsOn_6 hF hX hl_0 hl_1 kE0 n _   e
def s_X4_coinsOn (th : Nat) (a0 : Option Nat) (a1 : Option Nat) (a2 : Int32) (h : AH) : Option Int32 := if LAY th = (0, 4) then if a0 = some 13 then bd a1 fun oa1 => if LAY oa1 = (0, 8) then bd (lpP (l_X4_coinsOn_6 th oa1 a2 h) FU (0, 0)) fun y3 => bd (s_X8_ofEvening oa1 a2 1 h) fun x5 => some (y3 * x5) else none else none else none
theorem t_X4_coinsOn {g : GP} {X : MX} {mcR msR : Nat} (hF : gF g = true) (hX : Cx g RX4 cX4_coinsOn 3 mcR msR (some .int) [] X) {th : Nat} {a0 : Option Nat} {a1 : Option Nat} {a2 : Int32} {h : AH} {z : Int32} (e : s_X4_coinsOn th a0 a1 a2 h = some z) : AR g X 0 0 (QQ g X NT false h (.inl (some (.int z))) 0 0) h 0 [.ref th, rfV a0, rfV a1, .int a2, jk, jk] [] := by
  unfold s_X4_coinsOn at e
  obtain ⟨hl_this, e_621⟩ := if_some e
  clear e
  obtain ⟨rfl, e_622⟩ := if_some e_621
  clear e_621
  obtain ⟨oa1, e0, e_623⟩ := bd_some e_622
  clear e_622
  subst e0
  obtain ⟨hl_a1, e_624⟩ := if_some e_623
  clear e_623
  refine aw_iconst (v := 0) hX (by decide) d_X4_coinsOn_0 ?_
  refine aw_istore (i := 4) (lv2 := [.ref th, .ref 13, .ref oa1, .int a2, .int 0, jk]) hX rfl rfl d_X4_coinsOn_1 ?_
  refine aw_iconst (v := 0) hX (by decide) d_X4_coinsOn_3 ?_
  refine aw_istore (i := 5) (lv2 := [.ref th, .ref 13, .ref oa1, .int a2, .int 0, .int 0]) hX rfl rfl d_X4_coinsOn_4 ?_
  obtain ⟨y3, f_625, e_625⟩ := bd_some e_624
  clear e_624
  refine t_X4_coinsOn_6 hF hX (by assumption) (by assumption) f_625 (fun d4_0 d4_1 d4_5 => ?_)
  refine aw_iload (i := 4) hX rfl d_X4_coinsOn_49 ?_
  refine aw_aload_n (i := 2) hX rfl rfl d_X4_coinsOn_51 ?_
  refine aw_iload_n (i := 3) hX rfl rfl d_X4_coinsOn_52 ?_
  refine aw_iconst (v := 1) hX (by decide) d_X4_coinsOn_53 ?_
  obtain ⟨x5, f_626, e_626⟩ := bd_some e_625
  clear e_625
  refine aw_callV (b := oa1) (av := [.int a2, .int 1]) (avr := [.int 1, .int a2]) hX (k_X8_ofEvening (cx_g hX) hF f_626) mi_X8_ofEvening rfl rfl w_336 w_33 w_34 (by decide) (by assumption) (LAY_lt (by assumption) (by decide)) rfl rfl (Nat.le_of_ble_eq_true rfl) (Nat.zero_le _) (Nat.zero_le _) d_X4_coinsOn_54 ?_
  refine aw_imul hX d_X4_coinsOn_57 ?_
  cases e_626
  exact aw_ireturn hX (Nat.zero_le _) (Nat.zero_le _) d_X4_coinsOn_58
theorem k_X4_coinsOn {g : GP} (hg : g.1.stackTraces = false) (hF : gF g = true) {th : Nat} {a0 : Option Nat} {a1 : Option Nat} {a2 : Int32} {h : AH} {z : Int32} (e : s_X4_coinsOn th a0 a1 a2 h = some z) : Ctr g yX4_coinsOn (wsY yX4_coinsOn cX4_coinsOn 6 (some .int)) 3 0 0 [.ref th, rfV a0, rfV a1, .int a2] NT false h (some (.int z)) NT false h := ctr_of (lv0 := [.ref th, rfV a0, rfV a1, .int a2, jk, jk]) (by cases a0 <;> cases a1 <;> rfl) (by cases a0 <;> cases a1 <;> rfl) (by decide) hg trivial (fun X hX hn => t_X4_coinsOn hF hX e)
