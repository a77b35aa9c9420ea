/-! 31.modelb: functions and contracts, by program -/
theorem d_X10_evening_0 : decode cX10_evening 0 = .ok (.aload_n 0, 1) := by decide +kernel
theorem d_X10_evening_1 : decode cX10_evening 1 = .ok (.iconst 0, 1) := by decide +kernel
theorem d_X10_evening_2 : decode cX10_evening 2 = .ok (.putfield 133, 3) := by decide +kernel
theorem d_X10_evening_5 : decode cX10_evening 5 = .ok (.aload_n 0, 1) := by decide +kernel
theorem d_X10_evening_6 : decode cX10_evening 6 = .ok (.iload_n 1, 1) := by decide +kernel
theorem d_X10_evening_7 : decode cX10_evening 7 = .ok (.invokevirtual 302, 3) := by decide +kernel
theorem d_X10_evening_10 : decode cX10_evening 10 = .ok (.ifCond .eq 30, 3) := by decide +kernel
theorem d_X10_evening_13 : decode cX10_evening 13 = .ok (.aload_n 0, 1) := by decide +kernel
theorem d_X10_evening_14 : decode cX10_evening 14 = .ok (.iload_n 2, 1) := by decide +kernel
theorem d_X10_evening_15 : decode cX10_evening 15 = .ok (.iconst 0, 1) := by decide +kernel
theorem d_X10_evening_16 : decode cX10_evening 16 = .ok (.iconst 3, 1) := by decide +kernel
theorem d_X10_evening_17 : decode cX10_evening 17 = .ok (.invokestatic 295, 3) := by decide +kernel
theorem d_X10_evening_20 : decode cX10_evening 20 = .ok (.iconst 1, 1) := by decide +kernel
theorem d_X10_evening_21 : decode cX10_evening 21 = .ok (.invokevirtual 253, 3) := by decide +kernel
theorem d_X10_evening_24 : decode cX10_evening 24 = .ok (.ifCond .eq 16, 3) := by decide +kernel
theorem d_X10_evening_27 : decode cX10_evening 27 = .ok (.aload_n 0, 1) := by decide +kernel
theorem d_X10_evening_28 : decode cX10_evening 28 = .ok (.getfield 13, 3) := by decide +kernel
theorem d_X10_evening_31 : decode cX10_evening 31 = .ok (.iconst 4, 1) := by decide +kernel
theorem d_X10_evening_32 : decode cX10_evening 32 = .ok (.iload_n 1, 1) := by decide +kernel
theorem d_X10_evening_33 : decode cX10_evening 33 = .ok (.imul, 1) := by decide +kernel
theorem d_X10_evening_34 : decode cX10_evening 34 = .ok (.iload_n 2, 1) := by decide +kernel
theorem d_X10_evening_35 : decode cX10_evening 35 = .ok (.iadd, 1) := by decide +kernel
theorem d_X10_evening_36 : decode cX10_evening 36 = .ok (.iaload, 1) := by decide +kernel
theorem d_X10_evening_37 : decode cX10_evening 37 = .ok (.goto 4, 3) := by decide +kernel
theorem d_X10_evening_40 : decode cX10_evening 40 = .ok (.iconst 0, 1) := by decide +kernel
theorem d_X10_evening_41 : decode cX10_evening 41 = .ok (.ireturn, 1) := by decide +kernel
def s_X10_evening (a0 : Int32) (a1 : Int32) (h : AH) : Option (Int32 × AH) := bd (s_X10_isEvening a0 (sI h 240 0 0)) fun q1 => if q1.1 = 0 then some (0, q1.2) else bd (s_X10_within a1 0 3 q1.2) fun x2 => bd (s_X10_right x2 1 q1.2) fun q3 => if q3.1 = 0 then some (0, q3.2) else bd (ldI q3.2 241 ((4 * a0) + a1)) fun x4 => some (x4, q3.2)
theorem t_X10_evening {g : GP} {X : MX} {mcR msR : Nat} (hF : gF g = true) (hX : Cx g RX10 cX10_evening 3 mcR msR (some .int) [] X) {a0 : Int32} {a1 : Int32} {h hz : AH} {z : Int32} (e : s_X10_evening a0 a1 h = some (z, hz)) : AR g X 0 0 (QQ g X NT false hz (.inl (some (.int z))) 0 0) h 0 [.ref 240, .int a0, .int a1] [] := by
  unfold s_X10_evening at e
  refine aw_aload_n (i := 0) hX rfl rfl d_X10_evening_0 ?_
  refine aw_iconst (v := 0) hX (by decide) d_X10_evening_1 ?_
  refine ar_putI hX fp_RX10_133 rfl d_X10_evening_2 ?_
  refine aw_aload_n (i := 0) hX rfl rfl d_X10_evening_5 ?_
  refine aw_iload_n (i := 1) hX rfl rfl d_X10_evening_6 ?_
  obtain ⟨q1, f_1217, e_1217⟩ := bd_some e
  clear e
  refine aw_callV (b := 240) (av := [.int a0]) (avr := [.int a0]) hX (k_X10_isEvening (cx_g hX) hF f_1217) mi_X10_isEvening rfl rfl w_807 w_808 w_809 (by decide) rfl (LAY_lt rfl (by decide)) rfl rfl (Nat.le_of_ble_eq_true rfl) (Nat.zero_le _) (Nat.zero_le _) d_X10_evening_7 ?_
  refine aw_if_eq (t := 40) hX (by decide) d_X10_evening_10 (fun c => ?_) (fun c => ?_)
  · rw [if_pos c] at e_1217
    refine aw_iconst (v := 0) hX (by decide) d_X10_evening_40 ?_
    cases e_1217
    exact aw_ireturn hX (Nat.zero_le _) (Nat.zero_le _) d_X10_evening_41
  · rw [if_neg c] at e_1217
    refine aw_aload_n (i := 0) hX rfl rfl d_X10_evening_13 ?_
    refine aw_iload_n (i := 2) hX rfl rfl d_X10_evening_14 ?_
    refine aw_iconst (v := 0) hX (by decide) d_X10_evening_15 ?_
    refine aw_iconst (v := 3) hX (by decide) d_X10_evening_16 ?_
    obtain ⟨x2, f_1218, e_1218⟩ := bd_some e_1217
    clear e_1217
    refine aw_callS (av := [.int a1, .int 0, .int 3]) (avr := [.int 3, .int 0, .int a1]) hX (k_X10_within (cx_g hX) hF f_1218) mi_X10_within rfl rfl w_800 w_801 rfl (by decide) (Nat.le_of_ble_eq_true rfl) (Nat.zero_le _) (Nat.zero_le _) d_X10_evening_17 ?_
    refine aw_iconst (v := 1) hX (by decide) d_X10_evening_20 ?_
    obtain ⟨q3, f_1219, e_1219⟩ := bd_some e_1218
    clear e_1218
    refine aw_callV (b := 240) (av := [.int x2, .int 1]) (avr := [.int 1, .int x2]) hX (k_X10_right (cx_g hX) hF f_1219) mi_X10_right rfl rfl w_772 w_773 w_774 (by decide) rfl (LAY_lt rfl (by decide)) rfl rfl (Nat.le_of_ble_eq_true rfl) (Nat.zero_le _) (Nat.zero_le _) d_X10_evening_21 ?_
    refine aw_if_eq (t := 40) hX (by decide) d_X10_evening_24 (fun c => ?_) (fun c => ?_)
    · rw [if_pos c] at e_1219
      refine aw_iconst (v := 0) hX (by decide) d_X10_evening_40 ?_
      cases e_1219
      exact aw_ireturn hX (Nat.zero_le _) (Nat.zero_le _) d_X10_evening_41
    · rw [if_neg c] at e_1219
      refine aw_aload_n (i := 0) hX rfl rfl d_X10_evening_27 ?_
      refine ar_getF hX hF fg_RX10_13 rfl d_X10_evening_28 ?_
      show AR g X 0 0 _ _ 31 _ [.ref 241]
      refine aw_iconst (v := 4) hX (by decide) d_X10_evening_31 ?_
      refine aw_iload_n (i := 1) hX rfl rfl d_X10_evening_32 ?_
      refine aw_imul hX d_X10_evening_33 ?_
      refine aw_iload_n (i := 2) hX rfl rfl d_X10_evening_34 ?_
      refine aw_iadd hX d_X10_evening_35 ?_
      obtain ⟨x4, f_1220, e_1220⟩ := bd_some e_1219
      clear e_1219
      refine ar_iaload hX f_1220 d_X10_evening_36 ?_
      refine aw_goto (t := 41) hX (by decide) d_X10_evening_37 ?_
      cases e_1220
      exact aw_ireturn hX (Nat.zero_le _) (Nat.zero_le _) d_X10_evening_41
theorem k_X10_evening {g : GP} (hg : g.1.stackTraces = false) (hF : gF g = true) {a0 : Int32} {a1 : Int32} {h hz : AH} {z : Int32} (e : s_X10_evening a0 a1 h = some (z, hz)) : Ctr g yX10_evening (wsY yX10_evening cX10_evening 3 (some .int)) 3 0 0 [.ref 240, .int a0, .int a1] NT false h (some (.int z)) NT false hz := ctr_of (lv0 := [.ref 240, .int a0, .int a1]) rfl rfl (by decide) hg trivial (fun X hX hn => t_X10_evening hF hX e)
theorem d_X10_kind_0 : decode cX10_kind 0 = .ok (.aload_n 0, 1) := by decide +kernel
theorem d_X10_kind_1 : decode cX10_kind 1 = .ok (.iconst 0, 1) := by decide +kernel
theorem d_X10_kind_2 : decode cX10_kind 2 = .ok (.putfield 133, 3) := by decide +kernel
theorem d_X10_kind_5 : decode cX10_kind 5 = .ok (.aload_n 0, 1) := by decide +kernel
theorem d_X10_kind_6 : decode cX10_kind 6 = .ok (.iload_n 1, 1) := by decide +kernel
theorem d_X10_kind_7 : decode cX10_kind 7 = .ok (.invokevirtual 305, 3) := by decide +kernel
theorem d_X10_kind_10 : decode cX10_kind 10 = .ok (.ifCond .eq 27, 3) := by decide +kernel
theorem d_X10_kind_13 : decode cX10_kind 13 = .ok (.aload_n 0, 1) := by decide +kernel
theorem d_X10_kind_14 : decode cX10_kind 14 = .ok (.iload_n 2, 1) := by decide +kernel
theorem d_X10_kind_15 : decode cX10_kind 15 = .ok (.iconst 0, 1) := by decide +kernel
theorem d_X10_kind_16 : decode cX10_kind 16 = .ok (.bipush 10, 2) := by decide +kernel
theorem d_X10_kind_18 : decode cX10_kind 18 = .ok (.invokestatic 295, 3) := by decide +kernel
theorem d_X10_kind_21 : decode cX10_kind 21 = .ok (.iconst 1, 1) := by decide +kernel
theorem d_X10_kind_22 : decode cX10_kind 22 = .ok (.invokevirtual 253, 3) := by decide +kernel
theorem d_X10_kind_25 : decode cX10_kind 25 = .ok (.ifCond .eq 12, 3) := by decide +kernel
theorem d_X10_kind_28 : decode cX10_kind 28 = .ok (.aload_n 0, 1) := by decide +kernel
theorem d_X10_kind_29 : decode cX10_kind 29 = .ok (.iload_n 1, 1) := by decide +kernel
theorem d_X10_kind_30 : decode cX10_kind 30 = .ok (.iload_n 2, 1) := by decide +kernel
theorem d_X10_kind_31 : decode cX10_kind 31 = .ok (.invokevirtual 292, 3) := by decide +kernel
theorem d_X10_kind_34 : decode cX10_kind 34 = .ok (.goto 4, 3) := by decide +kernel
theorem d_X10_kind_37 : decode cX10_kind 37 = .ok (.iconst 0, 1) := by decide +kernel
theorem d_X10_kind_38 : decode cX10_kind 38 = .ok (.ireturn, 1) := by decide +kernel
def s_X10_kind (a0 : Int32) (a1 : Int32) (h : AH) : Option (Int32 × AH) := bd (s_X10_isKind a0 (sI h 240 0 0)) fun q1 => if q1.1 = 0 then some (0, q1.2) else bd (s_X10_within a1 0 10 q1.2) fun x2 => bd (s_X10_right x2 1 q1.2) fun q3 => if q3.1 = 0 then some (0, q3.2) else bd (s_X10_of a0 a1 q3.2) fun x4 => some (x4, q3.2)
theorem t_X10_kind {g : GP} {X : MX} {mcR msR : Nat} (hF : gF g = true) (hX : Cx g RX10 cX10_kind 3 mcR msR (some .int) [] X) {a0 : Int32} {a1 : Int32} {h hz : AH} {z : Int32} (e : s_X10_kind a0 a1 h = some (z, hz)) : AR g X 0 0 (QQ g X NT false hz (.inl (some (.int z))) 0 0) h 0 [.ref 240, .int a0, .int a1] [] := by
  unfold s_X10_kind at e
  refine aw_aload_n (i := 0) hX rfl rfl d_X10_kind_0 ?_
  refine aw_iconst (v := 0) hX (by decide) d_X10_kind_1 ?_
  refine ar_putI hX fp_RX10_133 rfl d_X10_kind_2 ?_
  refine aw_aload_n (i := 0) hX rfl rfl d_X10_kind_5 ?_
  refine aw_iload_n (i := 1) hX rfl rfl d_X10_kind_6 ?_
  obtain ⟨q1, f_1221, e_1221⟩ := bd_some e
  clear e
  refine aw_callV (b := 240) (av := [.int a0]) (avr := [.int a0]) hX (k_X10_isKind (cx_g hX) hF f_1221) mi_X10_isKind rfl rfl w_811 w_812 w_813 (by decide) rfl (LAY_lt rfl (by decide)) rfl rfl (Nat.le_of_ble_eq_true rfl) (Nat.zero_le _) (Nat.zero_le _) d_X10_kind_7 ?_
  refine aw_if_eq (t := 37) hX (by decide) d_X10_kind_10 (fun c => ?_) (fun c => ?_)
  · rw [if_pos c] at e_1221
    refine aw_iconst (v := 0) hX (by decide) d_X10_kind_37 ?_
    cases e_1221
    exact aw_ireturn hX (Nat.zero_le _) (Nat.zero_le _) d_X10_kind_38
  · rw [if_neg c] at e_1221
    refine aw_aload_n (i := 0) hX rfl rfl d_X10_kind_13 ?_
    refine aw_iload_n (i := 2) hX rfl rfl d_X10_kind_14 ?_
    refine aw_iconst (v := 0) hX (by decide) d_X10_kind_15 ?_
    refine aw_bipush (v := 10) hX (by decide) d_X10_kind_16 ?_
    obtain ⟨x2, f_1222, e_1222⟩ := bd_some e_1221
    clear e_1221
    refine aw_callS (av := [.int a1, .int 0, .int 10]) (avr := [.int 10, .int 0, .int a1]) hX (k_X10_within (cx_g hX) hF f_1222) mi_X10_within rfl rfl w_800 w_801 rfl (by decide) (Nat.le_of_ble_eq_true rfl) (Nat.zero_le _) (Nat.zero_le _) d_X10_kind_18 ?_
    refine aw_iconst (v := 1) hX (by decide) d_X10_kind_21 ?_
    obtain ⟨q3, f_1223, e_1223⟩ := bd_some e_1222
    clear e_1222
    refine aw_callV (b := 240) (av := [.int x2, .int 1]) (avr := [.int 1, .int x2]) hX (k_X10_right (cx_g hX) hF f_1223) mi_X10_right rfl rfl w_772 w_773 w_774 (by decide) rfl (LAY_lt rfl (by decide)) rfl rfl (Nat.le_of_ble_eq_true rfl) (Nat.zero_le _) (Nat.zero_le _) d_X10_kind_22 ?_
    refine aw_if_eq (t := 37) hX (by decide) d_X10_kind_25 (fun c => ?_) (fun c => ?_)
    · rw [if_pos c] at e_1223
      refine aw_iconst (v := 0) hX (by decide) d_X10_kind_37 ?_
      cases e_1223
      exact aw_ireturn hX (Nat.zero_le _) (Nat.zero_le _) d_X10_kind_38
    · rw [if_neg c] at e_1223
      refine aw_aload_n (i := 0) hX rfl rfl d_X10_kind_28 ?_
      refine aw_iload_n (i := 1) hX rfl rfl d_X10_kind_29 ?_
      refine aw_iload_n (i := 2) hX rfl rfl d_X10_kind_30 ?_
      obtain ⟨x4, f_1224, e_1224⟩ := bd_some e_1223
      clear e_1223
      refine aw_callV (b := 240) (av := [.int a0, .int a1]) (avr := [.int a1, .int a0]) hX (k_X10_of (cx_g hX) hF f_1224) mi_X10_of rfl rfl w_732 w_733 w_734 (by decide) rfl (LAY_lt rfl (by decide)) rfl rfl (Nat.le_of_ble_eq_true rfl) (Nat.zero_le _) (Nat.zero_le _) d_X10_kind_31 ?_
      refine aw_goto (t := 38) hX (by decide) d_X10_kind_34 ?_
      cases e_1224
      exact aw_ireturn hX (Nat.zero_le _) (Nat.zero_le _) d_X10_kind_38
theorem k_X10_kind {g : GP} (hg : g.1.stackTraces = false) (hF : gF g = true) {a0 : Int32} {a1 : Int32} {h hz : AH} {z : Int32} (e : s_X10_kind a0 a1 h = some (z, hz)) : Ctr g yX10_kind (wsY yX10_kind cX10_kind 3 (some .int)) 3 0 0 [.ref 240, .int a0, .int a1] NT false h (some (.int z)) NT false hz := ctr_of (lv0 := [.ref 240, .int a0, .int a1]) rfl rfl (by decide) hg trivial (fun X hX hn => t_X10_kind hF hX e)
theorem d_X10_price_0 : decode cX10_price 0 = .ok (.aload_n 0, 1) := by decide +kernel
theorem d_X10_price_1 : decode cX10_price 1 = .ok (.iconst 0, 1) := by decide +kernel
theorem d_X10_price_2 : decode cX10_price 2 = .ok (.putfield 133, 3) := by decide +kernel
theorem d_X10_price_5 : decode cX10_price 5 = .ok (.aload_n 0, 1) := by decide +kernel
theorem d_X10_price_6 : decode cX10_price 6 = .ok (.iload_n 1, 1) := by decide +kernel
theorem d_X10_price_7 : decode cX10_price 7 = .ok (.iconst 0, 1) := by decide +kernel
theorem d_X10_price_8 : decode cX10_price 8 = .ok (.iconst 4, 1) := by decide +kernel
theorem d_X10_price_9 : decode cX10_price 9 = .ok (.invokestatic 295, 3) := by decide +kernel
theorem d_X10_price_12 : decode cX10_price 12 = .ok (.iconst 1, 1) := by decide +kernel
theorem d_X10_price_13 : decode cX10_price 13 = .ok (.invokevirtual 253, 3) := by decide +kernel
theorem d_X10_price_16 : decode cX10_price 16 = .ok (.ifCond .eq 12, 3) := by decide +kernel
theorem d_X10_price_19 : decode cX10_price 19 = .ok (.aload_n 0, 1) := by decide +kernel
theorem d_X10_price_20 : decode cX10_price 20 = .ok (.getfield 23, 3) := by decide +kernel
theorem d_X10_price_23 : decode cX10_price 23 = .ok (.iload_n 1, 1) := by decide +kernel
theorem d_X10_price_24 : decode cX10_price 24 = .ok (.iaload, 1) := by decide +kernel
theorem d_X10_price_25 : decode cX10_price 25 = .ok (.goto 4, 3) := by decide +kernel
theorem d_X10_price_28 : decode cX10_price 28 = .ok (.iconst 0, 1) := by decide +kernel
theorem d_X10_price_29 : decode cX10_price 29 = .ok (.ireturn, 1) := by decide +kernel
def s_X10_price (a0 : Int32) (h : AH) : Option (Int32 × AH) := bd (s_X10_within a0 0 4 (sI h 240 0 0)) fun x1 => bd (s_X10_right x1 1 (sI h 240 0 0)) fun q2 => if q2.1 = 0 then some (0, q2.2) else bd (ldI q2.2 244 a0) fun x3 => some (x3, q2.2)
theorem t_X10_price {g : GP} {X : MX} {mcR msR : Nat} (hF : gF g = true) (hX : Cx g RX10 cX10_price 2 mcR msR (some .int) [] X) {a0 : Int32} {h hz : AH} {z : Int32} (e : s_X10_price a0 h = some (z, hz)) : AR g X 0 0 (QQ g X NT false hz (.inl (some (.int z))) 0 0) h 0 [.ref 240, .int a0] [] := by
  unfold s_X10_price at e
  refine aw_aload_n (i := 0) hX rfl rfl d_X10_price_0 ?_
  refine aw_iconst (v := 0) hX (by decide) d_X10_price_1 ?_
  refine ar_putI hX fp_RX10_133 rfl d_X10_price_2 ?_
  refine aw_aload_n (i := 0) hX rfl rfl d_X10_price_5 ?_
  refine aw_iload_n (i := 1) hX rfl rfl d_X10_price_6 ?_
  refine aw_iconst (v := 0) hX (by decide) d_X10_price_7 ?_
  refine aw_iconst (v := 4) hX (by decide) d_X10_price_8 ?_
  obtain ⟨x1, f_1225, e_1225⟩ := bd_some e
  clear e
  refine aw_callS (av := [.int a0, .int 0, .int 4]) (avr := [.int 4, .int 0, .int a0]) hX (k_X10_within (cx_g hX) hF f_1225) mi_X10_within rfl rfl w_800 w_801 rfl (by decide) (Nat.le_of_ble_eq_true rfl) (Nat.zero_le _) (Nat.zero_le _) d_X10_price_9 ?_
  refine aw_iconst (v := 1) hX (by decide) d_X10_price_12 ?_
  obtain ⟨q2, f_1226, e_1226⟩ := bd_some e_1225
  clear e_1225
  refine aw_callV (b := 240) (av := [.int x1, .int 1]) (avr := [.int 1, .int x1]) hX (k_X10_right (cx_g hX) hF f_1226) mi_X10_right rfl rfl w_772 w_773 w_774 (by decide) rfl (LAY_lt rfl (by decide)) rfl rfl (Nat.le_of_ble_eq_true rfl) (Nat.zero_le _) (Nat.zero_le _) d_X10_price_13 ?_
  refine aw_if_eq (t := 28) hX (by decide) d_X10_price_16 (fun c => ?_) (fun c => ?_)
  · rw [if_pos c] at e_1226
    refine aw_iconst (v := 0) hX (by decide) d_X10_price_28 ?_
    cases e_1226
    exact aw_ireturn hX (Nat.zero_le _) (Nat.zero_le _) d_X10_price_29
  · rw [if_neg c] at e_1226
    refine aw_aload_n (i := 0) hX rfl rfl d_X10_price_19 ?_
    refine ar_getF hX hF fg_RX10_23 rfl d_X10_price_20 ?_
    show AR g X 0 0 _ _ 23 _ [.ref 244]
    refine aw_iload_n (i := 1) hX rfl rfl d_X10_price_23 ?_
    obtain ⟨x3, f_1227, e_1227⟩ := bd_some e_1226
    clear e_1226
    refine ar_iaload hX f_1227 d_X10_price_24 ?_
    refine aw_goto (t := 29) hX (by decide) d_X10_price_25 ?_
    cases e_1227
    exact aw_ireturn hX (Nat.zero_le _) (Nat.zero_le _) d_X10_price_29
theorem k_X10_price {g : GP} (hg : g.1.stackTraces = false) (hF : gF g = true) {a0 : Int32} {h hz : AH} {z : Int32} (e : s_X10_price a0 h = some (z, hz)) : Ctr g yX10_price (wsY yX10_price cX10_price 2 (some .int)) 2 0 0 [.ref 240, .int a0] NT false h (some (.int z)) NT false hz := ctr_of (lv0 := [.ref 240, .int a0]) rfl rfl (by decide) hg trivial (fun X hX hn => t_X10_price hF hX e)
theorem d_X10_chance_0 : decode cX10_chance 0 = .ok (.aload_n 0, 1) := by decide +kernel
theorem d_X10_chance_1 : decode cX10_chance 1 = .ok (.iconst 0, 1) := by decide +kernel
theorem d_X10_chance_2 : decode cX10_chance 2 = .ok (.putfield 133, 3) := by decide +kernel
theorem d_X10_chance_5 : decode cX10_chance 5 = .ok (.aload_n 0, 1) := by decide +kernel
theorem d_X10_chance_6 : decode cX10_chance 6 = .ok (.iload_n 1, 1) := by decide +kernel
theorem d_X10_chance_7 : decode cX10_chance 7 = .ok (.invokevirtual 305, 3) := by decide +kernel
theorem d_X10_chance_10 : decode cX10_chance 10 = .ok (.ifCond .eq 22, 3) := by decide +kernel
theorem d_X10_chance_13 : decode cX10_chance 13 = .ok (.aload_n 0, 1) := by decide +kernel
theorem d_X10_chance_14 : decode cX10_chance 14 = .ok (.iload_n 2, 1) := by decide +kernel
theorem d_X10_chance_15 : decode cX10_chance 15 = .ok (.invokevirtual 302, 3) := by decide +kernel
theorem d_X10_chance_18 : decode cX10_chance 18 = .ok (.ifCond .eq 14, 3) := by decide +kernel
theorem d_X10_chance_21 : decode cX10_chance 21 = .ok (.aload_n 0, 1) := by decide +kernel
theorem d_X10_chance_22 : decode cX10_chance 22 = .ok (.iload_n 1, 1) := by decide +kernel
theorem d_X10_chance_23 : decode cX10_chance 23 = .ok (.iload_n 2, 1) := by decide +kernel
theorem d_X10_chance_24 : decode cX10_chance 24 = .ok (.iload_n 3, 1) := by decide +kernel
theorem d_X10_chance_25 : decode cX10_chance 25 = .ok (.invokevirtual 312, 3) := by decide +kernel
theorem d_X10_chance_28 : decode cX10_chance 28 = .ok (.l2i, 1) := by decide +kernel
theorem d_X10_chance_29 : decode cX10_chance 29 = .ok (.goto 4, 3) := by decide +kernel
theorem d_X10_chance_32 : decode cX10_chance 32 = .ok (.iconst 0, 1) := by decide +kernel
theorem d_X10_chance_33 : decode cX10_chance 33 = .ok (.ireturn, 1) := by decide +kernel
def s_X10_chance (a0 : Int32) (a1 : Int32) (a2 : Int32) (h : AH) : Option (Int32 × AH) := bd (s_X10_isKind a0 (sI h 240 0 0)) fun q1 => if q1.1 = 0 then some (0, q1.2) else bd (s_X10_isEvening a1 q1.2) fun q2 => if q2.1 = 0 then some (0, q2.2) else bd (s_X10_chanceOf a0 a1 a2 q2.2) fun x3 => some (x3.toInt32, q2.2)
theorem t_X10_chance {g : GP} {X : MX} {mcR msR : Nat} (hF : gF g = true) (hX : Cx g RX10 cX10_chance 3 mcR msR (some .int) [] X) {a0 : Int32} {a1 : Int32} {a2 : Int32} {h hz : AH} {z : Int32} (e : s_X10_chance a0 a1 a2 h = some (z, hz)) : AR g X 0 0 (QQ g X NT false hz (.inl (some (.int z))) 0 0) h 0 [.ref 240, .int a0, .int a1, .int a2] [] := by
  unfold s_X10_chance at e
  refine aw_aload_n (i := 0) hX rfl rfl d_X10_chance_0 ?_
  refine aw_iconst (v := 0) hX (by decide) d_X10_chance_1 ?_
  refine ar_putI hX fp_RX10_133 rfl d_X10_chance_2 ?_
  refine aw_aload_n (i := 0) hX rfl rfl d_X10_chance_5 ?_
  refine aw_iload_n (i := 1) hX rfl rfl d_X10_chance_6 ?_
  obtain ⟨q1, f_1228, e_1228⟩ := bd_some e
  clear e
  refine aw_callV (b := 240) (av := [.int a0]) (avr := [.int a0]) hX (k_X10_isKind (cx_g hX) hF f_1228) mi_X10_isKind rfl rfl w_811 w_812 w_813 (by decide) rfl (LAY_lt rfl (by decide)) rfl rfl (Nat.le_of_ble_eq_true rfl) (Nat.zero_le _) (Nat.zero_le _) d_X10_chance_7 ?_
  refine aw_if_eq (t := 32) hX (by decide) d_X10_chance_10 (fun c => ?_) (fun c => ?_)
  · rw [if_pos c] at e_1228
    refine aw_iconst (v := 0) hX (by decide) d_X10_chance_32 ?_
    cases e_1228
    exact aw_ireturn hX (Nat.zero_le _) (Nat.zero_le _) d_X10_chance_33
  · rw [if_neg c] at e_1228
    refine aw_aload_n (i := 0) hX rfl rfl d_X10_chance_13 ?_
    refine aw_iload_n (i := 2) hX rfl rfl d_X10_chance_14 ?_
    obtain ⟨q2, f_1229, e_1229⟩ := bd_some e_1228
    clear e_1228
    refine aw_callV (b := 240) (av := [.int a1]) (avr := [.int a1]) hX (k_X10_isEvening (cx_g hX) hF f_1229) mi_X10_isEvening rfl rfl w_807 w_808 w_809 (by decide) rfl (LAY_lt rfl (by decide)) rfl rfl (Nat.le_of_ble_eq_true rfl) (Nat.zero_le _) (Nat.zero_le _) d_X10_chance_15 ?_
    refine aw_if_eq (t := 32) hX (by decide) d_X10_chance_18 (fun c => ?_) (fun c => ?_)
    · rw [if_pos c] at e_1229
      refine aw_iconst (v := 0) hX (by decide) d_X10_chance_32 ?_
      cases e_1229
      exact aw_ireturn hX (Nat.zero_le _) (Nat.zero_le _) d_X10_chance_33
    · rw [if_neg c] at e_1229
      refine aw_aload_n (i := 0) hX rfl rfl d_X10_chance_21 ?_
      refine aw_iload_n (i := 1) hX rfl rfl d_X10_chance_22 ?_
      refine aw_iload_n (i := 2) hX rfl rfl d_X10_chance_23 ?_
      refine aw_iload_n (i := 3) hX rfl rfl d_X10_chance_24 ?_
      obtain ⟨x3, f_1230, e_1230⟩ := bd_some e_1229
      clear e_1229
      refine aw_callV (b := 240) (av := [.int a0, .int a1, .int a2]) (avr := [.int a2, .int a1, .int a0]) hX (k_X10_chanceOf (cx_g hX) hF f_1230) mi_X10_chanceOf rfl rfl w_741 w_742 w_743 (by decide) rfl (LAY_lt rfl (by decide)) rfl rfl (Nat.le_of_ble_eq_true rfl) (Nat.zero_le _) (Nat.zero_le _) d_X10_chance_25 ?_
      refine aw_l2i hX d_X10_chance_28 ?_
      refine aw_goto (t := 33) hX (by decide) d_X10_chance_29 ?_
      cases e_1230
      exact aw_ireturn hX (Nat.zero_le _) (Nat.zero_le _) d_X10_chance_33
theorem k_X10_chance {g : GP} (hg : g.1.stackTraces = false) (hF : gF g = true) {a0 : Int32} {a1 : Int32} {a2 : Int32} {h hz : AH} {z : Int32} (e : s_X10_chance a0 a1 a2 h = some (z, hz)) : Ctr g yX10_chance (wsY yX10_chance cX10_chance 4 (some .int)) 3 0 0 [.ref 240, .int a0, .int a1, .int a2] NT false h (some (.int z)) NT false hz := ctr_of (lv0 := [.ref 240, .int a0, .int a1, .int a2]) rfl rfl (by decide) hg trivial (fun X hX hn => t_X10_chance hF hX e)
theorem d_X10_goodOf_0 : decode cX10_goodOf 0 = .ok (.aload_n 0, 1) := by decide +kernel
theorem d_X10_goodOf_1 : decode cX10_goodOf 1 = .ok (.getfield 61, 3) := by decide +kernel
theorem d_X10_goodOf_4 : decode cX10_goodOf 4 = .ok (.iconst 5, 1) := by decide +kernel
theorem d_X10_goodOf_5 : decode cX10_goodOf 5 = .ok (.iload_n 1, 1) := by decide +kernel
theorem d_X10_goodOf_6 : decode cX10_goodOf 6 = .ok (.imul, 1) := by decide +kernel
theorem d_X10_goodOf_7 : decode cX10_goodOf 7 = .ok (.iload_n 2, 1) := by decide +kernel
theorem d_X10_goodOf_8 : decode cX10_goodOf 8 = .ok (.iadd, 1) := by decide +kernel
theorem d_X10_goodOf_9 : decode cX10_goodOf 9 = .ok (.iaload, 1) := by decide +kernel
theorem d_X10_goodOf_10 : decode cX10_goodOf 10 = .ok (.iload_n 2, 1) := by decide +kernel
theorem d_X10_goodOf_11 : decode cX10_goodOf 11 = .ok (.ifCond .ne 7, 3) := by decide +kernel
theorem d_X10_goodOf_14 : decode cX10_goodOf 14 = .ok (.iconst 0, 1) := by decide +kernel
theorem d_X10_goodOf_15 : decode cX10_goodOf 15 = .ok (.goto 13, 3) := by decide +kernel
theorem d_X10_goodOf_18 : decode cX10_goodOf 18 = .ok (.sipush 1000, 3) := by decide +kernel
theorem d_X10_goodOf_21 : decode cX10_goodOf 21 = .ok (.aload_n 0, 1) := by decide +kernel
theorem d_X10_goodOf_22 : decode cX10_goodOf 22 = .ok (.getfield 23, 3) := by decide +kernel
theorem d_X10_goodOf_25 : decode cX10_goodOf 25 = .ok (.iload_n 2, 1) := by decide +kernel
theorem d_X10_goodOf_26 : decode cX10_goodOf 26 = .ok (.iaload, 1) := by decide +kernel
theorem d_X10_goodOf_27 : decode cX10_goodOf 27 = .ok (.imul, 1) := by decide +kernel
theorem d_X10_goodOf_28 : decode cX10_goodOf 28 = .ok (.isub, 1) := by decide +kernel
theorem d_X10_goodOf_29 : decode cX10_goodOf 29 = .ok (.ireturn, 1) := by decide +kernel
def j_X10_goodOf_28 (k0 : Int32) (k1 : Int32) (h : AH) : Option Int32 := some (k1 - k0)
theorem tj_X10_goodOf_28 {g : GP} {X : MX} {mcR msR : Nat} (hF : gF g = true) (hX : Cx g RX10 cX10_goodOf 1 mcR msR (some .int) [] X) {k0 : Int32} {k1 : Int32} {d0 : Value} {d1 : Value} {d2 : Value} {h : AH} {z : Int32} (e : j_X10_goodOf_28 k0 k1 h = some z) : AR g X 0 0 (QQ g X NT false h (.inl (some (.int z))) 0 0) h 28 [d0, d1, d2] [.int k0, .int k1] := by
  unfold j_X10_goodOf_28 at e
  refine aw_isub hX d_X10_goodOf_28 ?_
  cases e
  exact aw_ireturn hX (Nat.zero_le _) (Nat.zero_le _) d_X10_goodOf_29
def s_X10_goodOf (a0 : Int32) (a1 : Int32) (h : AH) : Option Int32 := bd (ldI h 255 ((5 * a0) + a1)) fun x1 => if a1 = 0 then j_X10_goodOf_28 0 x1 h else bd (ldI h 244 a1) fun x2 => j_X10_goodOf_28 (1000 * x2) x1 h
theorem t_X10_goodOf {g : GP} {X : MX} {mcR msR : Nat} (hF : gF g = true) (hX : Cx g RX10 cX10_goodOf 1 mcR msR (some .int) [] X) {a0 : Int32} {a1 : Int32} {h : AH} {z : Int32} (e : s_X10_goodOf a0 a1 h = some z) : AR g X 0 0 (QQ g X NT false h (.inl (some (.int z))) 0 0) h 0 [.ref 240, .int a0, .int a1] [] := by
  unfold s_X10_goodOf at e
  refine aw_aload_n (i := 0) hX rfl rfl d_X10_goodOf_0 ?_
  refine ar_getF hX hF fg_RX10_61 rfl d_X10_goodOf_1 ?_
  show AR g X 0 0 _ _ 4 _ [.ref 255]
  refine aw_iconst (v := 5) hX (by decide) d_X10_goodOf_4 ?_
  refine aw_iload_n (i := 1) hX rfl rfl d_X10_goodOf_5 ?_
  refine aw_imul hX d_X10_goodOf_6 ?_
  refine aw_iload_n (i := 2) hX rfl rfl d_X10_goodOf_7 ?_
  refine aw_iadd hX d_X10_goodOf_8 ?_
  obtain ⟨x1, f_1231, e_1231⟩ := bd_some e
  clear e
  refine ar_iaload hX f_1231 d_X10_goodOf_9 ?_
  refine aw_iload_n (i := 2) hX rfl rfl d_X10_goodOf_10 ?_
  refine aw_if_ne (t := 18) hX (by decide) d_X10_goodOf_11 (fun c => ?_) (fun c => ?_)
  · rw [if_neg c] at e_1231
    refine aw_sipush (v := 1000) hX (by decide) d_X10_goodOf_18 ?_
    refine aw_aload_n (i := 0) hX rfl rfl d_X10_goodOf_21 ?_
    refine ar_getF hX hF fg_RX10_23 rfl d_X10_goodOf_22 ?_
    show AR g X 0 0 _ _ 25 _ [.ref 244, .int 1000, .int x1]
    refine aw_iload_n (i := 2) hX rfl rfl d_X10_goodOf_25 ?_
    obtain ⟨x2, f_1232, e_1232⟩ := bd_some e_1231
    clear e_1231
    refine ar_iaload hX f_1232 d_X10_goodOf_26 ?_
    refine aw_imul hX d_X10_goodOf_27 ?_
    exact tj_X10_goodOf_28 hF hX e_1232
  · rw [if_pos c] at e_1231
    refine aw_iconst (v := 0) hX (by decide) d_X10_goodOf_14 ?_
    refine aw_goto (t := 28) hX (by decide) d_X10_goodOf_15 ?_
    exact tj_X10_goodOf_28 hF hX e_1231
theorem k_X10_goodOf {g : GP} (hg : g.1.stackTraces = false) (hF : gF g = true) {a0 : Int32} {a1 : Int32} {h : AH} {z : Int32} (e : s_X10_goodOf a0 a1 h = some z) : Ctr g yX10_goodOf (wsY yX10_goodOf cX10_goodOf 3 (some .int)) 1 0 0 [.ref 240, .int a0, .int a1] NT false h (some (.int z)) NT false h := ctr_of (lv0 := [.ref 240, .int a0, .int a1]) rfl rfl (by decide) hg trivial (fun X hX hn => t_X10_goodOf hF hX e)
theorem d_X10_good_0 : decode cX10_good 0 = .ok (.aload_n 0, 1) := by decide +kernel
theorem d_X10_good_1 : decode cX10_good 1 = .ok (.iconst 0, 1) := by decide +kernel
theorem d_X10_good_2 : decode cX10_good 2 = .ok (.putfield 133, 3) := by decide +kernel
theorem d_X10_good_5 : decode cX10_good 5 = .ok (.aload_n 0, 1) := by decide +kernel
theorem d_X10_good_6 : decode cX10_good 6 = .ok (.iload_n 1, 1) := by decide +kernel
theorem d_X10_good_7 : decode cX10_good 7 = .ok (.invokevirtual 305, 3) := by decide +kernel
theorem d_X10_good_10 : decode cX10_good 10 = .ok (.ifCond .eq 44, 3) := by decide +kernel
theorem d_X10_good_13 : decode cX10_good 13 = .ok (.aload_n 0, 1) := by decide +kernel
theorem d_X10_good_14 : decode cX10_good 14 = .ok (.iload_n 2, 1) := by decide +kernel
theorem d_X10_good_15 : decode cX10_good 15 = .ok (.iconst 0, 1) := by decide +kernel
theorem d_X10_good_16 : decode cX10_good 16 = .ok (.iconst 4, 1) := by decide +kernel
theorem d_X10_good_17 : decode cX10_good 17 = .ok (.invokestatic 295, 3) := by decide +kernel
theorem d_X10_good_20 : decode cX10_good 20 = .ok (.iconst 1, 1) := by decide +kernel
theorem d_X10_good_21 : decode cX10_good 21 = .ok (.invokevirtual 253, 3) := by decide +kernel
theorem d_X10_good_24 : decode cX10_good 24 = .ok (.ifCond .eq 30, 3) := by decide +kernel
theorem d_X10_good_27 : decode cX10_good 27 = .ok (.aload_n 0, 1) := by decide +kernel
theorem d_X10_good_28 : decode cX10_good 28 = .ok (.iload_n 2, 1) := by decide +kernel
theorem d_X10_good_29 : decode cX10_good 29 = .ok (.ifCond .eq 13, 3) := by decide +kernel
theorem d_X10_good_32 : decode cX10_good 32 = .ok (.aload_n 0, 1) := by decide +kernel
theorem d_X10_good_33 : decode cX10_good 33 = .ok (.getfield 23, 3) := by decide +kernel
theorem d_X10_good_36 : decode cX10_good 36 = .ok (.iload_n 2, 1) := by decide +kernel
theorem d_X10_good_37 : decode cX10_good 37 = .ok (.iaload, 1) := by decide +kernel
theorem d_X10_good_38 : decode cX10_good 38 = .ok (.iconst (-1), 1) := by decide +kernel
theorem d_X10_good_39 : decode cX10_good 39 = .ok (.if_icmp .eq 7, 3) := by decide +kernel
theorem d_X10_good_42 : decode cX10_good 42 = .ok (.iconst 1, 1) := by decide +kernel
theorem d_X10_good_43 : decode cX10_good 43 = .ok (.goto 4, 3) := by decide +kernel
theorem d_X10_good_46 : decode cX10_good 46 = .ok (.iconst 0, 1) := by decide +kernel
theorem d_X10_good_47 : decode cX10_good 47 = .ok (.iconst 2, 1) := by decide +kernel
theorem d_X10_good_48 : decode cX10_good 48 = .ok (.invokevirtual 253, 3) := by decide +kernel
theorem d_X10_good_51 : decode cX10_good 51 = .ok (.ifCond .ne 5, 3) := by decide +kernel
theorem d_X10_good_54 : decode cX10_good 54 = .ok (.iconst 0, 1) := by decide +kernel
theorem d_X10_good_55 : decode cX10_good 55 = .ok (.ireturn, 1) := by decide +kernel
theorem d_X10_good_56 : decode cX10_good 56 = .ok (.aload_n 0, 1) := by decide +kernel
theorem d_X10_good_57 : decode cX10_good 57 = .ok (.iload_n 1, 1) := by decide +kernel
theorem d_X10_good_58 : decode cX10_good 58 = .ok (.iload_n 2, 1) := by decide +kernel
theorem d_X10_good_59 : decode cX10_good 59 = .ok (.invokevirtual 344, 3) := by decide +kernel
theorem d_X10_good_62 : decode cX10_good 62 = .ok (.ireturn, 1) := by decide +kernel
def j_X10_good_47 (v1 : Int32) (v2 : Int32) (k0 : Int32) (h : AH) : Option (Int32 × AH) := bd (s_X10_right k0 2 h) fun q4 => if q4.1 = 0 then some (0, q4.2) else bd (s_X10_goodOf v1 v2 q4.2) fun x5 => some (x5, q4.2)
theorem tj_X10_good_47 {g : GP} {X : MX} {mcR msR : Nat} (hF : gF g = true) (hX : Cx g RX10 cX10_good 3 mcR msR (some .int) [] X) {v1 : Int32} {v2 : Int32} {k0 : Int32} {h hz : AH} {z : Int32} (e : j_X10_good_47 v1 v2 k0 h = some (z, hz)) : AR g X 0 0 (QQ g X NT false hz (.inl (some (.int z))) 0 0) h 47 [.ref 240, .int v1, .int v2] [.int k0, .ref 240] := by
  unfold j_X10_good_47 at e
  refine aw_iconst (v := 2) hX (by decide) d_X10_good_47 ?_
  obtain ⟨q4, f_1233, e_1233⟩ := bd_some e
  clear e
  refine aw_callV (b := 240) (av := [.int k0, .int 2]) (avr := [.int 2, .int k0]) hX (k_X10_right (cx_g hX) hF f_1233) mi_X10_right rfl rfl w_772 w_773 w_774 (by decide) rfl (LAY_lt rfl (by decide)) rfl rfl (Nat.le_of_ble_eq_true rfl) (Nat.zero_le _) (Nat.zero_le _) d_X10_good_48 ?_
  refine aw_if_ne (t := 56) hX (by decide) d_X10_good_51 (fun c => ?_) (fun c => ?_)
  · rw [if_neg c] at e_1233
    refine aw_aload_n (i := 0) hX rfl rfl d_X10_good_56 ?_
    refine aw_iload_n (i := 1) hX rfl rfl d_X10_good_57 ?_
    refine aw_iload_n (i := 2) hX rfl rfl d_X10_good_58 ?_
    obtain ⟨x5, f_1234, e_1234⟩ := bd_some e_1233
    clear e_1233
    refine aw_callV (b := 240) (av := [.int v1, .int v2]) (avr := [.int v2, .int v1]) hX (k_X10_goodOf (cx_g hX) hF f_1234) mi_X10_goodOf rfl rfl w_815 w_816 w_817 (by decide) rfl (LAY_lt rfl (by decide)) rfl rfl (Nat.le_of_ble_eq_true rfl) (Nat.zero_le _) (Nat.zero_le _) d_X10_good_59 ?_
    cases e_1234
    exact aw_ireturn hX (Nat.zero_le _) (Nat.zero_le _) d_X10_good_62
  · rw [if_pos c] at e_1233
    refine aw_iconst (v := 0) hX (by decide) d_X10_good_54 ?_
    cases e_1233
    exact aw_ireturn hX (Nat.zero_le _) (Nat.zero_le _) d_X10_good_55
def j_X10_good_42 (v1 : Int32) (v2 : Int32) (h : AH) : Option (Int32 × AH) := j_X10_good_47 v1 v2 1 h
theorem tj_X10_good_42 {g : GP} {X : MX} {mcR msR : Nat} (hF : gF g = true) (hX : Cx g RX10 cX10_good 3 mcR msR (some .int) [] X) {v1 : Int32} {v2 : Int32} {h hz : AH} {z : Int32} (e : j_X10_good_42 v1 v2 h = some (z, hz)) : AR g X 0 0 (QQ g X NT false hz (.inl (some (.int z))) 0 0) h 42 [.ref 240, .int v1, .int v2] [.ref 240] := by
  unfold j_X10_good_42 at e
  refine aw_iconst (v := 1) hX (by decide) d_X10_good_42 ?_
  refine aw_goto (t := 47) hX (by decide) d_X10_good_43 ?_
  exact tj_X10_good_47 hF hX e
def s_X10_good (a0 : Int32) (a1 : Int32) (h : AH) : Option (Int32 × AH) := bd (s_X10_isKind a0 (sI h 240 0 0)) fun q1 => if q1.1 = 0 then some (0, q1.2) else bd (s_X10_within a1 0 4 q1.2) fun x2 => bd (s_X10_right x2 1 q1.2) fun q3 => if q3.1 = 0 then some (0, q3.2) else if a1 = 0 then j_X10_good_42 a0 a1 q3.2 else bd (ldI q3.2 244 a1) fun x6 => if x6 = (-1) then j_X10_good_47 a0 a1 0 q3.2 else j_X10_good_42 a0 a1 q3.2
theorem t_X10_good {g : GP} {X : MX} {mcR msR : Nat} (hF : gF g = true) (hX : Cx g RX10 cX10_good 3 mcR msR (some .int) [] X) {a0 : Int32} {a1 : Int32} {h hz : AH} {z : Int32} (e : s_X10_good a0 a1 h = some (z, hz)) : AR g X 0 0 (QQ g X NT false hz (.inl (some (.int z))) 0 0) h 0 [.ref 240, .int a0, .int a1] [] := by
  unfold s_X10_good at e
  refine aw_aload_n (i := 0) hX rfl rfl d_X10_good_0 ?_
  refine aw_iconst (v := 0) hX (by decide) d_X10_good_1 ?_
  refine ar_putI hX fp_RX10_133 rfl d_X10_good_2 ?_
  refine aw_aload_n (i := 0) hX rfl rfl d_X10_good_5 ?_
  refine aw_iload_n (i := 1) hX rfl rfl d_X10_good_6 ?_
  obtain ⟨q1, f_1235, e_1235⟩ := bd_some e
  clear e
  refine aw_callV (b := 240) (av := [.int a0]) (avr := [.int a0]) hX (k_X10_isKind (cx_g hX) hF f_1235) mi_X10_isKind rfl rfl w_811 w_812 w_813 (by decide) rfl (LAY_lt rfl (by decide)) rfl rfl (Nat.le_of_ble_eq_true rfl) (Nat.zero_le _) (Nat.zero_le _) d_X10_good_7 ?_
  refine aw_if_eq (t := 54) hX (by decide) d_X10_good_10 (fun c => ?_) (fun c => ?_)
  · rw [if_pos c] at e_1235
    refine aw_iconst (v := 0) hX (by decide) d_X10_good_54 ?_
    cases e_1235
    exact aw_ireturn hX (Nat.zero_le _) (Nat.zero_le _) d_X10_good_55
  · rw [if_neg c] at e_1235
    refine aw_aload_n (i := 0) hX rfl rfl d_X10_good_13 ?_
    refine aw_iload_n (i := 2) hX rfl rfl d_X10_good_14 ?_
    refine aw_iconst (v := 0) hX (by decide) d_X10_good_15 ?_
    refine aw_iconst (v := 4) hX (by decide) d_X10_good_16 ?_
    obtain ⟨x2, f_1236, e_1236⟩ := bd_some e_1235
    clear e_1235
    refine aw_callS (av := [.int a1, .int 0, .int 4]) (avr := [.int 4, .int 0, .int a1]) hX (k_X10_within (cx_g hX) hF f_1236) mi_X10_within rfl rfl w_800 w_801 rfl (by decide) (Nat.le_of_ble_eq_true rfl) (Nat.zero_le _) (Nat.zero_le _) d_X10_good_17 ?_
    refine aw_iconst (v := 1) hX (by decide) d_X10_good_20 ?_
    obtain ⟨q3, f_1237, e_1237⟩ := bd_some e_1236
    clear e_1236
    refine aw_callV (b := 240) (av := [.int x2, .int 1]) (avr := [.int 1, .int x2]) hX (k_X10_right (cx_g hX) hF f_1237) mi_X10_right rfl rfl w_772 w_773 w_774 (by decide) rfl (LAY_lt rfl (by decide)) rfl rfl (Nat.le_of_ble_eq_true rfl) (Nat.zero_le _) (Nat.zero_le _) d_X10_good_21 ?_
    refine aw_if_eq (t := 54) hX (by decide) d_X10_good_24 (fun c => ?_) (fun c => ?_)
    · rw [if_pos c] at e_1237
      refine aw_iconst (v := 0) hX (by decide) d_X10_good_54 ?_
      cases e_1237
      exact aw_ireturn hX (Nat.zero_le _) (Nat.zero_le _) d_X10_good_55
    · rw [if_neg c] at e_1237
      refine aw_aload_n (i := 0) hX rfl rfl d_X10_good_27 ?_
      refine aw_iload_n (i := 2) hX rfl rfl d_X10_good_28 ?_
      refine aw_if_eq (t := 42) hX (by decide) d_X10_good_29 (fun c => ?_) (fun c => ?_)
      · rw [if_pos c] at e_1237
        exact tj_X10_good_42 hF hX e_1237
      · rw [if_neg c] at e_1237
        refine aw_aload_n (i := 0) hX rfl rfl d_X10_good_32 ?_
        refine ar_getF hX hF fg_RX10_23 rfl d_X10_good_33 ?_
        show AR g X 0 0 _ _ 36 _ [.ref 244, .ref 240]
        refine aw_iload_n (i := 2) hX rfl rfl d_X10_good_36 ?_
        obtain ⟨x6, f_1238, e_1238⟩ := bd_some e_1237
        clear e_1237
        refine ar_iaload hX f_1238 d_X10_good_37 ?_
        refine aw_iconst (v := (-1)) hX (by decide) d_X10_good_38 ?_
        refine aw_icmp_eq (t := 46) hX (by decide) d_X10_good_39 (fun c => ?_) (fun c => ?_)
        · rw [if_pos c] at e_1238
          refine aw_iconst (v := 0) hX (by decide) d_X10_good_46 ?_
          exact tj_X10_good_47 hF hX e_1238
        · rw [if_neg c] at e_1238
          exact tj_X10_good_42 hF hX e_1238
theorem k_X10_good {g : GP} (hg : g.1.stackTraces = false) (hF : gF g = true) {a0 : Int32} {a1 : Int32} {h hz : AH} {z : Int32} (e : s_X10_good a0 a1 h = some (z, hz)) : Ctr g yX10_good (wsY yX10_good cX10_good 3 (some .int)) 3 0 0 [.ref 240, .int a0, .int a1] NT false h (some (.int z)) NT false hz := ctr_of (lv0 := [.ref 240, .int a0, .int a1]) rfl rfl (by decide) hg trivial (fun X hX hn => t_X10_good hF hX e)
theorem d_X10_buysOf_0 : decode cX10_buysOf 0 = .ok (.iconst 0, 1) := by decide +kernel
theorem d_X10_buysOf_1 : decode cX10_buysOf 1 = .ok (.istore_n 2, 1) := by decide +kernel
theorem d_X10_buysOf_2 : decode cX10_buysOf 2 = .ok (.iconst 1, 1) := by decide +kernel
theorem d_X10_buysOf_3 : decode cX10_buysOf 3 = .ok (.istore_n 3, 1) := by decide +kernel
theorem d_X10_buysOf_4 : decode cX10_buysOf 4 = .ok (.iload_n 3, 1) := by decide +kernel
theorem d_X10_buysOf_5 : decode cX10_buysOf 5 = .ok (.iconst 5, 1) := by decide +kernel
theorem d_X10_buysOf_6 : decode cX10_buysOf 6 = .ok (.if_icmp .ge 52, 3) := by decide +kernel
theorem d_X10_buysOf_9 : decode cX10_buysOf 9 = .ok (.aload_n 0, 1) := by decide +kernel
theorem d_X10_buysOf_10 : decode cX10_buysOf 10 = .ok (.getfield 23, 3) := by decide +kernel
theorem d_X10_buysOf_13 : decode cX10_buysOf 13 = .ok (.iload_n 3, 1) := by decide +kernel
theorem d_X10_buysOf_14 : decode cX10_buysOf 14 = .ok (.iaload, 1) := by decide +kernel
theorem d_X10_buysOf_15 : decode cX10_buysOf 15 = .ok (.iconst (-1), 1) := by decide +kernel
theorem d_X10_buysOf_16 : decode cX10_buysOf 16 = .ok (.if_icmp .eq 36, 3) := by decide +kernel
theorem d_X10_buysOf_19 : decode cX10_buysOf 19 = .ok (.iload_n 3, 1) := by decide +kernel
theorem d_X10_buysOf_20 : decode cX10_buysOf 20 = .ok (.iconst 4, 1) := by decide +kernel
theorem d_X10_buysOf_21 : decode cX10_buysOf 21 = .ok (.if_icmp .ne 14, 3) := by decide +kernel
theorem d_X10_buysOf_24 : decode cX10_buysOf 24 = .ok (.aload_n 0, 1) := by decide +kernel
theorem d_X10_buysOf_25 : decode cX10_buysOf 25 = .ok (.iload_n 1, 1) := by decide +kernel
theorem d_X10_buysOf_26 : decode cX10_buysOf 26 = .ok (.bipush 10, 2) := by decide +kernel
theorem d_X10_buysOf_28 : decode cX10_buysOf 28 = .ok (.invokevirtual 292, 3) := by decide +kernel
theorem d_X10_buysOf_31 : decode cX10_buysOf 31 = .ok (.iconst 1, 1) := by decide +kernel
theorem d_X10_buysOf_32 : decode cX10_buysOf 32 = .ok (.if_icmp .ne 20, 3) := by decide +kernel
theorem d_X10_buysOf_35 : decode cX10_buysOf 35 = .ok (.aload_n 0, 1) := by decide +kernel
theorem d_X10_buysOf_36 : decode cX10_buysOf 36 = .ok (.iload_n 1, 1) := by decide +kernel
theorem d_X10_buysOf_37 : decode cX10_buysOf 37 = .ok (.iload_n 3, 1) := by decide +kernel
theorem d_X10_buysOf_38 : decode cX10_buysOf 38 = .ok (.invokevirtual 344, 3) := by decide +kernel
theorem d_X10_buysOf_41 : decode cX10_buysOf 41 = .ok (.aload_n 0, 1) := by decide +kernel
theorem d_X10_buysOf_42 : decode cX10_buysOf 42 = .ok (.iload_n 1, 1) := by decide +kernel
theorem d_X10_buysOf_43 : decode cX10_buysOf 43 = .ok (.iload_n 2, 1) := by decide +kernel
theorem d_X10_buysOf_44 : decode cX10_buysOf 44 = .ok (.invokevirtual 344, 3) := by decide +kernel
theorem d_X10_buysOf_47 : decode cX10_buysOf 47 = .ok (.if_icmp .le 5, 3) := by decide +kernel
theorem d_X10_buysOf_50 : decode cX10_buysOf 50 = .ok (.iload_n 3, 1) := by decide +kernel
theorem d_X10_buysOf_51 : decode cX10_buysOf 51 = .ok (.istore_n 2, 1) := by decide +kernel
theorem d_X10_buysOf_52 : decode cX10_buysOf 52 = .ok (.iinc 3 1, 3) := by decide +kernel
theorem d_X10_buysOf_55 : decode cX10_buysOf 55 = .ok (.goto (-51), 3) := by decide +kernel
theorem d_X10_buysOf_58 : decode cX10_buysOf 58 = .ok (.iload_n 2, 1) := by decide +kernel
theorem d_X10_buysOf_59 : decode cX10_buysOf 59 = .ok (.ireturn, 1) := by decide +kernel
def j_X10_buysOf_52_4 (p1 : Int32) (v2 : Int32) (v3 : Int32) (h : AH) : Option ((Int32 × Int32) ⊕ Int32) := some (.inl (v2, v3 + 1))
theorem tj_X10_buysOf_52_4 {g : GP} {X : MX} {mcR msR : Nat} (hF : gF g = true) (hX : Cx g RX10 cX10_buysOf 2 mcR msR (some .int) [] X) {Q : State → Prop} {p1 : Int32} {v2 : Int32} {v3 : Int32} {h : AH} {z : ((Int32 × Int32) ⊕ Int32)} (e : j_X10_buysOf_52_4 p1 v2 v3 h = some z) (kI : ∀ (s2 : (Int32 × Int32)), z = .inl s2 → AR g X 0 0 Q h 4 [.ref 240, .int p1, .int s2.1, .int s2.2] []) (kE0 : ∀ (yy : Int32) (y0 : Value) (y1 : Value) (y3 : Value), z = .inr yy → AR g X 0 0 Q h 58 [y0, y1, .int yy, y3] []) : AR g X 0 0 Q h 52 [.ref 240, .int p1, .int v2, .int v3] [] := by
  unfold j_X10_buysOf_52_4 at e
  refine aw_iinc (i := 3) (lv2 := [.ref 240, .int p1, .int v2, .int (v3 + 1)]) hX rfl rfl rfl rfl d_X10_buysOf_52 ?_
  refine aw_goto (t := 4) hX (by decide) d_X10_buysOf_55 ?_
  cases e
  exact kI (v2, v3 + 1)  rfl
def j_X10_buysOf_35_4 (p1 : Int32) (v2 : Int32) (v3 : Int32) (h : AH) : Option ((Int32 × Int32) ⊕ Int32) := bd (s_X10_goodOf p1 v3 h) fun x2 => bd (s_X10_goodOf p1 v2 h) fun x3 => if x2 ≤ x3 then j_X10_buysOf_52_4 p1 v2 v3 h else j_X10_buysOf_52_4 p1 v3 v3 h
theorem tj_X10_buysOf_35_4 {g : GP} {X : MX} {mcR msR : Nat} (hF : gF g = true) (hX : Cx g RX10 cX10_buysOf 2 mcR msR (some .int) [] X) {Q : State → Prop} {p1 : Int32} {v2 : Int32} {v3 : Int32} {h : AH} {z : ((Int32 × Int32) ⊕ Int32)} (e : j_X10_buysOf_35_4 p1 v2 v3 h = some z) (kI : ∀ (s2 : (Int32 × Int32)), z = .inl s2 → AR g X 0 0 Q h 4 [.ref 240, .int p1, .int s2.1, .int s2.2] []) (kE0 : ∀ (yy : Int32) (y0 : Value) (y1 : Value) (y3 : Value), z = .inr yy → AR g X 0 0 Q h 58 [y0, y1, .int yy, y3] []) : AR g X 0 0 Q h 35 [.ref 240, .int p1, .int v2, .int v3] [] := by
  unfold j_X10_buysOf_35_4 at e
  refine aw_aload_n (i := 0) hX rfl rfl d_X10_buysOf_35 ?_
  refine aw_iload_n (i := 1) hX rfl rfl d_X10_buysOf_36 ?_
  refine aw_iload_n (i := 3) hX rfl rfl d_X10_buysOf_37 ?_
  obtain ⟨x2, f_1239, e_1239⟩ := bd_some e
  clear e
  refine aw_callV (b := 240) (av := [.int p1, .int v3]) (avr := [.int v3, .int p1]) hX (k_X10_goodOf (cx_g hX) hF f_1239) mi_X10_goodOf rfl rfl w_815 w_816 w_817 (by decide) rfl (LAY_lt rfl (by decide)) rfl rfl (Nat.le_of_ble_eq_true rfl) (Nat.zero_le _) (Nat.zero_le _) d_X10_buysOf_38 ?_
  refine aw_aload_n (i := 0) hX rfl rfl d_X10_buysOf_41 ?_
  refine aw_iload_n (i := 1) hX rfl rfl d_X10_buysOf_42 ?_
  refine aw_iload_n (i := 2) hX rfl rfl d_X10_buysOf_43 ?_
  obtain ⟨x3, f_1240, e_1240⟩ := bd_some e_1239
  clear e_1239
  refine aw_callV (b := 240) (av := [.int p1, .int v2]) (avr := [.int v2, .int p1]) hX (k_X10_goodOf (cx_g hX) hF f_1240) mi_X10_goodOf rfl rfl w_815 w_816 w_817 (by decide) rfl (LAY_lt rfl (by decide)) rfl rfl (Nat.le_of_ble_eq_true rfl) (Nat.zero_le _) (Nat.zero_le _) d_X10_buysOf_44 ?_
  refine aw_icmp_le (t := 52) hX (by decide) d_X10_buysOf_47 (fun c => ?_) (fun c => ?_)
  · rw [if_pos c] at e_1240
    exact tj_X10_buysOf_52_4 hF hX e_1240 kI kE0
  · rw [if_neg c] at e_1240
    refine aw_iload_n (i := 3) hX rfl rfl d_X10_buysOf_50 ?_
    refine aw_istore_n (i := 2) (lv2 := [.ref 240, .int p1, .int v3, .int v3]) hX rfl rfl rfl d_X10_buysOf_51 ?_
    exact tj_X10_buysOf_52_4 hF hX e_1240 kI kE0
def l_X10_buysOf_4 (p1 : Int32) (h : AH) (s : (Int32 × Int32)) : Option ((Int32 × Int32) ⊕ Int32) := if 5 ≤ s.2 then some (.inr s.1) else bd (ldI h 244 s.2) fun x1 => if x1 = (-1) then j_X10_buysOf_52_4 p1 s.1 s.2 h else if s.2 = 4 then bd (s_X10_of p1 10 h) fun x4 => if x4 = 1 then j_X10_buysOf_35_4 p1 s.1 s.2 h else j_X10_buysOf_52_4 p1 s.1 s.2 h else j_X10_buysOf_35_4 p1 s.1 s.2 h
theorem tb_X10_buysOf_4 {g : GP} {X : MX} {mcR msR : Nat} (hF : gF g = true) (hX : Cx g RX10 cX10_buysOf 2 mcR msR (some .int) [] X) {Q : State → Prop} {p1 : Int32} {s : (Int32 × Int32)} {h : AH} {z : ((Int32 × Int32) ⊕ Int32)} (e : l_X10_buysOf_4 p1 h s = some z) (kI : ∀ (s2 : (Int32 × Int32)), z = .inl s2 → AR g X 0 0 Q h 4 [.ref 240, .int p1, .int s2.1, .int s2.2] []) (kE0 : ∀ (yy : Int32) (y0 : Value) (y1 : Value) (y3 : Value), z = .inr yy → AR g X 0 0 Q h 58 [y0, y1, .int yy, y3] []) : AR g X 0 0 Q h 4 [.ref 240, .int p1, .int s.1, .int s.2] [] := by
  unfold l_X10_buysOf_4 at e
  refine aw_iload_n (i := 3) hX rfl rfl d_X10_buysOf_4 ?_
  refine aw_iconst (v := 5) hX (by decide) d_X10_buysOf_5 ?_
  refine aw_icmp_ge (t := 58) hX (by decide) d_X10_buysOf_6 (fun c => ?_) (fun c => ?_)
  · rw [if_pos c] at e
    cases e
    exact kE0 s.1 _ _ _ rfl
  · rw [if_neg c] at e
    refine aw_aload_n (i := 0) hX rfl rfl d_X10_buysOf_9 ?_
    refine ar_getF hX hF fg_RX10_23 rfl d_X10_buysOf_10 ?_
    show AR g X 0 0 _ _ 13 _ [.ref 244]
    refine aw_iload_n (i := 3) hX rfl rfl d_X10_buysOf_13 ?_
    obtain ⟨x1, f_1241, e_1241⟩ := bd_some e
    clear e
    refine ar_iaload hX f_1241 d_X10_buysOf_14 ?_
    refine aw_iconst (v := (-1)) hX (by decide) d_X10_buysOf_15 ?_
    refine aw_icmp_eq (t := 52) hX (by decide) d_X10_buysOf_16 (fun c => ?_) (fun c => ?_)
    · rw [if_pos c] at e_1241
      exact tj_X10_buysOf_52_4 hF hX e_1241 kI kE0
    · rw [if_neg c] at e_1241
      refine aw_iload_n (i := 3) hX rfl rfl d_X10_buysOf_19 ?_
      refine aw_iconst (v := 4) hX (by decide) d_X10_buysOf_20 ?_
      refine aw_icmp_ne (t := 35) hX (by decide) d_X10_buysOf_21 (fun c => ?_) (fun c => ?_)
      · rw [if_neg c] at e_1241
        exact tj_X10_buysOf_35_4 hF hX e_1241 kI kE0
      · rw [if_pos c] at e_1241
        refine aw_aload_n (i := 0) hX rfl rfl d_X10_buysOf_24 ?_
        refine aw_iload_n (i := 1) hX rfl rfl d_X10_buysOf_25 ?_
        refine aw_bipush (v := 10) hX (by decide) d_X10_buysOf_26 ?_
        obtain ⟨x4, f_1242, e_1242⟩ := bd_some e_1241
        clear e_1241
        refine aw_callV (b := 240) (av := [.int p1, .int 10]) (avr := [.int 10, .int p1]) hX (k_X10_of (cx_g hX) hF f_1242) mi_X10_of rfl rfl w_732 w_733 w_734 (by decide) rfl (LAY_lt rfl (by decide)) rfl rfl (Nat.le_of_ble_eq_true rfl) (Nat.zero_le _) (Nat.zero_le _) d_X10_buysOf_28 ?_
        refine aw_iconst (v := 1) hX (by decide) d_X10_buysOf_31 ?_
        refine aw_icmp_ne (t := 52) hX (by decide) d_X10_buysOf_32 (fun c => ?_) (fun c => ?_)
        · rw [if_neg c] at e_1242
          exact tj_X10_buysOf_52_4 hF hX e_1242 kI kE0
        · rw [if_pos c] at e_1242
          exact tj_X10_buysOf_35_4 hF hX e_1242 kI kE0
theorem ti_X10_buysOf_4 {g : GP} {X : MX} {mcR msR : Nat} (hF : gF g = true) (hX : Cx g RX10 cX10_buysOf 2 mcR msR (some .int) [] X) {Q : State → Prop} {p1 : Int32} {y : Int32} {h : AH} (kE0 : ∀ (y_0 : Value) (y_1 : Value) (y_3 : Value), AR g X 0 0 Q h 58 [y_0, y_1, .int y, y_3] []) (n : Nat) : ∀ (s : (Int32 × Int32)), lpP (l_X10_buysOf_4 p1 h) n s = some y → AR g X 0 0 Q h 4 [.ref 240, .int p1, .int s.1, .int s.2] [] := by
  induction n with
  | zero => intro s e; cases e
  | succ n ih =>
    intro s e
    obtain ⟨x, e1, e2⟩ := lpP_succ e
    rcases e2 with ⟨s2, rfl, e3⟩ | rfl
    · exact tb_X10_buysOf_4 hF hX e1 (fun s3  hs => by cases hs; exact ih _   e3) (fun yy x0 x1 x2 hy => by cases hy)
    · exact tb_X10_buysOf_4 hF hX e1 (fun s3  hs => by cases hs) (fun yy x0 x1 x2 hy => by cases hy; exact kE0 x0 x1 x2)
theorem t_X10_buysOf_4 {g : GP} {X : MX} {mcR msR : Nat} (hF : gF g = true) (hX : Cx g RX10 cX10_buysOf 2 mcR msR (some .int) [] X) {Q : State → Prop} {p1 : Int32} {s : (Int32 × Int32)} {h : AH} {n : Nat} {y : Int32} (e : lpP (l_X10_buysOf_4 p1 h) n s = some y) (kE0 : ∀ (y_0 : Value) (y_1 : Value) (y_3 : Value), AR g X 0 0 Q h 58 [y_0, y_1, .int y, y_3] []) : AR g X 0 0 Q h 4 [.ref 240, .int p1, .int s.1, .int s.2] [] := ti_X10_buysOf_4 hF hX kE0 n _   e
def s_X10_buysOf (a0 : Int32) (h : AH) : Option Int32 := bd (lpP (l_X10_buysOf_4 a0 h) FU (0, 1)) fun y5 => some y5
theorem t_X10_buysOf {g : GP} {X : MX} {mcR msR : Nat} (hF : gF g = true) (hX : Cx g RX10 cX10_buysOf 2 mcR msR (some .int) [] X) {a0 : Int32} {h : AH} {z : Int32} (e : s_X10_buysOf a0 h = some z) : AR g X 0 0 (QQ g X NT false h (.inl (some (.int z))) 0 0) h 0 [.ref 240, .int a0, jk, jk] [] := by
  unfold s_X10_buysOf at e
  refine aw_iconst (v := 0) hX (by decide) d_X10_buysOf_0 ?_
  refine aw_istore_n (i := 2) (lv2 := [.ref 240, .int a0, .int 0, jk]) hX rfl rfl rfl d_X10_buysOf_1 ?_
  refine aw_iconst (v := 1) hX (by decide) d_X10_buysOf_2 ?_
  refine aw_istore_n (i := 3) (lv2 := [.ref 240, .int a0, .int 0, .int 1]) hX rfl rfl rfl d_X10_buysOf_3 ?_
  obtain ⟨y5, f_1243, e_1243⟩ := bd_some e
  clear e
  refine t_X10_buysOf_4 hF hX f_1243 (fun d6_0 d6_1 d6_3 => ?_)
  refine aw_iload_n (i := 2) hX rfl rfl d_X10_buysOf_58 ?_
  cases e_1243
  exact aw_ireturn hX (Nat.zero_le _) (Nat.zero_le _) d_X10_buysOf_59
theorem k_X10_buysOf {g : GP} (hg : g.1.stackTraces = false) (hF : gF g = true) {a0 : Int32} {h : AH} {z : Int32} (e : s_X10_buysOf a0 h = some z) : Ctr g yX10_buysOf (wsY yX10_buysOf cX10_buysOf 4 (some .int)) 2 0 0 [.ref 240, .int a0] NT false h (some (.int z)) NT false h := ctr_of (lv0 := [.ref 240, .int a0, jk, jk]) rfl rfl (by decide) hg trivial (fun X hX hn => t_X10_buysOf hF hX e)
theorem d_X10_buys_0 : decode cX10_buys 0 = .ok (.aload_n 0, 1) := by decide +kernel
theorem d_X10_buys_1 : decode cX10_buys 1 = .ok (.iconst 0, 1) := by decide +kernel
theorem d_X10_buys_2 : decode cX10_buys 2 = .ok (.putfield 133, 3) := by decide +kernel
theorem d_X10_buys_5 : decode cX10_buys 5 = .ok (.aload_n 0, 1) := by decide +kernel
theorem d_X10_buys_6 : decode cX10_buys 6 = .ok (.iload_n 1, 1) := by decide +kernel
theorem d_X10_buys_7 : decode cX10_buys 7 = .ok (.invokevirtual 305, 3) := by decide +kernel
theorem d_X10_buys_10 : decode cX10_buys 10 = .ok (.ifCond .eq 11, 3) := by decide +kernel
theorem d_X10_buys_13 : decode cX10_buys 13 = .ok (.aload_n 0, 1) := by decide +kernel
theorem d_X10_buys_14 : decode cX10_buys 14 = .ok (.iload_n 1, 1) := by decide +kernel
theorem d_X10_buys_15 : decode cX10_buys 15 = .ok (.invokevirtual 347, 3) := by decide +kernel
theorem d_X10_buys_18 : decode cX10_buys 18 = .ok (.goto 4, 3) := by decide +kernel
theorem d_X10_buys_21 : decode cX10_buys 21 = .ok (.iconst 0, 1) := by decide +kernel
theorem d_X10_buys_22 : decode cX10_buys 22 = .ok (.ireturn, 1) := by decide +kernel
def s_X10_buys (a0 : Int32) (h : AH) : Option (Int32 × AH) := bd (s_X10_isKind a0 (sI h 240 0 0)) fun q1 => if q1.1 = 0 then some (0, q1.2) else bd (s_X10_buysOf a0 q1.2) fun x2 => some (x2, q1.2)
theorem t_X10_buys {g : GP} {X : MX} {mcR msR : Nat} (hF : gF g = true) (hX : Cx g RX10 cX10_buys 3 mcR msR (some .int) [] X) {a0 : Int32} {h hz : AH} {z : Int32} (e : s_X10_buys a0 h = some (z, hz)) : AR g X 0 0 (QQ g X NT false hz (.inl (some (.int z))) 0 0) h 0 [.ref 240, .int a0] [] := by
  unfold s_X10_buys at e
  refine aw_aload_n (i := 0) hX rfl rfl d_X10_buys_0 ?_
  refine aw_iconst (v := 0) hX (by decide) d_X10_buys_1 ?_
  refine ar_putI hX fp_RX10_133 rfl d_X10_buys_2 ?_
  refine aw_aload_n (i := 0) hX rfl rfl d_X10_buys_5 ?_
  refine aw_iload_n (i := 1) hX rfl rfl d_X10_buys_6 ?_
  obtain ⟨q1, f_1244, e_1244⟩ := bd_some e
  clear e
  refine aw_callV (b := 240) (av := [.int a0]) (avr := [.int a0]) hX (k_X10_isKind (cx_g hX) hF f_1244) mi_X10_isKind rfl rfl w_811 w_812 w_813 (by decide) rfl (LAY_lt rfl (by decide)) rfl rfl (Nat.le_of_ble_eq_true rfl) (Nat.zero_le _) (Nat.zero_le _) d_X10_buys_7 ?_
  refine aw_if_eq (t := 21) hX (by decide) d_X10_buys_10 (fun c => ?_) (fun c => ?_)
  · rw [if_pos c] at e_1244
    refine aw_iconst (v := 0) hX (by decide) d_X10_buys_21 ?_
    cases e_1244
    exact aw_ireturn hX (Nat.zero_le _) (Nat.zero_le _) d_X10_buys_22
  · rw [if_neg c] at e_1244
    refine aw_aload_n (i := 0) hX rfl rfl d_X10_buys_13 ?_
    refine aw_iload_n (i := 1) hX rfl rfl d_X10_buys_14 ?_
    obtain ⟨x2, f_1245, e_1245⟩ := bd_some e_1244
    clear e_1244
    refine aw_callV (b := 240) (av := [.int a0]) (avr := [.int a0]) hX (k_X10_buysOf (cx_g hX) hF f_1245) mi_X10_buysOf rfl rfl w_819 w_820 w_821 (by decide) rfl (LAY_lt rfl (by decide)) rfl rfl (Nat.le_of_ble_eq_true rfl) (Nat.zero_le _) (Nat.zero_le _) d_X10_buys_15 ?_
    refine aw_goto (t := 22) hX (by decide) d_X10_buys_18 ?_
    cases e_1245
    exact aw_ireturn hX (Nat.zero_le _) (Nat.zero_le _) d_X10_buys_22
theorem k_X10_buys {g : GP} (hg : g.1.stackTraces = false) (hF : gF g = true) {a0 : Int32} {h hz : AH} {z : Int32} (e : s_X10_buys a0 h = some (z, hz)) : Ctr g yX10_buys (wsY yX10_buys cX10_buys 2 (some .int)) 3 0 0 [.ref 240, .int a0] NT false h (some (.int z)) NT false hz := ctr_of (lv0 := [.ref 240, .int a0]) rfl rfl (by decide) hg trivial (fun X hX hn => t_X10_buys hF hX e)
theorem d_X10_goes_0 : decode cX10_goes 0 = .ok (.aload_n 0, 1) := by decide +kernel
theorem d_X10_goes_1 : decode cX10_goes 1 = .ok (.iconst 0, 1) := by decide +kernel
theorem d_X10_goes_2 : decode cX10_goes 2 = .ok (.putfield 133, 3) := by decide +kernel
theorem d_X10_goes_5 : decode cX10_goes 5 = .ok (.aload_n 0, 1) := by decide +kernel
theorem d_X10_goes_6 : decode cX10_goes 6 = .ok (.iload_n 1, 1) := by decide +kernel
theorem d_X10_goes_7 : decode cX10_goes 7 = .ok (.invokevirtual 305, 3) := by decide +kernel
theorem d_X10_goes_10 : decode cX10_goes 10 = .ok (.ifCond .eq 45, 3) := by decide +kernel
theorem d_X10_goes_13 : decode cX10_goes 13 = .ok (.aload_n 0, 1) := by decide +kernel
theorem d_X10_goes_14 : decode cX10_goes 14 = .ok (.iload_n 2, 1) := by decide +kernel
theorem d_X10_goes_15 : decode cX10_goes 15 = .ok (.invokevirtual 302, 3) := by decide +kernel
theorem d_X10_goes_18 : decode cX10_goes 18 = .ok (.ifCond .eq 37, 3) := by decide +kernel
theorem d_X10_goes_21 : decode cX10_goes 21 = .ok (.aload_n 0, 1) := by decide +kernel
theorem d_X10_goes_22 : decode cX10_goes 22 = .ok (.iload_n 3, 1) := by decide +kernel
theorem d_X10_goes_23 : decode cX10_goes 23 = .ok (.iconst 0, 1) := by decide +kernel
theorem d_X10_goes_24 : decode cX10_goes 24 = .ok (.bipush 12, 2) := by decide +kernel
theorem d_X10_goes_26 : decode cX10_goes 26 = .ok (.invokestatic 295, 3) := by decide +kernel
theorem d_X10_goes_29 : decode cX10_goes 29 = .ok (.ifCond .eq 18, 3) := by decide +kernel
theorem d_X10_goes_32 : decode cX10_goes 32 = .ok (.iload 4, 2) := by decide +kernel
theorem d_X10_goes_34 : decode cX10_goes 34 = .ok (.iconst 0, 1) := by decide +kernel
theorem d_X10_goes_35 : decode cX10_goes 35 = .ok (.bipush 16, 2) := by decide +kernel
theorem d_X10_goes_37 : decode cX10_goes 37 = .ok (.invokestatic 295, 3) := by decide +kernel
theorem d_X10_goes_40 : decode cX10_goes 40 = .ok (.ifCond .eq 7, 3) := by decide +kernel
theorem d_X10_goes_43 : decode cX10_goes 43 = .ok (.iconst 1, 1) := by decide +kernel
theorem d_X10_goes_44 : decode cX10_goes 44 = .ok (.goto 4, 3) := by decide +kernel
theorem d_X10_goes_47 : decode cX10_goes 47 = .ok (.iconst 0, 1) := by decide +kernel
theorem d_X10_goes_48 : decode cX10_goes 48 = .ok (.iconst 1, 1) := by decide +kernel
theorem d_X10_goes_49 : decode cX10_goes 49 = .ok (.invokevirtual 253, 3) := by decide +kernel
theorem d_X10_goes_52 : decode cX10_goes 52 = .ok (.ifCond .ne 5, 3) := by decide +kernel
theorem d_X10_goes_55 : decode cX10_goes 55 = .ok (.iconst 0, 1) := by decide +kernel
theorem d_X10_goes_56 : decode cX10_goes 56 = .ok (.ireturn, 1) := by decide +kernel
theorem d_X10_goes_57 : decode cX10_goes 57 = .ok (.aload_n 0, 1) := by decide +kernel
theorem d_X10_goes_58 : decode cX10_goes 58 = .ok (.iload_n 1, 1) := by decide +kernel
theorem d_X10_goes_59 : decode cX10_goes 59 = .ok (.aload_n 0, 1) := by decide +kernel
theorem d_X10_goes_60 : decode cX10_goes 60 = .ok (.iload_n 1, 1) := by decide +kernel
theorem d_X10_goes_61 : decode cX10_goes 61 = .ok (.invokevirtual 347, 3) := by decide +kernel
theorem d_X10_goes_64 : decode cX10_goes 64 = .ok (.iconst 1, 1) := by decide +kernel
theorem d_X10_goes_65 : decode cX10_goes 65 = .ok (.invokevirtual 333, 3) := by decide +kernel
theorem d_X10_goes_68 : decode cX10_goes 68 = .ok (.aload_n 0, 1) := by decide +kernel
theorem d_X10_goes_69 : decode cX10_goes 69 = .ok (.getfield 50, 3) := by decide +kernel
theorem d_X10_goes_72 : decode cX10_goes 72 = .ok (.iload_n 2, 1) := by decide +kernel
theorem d_X10_goes_73 : decode cX10_goes 73 = .ok (.iload_n 3, 1) := by decide +kernel
theorem d_X10_goes_74 : decode cX10_goes 74 = .ok (.iload 4, 2) := by decide +kernel
theorem d_X10_goes_76 : decode cX10_goes 76 = .ok (.invokestatic 316, 3) := by decide +kernel
theorem d_X10_goes_79 : decode cX10_goes 79 = .ok (.baload, 1) := by decide +kernel
theorem d_X10_goes_80 : decode cX10_goes 80 = .ok (.ireturn, 1) := by decide +kernel
def j_X10_goes_48 (v1 : Int32) (v2 : Int32) (v3 : Int32) (v4 : Int32) (k0 : Int32) (h : AH) : Option (Int32 × AH) := bd (s_X10_right k0 1 h) fun q4 => if q4.1 = 0 then some (0, q4.2) else bd (s_X10_buysOf v1 q4.2) fun x5 => bd (s_X10_plans v1 x5 1 q4.2) fun q6 => bd (s_X10_at v2 v3 v4 q6.2) fun x7 => bd (ldZ q6.2 252 x7) fun x8 => if x8 = 0 ∨ x8 = 1 then some (x8, q6.2) else none
theorem tj_X10_goes_48 {g : GP} {X : MX} {mcR msR : Nat} (hF : gF g = true) (hX : Cx g RX10 cX10_goes 4 mcR msR (some .boolean) [] X) {v1 : Int32} {v2 : Int32} {v3 : Int32} {v4 : Int32} {k0 : Int32} {h hz : AH} {z : Int32} (e : j_X10_goes_48 v1 v2 v3 v4 k0 h = some (z, hz)) : AR g X 0 0 (QQ g X NT false hz (.inl (some (.int z))) 0 0) h 48 [.ref 240, .int v1, .int v2, .int v3, .int v4] [.int k0, .ref 240] := by
  unfold j_X10_goes_48 at e
  refine aw_iconst (v := 1) hX (by decide) d_X10_goes_48 ?_
  obtain ⟨q4, f_1246, e_1246⟩ := bd_some e
  clear e
  refine aw_callV (b := 240) (av := [.int k0, .int 1]) (avr := [.int 1, .int k0]) hX (k_X10_right (cx_g hX) hF f_1246) mi_X10_right rfl rfl w_772 w_773 w_774 (by decide) rfl (LAY_lt rfl (by decide)) rfl rfl (Nat.le_of_ble_eq_true rfl) (Nat.zero_le _) (Nat.zero_le _) d_X10_goes_49 ?_
  refine aw_if_ne (t := 57) hX (by decide) d_X10_goes_52 (fun c => ?_) (fun c => ?_)
  · rw [if_neg c] at e_1246
    refine aw_aload_n (i := 0) hX rfl rfl d_X10_goes_57 ?_
    refine aw_iload_n (i := 1) hX rfl rfl d_X10_goes_58 ?_
    refine aw_aload_n (i := 0) hX rfl rfl d_X10_goes_59 ?_
    refine aw_iload_n (i := 1) hX rfl rfl d_X10_goes_60 ?_
    obtain ⟨x5, f_1247, e_1247⟩ := bd_some e_1246
    clear e_1246
    refine aw_callV (b := 240) (av := [.int v1]) (avr := [.int v1]) hX (k_X10_buysOf (cx_g hX) hF f_1247) mi_X10_buysOf rfl rfl w_819 w_820 w_821 (by decide) rfl (LAY_lt rfl (by decide)) rfl rfl (Nat.le_of_ble_eq_true rfl) (Nat.zero_le _) (Nat.zero_le _) d_X10_goes_61 ?_
    refine aw_iconst (v := 1) hX (by decide) d_X10_goes_64 ?_
    obtain ⟨q6, f_1248, e_1248⟩ := bd_some e_1247
    clear e_1247
    refine aw_callV (b := 240) (av := [.int v1, .int x5, .int 1]) (avr := [.int 1, .int x5, .int v1]) hX (k_X10_plans (cx_g hX) hF f_1248) mi_X10_plans rfl rfl w_756 w_757 w_758 (by decide) rfl (LAY_lt rfl (by decide)) rfl rfl (Nat.le_of_ble_eq_true rfl) (Nat.zero_le _) (Nat.zero_le _) d_X10_goes_65 ?_
    refine aw_aload_n (i := 0) hX rfl rfl d_X10_goes_68 ?_
    refine ar_getF hX hF fg_RX10_50 rfl d_X10_goes_69 ?_
    show AR g X 0 0 _ _ 72 _ [.ref 252]
    refine aw_iload_n (i := 2) hX rfl rfl d_X10_goes_72 ?_
    refine aw_iload_n (i := 3) hX rfl rfl d_X10_goes_73 ?_
    refine aw_iload (i := 4) hX rfl d_X10_goes_74 ?_
    obtain ⟨x7, f_1249, e_1249⟩ := bd_some e_1248
    clear e_1248
    refine aw_callS (av := [.int v2, .int v3, .int v4]) (avr := [.int v4, .int v3, .int v2]) hX (k_X10_at (cx_g hX) hF f_1249) mi_X10_at rfl rfl w_745 w_746 rfl (by decide) (Nat.le_of_ble_eq_true rfl) (Nat.zero_le _) (Nat.zero_le _) d_X10_goes_76 ?_
    obtain ⟨x8, f_1250, e_1250⟩ := bd_some e_1249
    clear e_1249
    refine ar_baload hX f_1250 d_X10_goes_79 ?_
    obtain ⟨hz1, e_1251⟩ := if_some e_1250
    clear e_1250
    cases e_1251
    exact aw_zreturn hX hz1 (Nat.zero_le _) (Nat.zero_le _) d_X10_goes_80
  · rw [if_pos c] at e_1246
    refine aw_iconst (v := 0) hX (by decide) d_X10_goes_55 ?_
    cases e_1246
    exact aw_zreturn hX (by decide) (Nat.zero_le _) (Nat.zero_le _) d_X10_goes_56
def j_X10_goes_47 (v1 : Int32) (v2 : Int32) (v3 : Int32) (v4 : Int32) (h : AH) : Option (Int32 × AH) := j_X10_goes_48 v1 v2 v3 v4 0 h
theorem tj_X10_goes_47 {g : GP} {X : MX} {mcR msR : Nat} (hF : gF g = true) (hX : Cx g RX10 cX10_goes 4 mcR msR (some .boolean) [] X) {v1 : Int32} {v2 : Int32} {v3 : Int32} {v4 : Int32} {h hz : AH} {z : Int32} (e : j_X10_goes_47 v1 v2 v3 v4 h = some (z, hz)) : AR g X 0 0 (QQ g X NT false hz (.inl (some (.int z))) 0 0) h 47 [.ref 240, .int v1, .int v2, .int v3, .int v4] [.ref 240] := by
  unfold j_X10_goes_47 at e
  refine aw_iconst (v := 0) hX (by decide) d_X10_goes_47 ?_
  exact tj_X10_goes_48 hF hX e
def s_X10_goes (a0 : Int32) (a1 : Int32) (a2 : Int32) (a3 : Int32) (h : AH) : Option (Int32 × AH) := bd (s_X10_isKind a0 (sI h 240 0 0)) fun q1 => if q1.1 = 0 then some (0, q1.2) else bd (s_X10_isEvening a1 q1.2) fun q2 => if q2.1 = 0 then some (0, q2.2) else bd (s_X10_within a2 0 12 q2.2) fun x3 => if x3 = 0 then j_X10_goes_47 a0 a1 a2 a3 q2.2 else bd (s_X10_within a3 0 16 q2.2) fun x9 => if x9 = 0 then j_X10_goes_47 a0 a1 a2 a3 q2.2 else j_X10_goes_48 a0 a1 a2 a3 1 q2.2
theorem t_X10_goes {g : GP} {X : MX} {mcR msR : Nat} (hF : gF g = true) (hX : Cx g RX10 cX10_goes 4 mcR msR (some .boolean) [] X) {a0 : Int32} {a1 : Int32} {a2 : Int32} {a3 : Int32} {h hz : AH} {z : Int32} (e : s_X10_goes a0 a1 a2 a3 h = some (z, hz)) : AR g X 0 0 (QQ g X NT false hz (.inl (some (.int z))) 0 0) h 0 [.ref 240, .int a0, .int a1, .int a2, .int a3] [] := by
  unfold s_X10_goes at e
  refine aw_aload_n (i := 0) hX rfl rfl d_X10_goes_0 ?_
  refine aw_iconst (v := 0) hX (by decide) d_X10_goes_1 ?_
  refine ar_putI hX fp_RX10_133 rfl d_X10_goes_2 ?_
  refine aw_aload_n (i := 0) hX rfl rfl d_X10_goes_5 ?_
  refine aw_iload_n (i := 1) hX rfl rfl d_X10_goes_6 ?_
  obtain ⟨q1, f_1252, e_1252⟩ := bd_some e
  clear e
  refine aw_callV (b := 240) (av := [.int a0]) (avr := [.int a0]) hX (k_X10_isKind (cx_g hX) hF f_1252) mi_X10_isKind rfl rfl w_811 w_812 w_813 (by decide) rfl (LAY_lt rfl (by decide)) rfl rfl (Nat.le_of_ble_eq_true rfl) (Nat.zero_le _) (Nat.zero_le _) d_X10_goes_7 ?_
  refine aw_if_eq (t := 55) hX (by decide) d_X10_goes_10 (fun c => ?_) (fun c => ?_)
  · rw [if_pos c] at e_1252
    refine aw_iconst (v := 0) hX (by decide) d_X10_goes_55 ?_
    cases e_1252
    exact aw_zreturn hX (by decide) (Nat.zero_le _) (Nat.zero_le _) d_X10_goes_56
  · rw [if_neg c] at e_1252
    refine aw_aload_n (i := 0) hX rfl rfl d_X10_goes_13 ?_
    refine aw_iload_n (i := 2) hX rfl rfl d_X10_goes_14 ?_
    obtain ⟨q2, f_1253, e_1253⟩ := bd_some e_1252
    clear e_1252
    refine aw_callV (b := 240) (av := [.int a1]) (avr := [.int a1]) hX (k_X10_isEvening (cx_g hX) hF f_1253) mi_X10_isEvening rfl rfl w_807 w_808 w_809 (by decide) rfl (LAY_lt rfl (by decide)) rfl rfl (Nat.le_of_ble_eq_true rfl) (Nat.zero_le _) (Nat.zero_le _) d_X10_goes_15 ?_
    refine aw_if_eq (t := 55) hX (by decide) d_X10_goes_18 (fun c => ?_) (fun c => ?_)
    · rw [if_pos c] at e_1253
      refine aw_iconst (v := 0) hX (by decide) d_X10_goes_55 ?_
      cases e_1253
      exact aw_zreturn hX (by decide) (Nat.zero_le _) (Nat.zero_le _) d_X10_goes_56
    · rw [if_neg c] at e_1253
      refine aw_aload_n (i := 0) hX rfl rfl d_X10_goes_21 ?_
      refine aw_iload_n (i := 3) hX rfl rfl d_X10_goes_22 ?_
      refine aw_iconst (v := 0) hX (by decide) d_X10_goes_23 ?_
      refine aw_bipush (v := 12) hX (by decide) d_X10_goes_24 ?_
      obtain ⟨x3, f_1254, e_1254⟩ := bd_some e_1253
      clear e_1253
      refine aw_callS (av := [.int a2, .int 0, .int 12]) (avr := [.int 12, .int 0, .int a2]) hX (k_X10_within (cx_g hX) hF f_1254) mi_X10_within rfl rfl w_800 w_801 rfl (by decide) (Nat.le_of_ble_eq_true rfl) (Nat.zero_le _) (Nat.zero_le _) d_X10_goes_26 ?_
      refine aw_if_eq (t := 47) hX (by decide) d_X10_goes_29 (fun c => ?_) (fun c => ?_)
      · rw [if_pos c] at e_1254
        exact tj_X10_goes_47 hF hX e_1254
      · rw [if_neg c] at e_1254
        refine aw_iload (i := 4) hX rfl d_X10_goes_32 ?_
        refine aw_iconst (v := 0) hX (by decide) d_X10_goes_34 ?_
        refine aw_bipush (v := 16) hX (by decide) d_X10_goes_35 ?_
        obtain ⟨x9, f_1255, e_1255⟩ := bd_some e_1254
        clear e_1254
        refine aw_callS (av := [.int a3, .int 0, .int 16]) (avr := [.int 16, .int 0, .int a3]) hX (k_X10_within (cx_g hX) hF f_1255) mi_X10_within rfl rfl w_800 w_801 rfl (by decide) (Nat.le_of_ble_eq_true rfl) (Nat.zero_le _) (Nat.zero_le _) d_X10_goes_37 ?_
        refine aw_if_eq (t := 47) hX (by decide) d_X10_goes_40 (fun c => ?_) (fun c => ?_)
        · rw [if_pos c] at e_1255
          exact tj_X10_goes_47 hF hX e_1255
        · rw [if_neg c] at e_1255
          refine aw_iconst (v := 1) hX (by decide) d_X10_goes_43 ?_
          refine aw_goto (t := 48) hX (by decide) d_X10_goes_44 ?_
          exact tj_X10_goes_48 hF hX e_1255
theorem k_X10_goes {g : GP} (hg : g.1.stackTraces = false) (hF : gF g = true) {a0 : Int32} {a1 : Int32} {a2 : Int32} {a3 : Int32} {h hz : AH} {z : Int32} (e : s_X10_goes a0 a1 a2 a3 h = some (z, hz)) : Ctr g yX10_goes (wsY yX10_goes cX10_goes 5 (some .boolean)) 4 0 0 [.ref 240, .int a0, .int a1, .int a2, .int a3] NT false h (some (.int z)) NT false hz := ctr_of (lv0 := [.ref 240, .int a0, .int a1, .int a2, .int a3]) rfl rfl (by decide) hg trivial (fun X hX hn => t_X10_goes hF hX e)
theorem d_X10_comingOf_0 : decode cX10_comingOf 0 = .ok (.aload_n 0, 1) := by decide +kernel
theorem d_X10_comingOf_1 : decode cX10_comingOf 1 = .ok (.getfield 64, 3) := by decide +kernel
theorem d_X10_comingOf_4 : decode cX10_comingOf 4 = .ok (.bipush 16, 2) := by decide +kernel
theorem d_X10_comingOf_6 : decode cX10_comingOf 6 = .ok (.iconst 5, 1) := by decide +kernel
theorem d_X10_comingOf_7 : decode cX10_comingOf 7 = .ok (.iload_n 1, 1) := by decide +kernel
theorem d_X10_comingOf_8 : decode cX10_comingOf 8 = .ok (.imul, 1) := by decide +kernel
theorem d_X10_comingOf_9 : decode cX10_comingOf 9 = .ok (.aload_n 0, 1) := by decide +kernel
theorem d_X10_comingOf_10 : decode cX10_comingOf 10 = .ok (.iload_n 1, 1) := by decide +kernel
theorem d_X10_comingOf_11 : decode cX10_comingOf 11 = .ok (.invokevirtual 347, 3) := by decide +kernel
theorem d_X10_comingOf_14 : decode cX10_comingOf 14 = .ok (.iadd, 1) := by decide +kernel
theorem d_X10_comingOf_15 : decode cX10_comingOf 15 = .ok (.imul, 1) := by decide +kernel
theorem d_X10_comingOf_16 : decode cX10_comingOf 16 = .ok (.iload_n 2, 1) := by decide +kernel
theorem d_X10_comingOf_17 : decode cX10_comingOf 17 = .ok (.iadd, 1) := by decide +kernel
theorem d_X10_comingOf_18 : decode cX10_comingOf 18 = .ok (.laload, 1) := by decide +kernel
theorem d_X10_comingOf_19 : decode cX10_comingOf 19 = .ok (.lreturn, 1) := by decide +kernel
def s_X10_comingOf (a0 : Int32) (a1 : Int32) (h : AH) : Option Int64 := bd (s_X10_buysOf a0 h) fun x1 => bd (ldL h 256 ((16 * ((5 * a0) + x1)) + a1)) fun x2 => some x2
theorem t_X10_comingOf {g : GP} {X : MX} {mcR msR : Nat} (hF : gF g = true) (hX : Cx g RX10 cX10_comingOf 3 mcR msR (some .long) [] X) {a0 : Int32} {a1 : Int32} {h : AH} {z : Int64} (e : s_X10_comingOf a0 a1 h = some z) : AR g X 0 0 (QQ g X NT false h (.inl (some (.long z))) 0 0) h 0 [.ref 240, .int a0, .int a1] [] := by
  unfold s_X10_comingOf at e
  refine aw_aload_n (i := 0) hX rfl rfl d_X10_comingOf_0 ?_
  refine ar_getF hX hF fg_RX10_64 rfl d_X10_comingOf_1 ?_
  show AR g X 0 0 _ _ 4 _ [.ref 256]
  refine aw_bipush (v := 16) hX (by decide) d_X10_comingOf_4 ?_
  refine aw_iconst (v := 5) hX (by decide) d_X10_comingOf_6 ?_
  refine aw_iload_n (i := 1) hX rfl rfl d_X10_comingOf_7 ?_
  refine aw_imul hX d_X10_comingOf_8 ?_
  refine aw_aload_n (i := 0) hX rfl rfl d_X10_comingOf_9 ?_
  refine aw_iload_n (i := 1) hX rfl rfl d_X10_comingOf_10 ?_
  obtain ⟨x1, f_1256, e_1256⟩ := bd_some e
  clear e
  refine aw_callV (b := 240) (av := [.int a0]) (avr := [.int a0]) hX (k_X10_buysOf (cx_g hX) hF f_1256) mi_X10_buysOf rfl rfl w_819 w_820 w_821 (by decide) rfl (LAY_lt rfl (by decide)) rfl rfl (Nat.le_of_ble_eq_true rfl) (Nat.zero_le _) (Nat.zero_le _) d_X10_comingOf_11 ?_
  refine aw_iadd hX d_X10_comingOf_14 ?_
  refine aw_imul hX d_X10_comingOf_15 ?_
  refine aw_iload_n (i := 2) hX rfl rfl d_X10_comingOf_16 ?_
  refine aw_iadd hX d_X10_comingOf_17 ?_
  obtain ⟨x2, f_1257, e_1257⟩ := bd_some e_1256
  clear e_1256
  refine ar_laload hX f_1257 d_X10_comingOf_18 ?_
  cases e_1257
  exact aw_lreturn hX (Nat.zero_le _) (Nat.zero_le _) d_X10_comingOf_19
theorem k_X10_comingOf {g : GP} (hg : g.1.stackTraces = false) (hF : gF g = true) {a0 : Int32} {a1 : Int32} {h : AH} {z : Int64} (e : s_X10_comingOf a0 a1 h = some z) : Ctr g yX10_comingOf (wsY yX10_comingOf cX10_comingOf 3 (some .long)) 3 0 0 [.ref 240, .int a0, .int a1] NT false h (some (.long z)) NT false h := ctr_of (lv0 := [.ref 240, .int a0, .int a1]) rfl rfl (by decide) hg trivial (fun X hX hn => t_X10_comingOf hF hX e)
theorem d_X10_coming_0 : decode cX10_coming 0 = .ok (.aload_n 0, 1) := by decide +kernel
theorem d_X10_coming_1 : decode cX10_coming 1 = .ok (.iconst 0, 1) := by decide +kernel
theorem d_X10_coming_2 : decode cX10_coming 2 = .ok (.putfield 133, 3) := by decide +kernel
theorem d_X10_coming_5 : decode cX10_coming 5 = .ok (.aload_n 0, 1) := by decide +kernel
theorem d_X10_coming_6 : decode cX10_coming 6 = .ok (.iload_n 1, 1) := by decide +kernel
theorem d_X10_coming_7 : decode cX10_coming 7 = .ok (.invokevirtual 305, 3) := by decide +kernel
theorem d_X10_coming_10 : decode cX10_coming 10 = .ok (.ifCond .eq 21, 3) := by decide +kernel
theorem d_X10_coming_13 : decode cX10_coming 13 = .ok (.aload_n 0, 1) := by decide +kernel
theorem d_X10_coming_14 : decode cX10_coming 14 = .ok (.iload_n 2, 1) := by decide +kernel
theorem d_X10_coming_15 : decode cX10_coming 15 = .ok (.invokevirtual 302, 3) := by decide +kernel
theorem d_X10_coming_18 : decode cX10_coming 18 = .ok (.ifCond .eq 13, 3) := by decide +kernel
theorem d_X10_coming_21 : decode cX10_coming 21 = .ok (.aload_n 0, 1) := by decide +kernel
theorem d_X10_coming_22 : decode cX10_coming 22 = .ok (.iload_n 1, 1) := by decide +kernel
theorem d_X10_coming_23 : decode cX10_coming 23 = .ok (.iload_n 2, 1) := by decide +kernel
theorem d_X10_coming_24 : decode cX10_coming 24 = .ok (.invokevirtual 350, 3) := by decide +kernel
theorem d_X10_coming_27 : decode cX10_coming 27 = .ok (.l2i, 1) := by decide +kernel
theorem d_X10_coming_28 : decode cX10_coming 28 = .ok (.goto 4, 3) := by decide +kernel
theorem d_X10_coming_31 : decode cX10_coming 31 = .ok (.iconst 0, 1) := by decide +kernel
theorem d_X10_coming_32 : decode cX10_coming 32 = .ok (.ireturn, 1) := by decide +kernel
def s_X10_coming (a0 : Int32) (a1 : Int32) (h : AH) : Option (Int32 × AH) := bd (s_X10_isKind a0 (sI h 240 0 0)) fun q1 => if q1.1 = 0 then some (0, q1.2) else bd (s_X10_isEvening a1 q1.2) fun q2 => if q2.1 = 0 then some (0, q2.2) else bd (s_X10_comingOf a0 a1 q2.2) fun x3 => some (x3.toInt32, q2.2)
theorem t_X10_coming {g : GP} {X : MX} {mcR msR : Nat} (hF : gF g = true) (hX : Cx g RX10 cX10_coming 4 mcR msR (some .int) [] X) {a0 : Int32} {a1 : Int32} {h hz : AH} {z : Int32} (e : s_X10_coming a0 a1 h = some (z, hz)) : AR g X 0 0 (QQ g X NT false hz (.inl (some (.int z))) 0 0) h 0 [.ref 240, .int a0, .int a1] [] := by
  unfold s_X10_coming at e
  refine aw_aload_n (i := 0) hX rfl rfl d_X10_coming_0 ?_
  refine aw_iconst (v := 0) hX (by decide) d_X10_coming_1 ?_
  refine ar_putI hX fp_RX10_133 rfl d_X10_coming_2 ?_
  refine aw_aload_n (i := 0) hX rfl rfl d_X10_coming_5 ?_
  refine aw_iload_n (i := 1) hX rfl rfl d_X10_coming_6 ?_
  obtain ⟨q1, f_1258, e_1258⟩ := bd_some e
  clear e
  refine aw_callV (b := 240) (av := [.int a0]) (avr := [.int a0]) hX (k_X10_isKind (cx_g hX) hF f_1258) mi_X10_isKind rfl rfl w_811 w_812 w_813 (by decide) rfl (LAY_lt rfl (by decide)) rfl rfl (Nat.le_of_ble_eq_true rfl) (Nat.zero_le _) (Nat.zero_le _) d_X10_coming_7 ?_
  refine aw_if_eq (t := 31) hX (by decide) d_X10_coming_10 (fun c => ?_) (fun c => ?_)
  · rw [if_pos c] at e_1258
    refine aw_iconst (v := 0) hX (by decide) d_X10_coming_31 ?_
    cases e_1258
    exact aw_ireturn hX (Nat.zero_le _) (Nat.zero_le _) d_X10_coming_32
  · rw [if_neg c] at e_1258
    refine aw_aload_n (i := 0) hX rfl rfl d_X10_coming_13 ?_
    refine aw_iload_n (i := 2) hX rfl rfl d_X10_coming_14 ?_
    obtain ⟨q2, f_1259, e_1259⟩ := bd_some e_1258
    clear e_1258
    refine aw_callV (b := 240) (av := [.int a1]) (avr := [.int a1]) hX (k_X10_isEvening (cx_g hX) hF f_1259) mi_X10_isEvening rfl rfl w_807 w_808 w_809 (by decide) rfl (LAY_lt rfl (by decide)) rfl rfl (Nat.le_of_ble_eq_true rfl) (Nat.zero_le _) (Nat.zero_le _) d_X10_coming_15 ?_
    refine aw_if_eq (t := 31) hX (by decide) d_X10_coming_18 (fun c => ?_) (fun c => ?_)
    · rw [if_pos c] at e_1259
      refine aw_iconst (v := 0) hX (by decide) d_X10_coming_31 ?_
      cases e_1259
      exact aw_ireturn hX (Nat.zero_le _) (Nat.zero_le _) d_X10_coming_32
    · rw [if_neg c] at e_1259
      refine aw_aload_n (i := 0) hX rfl rfl d_X10_coming_21 ?_
      refine aw_iload_n (i := 1) hX rfl rfl d_X10_coming_22 ?_
      refine aw_iload_n (i := 2) hX rfl rfl d_X10_coming_23 ?_
      obtain ⟨x3, f_1260, e_1260⟩ := bd_some e_1259
      clear e_1259
      refine aw_callV (b := 240) (av := [.int a0, .int a1]) (avr := [.int a1, .int a0]) hX (k_X10_comingOf (cx_g hX) hF f_1260) mi_X10_comingOf rfl rfl w_823 w_824 w_825 (by decide) rfl (LAY_lt rfl (by decide)) rfl rfl (Nat.le_of_ble_eq_true rfl) (Nat.zero_le _) (Nat.zero_le _) d_X10_coming_24 ?_
      refine aw_l2i hX d_X10_coming_27 ?_
      refine aw_goto (t := 32) hX (by decide) d_X10_coming_28 ?_
      cases e_1260
      exact aw_ireturn hX (Nat.zero_le _) (Nat.zero_le _) d_X10_coming_32
theorem k_X10_coming {g : GP} (hg : g.1.stackTraces = false) (hF : gF g = true) {a0 : Int32} {a1 : Int32} {h hz : AH} {z : Int32} (e : s_X10_coming a0 a1 h = some (z, hz)) : Ctr g yX10_coming (wsY yX10_coming cX10_coming 3 (some .int)) 4 0 0 [.ref 240, .int a0, .int a1] NT false h (some (.int z)) NT false hz := ctr_of (lv0 := [.ref 240, .int a0, .int a1]) rfl rfl (by decide) hg trivial (fun X hX hn => t_X10_coming hF hX e)
theorem d_X10_thoughtOf_0 : decode cX10_thoughtOf 0 = .ok (.aload_n 0, 1) := by decide +kernel
theorem d_X10_thoughtOf_1 : decode cX10_thoughtOf 1 = .ok (.iload_n 1, 1) := by decide +kernel
theorem d_X10_thoughtOf_2 : decode cX10_thoughtOf 2 = .ok (.invokevirtual 347, 3) := by decide +kernel
theorem d_X10_thoughtOf_5 : decode cX10_thoughtOf 5 = .ok (.istore_n 2, 1) := by decide +kernel
theorem d_X10_thoughtOf_6 : decode cX10_thoughtOf 6 = .ok (.aload_n 0, 1) := by decide +kernel
theorem d_X10_thoughtOf_7 : decode cX10_thoughtOf 7 = .ok (.iload_n 1, 1) := by decide +kernel
theorem d_X10_thoughtOf_8 : decode cX10_thoughtOf 8 = .ok (.iload_n 2, 1) := by decide +kernel
theorem d_X10_thoughtOf_9 : decode cX10_thoughtOf 9 = .ok (.iconst 1, 1) := by decide +kernel
theorem d_X10_thoughtOf_10 : decode cX10_thoughtOf 10 = .ok (.invokevirtual 333, 3) := by decide +kernel
theorem d_X10_thoughtOf_13 : decode cX10_thoughtOf 13 = .ok (.aload_n 0, 1) := by decide +kernel
theorem d_X10_thoughtOf_14 : decode cX10_thoughtOf 14 = .ok (.iload_n 2, 1) := by decide +kernel
theorem d_X10_thoughtOf_15 : decode cX10_thoughtOf 15 = .ok (.invokevirtual 337, 3) := by decide +kernel
theorem d_X10_thoughtOf_18 : decode cX10_thoughtOf 18 = .ok (.lconst 0, 1) := by decide +kernel
theorem d_X10_thoughtOf_19 : decode cX10_thoughtOf 19 = .ok (.lstore_n 3, 1) := by decide +kernel
theorem d_X10_thoughtOf_20 : decode cX10_thoughtOf 20 = .ok (.iconst 0, 1) := by decide +kernel
theorem d_X10_thoughtOf_21 : decode cX10_thoughtOf 21 = .ok (.istore 5, 2) := by decide +kernel
theorem d_X10_thoughtOf_23 : decode cX10_thoughtOf 23 = .ok (.iload 5, 2) := by decide +kernel
theorem d_X10_thoughtOf_25 : decode cX10_thoughtOf 25 = .ok (.aload_n 0, 1) := by decide +kernel
theorem d_X10_thoughtOf_26 : decode cX10_thoughtOf 26 = .ok (.getfield 262, 3) := by decide +kernel
theorem d_X10_thoughtOf_29 : decode cX10_thoughtOf 29 = .ok (.if_icmp .ge 26, 3) := by decide +kernel
theorem d_X10_thoughtOf_32 : decode cX10_thoughtOf 32 = .ok (.aload_n 0, 1) := by decide +kernel
theorem d_X10_thoughtOf_33 : decode cX10_thoughtOf 33 = .ok (.iload_n 1, 1) := by decide +kernel
theorem d_X10_thoughtOf_34 : decode cX10_thoughtOf 34 = .ok (.iload_n 2, 1) := by decide +kernel
theorem d_X10_thoughtOf_35 : decode cX10_thoughtOf 35 = .ok (.iload 5, 2) := by decide +kernel
theorem d_X10_thoughtOf_37 : decode cX10_thoughtOf 37 = .ok (.iconst 1, 1) := by decide +kernel
theorem d_X10_thoughtOf_38 : decode cX10_thoughtOf 38 = .ok (.iconst 0, 1) := by decide +kernel
theorem d_X10_thoughtOf_39 : decode cX10_thoughtOf 39 = .ok (.invokevirtual 340, 3) := by decide +kernel
theorem d_X10_thoughtOf_42 : decode cX10_thoughtOf 42 = .ok (.lload_n 3, 1) := by decide +kernel
theorem d_X10_thoughtOf_43 : decode cX10_thoughtOf 43 = .ok (.aload_n 0, 1) := by decide +kernel
theorem d_X10_thoughtOf_44 : decode cX10_thoughtOf 44 = .ok (.getfield 322, 3) := by decide +kernel
theorem d_X10_thoughtOf_47 : decode cX10_thoughtOf 47 = .ok (.ladd, 1) := by decide +kernel
theorem d_X10_thoughtOf_48 : decode cX10_thoughtOf 48 = .ok (.lstore_n 3, 1) := by decide +kernel
theorem d_X10_thoughtOf_49 : decode cX10_thoughtOf 49 = .ok (.iinc 5 1, 3) := by decide +kernel
theorem d_X10_thoughtOf_52 : decode cX10_thoughtOf 52 = .ok (.goto (-29), 3) := by decide +kernel
theorem d_X10_thoughtOf_55 : decode cX10_thoughtOf 55 = .ok (.lload_n 3, 1) := by decide +kernel
theorem d_X10_thoughtOf_56 : decode cX10_thoughtOf 56 = .ok (.lreturn, 1) := by decide +kernel
def l_X10_thoughtOf_23 (p1 : Int32) (p2 : Int32) (s : (Int64 × Int32)) (h : AH) : Option (((Int64 × Int32) ⊕ Int64) × AH) := if (gI h 240 3) ≤ s.2 then some (.inr s.1, h) else bd (s_X10_uses p1 p2 s.2 1 0 h) fun q4 => some (.inl ((s.1 + (gL q4.2 240 38)), s.2 + 1), q4.2)
theorem tb_X10_thoughtOf_23 {g : GP} {X : MX} {mcR msR : Nat} (hF : gF g = true) (hX : Cx g RX10 cX10_thoughtOf 4 mcR msR (some .long) [] X) {Q : State → Prop} {p1 : Int32} {p2 : Int32} {s : (Int64 × Int32)} {h hz : AH} {z : ((Int64 × Int32) ⊕ Int64)} (e : l_X10_thoughtOf_23 p1 p2 s h = some (z, hz)) (kI : ∀ (s2 : (Int64 × Int32)), z = .inl s2 → AR g X 0 0 Q hz 23 [.ref 240, .int p1, .int p2, .long s2.1, jk, .int s2.2] []) (kE0 : ∀ (yy : Int64) (y0 : Value) (y1 : Value) (y2 : Value) (y5 : Value), z = .inr yy → AR g X 0 0 Q hz 55 [y0, y1, y2, .long yy, jk, y5] []) : AR g X 0 0 Q h 23 [.ref 240, .int p1, .int p2, .long s.1, jk, .int s.2] [] := by
  unfold l_X10_thoughtOf_23 at e
  refine aw_iload (i := 5) hX rfl d_X10_thoughtOf_23 ?_
  refine aw_aload_n (i := 0) hX rfl rfl d_X10_thoughtOf_25 ?_
  refine ar_getI hX fg_RX10_262 rfl d_X10_thoughtOf_26 ?_
  refine aw_icmp_ge (t := 55) hX (by decide) d_X10_thoughtOf_29 (fun c => ?_) (fun c => ?_)
  · rw [if_pos c] at e
    cases e
    exact kE0 s.1 _ _ _ _ rfl
  · rw [if_neg c] at e
    refine aw_aload_n (i := 0) hX rfl rfl d_X10_thoughtOf_32 ?_
    refine aw_iload_n (i := 1) hX rfl rfl d_X10_thoughtOf_33 ?_
    refine aw_iload_n (i := 2) hX rfl rfl d_X10_thoughtOf_34 ?_
    refine aw_iload (i := 5) hX rfl d_X10_thoughtOf_35 ?_
    refine aw_iconst (v := 1) hX (by decide) d_X10_thoughtOf_37 ?_
    refine aw_iconst (v := 0) hX (by decide) d_X10_thoughtOf_38 ?_
    obtain ⟨q4, f_1261, e_1261⟩ := bd_some e
    clear e
    refine aw_callV (b := 240) (av := [.int p1, .int p2, .int s.2, .int 1, .int 0]) (avr := [.int 0, .int 1, .int s.2, .int p2, .int p1]) hX (k_X10_uses (cx_g hX) hF f_1261) mi_X10_uses rfl rfl w_767 w_768 w_769 (by decide) rfl (LAY_lt rfl (by decide)) rfl rfl (Nat.le_of_ble_eq_true rfl) (Nat.zero_le _) (Nat.zero_le _) d_X10_thoughtOf_39 ?_
    refine aw_lload_n (i := 3) hX rfl rfl d_X10_thoughtOf_42 ?_
    refine aw_aload_n (i := 0) hX rfl rfl d_X10_thoughtOf_43 ?_
    refine ar_getL hX fg_RX10_322 rfl d_X10_thoughtOf_44 ?_
    refine aw_ladd hX d_X10_thoughtOf_47 ?_
    refine aw_lstore_n (i := 3) (lv2 := [.ref 240, .int p1, .int p2, .long (s.1 + (gL q4.2 240 38)), jk, .int s.2]) hX rfl rfl rfl d_X10_thoughtOf_48 ?_
    refine aw_iinc (i := 5) (lv2 := [.ref 240, .int p1, .int p2, .long (s.1 + (gL q4.2 240 38)), jk, .int (s.2 + 1)]) hX rfl rfl rfl rfl d_X10_thoughtOf_49 ?_
    refine aw_goto (t := 23) hX (by decide) d_X10_thoughtOf_52 ?_
    cases e_1261
    exact kI ((s.1 + (gL q4.2 240 38)), s.2 + 1)  rfl
theorem ti_X10_thoughtOf_23 {g : GP} {X : MX} {mcR msR : Nat} (hF : gF g = true) (hX : Cx g RX10 cX10_thoughtOf 4 mcR msR (some .long) [] X) {Q : State → Prop} {p1 : Int32} {p2 : Int32} {y : Int64} {hz : AH} (kE0 : ∀ (y_0 : Value) (y_1 : Value) (y_2 : Value) (y_5 : Value), AR g X 0 0 Q hz 55 [y_0, y_1, y_2, .long y, jk, y_5] []) (n : Nat) : ∀ (s : (Int64 × Int32)) (h : AH), lpH (l_X10_thoughtOf_23 p1 p2) n s h = some (y, hz) → AR g X 0 0 Q h 23 [.ref 240, .int p1, .int p2, .long s.1, jk, .int s.2] [] := by
  induction n with
  | zero => intro s h e; cases e
  | succ n ih =>
    intro s h e
    obtain ⟨x, h1, e1, e2⟩ := lpH_succ e
    rcases e2 with ⟨s2, rfl, e3⟩ | ⟨rfl, rfl⟩
    · exact tb_X10_thoughtOf_23 hF hX e1 (fun s3  hs => by cases hs; exact ih _  _ e3) (fun yy x0 x1 x2 x3 hy => by cases hy)
    · exact tb_X10_thoughtOf_23 hF hX e1 (fun s3  hs => by cases hs) (fun yy x0 x1 x2 x3 hy => by cases hy; exact kE0 x0 x1 x2 x3)
theorem t_X10_thoughtOf_23 {g : GP} {X : MX} {mcR msR : Nat} (hF : gF g = true) (hX : Cx g RX10 cX10_thoughtOf 4 mcR msR (some .long) [] X) {Q : State → Prop} {p1 : Int32} {p2 : Int32} {s : (Int64 × Int32)} {h hz : AH} {n : Nat} {y : Int64} (e : lpH (l_X10_thoughtOf_23 p1 p2) n s h = some (y, hz)) (kE0 : ∀ (y_0 : Value) (y_1 : Value) (y_2 : Value) (y_5 : Value), AR g X 0 0 Q hz 55 [y_0, y_1, y_2, .long y, jk, y_5] []) : AR g X 0 0 Q h 23 [.ref 240, .int p1, .int p2, .long s.1, jk, .int s.2] [] := ti_X10_thoughtOf_23 hF hX kE0 n _  _ e
def s_X10_thoughtOf (a0 : Int32) (h : AH) : Option (Int64 × AH) := bd (s_X10_buysOf a0 h) fun x1 => bd (s_X10_plans a0 x1 1 h) fun q2 => bd (s_X10_begins x1 q2.2) fun q3 => bd (lpH (l_X10_thoughtOf_23 a0 x1) FU (0, 0) q3.2) fun y5 => some (y5.1, y5.2)
theorem t_X10_thoughtOf {g : GP} {X : MX} {mcR msR : Nat} (hF : gF g = true) (hX : Cx g RX10 cX10_thoughtOf 4 mcR msR (some .long) [] X) {a0 : Int32} {h hz : AH} {z : Int64} (e : s_X10_thoughtOf a0 h = some (z, hz)) : AR g X 0 0 (QQ g X NT false hz (.inl (some (.long z))) 0 0) h 0 [.ref 240, .int a0, jk, jk, jk, jk] [] := by
  unfold s_X10_thoughtOf at e
  refine aw_aload_n (i := 0) hX rfl rfl d_X10_thoughtOf_0 ?_
  refine aw_iload_n (i := 1) hX rfl rfl d_X10_thoughtOf_1 ?_
  obtain ⟨x1, f_1262, e_1262⟩ := bd_some e
  clear e
  refine aw_callV (b := 240) (av := [.int a0]) (avr := [.int a0]) hX (k_X10_buysOf (cx_g hX) hF f_1262) mi_X10_buysOf rfl rfl w_819 w_820 w_821 (by decide) rfl (LAY_lt rfl (by decide)) rfl rfl (Nat.le_of_ble_eq_true rfl) (Nat.zero_le _) (Nat.zero_le _) d_X10_thoughtOf_2 ?_
  refine aw_istore_n (i := 2) (lv2 := [.ref 240, .int a0, .int x1, jk, jk, jk]) hX rfl rfl rfl d_X10_thoughtOf_5 ?_
  refine aw_aload_n (i := 0) hX rfl rfl d_X10_thoughtOf_6 ?_
  refine aw_iload_n (i := 1) hX rfl rfl d_X10_thoughtOf_7 ?_
  refine aw_iload_n (i := 2) hX rfl rfl d_X10_thoughtOf_8 ?_
  refine aw_iconst (v := 1) hX (by decide) d_X10_thoughtOf_9 ?_
  obtain ⟨q2, f_1263, e_1263⟩ := bd_some e_1262
  clear e_1262
  refine aw_callV (b := 240) (av := [.int a0, .int x1, .int 1]) (avr := [.int 1, .int x1, .int a0]) hX (k_X10_plans (cx_g hX) hF f_1263) mi_X10_plans rfl rfl w_756 w_757 w_758 (by decide) rfl (LAY_lt rfl (by decide)) rfl rfl (Nat.le_of_ble_eq_true rfl) (Nat.zero_le _) (Nat.zero_le _) d_X10_thoughtOf_10 ?_
  refine aw_aload_n (i := 0) hX rfl rfl d_X10_thoughtOf_13 ?_
  refine aw_iload_n (i := 2) hX rfl rfl d_X10_thoughtOf_14 ?_
  obtain ⟨q3, f_1264, e_1264⟩ := bd_some e_1263
  clear e_1263
  refine aw_callV (b := 240) (av := [.int x1]) (avr := [.int x1]) hX (k_X10_begins (cx_g hX) hF f_1264) mi_X10_begins rfl rfl w_763 w_764 w_765 (by decide) rfl (LAY_lt rfl (by decide)) rfl rfl (Nat.le_of_ble_eq_true rfl) (Nat.zero_le _) (Nat.zero_le _) d_X10_thoughtOf_15 ?_
  refine aw_lconst (v := 0) hX (by decide) d_X10_thoughtOf_18 ?_
  refine aw_lstore_n (i := 3) (lv2 := [.ref 240, .int a0, .int x1, .long 0, jk, jk]) hX rfl rfl rfl d_X10_thoughtOf_19 ?_
  refine aw_iconst (v := 0) hX (by decide) d_X10_thoughtOf_20 ?_
  refine aw_istore (i := 5) (lv2 := [.ref 240, .int a0, .int x1, .long 0, jk, .int 0]) hX rfl rfl d_X10_thoughtOf_21 ?_
  obtain ⟨y5, f_1265, e_1265⟩ := bd_some e_1264
  clear e_1264
  refine t_X10_thoughtOf_23 hF hX f_1265 (fun d6_0 d6_1 d6_2 d6_5 => ?_)
  refine aw_lload_n (i := 3) hX rfl rfl d_X10_thoughtOf_55 ?_
  cases e_1265
  exact aw_lreturn hX (Nat.zero_le _) (Nat.zero_le _) d_X10_thoughtOf_56
theorem k_X10_thoughtOf {g : GP} (hg : g.1.stackTraces = false) (hF : gF g = true) {a0 : Int32} {h hz : AH} {z : Int64} (e : s_X10_thoughtOf a0 h = some (z, hz)) : Ctr g yX10_thoughtOf (wsY yX10_thoughtOf cX10_thoughtOf 6 (some .long)) 4 0 0 [.ref 240, .int a0] NT false h (some (.long z)) NT false hz := ctr_of (lv0 := [.ref 240, .int a0, jk, jk, jk, jk]) rfl rfl (by decide) hg trivial (fun X hX hn => t_X10_thoughtOf hF hX e)
theorem d_X10_kinderOf_0 : decode cX10_kinderOf 0 = .ok (.aload_n 0, 1) := by decide +kernel
theorem d_X10_kinderOf_1 : decode cX10_kinderOf 1 = .ok (.iload_n 1, 1) := by decide +kernel
theorem d_X10_kinderOf_2 : decode cX10_kinderOf 2 = .ok (.iconst 1, 1) := by decide +kernel
theorem d_X10_kinderOf_3 : decode cX10_kinderOf 3 = .ok (.iconst 0, 1) := by decide +kernel
theorem d_X10_kinderOf_4 : decode cX10_kinderOf 4 = .ok (.invokevirtual 333, 3) := by decide +kernel
theorem d_X10_kinderOf_7 : decode cX10_kinderOf 7 = .ok (.aload_n 0, 1) := by decide +kernel
theorem d_X10_kinderOf_8 : decode cX10_kinderOf 8 = .ok (.getfield 47, 3) := by decide +kernel
theorem d_X10_kinderOf_11 : decode cX10_kinderOf 11 = .ok (.iconst 0, 1) := by decide +kernel
theorem d_X10_kinderOf_12 : decode cX10_kinderOf 12 = .ok (.iconst 0, 1) := by decide +kernel
theorem d_X10_kinderOf_13 : decode cX10_kinderOf 13 = .ok (.iconst 0, 1) := by decide +kernel
theorem d_X10_kinderOf_14 : decode cX10_kinderOf 14 = .ok (.invokestatic 316, 3) := by decide +kernel
theorem d_X10_kinderOf_17 : decode cX10_kinderOf 17 = .ok (.iaload, 1) := by decide +kernel
theorem d_X10_kinderOf_18 : decode cX10_kinderOf 18 = .ok (.istore_n 2, 1) := by decide +kernel
theorem d_X10_kinderOf_19 : decode cX10_kinderOf 19 = .ok (.aload_n 0, 1) := by decide +kernel
theorem d_X10_kinderOf_20 : decode cX10_kinderOf 20 = .ok (.iload_n 1, 1) := by decide +kernel
theorem d_X10_kinderOf_21 : decode cX10_kinderOf 21 = .ok (.iconst 0, 1) := by decide +kernel
theorem d_X10_kinderOf_22 : decode cX10_kinderOf 22 = .ok (.iconst 0, 1) := by decide +kernel
theorem d_X10_kinderOf_23 : decode cX10_kinderOf 23 = .ok (.invokevirtual 333, 3) := by decide +kernel
theorem d_X10_kinderOf_26 : decode cX10_kinderOf 26 = .ok (.iload_n 2, 1) := by decide +kernel
theorem d_X10_kinderOf_27 : decode cX10_kinderOf 27 = .ok (.aload_n 0, 1) := by decide +kernel
theorem d_X10_kinderOf_28 : decode cX10_kinderOf 28 = .ok (.getfield 47, 3) := by decide +kernel
theorem d_X10_kinderOf_31 : decode cX10_kinderOf 31 = .ok (.iconst 0, 1) := by decide +kernel
theorem d_X10_kinderOf_32 : decode cX10_kinderOf 32 = .ok (.iconst 0, 1) := by decide +kernel
theorem d_X10_kinderOf_33 : decode cX10_kinderOf 33 = .ok (.iconst 0, 1) := by decide +kernel
theorem d_X10_kinderOf_34 : decode cX10_kinderOf 34 = .ok (.invokestatic 316, 3) := by decide +kernel
theorem d_X10_kinderOf_37 : decode cX10_kinderOf 37 = .ok (.iaload, 1) := by decide +kernel
theorem d_X10_kinderOf_38 : decode cX10_kinderOf 38 = .ok (.isub, 1) := by decide +kernel
theorem d_X10_kinderOf_39 : decode cX10_kinderOf 39 = .ok (.i2l, 1) := by decide +kernel
theorem d_X10_kinderOf_40 : decode cX10_kinderOf 40 = .ok (.ldc2_w 310, 3) := by decide +kernel
theorem d_X10_kinderOf_43 : decode cX10_kinderOf 43 = .ok (.invokestatic 354, 3) := by decide +kernel
theorem d_X10_kinderOf_46 : decode cX10_kinderOf 46 = .ok (.lstore_n 3, 1) := by decide +kernel
theorem d_X10_kinderOf_47 : decode cX10_kinderOf 47 = .ok (.lload_n 3, 1) := by decide +kernel
theorem d_X10_kinderOf_48 : decode cX10_kinderOf 48 = .ok (.lconst 0, 1) := by decide +kernel
theorem d_X10_kinderOf_49 : decode cX10_kinderOf 49 = .ok (.lcmp, 1) := by decide +kernel
theorem d_X10_kinderOf_50 : decode cX10_kinderOf 50 = .ok (.ifCond .ge 7, 3) := by decide +kernel
theorem d_X10_kinderOf_53 : decode cX10_kinderOf 53 = .ok (.iconst (-1), 1) := by decide +kernel
theorem d_X10_kinderOf_54 : decode cX10_kinderOf 54 = .ok (.goto 19, 3) := by decide +kernel
theorem d_X10_kinderOf_57 : decode cX10_kinderOf 57 = .ok (.lload_n 3, 1) := by decide +kernel
theorem d_X10_kinderOf_58 : decode cX10_kinderOf 58 = .ok (.ldc2_w 358, 3) := by decide +kernel
theorem d_X10_kinderOf_61 : decode cX10_kinderOf 61 = .ok (.lcmp, 1) := by decide +kernel
theorem d_X10_kinderOf_62 : decode cX10_kinderOf 62 = .ok (.ifCond .le 9, 3) := by decide +kernel
theorem d_X10_kinderOf_65 : decode cX10_kinderOf 65 = .ok (.sipush 9999, 3) := by decide +kernel
theorem d_X10_kinderOf_68 : decode cX10_kinderOf 68 = .ok (.goto 5, 3) := by decide +kernel
theorem d_X10_kinderOf_71 : decode cX10_kinderOf 71 = .ok (.lload_n 3, 1) := by decide +kernel
theorem d_X10_kinderOf_72 : decode cX10_kinderOf 72 = .ok (.l2i, 1) := by decide +kernel
theorem d_X10_kinderOf_73 : decode cX10_kinderOf 73 = .ok (.ireturn, 1) := by decide +kernel
def s_X10_kinderOf (a0 : Int32) (h : AH) : Option (Int32 × AH) := bd (s_X10_plans a0 1 0 h) fun q1 => bd (s_X10_at 0 0 0 q1.2) fun x2 => bd (ldI q1.2 251 x2) fun x3 => bd (s_X10_plans a0 0 0 q1.2) fun q4 => bd (s_X10_at 0 0 0 q4.2) fun x5 => bd (ldI q4.2 251 x5) fun x6 => bd (s_X10_floor ((x3 - x6).toInt64) 1000 q4.2) fun x7 => if 0 ≤ x7 then if x7 ≤ 9999 then some (x7.toInt32, q4.2) else some (9999, q4.2) else some ((-1), q4.2)
theorem t_X10_kinderOf {g : GP} {X : MX} {mcR msR : Nat} (hF : gF g = true) (hX : Cx g RX10 cX10_kinderOf 4 mcR msR (some .int) [] X) {a0 : Int32} {h hz : AH} {z : Int32} (e : s_X10_kinderOf a0 h = some (z, hz)) : AR g X 0 0 (QQ g X NT false hz (.inl (some (.int z))) 0 0) h 0 [.ref 240, .int a0, jk, jk, jk] [] := by
  unfold s_X10_kinderOf at e
  refine aw_aload_n (i := 0) hX rfl rfl d_X10_kinderOf_0 ?_
  refine aw_iload_n (i := 1) hX rfl rfl d_X10_kinderOf_1 ?_
  refine aw_iconst (v := 1) hX (by decide) d_X10_kinderOf_2 ?_
  refine aw_iconst (v := 0) hX (by decide) d_X10_kinderOf_3 ?_
  obtain ⟨q1, f_1266, e_1266⟩ := bd_some e
  clear e
  refine aw_callV (b := 240) (av := [.int a0, .int 1, .int 0]) (avr := [.int 0, .int 1, .int a0]) hX (k_X10_plans (cx_g hX) hF f_1266) mi_X10_plans rfl rfl w_756 w_757 w_758 (by decide) rfl (LAY_lt rfl (by decide)) rfl rfl (Nat.le_of_ble_eq_true rfl) (Nat.zero_le _) (Nat.zero_le _) d_X10_kinderOf_4 ?_
  refine aw_aload_n (i := 0) hX rfl rfl d_X10_kinderOf_7 ?_
  refine ar_getF hX hF fg_RX10_47 rfl d_X10_kinderOf_8 ?_
  show AR g X 0 0 _ _ 11 _ [.ref 251]
  refine aw_iconst (v := 0) hX (by decide) d_X10_kinderOf_11 ?_
  refine aw_iconst (v := 0) hX (by decide) d_X10_kinderOf_12 ?_
  refine aw_iconst (v := 0) hX (by decide) d_X10_kinderOf_13 ?_
  obtain ⟨x2, f_1267, e_1267⟩ := bd_some e_1266
  clear e_1266
  refine aw_callS (av := [.int 0, .int 0, .int 0]) (avr := [.int 0, .int 0, .int 0]) hX (k_X10_at (cx_g hX) hF f_1267) mi_X10_at rfl rfl w_745 w_746 rfl (by decide) (Nat.le_of_ble_eq_true rfl) (Nat.zero_le _) (Nat.zero_le _) d_X10_kinderOf_14 ?_
  obtain ⟨x3, f_1268, e_1268⟩ := bd_some e_1267
  clear e_1267
  refine ar_iaload hX f_1268 d_X10_kinderOf_17 ?_
  refine aw_istore_n (i := 2) (lv2 := [.ref 240, .int a0, .int x3, jk, jk]) hX rfl rfl rfl d_X10_kinderOf_18 ?_
  refine aw_aload_n (i := 0) hX rfl rfl d_X10_kinderOf_19 ?_
  refine aw_iload_n (i := 1) hX rfl rfl d_X10_kinderOf_20 ?_
  refine aw_iconst (v := 0) hX (by decide) d_X10_kinderOf_21 ?_
  refine aw_iconst (v := 0) hX (by decide) d_X10_kinderOf_22 ?_
  obtain ⟨q4, f_1269, e_1269⟩ := bd_some e_1268
  clear e_1268
  refine aw_callV (b := 240) (av := [.int a0, .int 0, .int 0]) (avr := [.int 0, .int 0, .int a0]) hX (k_X10_plans (cx_g hX) hF f_1269) mi_X10_plans rfl rfl w_756 w_757 w_758 (by decide) rfl (LAY_lt rfl (by decide)) rfl rfl (Nat.le_of_ble_eq_true rfl) (Nat.zero_le _) (Nat.zero_le _) d_X10_kinderOf_23 ?_
  refine aw_iload_n (i := 2) hX rfl rfl d_X10_kinderOf_26 ?_
  refine aw_aload_n (i := 0) hX rfl rfl d_X10_kinderOf_27 ?_
  refine ar_getF hX hF fg_RX10_47 rfl d_X10_kinderOf_28 ?_
  show AR g X 0 0 _ _ 31 _ [.ref 251, .int x3]
  refine aw_iconst (v := 0) hX (by decide) d_X10_kinderOf_31 ?_
  refine aw_iconst (v := 0) hX (by decide) d_X10_kinderOf_32 ?_
  refine aw_iconst (v := 0) hX (by decide) d_X10_kinderOf_33 ?_
  obtain ⟨x5, f_1270, e_1270⟩ := bd_some e_1269
  clear e_1269
  refine aw_callS (av := [.int 0, .int 0, .int 0]) (avr := [.int 0, .int 0, .int 0]) hX (k_X10_at (cx_g hX) hF f_1270) mi_X10_at rfl rfl w_745 w_746 rfl (by decide) (Nat.le_of_ble_eq_true rfl) (Nat.zero_le _) (Nat.zero_le _) d_X10_kinderOf_34 ?_
  obtain ⟨x6, f_1271, e_1271⟩ := bd_some e_1270
  clear e_1270
  refine ar_iaload hX f_1271 d_X10_kinderOf_37 ?_
  refine aw_isub hX d_X10_kinderOf_38 ?_
  refine aw_i2l hX d_X10_kinderOf_39 ?_
  refine aw_ldc2 hX w_737 d_X10_kinderOf_40 ?_
  obtain ⟨x7, f_1272, e_1272⟩ := bd_some e_1271
  clear e_1271
  refine aw_callS (av := [.long ((x3 - x6).toInt64), .long 1000]) (avr := [.long 1000, .long ((x3 - x6).toInt64)]) hX (k_X10_floor (cx_g hX) hF f_1272) mi_X10_floor rfl rfl w_827 w_828 rfl (by decide) (Nat.le_of_ble_eq_true rfl) (Nat.zero_le _) (Nat.zero_le _) d_X10_kinderOf_43 ?_
  refine aw_lstore_n (i := 3) (lv2 := [.ref 240, .int a0, .int x3, .long x7, jk]) hX rfl rfl rfl d_X10_kinderOf_46 ?_
  refine aw_lload_n (i := 3) hX rfl rfl d_X10_kinderOf_47 ?_
  refine aw_lconst (v := 0) hX (by decide) d_X10_kinderOf_48 ?_
  refine aw_lcmp hX d_X10_kinderOf_49 ?_
  refine aw_if_ge (t := 57) hX (by decide) d_X10_kinderOf_50 (fun c => ?_) (fun c => ?_)
  · replace c := lc_ge.mp c
    rw [if_pos c] at e_1272
    refine aw_lload_n (i := 3) hX rfl rfl d_X10_kinderOf_57 ?_
    refine aw_ldc2 hX w_829 d_X10_kinderOf_58 ?_
    refine aw_lcmp hX d_X10_kinderOf_61 ?_
    refine aw_if_le (t := 71) hX (by decide) d_X10_kinderOf_62 (fun c => ?_) (fun c => ?_)
    · replace c := lc_le.mp c
      rw [if_pos c] at e_1272
      refine aw_lload_n (i := 3) hX rfl rfl d_X10_kinderOf_71 ?_
      refine aw_l2i hX d_X10_kinderOf_72 ?_
      cases e_1272
      exact aw_ireturn hX (Nat.zero_le _) (Nat.zero_le _) d_X10_kinderOf_73
    · replace c := fun q => c (lc_le.mpr q)
      rw [if_neg c] at e_1272
      refine aw_sipush (v := 9999) hX (by decide) d_X10_kinderOf_65 ?_
      refine aw_goto (t := 73) hX (by decide) d_X10_kinderOf_68 ?_
      cases e_1272
      exact aw_ireturn hX (Nat.zero_le _) (Nat.zero_le _) d_X10_kinderOf_73
  · replace c := fun q => c (lc_ge.mpr q)
    rw [if_neg c] at e_1272
    refine aw_iconst (v := (-1)) hX (by decide) d_X10_kinderOf_53 ?_
    refine aw_goto (t := 73) hX (by decide) d_X10_kinderOf_54 ?_
    cases e_1272
    exact aw_ireturn hX (Nat.zero_le _) (Nat.zero_le _) d_X10_kinderOf_73
theorem k_X10_kinderOf {g : GP} (hg : g.1.stackTraces = false) (hF : gF g = true) {a0 : Int32} {h hz : AH} {z : Int32} (e : s_X10_kinderOf a0 h = some (z, hz)) : Ctr g yX10_kinderOf (wsY yX10_kinderOf cX10_kinderOf 5 (some .int)) 4 0 0 [.ref 240, .int a0] NT false h (some (.int z)) NT false hz := ctr_of (lv0 := [.ref 240, .int a0, jk, jk, jk]) rfl rfl (by decide) hg trivial (fun X hX hn => t_X10_kinderOf hF hX e)
theorem d_X10_often_0 : decode cX10_often 0 = .ok (.aload_n 0, 1) := by decide +kernel
theorem d_X10_often_1 : decode cX10_often 1 = .ok (.iconst 0, 1) := by decide +kernel
theorem d_X10_often_2 : decode cX10_often 2 = .ok (.putfield 133, 3) := by decide +kernel
theorem d_X10_often_5 : decode cX10_often 5 = .ok (.aload_n 0, 1) := by decide +kernel
theorem d_X10_often_6 : decode cX10_often 6 = .ok (.iload_n 1, 1) := by decide +kernel
theorem d_X10_often_7 : decode cX10_often 7 = .ok (.invokevirtual 305, 3) := by decide +kernel
theorem d_X10_often_10 : decode cX10_often 10 = .ok (.ifCond .eq 17, 3) := by decide +kernel
theorem d_X10_often_13 : decode cX10_often 13 = .ok (.aload_n 0, 1) := by decide +kernel
theorem d_X10_often_14 : decode cX10_often 14 = .ok (.iload_n 2, 1) := by decide +kernel
theorem d_X10_often_15 : decode cX10_often 15 = .ok (.iconst 0, 1) := by decide +kernel
theorem d_X10_often_16 : decode cX10_often 16 = .ok (.iconst 4, 1) := by decide +kernel
theorem d_X10_often_17 : decode cX10_often 17 = .ok (.invokestatic 295, 3) := by decide +kernel
theorem d_X10_often_20 : decode cX10_often 20 = .ok (.iconst 1, 1) := by decide +kernel
theorem d_X10_often_21 : decode cX10_often 21 = .ok (.invokevirtual 253, 3) := by decide +kernel
theorem d_X10_often_24 : decode cX10_often 24 = .ok (.ifCond .ne 5, 3) := by decide +kernel
theorem d_X10_often_27 : decode cX10_often 27 = .ok (.lconst 0, 1) := by decide +kernel
theorem d_X10_often_28 : decode cX10_often 28 = .ok (.lreturn, 1) := by decide +kernel
theorem d_X10_often_29 : decode cX10_often 29 = .ok (.aload_n 0, 1) := by decide +kernel
theorem d_X10_often_30 : decode cX10_often 30 = .ok (.iload_n 1, 1) := by decide +kernel
theorem d_X10_often_31 : decode cX10_often 31 = .ok (.invokevirtual 347, 3) := by decide +kernel
theorem d_X10_often_34 : decode cX10_often 34 = .ok (.istore_n 3, 1) := by decide +kernel
theorem d_X10_often_35 : decode cX10_often 35 = .ok (.iconst 5, 1) := by decide +kernel
theorem d_X10_often_36 : decode cX10_often 36 = .ok (.iload_n 1, 1) := by decide +kernel
theorem d_X10_often_37 : decode cX10_often 37 = .ok (.imul, 1) := by decide +kernel
theorem d_X10_often_38 : decode cX10_often 38 = .ok (.iload_n 3, 1) := by decide +kernel
theorem d_X10_often_39 : decode cX10_often 39 = .ok (.iadd, 1) := by decide +kernel
theorem d_X10_often_40 : decode cX10_often 40 = .ok (.istore 4, 2) := by decide +kernel
theorem d_X10_often_42 : decode cX10_often 42 = .ok (.iload_n 2, 1) := by decide +kernel
theorem d_X10_often_43 : decode cX10_often 43 = .ok (.tableswitch 97 0 3 #[29, 37, 45, 51], 29) := by decide +kernel
theorem d_X10_often_72 : decode cX10_often 72 = .ok (.aload_n 0, 1) := by decide +kernel
theorem d_X10_often_73 : decode cX10_often 73 = .ok (.getfield 67, 3) := by decide +kernel
theorem d_X10_often_76 : decode cX10_often 76 = .ok (.iload 4, 2) := by decide +kernel
theorem d_X10_often_78 : decode cX10_often 78 = .ok (.laload, 1) := by decide +kernel
theorem d_X10_often_79 : decode cX10_often 79 = .ok (.lreturn, 1) := by decide +kernel
theorem d_X10_often_80 : decode cX10_often 80 = .ok (.aload_n 0, 1) := by decide +kernel
theorem d_X10_often_81 : decode cX10_often 81 = .ok (.getfield 70, 3) := by decide +kernel
theorem d_X10_often_84 : decode cX10_often 84 = .ok (.iload 4, 2) := by decide +kernel
theorem d_X10_often_86 : decode cX10_often 86 = .ok (.laload, 1) := by decide +kernel
theorem d_X10_often_87 : decode cX10_often 87 = .ok (.lreturn, 1) := by decide +kernel
theorem d_X10_often_88 : decode cX10_often 88 = .ok (.aload_n 0, 1) := by decide +kernel
theorem d_X10_often_89 : decode cX10_often 89 = .ok (.iload_n 1, 1) := by decide +kernel
theorem d_X10_often_90 : decode cX10_often 90 = .ok (.invokevirtual 360, 3) := by decide +kernel
theorem d_X10_often_93 : decode cX10_often 93 = .ok (.lreturn, 1) := by decide +kernel
theorem d_X10_often_94 : decode cX10_often 94 = .ok (.iload_n 3, 1) := by decide +kernel
theorem d_X10_often_95 : decode cX10_often 95 = .ok (.ifCond .eq 15, 3) := by decide +kernel
theorem d_X10_often_98 : decode cX10_often 98 = .ok (.aload_n 0, 1) := by decide +kernel
theorem d_X10_often_99 : decode cX10_often 99 = .ok (.getfield 67, 3) := by decide +kernel
theorem d_X10_often_102 : decode cX10_often 102 = .ok (.iload 4, 2) := by decide +kernel
theorem d_X10_often_104 : decode cX10_often 104 = .ok (.laload, 1) := by decide +kernel
theorem d_X10_often_105 : decode cX10_often 105 = .ok (.lconst 0, 1) := by decide +kernel
theorem d_X10_often_106 : decode cX10_often 106 = .ok (.lcmp, 1) := by decide +kernel
theorem d_X10_often_107 : decode cX10_often 107 = .ok (.ifCond .ne 9, 3) := by decide +kernel
theorem d_X10_often_110 : decode cX10_often 110 = .ok (.ldc2_w 363, 3) := by decide +kernel
theorem d_X10_often_113 : decode cX10_often 113 = .ok (.goto 26, 3) := by decide +kernel
theorem d_X10_often_116 : decode cX10_often 116 = .ok (.ldc2_w 310, 3) := by decide +kernel
theorem d_X10_often_119 : decode cX10_often 119 = .ok (.aload_n 0, 1) := by decide +kernel
theorem d_X10_often_120 : decode cX10_often 120 = .ok (.getfield 23, 3) := by decide +kernel
theorem d_X10_often_123 : decode cX10_often 123 = .ok (.iload_n 3, 1) := by decide +kernel
theorem d_X10_often_124 : decode cX10_often 124 = .ok (.iaload, 1) := by decide +kernel
theorem d_X10_often_125 : decode cX10_often 125 = .ok (.i2l, 1) := by decide +kernel
theorem d_X10_often_126 : decode cX10_often 126 = .ok (.lmul, 1) := by decide +kernel
theorem d_X10_often_127 : decode cX10_often 127 = .ok (.ldc2_w 331, 3) := by decide +kernel
theorem d_X10_often_130 : decode cX10_often 130 = .ok (.lmul, 1) := by decide +kernel
theorem d_X10_often_131 : decode cX10_often 131 = .ok (.aload_n 0, 1) := by decide +kernel
theorem d_X10_often_132 : decode cX10_often 132 = .ok (.getfield 67, 3) := by decide +kernel
theorem d_X10_often_135 : decode cX10_often 135 = .ok (.iload 4, 2) := by decide +kernel
theorem d_X10_often_137 : decode cX10_often 137 = .ok (.laload, 1) := by decide +kernel
theorem d_X10_often_138 : decode cX10_often 138 = .ok (.ldiv, 1) := by decide +kernel
theorem d_X10_often_139 : decode cX10_often 139 = .ok (.lreturn, 1) := by decide +kernel
theorem d_X10_often_140 : decode cX10_often 140 = .ok (.aload_n 0, 1) := by decide +kernel
theorem d_X10_often_141 : decode cX10_often 141 = .ok (.iload_n 1, 1) := by decide +kernel
theorem d_X10_often_142 : decode cX10_often 142 = .ok (.invokevirtual 365, 3) := by decide +kernel
theorem d_X10_often_145 : decode cX10_often 145 = .ok (.i2l, 1) := by decide +kernel
theorem d_X10_often_146 : decode cX10_often 146 = .ok (.lreturn, 1) := by decide +kernel
def j_X10_often_110 (h : AH) : Option (Int64 × AH) := some ((-1), h)
theorem tj_X10_often_110 {g : GP} {X : MX} {mcR msR : Nat} (hF : gF g = true) (hX : Cx g RX10 cX10_often 5 mcR msR (some .long) [] X) {d0 : Value} {d1 : Value} {d2 : Value} {d3 : Value} {d4 : Value} {h hz : AH} {z : Int64} (e : j_X10_often_110 h = some (z, hz)) : AR g X 0 0 (QQ g X NT false hz (.inl (some (.long z))) 0 0) h 110 [d0, d1, d2, d3, d4] [] := by
  unfold j_X10_often_110 at e
  refine aw_ldc2 hX w_834 d_X10_often_110 ?_
  refine aw_goto (t := 139) hX (by decide) d_X10_often_113 ?_
  cases e
  exact aw_lreturn hX (Nat.zero_le _) (Nat.zero_le _) d_X10_often_139
def s_X10_often (a0 : Int32) (a1 : Int32) (h : AH) : Option (Int64 × AH) := bd (s_X10_isKind a0 (sI h 240 0 0)) fun q1 => if q1.1 = 0 then some (0, q1.2) else bd (s_X10_within a1 0 4 q1.2) fun x2 => bd (s_X10_right x2 1 q1.2) fun q3 => if q3.1 = 0 then some (0, q3.2) else bd (s_X10_buysOf a0 q3.2) fun x4 => if a1 = 0 then bd (ldL q3.2 257 ((5 * a0) + x4)) fun x12 => some (x12, q3.2) else if a1 = 1 then bd (ldL q3.2 258 ((5 * a0) + x4)) fun x11 => some (x11, q3.2) else if a1 = 2 then bd (s_X10_thoughtOf a0 q3.2) fun q10 => some (q10.1, q10.2) else if a1 = 3 then if x4 = 0 then j_X10_often_110 q3.2 else bd (ldL q3.2 257 ((5 * a0) + x4)) fun x6 => if x6 = 0 then j_X10_often_110 q3.2 else bd (ldI q3.2 244 x4) fun x7 => bd (ldL q3.2 257 ((5 * a0) + x4)) fun x8 => bd (ldivF ((1000 * x7.toInt64) * 1000000000) x8) fun x9 => some (x9, q3.2) else bd (s_X10_kinderOf a0 q3.2) fun q5 => some (q5.1.toInt64, q5.2)
theorem t_X10_often {g : GP} {X : MX} {mcR msR : Nat} (hF : gF g = true) (hX : Cx g RX10 cX10_often 5 mcR msR (some .long) [] X) {a0 : Int32} {a1 : Int32} {h hz : AH} {z : Int64} (e : s_X10_often a0 a1 h = some (z, hz)) : AR g X 0 0 (QQ g X NT false hz (.inl (some (.long z))) 0 0) h 0 [.ref 240, .int a0, .int a1, jk, jk] [] := by
  unfold s_X10_often at e
  refine aw_aload_n (i := 0) hX rfl rfl d_X10_often_0 ?_
  refine aw_iconst (v := 0) hX (by decide) d_X10_often_1 ?_
  refine ar_putI hX fp_RX10_133 rfl d_X10_often_2 ?_
  refine aw_aload_n (i := 0) hX rfl rfl d_X10_often_5 ?_
  refine aw_iload_n (i := 1) hX rfl rfl d_X10_often_6 ?_
  obtain ⟨q1, f_1273, e_1273⟩ := bd_some e
  clear e
  refine aw_callV (b := 240) (av := [.int a0]) (avr := [.int a0]) hX (k_X10_isKind (cx_g hX) hF f_1273) mi_X10_isKind rfl rfl w_811 w_812 w_813 (by decide) rfl (LAY_lt rfl (by decide)) rfl rfl (Nat.le_of_ble_eq_true rfl) (Nat.zero_le _) (Nat.zero_le _) d_X10_often_7 ?_
  refine aw_if_eq (t := 27) hX (by decide) d_X10_often_10 (fun c => ?_) (fun c => ?_)
  · rw [if_pos c] at e_1273
    refine aw_lconst (v := 0) hX (by decide) d_X10_often_27 ?_
    cases e_1273
    exact aw_lreturn hX (Nat.zero_le _) (Nat.zero_le _) d_X10_often_28
  · rw [if_neg c] at e_1273
    refine aw_aload_n (i := 0) hX rfl rfl d_X10_often_13 ?_
    refine aw_iload_n (i := 2) hX rfl rfl d_X10_often_14 ?_
    refine aw_iconst (v := 0) hX (by decide) d_X10_often_15 ?_
    refine aw_iconst (v := 4) hX (by decide) d_X10_often_16 ?_
    obtain ⟨x2, f_1274, e_1274⟩ := bd_some e_1273
    clear e_1273
    refine aw_callS (av := [.int a1, .int 0, .int 4]) (avr := [.int 4, .int 0, .int a1]) hX (k_X10_within (cx_g hX) hF f_1274) mi_X10_within rfl rfl w_800 w_801 rfl (by decide) (Nat.le_of_ble_eq_true rfl) (Nat.zero_le _) (Nat.zero_le _) d_X10_often_17 ?_
    refine aw_iconst (v := 1) hX (by decide) d_X10_often_20 ?_
    obtain ⟨q3, f_1275, e_1275⟩ := bd_some e_1274
    clear e_1274
    refine aw_callV (b := 240) (av := [.int x2, .int 1]) (avr := [.int 1, .int x2]) hX (k_X10_right (cx_g hX) hF f_1275) mi_X10_right rfl rfl w_772 w_773 w_774 (by decide) rfl (LAY_lt rfl (by decide)) rfl rfl (Nat.le_of_ble_eq_true rfl) (Nat.zero_le _) (Nat.zero_le _) d_X10_often_21 ?_
    refine aw_if_ne (t := 29) hX (by decide) d_X10_often_24 (fun c => ?_) (fun c => ?_)
    · rw [if_neg c] at e_1275
      refine aw_aload_n (i := 0) hX rfl rfl d_X10_often_29 ?_
      refine aw_iload_n (i := 1) hX rfl rfl d_X10_often_30 ?_
      obtain ⟨x4, f_1276, e_1276⟩ := bd_some e_1275
      clear e_1275
      refine aw_callV (b := 240) (av := [.int a0]) (avr := [.int a0]) hX (k_X10_buysOf (cx_g hX) hF f_1276) mi_X10_buysOf rfl rfl w_819 w_820 w_821 (by decide) rfl (LAY_lt rfl (by decide)) rfl rfl (Nat.le_of_ble_eq_true rfl) (Nat.zero_le _) (Nat.zero_le _) d_X10_often_31 ?_
      refine aw_istore_n (i := 3) (lv2 := [.ref 240, .int a0, .int a1, .int x4, jk]) hX rfl rfl rfl d_X10_often_34 ?_
      refine aw_iconst (v := 5) hX (by decide) d_X10_often_35 ?_
      refine aw_iload_n (i := 1) hX rfl rfl d_X10_often_36 ?_
      refine aw_imul hX d_X10_often_37 ?_
      refine aw_iload_n (i := 3) hX rfl rfl d_X10_often_38 ?_
      refine aw_iadd hX d_X10_often_39 ?_
      refine aw_istore (i := 4) (lv2 := [.ref 240, .int a0, .int a1, .int x4, .int ((5 * a0) + x4)]) hX rfl rfl d_X10_often_40 ?_
      refine aw_iload_n (i := 2) hX rfl rfl d_X10_often_42 ?_
      by_cases c0 : a1 = 0
      · rw [if_pos c0] at e_1276
        refine aw_tableIn (off := 29) (t := 72) hX (by rw [c0]; decide) (by rw [c0]; decide) (by rw [c0]; rfl) (by decide) d_X10_often_43 ?_
        refine aw_aload_n (i := 0) hX rfl rfl d_X10_often_72 ?_
        refine ar_getF hX hF fg_RX10_67 rfl d_X10_often_73 ?_
        show AR g X 0 0 _ _ 76 _ [.ref 257]
        refine aw_iload (i := 4) hX rfl d_X10_often_76 ?_
        obtain ⟨x12, f_1277, e_1277⟩ := bd_some e_1276
        clear e_1276
        refine ar_laload hX f_1277 d_X10_often_78 ?_
        cases e_1277
        exact aw_lreturn hX (Nat.zero_le _) (Nat.zero_le _) d_X10_often_79
      rw [if_neg c0] at e_1276
      by_cases c1 : a1 = 1
      · rw [if_pos c1] at e_1276
        refine aw_tableIn (off := 37) (t := 80) hX (by rw [c1]; decide) (by rw [c1]; decide) (by rw [c1]; rfl) (by decide) d_X10_often_43 ?_
        refine aw_aload_n (i := 0) hX rfl rfl d_X10_often_80 ?_
        refine ar_getF hX hF fg_RX10_70 rfl d_X10_often_81 ?_
        show AR g X 0 0 _ _ 84 _ [.ref 258]
        refine aw_iload (i := 4) hX rfl d_X10_often_84 ?_
        obtain ⟨x11, f_1278, e_1278⟩ := bd_some e_1276
        clear e_1276
        refine ar_laload hX f_1278 d_X10_often_86 ?_
        cases e_1278
        exact aw_lreturn hX (Nat.zero_le _) (Nat.zero_le _) d_X10_often_87
      rw [if_neg c1] at e_1276
      by_cases c2 : a1 = 2
      · rw [if_pos c2] at e_1276
        refine aw_tableIn (off := 45) (t := 88) hX (by rw [c2]; decide) (by rw [c2]; decide) (by rw [c2]; rfl) (by decide) d_X10_often_43 ?_
        refine aw_aload_n (i := 0) hX rfl rfl d_X10_often_88 ?_
        refine aw_iload_n (i := 1) hX rfl rfl d_X10_often_89 ?_
        obtain ⟨q10, f_1279, e_1279⟩ := bd_some e_1276
        clear e_1276
        refine aw_callV (b := 240) (av := [.int a0]) (avr := [.int a0]) hX (k_X10_thoughtOf (cx_g hX) hF f_1279) mi_X10_thoughtOf rfl rfl w_836 w_837 w_838 (by decide) rfl (LAY_lt rfl (by decide)) rfl rfl (Nat.le_of_ble_eq_true rfl) (Nat.zero_le _) (Nat.zero_le _) d_X10_often_90 ?_
        cases e_1279
        exact aw_lreturn hX (Nat.zero_le _) (Nat.zero_le _) d_X10_often_93
      rw [if_neg c2] at e_1276
      by_cases c3 : a1 = 3
      · rw [if_pos c3] at e_1276
        refine aw_tableIn (off := 51) (t := 94) hX (by rw [c3]; decide) (by rw [c3]; decide) (by rw [c3]; rfl) (by decide) d_X10_often_43 ?_
        refine aw_iload_n (i := 3) hX rfl rfl d_X10_often_94 ?_
        refine aw_if_eq (t := 110) hX (by decide) d_X10_often_95 (fun c => ?_) (fun c => ?_)
        · rw [if_pos c] at e_1276
          exact tj_X10_often_110 hF hX e_1276
        · rw [if_neg c] at e_1276
          refine aw_aload_n (i := 0) hX rfl rfl d_X10_often_98 ?_
          refine ar_getF hX hF fg_RX10_67 rfl d_X10_often_99 ?_
          show AR g X 0 0 _ _ 102 _ [.ref 257]
          refine aw_iload (i := 4) hX rfl d_X10_often_102 ?_
          obtain ⟨x6, f_1280, e_1280⟩ := bd_some e_1276
          clear e_1276
          refine ar_laload hX f_1280 d_X10_often_104 ?_
          refine aw_lconst (v := 0) hX (by decide) d_X10_often_105 ?_
          refine aw_lcmp hX d_X10_often_106 ?_
          refine aw_if_ne (t := 116) hX (by decide) d_X10_often_107 (fun c => ?_) (fun c => ?_)
          · replace c := fun q => c (lc_eq.mpr q)
            rw [if_neg c] at e_1280
            refine aw_ldc2 hX w_737 d_X10_often_116 ?_
            refine aw_aload_n (i := 0) hX rfl rfl d_X10_often_119 ?_
            refine ar_getF hX hF fg_RX10_23 rfl d_X10_often_120 ?_
            show AR g X 0 0 _ _ 123 _ [.ref 244, .long 1000]
            refine aw_iload_n (i := 3) hX rfl rfl d_X10_often_123 ?_
            obtain ⟨x7, f_1281, e_1281⟩ := bd_some e_1280
            clear e_1280
            refine ar_iaload hX f_1281 d_X10_often_124 ?_
            refine aw_i2l hX d_X10_often_125 ?_
            refine aw_lmul hX d_X10_often_126 ?_
            refine aw_ldc2 hX w_729 d_X10_often_127 ?_
            refine aw_lmul hX d_X10_often_130 ?_
            refine aw_aload_n (i := 0) hX rfl rfl d_X10_often_131 ?_
            refine ar_getF hX hF fg_RX10_67 rfl d_X10_often_132 ?_
            show AR g X 0 0 _ _ 135 _ [.ref 257, .long ((1000 * x7.toInt64) * 1000000000)]
            refine aw_iload (i := 4) hX rfl d_X10_often_135 ?_
            obtain ⟨x8, f_1282, e_1282⟩ := bd_some e_1281
            clear e_1281
            refine ar_laload hX f_1282 d_X10_often_137 ?_
            obtain ⟨x9, f_1283, e_1283⟩ := bd_some e_1282
            clear e_1282
            refine ar_ldiv hX f_1283 d_X10_often_138 ?_
            cases e_1283
            exact aw_lreturn hX (Nat.zero_le _) (Nat.zero_le _) d_X10_often_139
          · replace c := lc_eq.mp c
            rw [if_pos c] at e_1280
            exact tj_X10_often_110 hF hX e_1280
      rw [if_neg c3] at e_1276
      refine aw_tableOut (t := 140) hX (ts_out 4 (fun j hj => by match j, hj with | 0, _ => exact c0 | 1, _ => exact c1 | 2, _ => exact c2 | 3, _ => exact c3 | q + 4, hj => exact absurd hj (by omega))) (by decide) d_X10_often_43 ?_
      refine aw_aload_n (i := 0) hX rfl rfl d_X10_often_140 ?_
      refine aw_iload_n (i := 1) hX rfl rfl d_X10_often_141 ?_
      obtain ⟨q5, f_1284, e_1284⟩ := bd_some e_1276
      clear e_1276
      refine aw_callV (b := 240) (av := [.int a0]) (avr := [.int a0]) hX (k_X10_kinderOf (cx_g hX) hF f_1284) mi_X10_kinderOf rfl rfl w_831 w_832 w_833 (by decide) rfl (LAY_lt rfl (by decide)) rfl rfl (Nat.le_of_ble_eq_true rfl) (Nat.zero_le _) (Nat.zero_le _) d_X10_often_142 ?_
      refine aw_i2l hX d_X10_often_145 ?_
      cases e_1284
      exact aw_lreturn hX (Nat.zero_le _) (Nat.zero_le _) d_X10_often_146
    · rw [if_pos c] at e_1275
      refine aw_lconst (v := 0) hX (by decide) d_X10_often_27 ?_
      cases e_1275
      exact aw_lreturn hX (Nat.zero_le _) (Nat.zero_le _) d_X10_often_28
theorem k_X10_often {g : GP} (hg : g.1.stackTraces = false) (hF : gF g = true) {a0 : Int32} {a1 : Int32} {h hz : AH} {z : Int64} (e : s_X10_often a0 a1 h = some (z, hz)) : Ctr g yX10_often (wsY yX10_often cX10_often 5 (some .long)) 5 0 0 [.ref 240, .int a0, .int a1] NT false h (some (.long z)) NT false hz := ctr_of (lv0 := [.ref 240, .int a0, .int a1, jk, jk]) rfl rfl (by decide) hg trivial (fun X hX hn => t_X10_often hF hX e)
theorem d_X10_fullAll_0 : decode cX10_fullAll 0 = .ok (.lconst 0, 1) := by decide +kernel
theorem d_X10_fullAll_1 : decode cX10_fullAll 1 = .ok (.lstore_n 2, 1) := by decide +kernel
theorem d_X10_fullAll_2 : decode cX10_fullAll 2 = .ok (.iconst 0, 1) := by decide +kernel
theorem d_X10_fullAll_3 : decode cX10_fullAll 3 = .ok (.istore 4, 2) := by decide +kernel
theorem d_X10_fullAll_5 : decode cX10_fullAll 5 = .ok (.iload 4, 2) := by decide +kernel
theorem d_X10_fullAll_7 : decode cX10_fullAll 7 = .ok (.aload_n 0, 1) := by decide +kernel
theorem d_X10_fullAll_8 : decode cX10_fullAll 8 = .ok (.getfield 265, 3) := by decide +kernel
theorem d_X10_fullAll_11 : decode cX10_fullAll 11 = .ok (.if_icmp .ge 32, 3) := by decide +kernel
theorem d_X10_fullAll_14 : decode cX10_fullAll 14 = .ok (.lload_n 2, 1) := by decide +kernel
theorem d_X10_fullAll_15 : decode cX10_fullAll 15 = .ok (.aload_n 0, 1) := by decide +kernel
theorem d_X10_fullAll_16 : decode cX10_fullAll 16 = .ok (.iload 4, 2) := by decide +kernel
theorem d_X10_fullAll_18 : decode cX10_fullAll 18 = .ok (.iconst 0, 1) := by decide +kernel
theorem d_X10_fullAll_19 : decode cX10_fullAll 19 = .ok (.invokevirtual 292, 3) := by decide +kernel
theorem d_X10_fullAll_22 : decode cX10_fullAll 22 = .ok (.i2l, 1) := by decide +kernel
theorem d_X10_fullAll_23 : decode cX10_fullAll 23 = .ok (.aload_n 0, 1) := by decide +kernel
theorem d_X10_fullAll_24 : decode cX10_fullAll 24 = .ok (.iload 4, 2) := by decide +kernel
theorem d_X10_fullAll_26 : decode cX10_fullAll 26 = .ok (.iload_n 1, 1) := by decide +kernel
theorem d_X10_fullAll_27 : decode cX10_fullAll 27 = .ok (.invokevirtual 350, 3) := by decide +kernel
theorem d_X10_fullAll_30 : decode cX10_fullAll 30 = .ok (.lmul, 1) := by decide +kernel
theorem d_X10_fullAll_31 : decode cX10_fullAll 31 = .ok (.ldc2_w 310, 3) := by decide +kernel
theorem d_X10_fullAll_34 : decode cX10_fullAll 34 = .ok (.ldiv, 1) := by decide +kernel
theorem d_X10_fullAll_35 : decode cX10_fullAll 35 = .ok (.ladd, 1) := by decide +kernel
theorem d_X10_fullAll_36 : decode cX10_fullAll 36 = .ok (.lstore_n 2, 1) := by decide +kernel
theorem d_X10_fullAll_37 : decode cX10_fullAll 37 = .ok (.iinc 4 1, 3) := by decide +kernel
theorem d_X10_fullAll_40 : decode cX10_fullAll 40 = .ok (.goto (-35), 3) := by decide +kernel
theorem d_X10_fullAll_43 : decode cX10_fullAll 43 = .ok (.lload_n 2, 1) := by decide +kernel
theorem d_X10_fullAll_44 : decode cX10_fullAll 44 = .ok (.lreturn, 1) := by decide +kernel
def l_X10_fullAll_5 (p1 : Int32) (h : AH) (s : (Int64 × Int32)) : Option ((Int64 × Int32) ⊕ Int64) := if (gI h 240 4) ≤ s.2 then some (.inr s.1) else bd (s_X10_of s.2 0 h) fun x1 => bd (s_X10_comingOf s.2 p1 h) fun x2 => bd (ldivF (x1.toInt64 * x2) 1000) fun x3 => some (.inl ((s.1 + x3), s.2 + 1))
theorem tb_X10_fullAll_5 {g : GP} {X : MX} {mcR msR : Nat} (hF : gF g = true) (hX : Cx g RX10 cX10_fullAll 4 mcR msR (some .long) [] X) {Q : State → Prop} {p1 : Int32} {s : (Int64 × Int32)} {h : AH} {z : ((Int64 × Int32) ⊕ Int64)} (e : l_X10_fullAll_5 p1 h s = some z) (kI : ∀ (s2 : (Int64 × Int32)), z = .inl s2 → AR g X 0 0 Q h 5 [.ref 240, .int p1, .long s2.1, jk, .int s2.2] []) (kE0 : ∀ (yy : Int64) (y0 : Value) (y1 : Value) (y4 : Value), z = .inr yy → AR g X 0 0 Q h 43 [y0, y1, .long yy, jk, y4] []) : AR g X 0 0 Q h 5 [.ref 240, .int p1, .long s.1, jk, .int s.2] [] := by
  unfold l_X10_fullAll_5 at e
  refine aw_iload (i := 4) hX rfl d_X10_fullAll_5 ?_
  refine aw_aload_n (i := 0) hX rfl rfl d_X10_fullAll_7 ?_
  refine ar_getI hX fg_RX10_265 rfl d_X10_fullAll_8 ?_
  refine aw_icmp_ge (t := 43) hX (by decide) d_X10_fullAll_11 (fun c => ?_) (fun c => ?_)
  · rw [if_pos c] at e
    cases e
    exact kE0 s.1 _ _ _ rfl
  · rw [if_neg c] at e
    refine aw_lload_n (i := 2) hX rfl rfl d_X10_fullAll_14 ?_
    refine aw_aload_n (i := 0) hX rfl rfl d_X10_fullAll_15 ?_
    refine aw_iload (i := 4) hX rfl d_X10_fullAll_16 ?_
    refine aw_iconst (v := 0) hX (by decide) d_X10_fullAll_18 ?_
    obtain ⟨x1, f_1285, e_1285⟩ := bd_some e
    clear e
    refine aw_callV (b := 240) (av := [.int s.2, .int 0]) (avr := [.int 0, .int s.2]) hX (k_X10_of (cx_g hX) hF f_1285) mi_X10_of rfl rfl w_732 w_733 w_734 (by decide) rfl (LAY_lt rfl (by decide)) rfl rfl (Nat.le_of_ble_eq_true rfl) (Nat.zero_le _) (Nat.zero_le _) d_X10_fullAll_19 ?_
    refine aw_i2l hX d_X10_fullAll_22 ?_
    refine aw_aload_n (i := 0) hX rfl rfl d_X10_fullAll_23 ?_
    refine aw_iload (i := 4) hX rfl d_X10_fullAll_24 ?_
    refine aw_iload_n (i := 1) hX rfl rfl d_X10_fullAll_26 ?_
    obtain ⟨x2, f_1286, e_1286⟩ := bd_some e_1285
    clear e_1285
    refine aw_callV (b := 240) (av := [.int s.2, .int p1]) (avr := [.int p1, .int s.2]) hX (k_X10_comingOf (cx_g hX) hF f_1286) mi_X10_comingOf rfl rfl w_823 w_824 w_825 (by decide) rfl (LAY_lt rfl (by decide)) rfl rfl (Nat.le_of_ble_eq_true rfl) (Nat.zero_le _) (Nat.zero_le _) d_X10_fullAll_27 ?_
    refine aw_lmul hX d_X10_fullAll_30 ?_
    refine aw_ldc2 hX w_737 d_X10_fullAll_31 ?_
    obtain ⟨x3, f_1287, e_1287⟩ := bd_some e_1286
    clear e_1286
    refine ar_ldiv hX f_1287 d_X10_fullAll_34 ?_
    refine aw_ladd hX d_X10_fullAll_35 ?_
    refine aw_lstore_n (i := 2) (lv2 := [.ref 240, .int p1, .long (s.1 + x3), jk, .int s.2]) hX rfl rfl rfl d_X10_fullAll_36 ?_
    refine aw_iinc (i := 4) (lv2 := [.ref 240, .int p1, .long (s.1 + x3), jk, .int (s.2 + 1)]) hX rfl rfl rfl rfl d_X10_fullAll_37 ?_
    refine aw_goto (t := 5) hX (by decide) d_X10_fullAll_40 ?_
    cases e_1287
    exact kI ((s.1 + x3), s.2 + 1)  rfl
theorem ti_X10_fullAll_5 {g : GP} {X : MX} {mcR msR : Nat} (hF : gF g = true) (hX : Cx g RX10 cX10_fullAll 4 mcR msR (some .long) [] X) {Q : State → Prop} {p1 : Int32} {y : Int64} {h : AH} (kE0 : ∀ (y_0 : Value) (y_1 : Value) (y_4 : Value), AR g X 0 0 Q h 43 [y_0, y_1, .long y, jk, y_4] []) (n : Nat) : ∀ (s : (Int64 × Int32)), lpP (l_X10_fullAll_5 p1 h) n s = some y → AR g X 0 0 Q h 5 [.ref 240, .int p1, .long s.1, jk, .int s.2] [] := by
  induction n with
  | zero => intro s e; cases e
  | succ n ih =>
    intro s e
    obtain ⟨x, e1, e2⟩ := lpP_succ e
    rcases e2 with ⟨s2, rfl, e3⟩ | rfl
    · exact tb_X10_fullAll_5 hF hX e1 (fun s3  hs => by cases hs; exact ih _   e3) (fun yy x0 x1 x2 hy => by cases hy)
    · exact tb_X10_fullAll_5 hF hX e1 (fun s3  hs => by cases hs) (fun yy x0 x1 x2 hy => by cases hy; exact kE0 x0 x1 x2)
theorem t_X10_fullAll_5 {g : GP} {X : MX} {mcR msR : Nat} (hF : gF g = true) (hX : Cx g RX10 cX10_fullAll 4 mcR msR (some .long) [] X) {Q : State → Prop} {p1 : Int32} {s : (Int64 × Int32)} {h : AH} {n : Nat} {y : Int64} (e : lpP (l_X10_fullAll_5 p1 h) n s = some y) (kE0 : ∀ (y_0 : Value) (y_1 : Value) (y_4 : Value), AR g X 0 0 Q h 43 [y_0, y_1, .long y, jk, y_4] []) : AR g X 0 0 Q h 5 [.ref 240, .int p1, .long s.1, jk, .int s.2] [] := ti_X10_fullAll_5 hF hX kE0 n _   e
def s_X10_fullAll (a0 : Int32) (h : AH) : Option Int64 := bd (lpP (l_X10_fullAll_5 a0 h) FU (0, 0)) fun y4 => some y4
theorem t_X10_fullAll {g : GP} {X : MX} {mcR msR : Nat} (hF : gF g = true) (hX : Cx g RX10 cX10_fullAll 4 mcR msR (some .long) [] X) {a0 : Int32} {h : AH} {z : Int64} (e : s_X10_fullAll a0 h = some z) : AR g X 0 0 (QQ g X NT false h (.inl (some (.long z))) 0 0) h 0 [.ref 240, .int a0, jk, jk, jk] [] := by
  unfold s_X10_fullAll at e
  refine aw_lconst (v := 0) hX (by decide) d_X10_fullAll_0 ?_
  refine aw_lstore_n (i := 2) (lv2 := [.ref 240, .int a0, .long 0, jk, jk]) hX rfl rfl rfl d_X10_fullAll_1 ?_
  refine aw_iconst (v := 0) hX (by decide) d_X10_fullAll_2 ?_
  refine aw_istore (i := 4) (lv2 := [.ref 240, .int a0, .long 0, jk, .int 0]) hX rfl rfl d_X10_fullAll_3 ?_
  obtain ⟨y4, f_1288, e_1288⟩ := bd_some e
  clear e
  refine t_X10_fullAll_5 hF hX f_1288 (fun d5_0 d5_1 d5_4 => ?_)
  refine aw_lload_n (i := 2) hX rfl rfl d_X10_fullAll_43 ?_
  cases e_1288
  exact aw_lreturn hX (Nat.zero_le _) (Nat.zero_le _) d_X10_fullAll_44
theorem k_X10_fullAll {g : GP} (hg : g.1.stackTraces = false) (hF : gF g = true) {a0 : Int32} {h : AH} {z : Int64} (e : s_X10_fullAll a0 h = some z) : Ctr g yX10_fullAll (wsY yX10_fullAll cX10_fullAll 5 (some .long)) 4 0 0 [.ref 240, .int a0] NT false h (some (.long z)) NT false h := ctr_of (lv0 := [.ref 240, .int a0, jk, jk, jk]) rfl rfl (by decide) hg trivial (fun X hX hn => t_X10_fullAll hF hX e)
theorem d_X10_nobody_0 : decode cX10_nobody 0 = .ok (.iconst 0, 1) := by decide +kernel
theorem d_X10_nobody_1 : decode cX10_nobody 1 = .ok (.istore_n 1, 1) := by decide +kernel
theorem d_X10_nobody_2 : decode cX10_nobody 2 = .ok (.iload_n 1, 1) := by decide +kernel
theorem d_X10_nobody_3 : decode cX10_nobody 3 = .ok (.sipush 401, 3) := by decide +kernel
theorem d_X10_nobody_6 : decode cX10_nobody 6 = .ok (.if_icmp .ge 26, 3) := by decide +kernel
theorem d_X10_nobody_9 : decode cX10_nobody 9 = .ok (.aload_n 0, 1) := by decide +kernel
theorem d_X10_nobody_10 : decode cX10_nobody 10 = .ok (.getfield 73, 3) := by decide +kernel
theorem d_X10_nobody_13 : decode cX10_nobody 13 = .ok (.iload_n 1, 1) := by decide +kernel
theorem d_X10_nobody_14 : decode cX10_nobody 14 = .ok (.iload_n 1, 1) := by decide +kernel
theorem d_X10_nobody_15 : decode cX10_nobody 15 = .ok (.ifCond .ne 9, 3) := by decide +kernel
theorem d_X10_nobody_18 : decode cX10_nobody 18 = .ok (.ldc2_w 331, 3) := by decide +kernel
theorem d_X10_nobody_21 : decode cX10_nobody 21 = .ok (.goto 4, 3) := by decide +kernel
theorem d_X10_nobody_24 : decode cX10_nobody 24 = .ok (.lconst 0, 1) := by decide +kernel
theorem d_X10_nobody_25 : decode cX10_nobody 25 = .ok (.lastore, 1) := by decide +kernel
theorem d_X10_nobody_26 : decode cX10_nobody 26 = .ok (.iinc 1 1, 3) := by decide +kernel
theorem d_X10_nobody_29 : decode cX10_nobody 29 = .ok (.goto (-27), 3) := by decide +kernel
theorem d_X10_nobody_32 : decode cX10_nobody 32 = .ok (.return_, 1) := by decide +kernel
def j_X10_nobody_25_2 (v1 : Int32) (k0 : Int64) (k1 : Int32) (h : AH) : Option ((Int32 ⊕ Unit) × AH) := bd (stL h 259 k1 k0) fun m1 => some (.inl (v1 + 1), m1)
theorem tj_X10_nobody_25_2 {g : GP} {X : MX} {mcR msR : Nat} (hF : gF g = true) (hX : Cx g RX10 cX10_nobody 1 mcR msR none [] X) {Q : State → Prop} {v1 : Int32} {k0 : Int64} {k1 : Int32} {h hz : AH} {z : (Int32 ⊕ Unit)} (e : j_X10_nobody_25_2 v1 k0 k1 h = some (z, hz)) (kI : ∀ (s2 : Int32), z = .inl s2 → AR g X 0 0 Q hz 2 [.ref 240, .int s2] []) (kE0 : ∀ (yy : Unit) (y0 : Value) (y1 : Value), z = .inr yy → AR g X 0 0 Q hz 32 [y0, y1] []) : AR g X 0 0 Q h 25 [.ref 240, .int v1] [.long k0, .int k1, .ref 259] := by
  unfold j_X10_nobody_25_2 at e
  obtain ⟨m1, f_1289, e_1289⟩ := bd_some e
  clear e
  refine ar_lastore hX f_1289 d_X10_nobody_25 ?_
  refine aw_iinc (i := 1) (lv2 := [.ref 240, .int (v1 + 1)]) hX rfl rfl rfl rfl d_X10_nobody_26 ?_
  refine aw_goto (t := 2) hX (by decide) d_X10_nobody_29 ?_
  cases e_1289
  exact kI (v1 + 1)  rfl
def l_X10_nobody_2 (s : Int32) (h : AH) : Option ((Int32 ⊕ Unit) × AH) := if 401 ≤ s then some (.inr (), h) else if s = 0 then j_X10_nobody_25_2 s 1000000000 s h else j_X10_nobody_25_2 s 0 s h
theorem tb_X10_nobody_2 {g : GP} {X : MX} {mcR msR : Nat} (hF : gF g = true) (hX : Cx g RX10 cX10_nobody 1 mcR msR none [] X) {Q : State → Prop} {s : Int32} {h hz : AH} {z : (Int32 ⊕ Unit)} (e : l_X10_nobody_2 s h = some (z, hz)) (kI : ∀ (s2 : Int32), z = .inl s2 → AR g X 0 0 Q hz 2 [.ref 240, .int s2] []) (kE0 : ∀ (yy : Unit) (y0 : Value) (y1 : Value), z = .inr yy → AR g X 0 0 Q hz 32 [y0, y1] []) : AR g X 0 0 Q h 2 [.ref 240, .int s] [] := by
  unfold l_X10_nobody_2 at e
  refine aw_iload_n (i := 1) hX rfl rfl d_X10_nobody_2 ?_
  refine aw_sipush (v := 401) hX (by decide) d_X10_nobody_3 ?_
  refine aw_icmp_ge (t := 32) hX (by decide) d_X10_nobody_6 (fun c => ?_) (fun c => ?_)
  · rw [if_pos c] at e
    cases e
    exact kE0 () _ _ rfl
  · rw [if_neg c] at e
    refine aw_aload_n (i := 0) hX rfl rfl d_X10_nobody_9 ?_
    refine ar_getF hX hF fg_RX10_73 rfl d_X10_nobody_10 ?_
    show AR g X 0 0 _ _ 13 _ [.ref 259]
    refine aw_iload_n (i := 1) hX rfl rfl d_X10_nobody_13 ?_
    refine aw_iload_n (i := 1) hX rfl rfl d_X10_nobody_14 ?_
    refine aw_if_ne (t := 24) hX (by decide) d_X10_nobody_15 (fun c => ?_) (fun c => ?_)
    · rw [if_neg c] at e
      refine aw_lconst (v := 0) hX (by decide) d_X10_nobody_24 ?_
      exact tj_X10_nobody_25_2 hF hX e kI kE0
    · rw [if_pos c] at e
      refine aw_ldc2 hX w_729 d_X10_nobody_18 ?_
      refine aw_goto (t := 25) hX (by decide) d_X10_nobody_21 ?_
      exact tj_X10_nobody_25_2 hF hX e kI kE0
theorem ti_X10_nobody_2 {g : GP} {X : MX} {mcR msR : Nat} (hF : gF g = true) (hX : Cx g RX10 cX10_nobody 1 mcR msR none [] X) {Q : State → Prop} {y : Unit} {hz : AH} (kE0 : ∀ (y_0 : Value) (y_1 : Value), AR g X 0 0 Q hz 32 [y_0, y_1] []) (n : Nat) : ∀ (s : Int32) (h : AH), lpH (l_X10_nobody_2) n s h = some (y, hz) → AR g X 0 0 Q h 2 [.ref 240, .int s] [] := by
  induction n with
  | zero => intro s h e; cases e
  | succ n ih =>
    intro s h e
    obtain ⟨x, h1, e1, e2⟩ := lpH_succ e
    rcases e2 with ⟨s2, rfl, e3⟩ | ⟨rfl, rfl⟩
    · exact tb_X10_nobody_2 hF hX e1 (fun s3  hs => by cases hs; exact ih _  _ e3) (fun yy x0 x1 hy => by cases hy)
    · exact tb_X10_nobody_2 hF hX e1 (fun s3  hs => by cases hs) (fun yy x0 x1 hy => by cases hy; exact kE0 x0 x1)
theorem t_X10_nobody_2 {g : GP} {X : MX} {mcR msR : Nat} (hF : gF g = true) (hX : Cx g RX10 cX10_nobody 1 mcR msR none [] X) {Q : State → Prop} {s : Int32} {h hz : AH} {n : Nat} {y : Unit} (e : lpH (l_X10_nobody_2) n s h = some (y, hz)) (kE0 : ∀ (y_0 : Value) (y_1 : Value), AR g X 0 0 Q hz 32 [y_0, y_1] []) : AR g X 0 0 Q h 2 [.ref 240, .int s] [] := ti_X10_nobody_2 hF hX kE0 n _  _ e
def s_X10_nobody (h : AH) : Option (Unit × AH) := bd (lpH (l_X10_nobody_2) FU 0 h) fun y2 => some ((), y2.2)
theorem t_X10_nobody {g : GP} {X : MX} {mcR msR : Nat} (hF : gF g = true) (hX : Cx g RX10 cX10_nobody 1 mcR msR none [] X) {h hz : AH} {z : Unit} (e : s_X10_nobody h = some (z, hz)) : AR g X 0 0 (QQ g X NT false hz (.inl none) 0 0) h 0 [.ref 240, jk] [] := by
  unfold s_X10_nobody at e
  refine aw_iconst (v := 0) hX (by decide) d_X10_nobody_0 ?_
  refine aw_istore_n (i := 1) (lv2 := [.ref 240, .int 0]) hX rfl rfl rfl d_X10_nobody_1 ?_
  obtain ⟨y2, f_1290, e_1290⟩ := bd_some e
  clear e
  refine t_X10_nobody_2 hF hX f_1290 (fun d3_0 d3_1 => ?_)
  cases e_1290
  exact aw_return hX (Nat.zero_le _) (Nat.zero_le _) d_X10_nobody_32
theorem k_X10_nobody {g : GP} (hg : g.1.stackTraces = false) (hF : gF g = true) {h hz : AH} {z : Unit} (e : s_X10_nobody h = some (z, hz)) : Ctr g yX10_nobody (wsY yX10_nobody cX10_nobody 2 none) 1 0 0 [.ref 240] NT false h none NT false hz := ctr_of (lv0 := [.ref 240, jk]) rfl rfl (by decide) hg trivial (fun X hX hn => t_X10_nobody hF hX e)
theorem d_X10_oneMore_0 : decode cX10_oneMore 0 = .ok (.iload_n 1, 1) := by decide +kernel
theorem d_X10_oneMore_1 : decode cX10_oneMore 1 = .ok (.iconst 1, 1) := by decide +kernel
theorem d_X10_oneMore_2 : decode cX10_oneMore 2 = .ok (.iadd, 1) := by decide +kernel
theorem d_X10_oneMore_3 : decode cX10_oneMore 3 = .ok (.istore 4, 2) := by decide +kernel
theorem d_X10_oneMore_5 : decode cX10_oneMore 5 = .ok (.iload 4, 2) := by decide +kernel
theorem d_X10_oneMore_7 : decode cX10_oneMore 7 = .ok (.ifCond .lt 54, 3) := by decide +kernel
theorem d_X10_oneMore_10 : decode cX10_oneMore 10 = .ok (.aload_n 0, 1) := by decide +kernel
theorem d_X10_oneMore_11 : decode cX10_oneMore 11 = .ok (.getfield 73, 3) := by decide +kernel
theorem d_X10_oneMore_14 : decode cX10_oneMore 14 = .ok (.iload 4, 2) := by decide +kernel
theorem d_X10_oneMore_16 : decode cX10_oneMore 16 = .ok (.aload_n 0, 1) := by decide +kernel
theorem d_X10_oneMore_17 : decode cX10_oneMore 17 = .ok (.getfield 73, 3) := by decide +kernel
theorem d_X10_oneMore_20 : decode cX10_oneMore 20 = .ok (.iload 4, 2) := by decide +kernel
theorem d_X10_oneMore_22 : decode cX10_oneMore 22 = .ok (.laload, 1) := by decide +kernel
theorem d_X10_oneMore_23 : decode cX10_oneMore 23 = .ok (.ldc2_w 308, 3) := by decide +kernel
theorem d_X10_oneMore_26 : decode cX10_oneMore 26 = .ok (.lload_n 2, 1) := by decide +kernel
theorem d_X10_oneMore_27 : decode cX10_oneMore 27 = .ok (.lsub, 1) := by decide +kernel
theorem d_X10_oneMore_28 : decode cX10_oneMore 28 = .ok (.lmul, 1) := by decide +kernel
theorem d_X10_oneMore_29 : decode cX10_oneMore 29 = .ok (.iload 4, 2) := by decide +kernel
theorem d_X10_oneMore_31 : decode cX10_oneMore 31 = .ok (.ifCond .ne 7, 3) := by decide +kernel
theorem d_X10_oneMore_34 : decode cX10_oneMore 34 = .ok (.lconst 0, 1) := by decide +kernel
theorem d_X10_oneMore_35 : decode cX10_oneMore 35 = .ok (.goto 14, 3) := by decide +kernel
theorem d_X10_oneMore_38 : decode cX10_oneMore 38 = .ok (.aload_n 0, 1) := by decide +kernel
theorem d_X10_oneMore_39 : decode cX10_oneMore 39 = .ok (.getfield 73, 3) := by decide +kernel
theorem d_X10_oneMore_42 : decode cX10_oneMore 42 = .ok (.iload 4, 2) := by decide +kernel
theorem d_X10_oneMore_44 : decode cX10_oneMore 44 = .ok (.iconst 1, 1) := by decide +kernel
theorem d_X10_oneMore_45 : decode cX10_oneMore 45 = .ok (.isub, 1) := by decide +kernel
theorem d_X10_oneMore_46 : decode cX10_oneMore 46 = .ok (.laload, 1) := by decide +kernel
theorem d_X10_oneMore_47 : decode cX10_oneMore 47 = .ok (.lload_n 2, 1) := by decide +kernel
theorem d_X10_oneMore_48 : decode cX10_oneMore 48 = .ok (.lmul, 1) := by decide +kernel
theorem d_X10_oneMore_49 : decode cX10_oneMore 49 = .ok (.ladd, 1) := by decide +kernel
theorem d_X10_oneMore_50 : decode cX10_oneMore 50 = .ok (.ldc2_w 308, 3) := by decide +kernel
theorem d_X10_oneMore_53 : decode cX10_oneMore 53 = .ok (.ldiv, 1) := by decide +kernel
theorem d_X10_oneMore_54 : decode cX10_oneMore 54 = .ok (.lastore, 1) := by decide +kernel
theorem d_X10_oneMore_55 : decode cX10_oneMore 55 = .ok (.iinc 4 (-1), 3) := by decide +kernel
theorem d_X10_oneMore_58 : decode cX10_oneMore 58 = .ok (.goto (-53), 3) := by decide +kernel
theorem d_X10_oneMore_61 : decode cX10_oneMore 61 = .ok (.return_, 1) := by decide +kernel
def j_X10_oneMore_49_5 (p2 : Int64) (v4 : Int32) (k0 : Int64) (k1 : Int64) (k2 : Int32) (h : AH) : Option ((Int32 ⊕ Unit) × AH) := bd (ldivF (k1 + k0) 1000000) fun x3 => bd (stL h 259 k2 x3) fun m4 => some (.inl (v4 + (-1)), m4)
theorem tj_X10_oneMore_49_5 {g : GP} {X : MX} {mcR msR : Nat} (hF : gF g = true) (hX : Cx g RX10 cX10_oneMore 1 mcR msR none [] X) {Q : State → Prop} {p2 : Int64} {v4 : Int32} {k0 : Int64} {k1 : Int64} {k2 : Int32} {d1 : Value} {h hz : AH} {z : (Int32 ⊕ Unit)} (e : j_X10_oneMore_49_5 p2 v4 k0 k1 k2 h = some (z, hz)) (kI : ∀ (s2 : Int32) (xd1 : Value), z = .inl s2 → AR g X 0 0 Q hz 5 [.ref 240, xd1, .long p2, jk, .int s2] []) (kE0 : ∀ (yy : Unit) (y0 : Value) (y1 : Value) (y2 : Value) (y3 : Value) (y4 : Value), z = .inr yy → AR g X 0 0 Q hz 61 [y0, y1, y2, y3, y4] []) : AR g X 0 0 Q h 49 [.ref 240, d1, .long p2, jk, .int v4] [.long k0, .long k1, .int k2, .ref 259] := by
  unfold j_X10_oneMore_49_5 at e
  refine aw_ladd hX d_X10_oneMore_49 ?_
  refine aw_ldc2 hX w_735 d_X10_oneMore_50 ?_
  obtain ⟨x3, f_1291, e_1291⟩ := bd_some e
  clear e
  refine ar_ldiv hX f_1291 d_X10_oneMore_53 ?_
  obtain ⟨m4, f_1292, e_1292⟩ := bd_some e_1291
  clear e_1291
  refine ar_lastore hX f_1292 d_X10_oneMore_54 ?_
  refine aw_iinc (i := 4) (lv2 := [.ref 240, d1, .long p2, jk, .int (v4 + (-1))]) hX rfl (iz (b := (-1)) (by decide)) rfl rfl d_X10_oneMore_55 ?_
  refine aw_goto (t := 5) hX (by decide) d_X10_oneMore_58 ?_
  cases e_1292
  exact kI (v4 + (-1)) _ rfl
def l_X10_oneMore_5 (p2 : Int64) (s : Int32) (h : AH) : Option ((Int32 ⊕ Unit) × AH) := if s < 0 then some (.inr (), h) else bd (ldL h 259 s) fun x1 => if s = 0 then j_X10_oneMore_49_5 p2 s 0 (x1 * (1000000 - p2)) s h else bd (ldL h 259 (s - 1)) fun x2 => j_X10_oneMore_49_5 p2 s (x2 * p2) (x1 * (1000000 - p2)) s h
theorem tb_X10_oneMore_5 {g : GP} {X : MX} {mcR msR : Nat} (hF : gF g = true) (hX : Cx g RX10 cX10_oneMore 1 mcR msR none [] X) {Q : State → Prop} {p2 : Int64} {s : Int32} {d1 : Value} {h hz : AH} {z : (Int32 ⊕ Unit)} (e : l_X10_oneMore_5 p2 s h = some (z, hz)) (kI : ∀ (s2 : Int32) (xd1 : Value), z = .inl s2 → AR g X 0 0 Q hz 5 [.ref 240, xd1, .long p2, jk, .int s2] []) (kE0 : ∀ (yy : Unit) (y0 : Value) (y1 : Value) (y2 : Value) (y3 : Value) (y4 : Value), z = .inr yy → AR g X 0 0 Q hz 61 [y0, y1, y2, y3, y4] []) : AR g X 0 0 Q h 5 [.ref 240, d1, .long p2, jk, .int s] [] := by
  unfold l_X10_oneMore_5 at e
  refine aw_iload (i := 4) hX rfl d_X10_oneMore_5 ?_
  refine aw_if_lt (t := 61) hX (by decide) d_X10_oneMore_7 (fun c => ?_) (fun c => ?_)
  · rw [if_pos c] at e
    cases e
    exact kE0 () _ _ _ _ _ rfl
  · rw [if_neg c] at e
    refine aw_aload_n (i := 0) hX rfl rfl d_X10_oneMore_10 ?_
    refine ar_getF hX hF fg_RX10_73 rfl d_X10_oneMore_11 ?_
    show AR g X 0 0 _ _ 14 _ [.ref 259]
    refine aw_iload (i := 4) hX rfl d_X10_oneMore_14 ?_
    refine aw_aload_n (i := 0) hX rfl rfl d_X10_oneMore_16 ?_
    refine ar_getF hX hF fg_RX10_73 rfl d_X10_oneMore_17 ?_
    show AR g X 0 0 _ _ 20 _ [.ref 259, .int s, .ref 259]
    refine aw_iload (i := 4) hX rfl d_X10_oneMore_20 ?_
    obtain ⟨x1, f_1293, e_1293⟩ := bd_some e
    clear e
    refine ar_laload hX f_1293 d_X10_oneMore_22 ?_
    refine aw_ldc2 hX w_735 d_X10_oneMore_23 ?_
    refine aw_lload_n (i := 2) hX rfl rfl d_X10_oneMore_26 ?_
    refine aw_lsub hX d_X10_oneMore_27 ?_
    refine aw_lmul hX d_X10_oneMore_28 ?_
    refine aw_iload (i := 4) hX rfl d_X10_oneMore_29 ?_
    refine aw_if_ne (t := 38) hX (by decide) d_X10_oneMore_31 (fun c => ?_) (fun c => ?_)
    · rw [if_neg c] at e_1293
      refine aw_aload_n (i := 0) hX rfl rfl d_X10_oneMore_38 ?_
      refine ar_getF hX hF fg_RX10_73 rfl d_X10_oneMore_39 ?_
      show AR g X 0 0 _ _ 42 _ [.ref 259, .long (x1 * (1000000 - p2)), .int s, .ref 259]
      refine aw_iload (i := 4) hX rfl d_X10_oneMore_42 ?_
      refine aw_iconst (v := 1) hX (by decide) d_X10_oneMore_44 ?_
      refine aw_isub hX d_X10_oneMore_45 ?_
      obtain ⟨x2, f_1294, e_1294⟩ := bd_some e_1293
      clear e_1293
      refine ar_laload hX f_1294 d_X10_oneMore_46 ?_
      refine aw_lload_n (i := 2) hX rfl rfl d_X10_oneMore_47 ?_
      refine aw_lmul hX d_X10_oneMore_48 ?_
      exact tj_X10_oneMore_49_5 hF hX e_1294 kI kE0
    · rw [if_pos c] at e_1293
      refine aw_lconst (v := 0) hX (by decide) d_X10_oneMore_34 ?_
      refine aw_goto (t := 49) hX (by decide) d_X10_oneMore_35 ?_
      exact tj_X10_oneMore_49_5 hF hX e_1293 kI kE0
theorem ti_X10_oneMore_5 {g : GP} {X : MX} {mcR msR : Nat} (hF : gF g = true) (hX : Cx g RX10 cX10_oneMore 1 mcR msR none [] X) {Q : State → Prop} {p2 : Int64} {y : Unit} {hz : AH} (kE0 : ∀ (y_0 : Value) (y_1 : Value) (y_2 : Value) (y_3 : Value) (y_4 : Value), AR g X 0 0 Q hz 61 [y_0, y_1, y_2, y_3, y_4] []) (n : Nat) : ∀ (s : Int32) (d1 : Value) (h : AH), lpH (l_X10_oneMore_5 p2) n s h = some (y, hz) → AR g X 0 0 Q h 5 [.ref 240, d1, .long p2, jk, .int s] [] := by
  induction n with
  | zero => intro s d1 h e; cases e
  | succ n ih =>
    intro s d1 h e
    obtain ⟨x, h1, e1, e2⟩ := lpH_succ e
    rcases e2 with ⟨s2, rfl, e3⟩ | ⟨rfl, rfl⟩
    · exact tb_X10_oneMore_5 hF hX e1 (fun s3 x0 hs => by cases hs; exact ih _ _ _ e3) (fun yy x0 x1 x2 x3 x4 hy => by cases hy)
    · exact tb_X10_oneMore_5 hF hX e1 (fun s3 x0 hs => by cases hs) (fun yy x0 x1 x2 x3 x4 hy => by cases hy; exact kE0 x0 x1 x2 x3 x4)
theorem t_X10_oneMore_5 {g : GP} {X : MX} {mcR msR : Nat} (hF : gF g = true) (hX : Cx g RX10 cX10_oneMore 1 mcR msR none [] X) {Q : State → Prop} {p2 : Int64} {s : Int32} {d1 : Value} {h hz : AH} {n : Nat} {y : Unit} (e : lpH (l_X10_oneMore_5 p2) n s h = some (y, hz)) (kE0 : ∀ (y_0 : Value) (y_1 : Value) (y_2 : Value) (y_3 : Value) (y_4 : Value), AR g X 0 0 Q hz 61 [y_0, y_1, y_2, y_3, y_4] []) : AR g X 0 0 Q h 5 [.ref 240, d1, .long p2, jk, .int s] [] := ti_X10_oneMore_5 hF hX kE0 n _ _ _ e
def s_X10_oneMore (a0 : Int32) (a1 : Int64) (h : AH) : Option (Unit × AH) := bd (lpH (l_X10_oneMore_5 a1) FU (a0 + 1) h) fun y5 => some ((), y5.2)
theorem t_X10_oneMore {g : GP} {X : MX} {mcR msR : Nat} (hF : gF g = true) (hX : Cx g RX10 cX10_oneMore 1 mcR msR none [] X) {a0 : Int32} {a1 : Int64} {h hz : AH} {z : Unit} (e : s_X10_oneMore a0 a1 h = some (z, hz)) : AR g X 0 0 (QQ g X NT false hz (.inl none) 0 0) h 0 [.ref 240, .int a0, .long a1, jk, jk] [] := by
  unfold s_X10_oneMore at e
  refine aw_iload_n (i := 1) hX rfl rfl d_X10_oneMore_0 ?_
  refine aw_iconst (v := 1) hX (by decide) d_X10_oneMore_1 ?_
  refine aw_iadd hX d_X10_oneMore_2 ?_
  refine aw_istore (i := 4) (lv2 := [.ref 240, .int a0, .long a1, jk, .int (a0 + 1)]) hX rfl rfl d_X10_oneMore_3 ?_
  obtain ⟨y5, f_1295, e_1295⟩ := bd_some e
  clear e
  refine t_X10_oneMore_5 hF hX f_1295 (fun d6_0 d6_1 d6_2 d6_3 d6_4 => ?_)
  cases e_1295
  exact aw_return hX (Nat.zero_le _) (Nat.zero_le _) d_X10_oneMore_61
theorem k_X10_oneMore {g : GP} (hg : g.1.stackTraces = false) (hF : gF g = true) {a0 : Int32} {a1 : Int64} {h hz : AH} {z : Unit} (e : s_X10_oneMore a0 a1 h = some (z, hz)) : Ctr g yX10_oneMore (wsY yX10_oneMore cX10_oneMore 5 none) 1 0 0 [.ref 240, .int a0, .long a1] NT false h none NT false hz := ctr_of (lv0 := [.ref 240, .int a0, .long a1, jk, jk]) rfl rfl (by decide) hg trivial (fun X hX hn => t_X10_oneMore hF hX e)
theorem d_X10_above_0 : decode cX10_above 0 = .ok (.lconst 0, 1) := by decide +kernel
theorem d_X10_above_1 : decode cX10_above 1 = .ok (.lstore_n 2, 1) := by decide +kernel
theorem d_X10_above_2 : decode cX10_above 2 = .ok (.aload_n 0, 1) := by decide +kernel
theorem d_X10_above_3 : decode cX10_above 3 = .ok (.getfield 7, 3) := by decide +kernel
theorem d_X10_above_6 : decode cX10_above 6 = .ok (.iconst 1, 1) := by decide +kernel
theorem d_X10_above_7 : decode cX10_above 7 = .ok (.iadd, 1) := by decide +kernel
theorem d_X10_above_8 : decode cX10_above 8 = .ok (.istore 4, 2) := by decide +kernel
theorem d_X10_above_10 : decode cX10_above 10 = .ok (.iload 4, 2) := by decide +kernel
theorem d_X10_above_12 : decode cX10_above 12 = .ok (.iload_n 1, 1) := by decide +kernel
theorem d_X10_above_13 : decode cX10_above 13 = .ok (.if_icmp .gt 19, 3) := by decide +kernel
theorem d_X10_above_16 : decode cX10_above 16 = .ok (.lload_n 2, 1) := by decide +kernel
theorem d_X10_above_17 : decode cX10_above 17 = .ok (.aload_n 0, 1) := by decide +kernel
theorem d_X10_above_18 : decode cX10_above 18 = .ok (.getfield 73, 3) := by decide +kernel
theorem d_X10_above_21 : decode cX10_above 21 = .ok (.iload 4, 2) := by decide +kernel
theorem d_X10_above_23 : decode cX10_above 23 = .ok (.laload, 1) := by decide +kernel
theorem d_X10_above_24 : decode cX10_above 24 = .ok (.ladd, 1) := by decide +kernel
theorem d_X10_above_25 : decode cX10_above 25 = .ok (.lstore_n 2, 1) := by decide +kernel
theorem d_X10_above_26 : decode cX10_above 26 = .ok (.iinc 4 1, 3) := by decide +kernel
theorem d_X10_above_29 : decode cX10_above 29 = .ok (.goto (-19), 3) := by decide +kernel
theorem d_X10_above_32 : decode cX10_above 32 = .ok (.lload_n 2, 1) := by decide +kernel
theorem d_X10_above_33 : decode cX10_above 33 = .ok (.lreturn, 1) := by decide +kernel
def l_X10_above_10 (p1 : Int32) (h : AH) (s : (Int64 × Int32)) : Option ((Int64 × Int32) ⊕ Int64) := if p1 < s.2 then some (.inr s.1) else bd (ldL h 259 s.2) fun x1 => some (.inl ((s.1 + x1), s.2 + 1))
theorem tb_X10_above_10 {g : GP} {X : MX} {mcR msR : Nat} (hF : gF g = true) (hX : Cx g RX10 cX10_above 1 mcR msR (some .long) [] X) {Q : State → Prop} {p1 : Int32} {s : (Int64 × Int32)} {h : AH} {z : ((Int64 × Int32) ⊕ Int64)} (e : l_X10_above_10 p1 h s = some z) (kI : ∀ (s2 : (Int64 × Int32)), z = .inl s2 → AR g X 0 0 Q h 10 [.ref 240, .int p1, .long s2.1, jk, .int s2.2] []) (kE0 : ∀ (yy : Int64) (y0 : Value) (y1 : Value) (y4 : Value), z = .inr yy → AR g X 0 0 Q h 32 [y0, y1, .long yy, jk, y4] []) : AR g X 0 0 Q h 10 [.ref 240, .int p1, .long s.1, jk, .int s.2] [] := by
  unfold l_X10_above_10 at e
  refine aw_iload (i := 4) hX rfl d_X10_above_10 ?_
  refine aw_iload_n (i := 1) hX rfl rfl d_X10_above_12 ?_
  refine aw_icmp_gt (t := 32) hX (by decide) d_X10_above_13 (fun c => ?_) (fun c => ?_)
  · rw [if_pos c] at e
    cases e
    exact kE0 s.1 _ _ _ rfl
  · rw [if_neg c] at e
    refine aw_lload_n (i := 2) hX rfl rfl d_X10_above_16 ?_
    refine aw_aload_n (i := 0) hX rfl rfl d_X10_above_17 ?_
    refine ar_getF hX hF fg_RX10_73 rfl d_X10_above_18 ?_
    show AR g X 0 0 _ _ 21 _ [.ref 259, .long s.1]
    refine aw_iload (i := 4) hX rfl d_X10_above_21 ?_
    obtain ⟨x1, f_1296, e_1296⟩ := bd_some e
    clear e
    refine ar_laload hX f_1296 d_X10_above_23 ?_
    refine aw_ladd hX d_X10_above_24 ?_
    refine aw_lstore_n (i := 2) (lv2 := [.ref 240, .int p1, .long (s.1 + x1), jk, .int s.2]) hX rfl rfl rfl d_X10_above_25 ?_
    refine aw_iinc (i := 4) (lv2 := [.ref 240, .int p1, .long (s.1 + x1), jk, .int (s.2 + 1)]) hX rfl rfl rfl rfl d_X10_above_26 ?_
    refine aw_goto (t := 10) hX (by decide) d_X10_above_29 ?_
    cases e_1296
    exact kI ((s.1 + x1), s.2 + 1)  rfl
theorem ti_X10_above_10 {g : GP} {X : MX} {mcR msR : Nat} (hF : gF g = true) (hX : Cx g RX10 cX10_above 1 mcR msR (some .long) [] X) {Q : State → Prop} {p1 : Int32} {y : Int64} {h : AH} (kE0 : ∀ (y_0 : Value) (y_1 : Value) (y_4 : Value), AR g X 0 0 Q h 32 [y_0, y_1, .long y, jk, y_4] []) (n : Nat) : ∀ (s : (Int64 × Int32)), lpP (l_X10_above_10 p1 h) n s = some y → AR g X 0 0 Q h 10 [.ref 240, .int p1, .long s.1, jk, .int s.2] [] := by
  induction n with
  | zero => intro s e; cases e
  | succ n ih =>
    intro s e
    obtain ⟨x, e1, e2⟩ := lpP_succ e
    rcases e2 with ⟨s2, rfl, e3⟩ | rfl
    · exact tb_X10_above_10 hF hX e1 (fun s3  hs => by cases hs; exact ih _   e3) (fun yy x0 x1 x2 hy => by cases hy)
    · exact tb_X10_above_10 hF hX e1 (fun s3  hs => by cases hs) (fun yy x0 x1 x2 hy => by cases hy; exact kE0 x0 x1 x2)
theorem t_X10_above_10 {g : GP} {X : MX} {mcR msR : Nat} (hF : gF g = true) (hX : Cx g RX10 cX10_above 1 mcR msR (some .long) [] X) {Q : State → Prop} {p1 : Int32} {s : (Int64 × Int32)} {h : AH} {n : Nat} {y : Int64} (e : lpP (l_X10_above_10 p1 h) n s = some y) (kE0 : ∀ (y_0 : Value) (y_1 : Value) (y_4 : Value), AR g X 0 0 Q h 32 [y_0, y_1, .long y, jk, y_4] []) : AR g X 0 0 Q h 10 [.ref 240, .int p1, .long s.1, jk, .int s.2] [] := ti_X10_above_10 hF hX kE0 n _   e
def s_X10_above (a0 : Int32) (h : AH) : Option Int64 := bd (lpP (l_X10_above_10 a0 h) FU (0, ((gI h 240 1) + 1))) fun y2 => some y2
theorem t_X10_above {g : GP} {X : MX} {mcR msR : Nat} (hF : gF g = true) (hX : Cx g RX10 cX10_above 1 mcR msR (some .long) [] X) {a0 : Int32} {h : AH} {z : Int64} (e : s_X10_above a0 h = some z) : AR g X 0 0 (QQ g X NT false h (.inl (some (.long z))) 0 0) h 0 [.ref 240, .int a0, jk, jk, jk] [] := by
  unfold s_X10_above at e
  refine aw_lconst (v := 0) hX (by decide) d_X10_above_0 ?_
  refine aw_lstore_n (i := 2) (lv2 := [.ref 240, .int a0, .long 0, jk, jk]) hX rfl rfl rfl d_X10_above_1 ?_
  refine aw_aload_n (i := 0) hX rfl rfl d_X10_above_2 ?_
  refine ar_getI hX fg_RX10_7 rfl d_X10_above_3 ?_
  refine aw_iconst (v := 1) hX (by decide) d_X10_above_6 ?_
  refine aw_iadd hX d_X10_above_7 ?_
  refine aw_istore (i := 4) (lv2 := [.ref 240, .int a0, .long 0, jk, .int ((gI h 240 1) + 1)]) hX rfl rfl d_X10_above_8 ?_
  obtain ⟨y2, f_1297, e_1297⟩ := bd_some e
  clear e
  refine t_X10_above_10 hF hX f_1297 (fun d3_0 d3_1 d3_4 => ?_)
  refine aw_lload_n (i := 2) hX rfl rfl d_X10_above_32 ?_
  cases e_1297
  exact aw_lreturn hX (Nat.zero_le _) (Nat.zero_le _) d_X10_above_33
theorem k_X10_above {g : GP} (hg : g.1.stackTraces = false) (hF : gF g = true) {a0 : Int32} {h : AH} {z : Int64} (e : s_X10_above a0 h = some z) : Ctr g yX10_above (wsY yX10_above cX10_above 5 (some .long)) 1 0 0 [.ref 240, .int a0] NT false h (some (.long z)) NT false h := ctr_of (lv0 := [.ref 240, .int a0, jk, jk, jk]) rfl rfl (by decide) hg trivial (fun X hX hn => t_X10_above hF hX e)
theorem d_X10_standing_0 : decode cX10_standing 0 = .ok (.aload_n 0, 1) := by decide +kernel
theorem d_X10_standing_1 : decode cX10_standing 1 = .ok (.invokevirtual 368, 3) := by decide +kernel
theorem d_X10_standing_4 : decode cX10_standing 4 = .ok (.iconst 0, 1) := by decide +kernel
theorem d_X10_standing_5 : decode cX10_standing 5 = .ok (.istore_n 2, 1) := by decide +kernel
theorem d_X10_standing_6 : decode cX10_standing 6 = .ok (.iconst 0, 1) := by decide +kernel
theorem d_X10_standing_7 : decode cX10_standing 7 = .ok (.istore_n 3, 1) := by decide +kernel
theorem d_X10_standing_8 : decode cX10_standing 8 = .ok (.iload_n 3, 1) := by decide +kernel
theorem d_X10_standing_9 : decode cX10_standing 9 = .ok (.aload_n 0, 1) := by decide +kernel
theorem d_X10_standing_10 : decode cX10_standing 10 = .ok (.getfield 265, 3) := by decide +kernel
theorem d_X10_standing_13 : decode cX10_standing 13 = .ok (.if_icmp .ge 51, 3) := by decide +kernel
theorem d_X10_standing_16 : decode cX10_standing 16 = .ok (.aload_n 0, 1) := by decide +kernel
theorem d_X10_standing_17 : decode cX10_standing 17 = .ok (.iload_n 3, 1) := by decide +kernel
theorem d_X10_standing_18 : decode cX10_standing 18 = .ok (.iload_n 1, 1) := by decide +kernel
theorem d_X10_standing_19 : decode cX10_standing 19 = .ok (.invokevirtual 350, 3) := by decide +kernel
theorem d_X10_standing_22 : decode cX10_standing 22 = .ok (.ldc2_w 310, 3) := by decide +kernel
theorem d_X10_standing_25 : decode cX10_standing 25 = .ok (.ldiv, 1) := by decide +kernel
theorem d_X10_standing_26 : decode cX10_standing 26 = .ok (.lstore 4, 2) := by decide +kernel
theorem d_X10_standing_28 : decode cX10_standing 28 = .ok (.iconst 0, 1) := by decide +kernel
theorem d_X10_standing_29 : decode cX10_standing 29 = .ok (.istore 6, 2) := by decide +kernel
theorem d_X10_standing_31 : decode cX10_standing 31 = .ok (.iload 6, 2) := by decide +kernel
theorem d_X10_standing_33 : decode cX10_standing 33 = .ok (.aload_n 0, 1) := by decide +kernel
theorem d_X10_standing_34 : decode cX10_standing 34 = .ok (.iload_n 3, 1) := by decide +kernel
theorem d_X10_standing_35 : decode cX10_standing 35 = .ok (.iconst 0, 1) := by decide +kernel
theorem d_X10_standing_36 : decode cX10_standing 36 = .ok (.invokevirtual 292, 3) := by decide +kernel
theorem d_X10_standing_39 : decode cX10_standing 39 = .ok (.if_icmp .ge 19, 3) := by decide +kernel
theorem d_X10_standing_42 : decode cX10_standing 42 = .ok (.aload_n 0, 1) := by decide +kernel
theorem d_X10_standing_43 : decode cX10_standing 43 = .ok (.iload_n 2, 1) := by decide +kernel
theorem d_X10_standing_44 : decode cX10_standing 44 = .ok (.lload 4, 2) := by decide +kernel
theorem d_X10_standing_46 : decode cX10_standing 46 = .ok (.invokevirtual 371, 3) := by decide +kernel
theorem d_X10_standing_49 : decode cX10_standing 49 = .ok (.iinc 2 1, 3) := by decide +kernel
theorem d_X10_standing_52 : decode cX10_standing 52 = .ok (.iinc 6 1, 3) := by decide +kernel
theorem d_X10_standing_55 : decode cX10_standing 55 = .ok (.goto (-24), 3) := by decide +kernel
theorem d_X10_standing_58 : decode cX10_standing 58 = .ok (.iinc 3 1, 3) := by decide +kernel
theorem d_X10_standing_61 : decode cX10_standing 61 = .ok (.goto (-53), 3) := by decide +kernel
theorem d_X10_standing_64 : decode cX10_standing 64 = .ok (.aload_n 0, 1) := by decide +kernel
theorem d_X10_standing_65 : decode cX10_standing 65 = .ok (.iload_n 2, 1) := by decide +kernel
theorem d_X10_standing_66 : decode cX10_standing 66 = .ok (.invokevirtual 375, 3) := by decide +kernel
theorem d_X10_standing_69 : decode cX10_standing 69 = .ok (.lreturn, 1) := by decide +kernel
def l_X10_standing_31 (p1 : Int32) (p3 : Int32) (p4 : Int64) (s : (Int32 × Int32)) (h : AH) : Option (((Int32 × Int32) ⊕ Int32) × AH) := bd (s_X10_of p3 0 h) fun x4 => if x4 ≤ s.2 then some (.inr s.1, h) else bd (s_X10_oneMore s.1 p4 h) fun q5 => some (.inl (s.1 + 1, s.2 + 1), q5.2)
theorem tb_X10_standing_31 {g : GP} {X : MX} {mcR msR : Nat} (hF : gF g = true) (hX : Cx g RX10 cX10_standing 4 mcR msR (some .long) [] X) {Q : State → Prop} {p1 : Int32} {p3 : Int32} {p4 : Int64} {s : (Int32 × Int32)} {h hz : AH} {z : ((Int32 × Int32) ⊕ Int32)} (e : l_X10_standing_31 p1 p3 p4 s h = some (z, hz)) (kI : ∀ (s2 : (Int32 × Int32)), z = .inl s2 → AR g X 0 0 Q hz 31 [.ref 240, .int p1, .int s2.1, .int p3, .long p4, jk, .int s2.2] []) (kE0 : ∀ (yy : Int32) (y4 : Value) (y5 : Value) (y6 : Value), z = .inr yy → AR g X 0 0 Q hz 58 [.ref 240, .int p1, .int yy, .int p3, y4, y5, y6] []) : AR g X 0 0 Q h 31 [.ref 240, .int p1, .int s.1, .int p3, .long p4, jk, .int s.2] [] := by
  unfold l_X10_standing_31 at e
  refine aw_iload (i := 6) hX rfl d_X10_standing_31 ?_
  refine aw_aload_n (i := 0) hX rfl rfl d_X10_standing_33 ?_
  refine aw_iload_n (i := 3) hX rfl rfl d_X10_standing_34 ?_
  refine aw_iconst (v := 0) hX (by decide) d_X10_standing_35 ?_
  obtain ⟨x4, f_1298, e_1298⟩ := bd_some e
  clear e
  refine aw_callV (b := 240) (av := [.int p3, .int 0]) (avr := [.int 0, .int p3]) hX (k_X10_of (cx_g hX) hF f_1298) mi_X10_of rfl rfl w_732 w_733 w_734 (by decide) rfl (LAY_lt rfl (by decide)) rfl rfl (Nat.le_of_ble_eq_true rfl) (Nat.zero_le _) (Nat.zero_le _) d_X10_standing_36 ?_
  refine aw_icmp_ge (t := 58) hX (by decide) d_X10_standing_39 (fun c => ?_) (fun c => ?_)
  · rw [if_pos c] at e_1298
    cases e_1298
    exact kE0 s.1 _ _ _ rfl
  · rw [if_neg c] at e_1298
    refine aw_aload_n (i := 0) hX rfl rfl d_X10_standing_42 ?_
    refine aw_iload_n (i := 2) hX rfl rfl d_X10_standing_43 ?_
    refine aw_lload (i := 4) hX rfl d_X10_standing_44 ?_
    obtain ⟨q5, f_1299, e_1299⟩ := bd_some e_1298
    clear e_1298
    refine aw_callV (b := 240) (av := [.int s.1, .long p4]) (avr := [.long p4, .int s.1]) hX (k_X10_oneMore (cx_g hX) hF f_1299) mi_X10_oneMore rfl rfl w_845 w_846 w_847 (by decide) rfl (LAY_lt rfl (by decide)) rfl rfl (Nat.le_of_ble_eq_true rfl) (Nat.zero_le _) (Nat.zero_le _) d_X10_standing_46 ?_
    refine aw_iinc (i := 2) (lv2 := [.ref 240, .int p1, .int (s.1 + 1), .int p3, .long p4, jk, .int s.2]) hX rfl rfl rfl rfl d_X10_standing_49 ?_
    refine aw_iinc (i := 6) (lv2 := [.ref 240, .int p1, .int (s.1 + 1), .int p3, .long p4, jk, .int (s.2 + 1)]) hX rfl rfl rfl rfl d_X10_standing_52 ?_
    refine aw_goto (t := 31) hX (by decide) d_X10_standing_55 ?_
    cases e_1299
    exact kI (s.1 + 1, s.2 + 1)  rfl
theorem ti_X10_standing_31 {g : GP} {X : MX} {mcR msR : Nat} (hF : gF g = true) (hX : Cx g RX10 cX10_standing 4 mcR msR (some .long) [] X) {Q : State → Prop} {p1 : Int32} {p3 : Int32} {p4 : Int64} {y : Int32} {hz : AH} (kE0 : ∀ (y_4 : Value) (y_5 : Value) (y_6 : Value), AR g X 0 0 Q hz 58 [.ref 240, .int p1, .int y, .int p3, y_4, y_5, y_6] []) (n : Nat) : ∀ (s : (Int32 × Int32)) (h : AH), lpH (l_X10_standing_31 p1 p3 p4) n s h = some (y, hz) → AR g X 0 0 Q h 31 [.ref 240, .int p1, .int s.1, .int p3, .long p4, jk, .int s.2] [] := by
  induction n with
  | zero => intro s h e; cases e
  | succ n ih =>
    intro s h e
    obtain ⟨x, h1, e1, e2⟩ := lpH_succ e
    rcases e2 with ⟨s2, rfl, e3⟩ | ⟨rfl, rfl⟩
    · exact tb_X10_standing_31 hF hX e1 (fun s3  hs => by cases hs; exact ih _  _ e3) (fun yy x0 x1 x2 hy => by cases hy)
    · exact tb_X10_standing_31 hF hX e1 (fun s3  hs => by cases hs) (fun yy x0 x1 x2 hy => by cases hy; exact kE0 x0 x1 x2)
theorem t_X10_standing_31 {g : GP} {X : MX} {mcR msR : Nat} (hF : gF g = true) (hX : Cx g RX10 cX10_standing 4 mcR msR (some .long) [] X) {Q : State → Prop} {p1 : Int32} {p3 : Int32} {p4 : Int64} {s : (Int32 × Int32)} {h hz : AH} {n : Nat} {y : Int32} (e : lpH (l_X10_standing_31 p1 p3 p4) n s h = some (y, hz)) (kE0 : ∀ (y_4 : Value) (y_5 : Value) (y_6 : Value), AR g X 0 0 Q hz 58 [.ref 240, .int p1, .int y, .int p3, y_4, y_5, y_6] []) : AR g X 0 0 Q h 31 [.ref 240, .int p1, .int s.1, .int p3, .long p4, jk, .int s.2] [] := ti_X10_standing_31 hF hX kE0 n _  _ e
def l_X10_standing_8 (p1 : Int32) (s : (Int32 × Int32)) (h : AH) : Option (((Int32 × Int32) ⊕ Int32) × AH) := if (gI h 240 4) ≤ s.2 then some (.inr s.1, h) else bd (s_X10_comingOf s.2 p1 h) fun x2 => bd (ldivF x2 1000) fun x3 => bd (lpH (l_X10_standing_31 p1 s.2 x3) FU (s.1, 0) h) fun y6 => some (.inl (y6.1, s.2 + 1), y6.2)
theorem tb_X10_standing_8 {g : GP} {X : MX} {mcR msR : Nat} (hF : gF g = true) (hX : Cx g RX10 cX10_standing 4 mcR msR (some .long) [] X) {Q : State → Prop} {p1 : Int32} {s : (Int32 × Int32)} {d4 : Value} {d5 : Value} {d6 : Value} {h hz : AH} {z : ((Int32 × Int32) ⊕ Int32)} (e : l_X10_standing_8 p1 s h = some (z, hz)) (kI : ∀ (s2 : (Int32 × Int32)) (xd4 : Value) (xd5 : Value) (xd6 : Value), z = .inl s2 → AR g X 0 0 Q hz 8 [.ref 240, .int p1, .int s2.1, .int s2.2, xd4, xd5, xd6] []) (kE0 : ∀ (yy : Int32) (y1 : Value) (y3 : Value) (y4 : Value) (y5 : Value) (y6 : Value), z = .inr yy → AR g X 0 0 Q hz 64 [.ref 240, y1, .int yy, y3, y4, y5, y6] []) : AR g X 0 0 Q h 8 [.ref 240, .int p1, .int s.1, .int s.2, d4, d5, d6] [] := by
  unfold l_X10_standing_8 at e
  refine aw_iload_n (i := 3) hX rfl rfl d_X10_standing_8 ?_
  refine aw_aload_n (i := 0) hX rfl rfl d_X10_standing_9 ?_
  refine ar_getI hX fg_RX10_265 rfl d_X10_standing_10 ?_
  refine aw_icmp_ge (t := 64) hX (by decide) d_X10_standing_13 (fun c => ?_) (fun c => ?_)
  · rw [if_pos c] at e
    cases e
    exact kE0 s.1 _ _ _ _ _ rfl
  · rw [if_neg c] at e
    refine aw_aload_n (i := 0) hX rfl rfl d_X10_standing_16 ?_
    refine aw_iload_n (i := 3) hX rfl rfl d_X10_standing_17 ?_
    refine aw_iload_n (i := 1) hX rfl rfl d_X10_standing_18 ?_
    obtain ⟨x2, f_1300, e_1300⟩ := bd_some e
    clear e
    refine aw_callV (b := 240) (av := [.int s.2, .int p1]) (avr := [.int p1, .int s.2]) hX (k_X10_comingOf (cx_g hX) hF f_1300) mi_X10_comingOf rfl rfl w_823 w_824 w_825 (by decide) rfl (LAY_lt rfl (by decide)) rfl rfl (Nat.le_of_ble_eq_true rfl) (Nat.zero_le _) (Nat.zero_le _) d_X10_standing_19 ?_
    refine aw_ldc2 hX w_737 d_X10_standing_22 ?_
    obtain ⟨x3, f_1301, e_1301⟩ := bd_some e_1300
    clear e_1300
    refine ar_ldiv hX f_1301 d_X10_standing_25 ?_
    refine aw_lstore (i := 4) (lv2 := [.ref 240, .int p1, .int s.1, .int s.2, .long x3, jk, d6]) hX rfl rfl d_X10_standing_26 ?_
    refine aw_iconst (v := 0) hX (by decide) d_X10_standing_28 ?_
    refine aw_istore (i := 6) (lv2 := [.ref 240, .int p1, .int s.1, .int s.2, .long x3, jk, .int 0]) hX rfl rfl d_X10_standing_29 ?_
    obtain ⟨y6, f_1302, e_1302⟩ := bd_some e_1301
    clear e_1301
    refine t_X10_standing_31 hF hX f_1302 (fun d7_4 d7_5 d7_6 => ?_)
    refine aw_iinc (i := 3) (lv2 := [.ref 240, .int p1, .int y6.1, .int (s.2 + 1), d7_4, d7_5, d7_6]) hX rfl rfl rfl rfl d_X10_standing_58 ?_
    refine aw_goto (t := 8) hX (by decide) d_X10_standing_61 ?_
    cases e_1302
    exact kI (y6.1, s.2 + 1) _ _ _ rfl
theorem ti_X10_standing_8 {g : GP} {X : MX} {mcR msR : Nat} (hF : gF g = true) (hX : Cx g RX10 cX10_standing 4 mcR msR (some .long) [] X) {Q : State → Prop} {p1 : Int32} {y : Int32} {hz : AH} (kE0 : ∀ (y_1 : Value) (y_3 : Value) (y_4 : Value) (y_5 : Value) (y_6 : Value), AR g X 0 0 Q hz 64 [.ref 240, y_1, .int y, y_3, y_4, y_5, y_6] []) (n : Nat) : ∀ (s : (Int32 × Int32)) (d4 : Value) (d5 : Value) (d6 : Value) (h : AH), lpH (l_X10_standing_8 p1) n s h = some (y, hz) → AR g X 0 0 Q h 8 [.ref 240, .int p1, .int s.1, .int s.2, d4, d5, d6] [] := by
  induction n with
  | zero => intro s d4 d5 d6 h e; cases e
  | succ n ih =>
    intro s d4 d5 d6 h e
    obtain ⟨x, h1, e1, e2⟩ := lpH_succ e
    rcases e2 with ⟨s2, rfl, e3⟩ | ⟨rfl, rfl⟩
    · exact tb_X10_standing_8 hF hX e1 (fun s3 x0 x1 x2 hs => by cases hs; exact ih _ _ _ _ _ e3) (fun yy x0 x1 x2 x3 x4 hy => by cases hy)
    · exact tb_X10_standing_8 hF hX e1 (fun s3 x0 x1 x2 hs => by cases hs) (fun yy x0 x1 x2 x3 x4 hy => by cases hy; exact kE0 x0 x1 x2 x3 x4)
theorem t_X10_standing_8 {g : GP} {X : MX} {mcR msR : Nat} (hF : gF g = true) (hX : Cx g RX10 cX10_standing 4 mcR msR (some .long) [] X) {Q : State → Prop} {p1 : Int32} {s : (Int32 × Int32)} {d4 : Value} {d5 : Value} {d6 : Value} {h hz : AH} {n : Nat} {y : Int32} (e : lpH (l_X10_standing_8 p1) n s h = some (y, hz)) (kE0 : ∀ (y_1 : Value) (y_3 : Value) (y_4 : Value) (y_5 : Value) (y_6 : Value), AR g X 0 0 Q hz 64 [.ref 240, y_1, .int y, y_3, y_4, y_5, y_6] []) : AR g X 0 0 Q h 8 [.ref 240, .int p1, .int s.1, .int s.2, d4, d5, d6] [] := ti_X10_standing_8 hF hX kE0 n _ _ _ _ _ e
def s_X10_standing (a0 : Int32) (h : AH) : Option (Int64 × AH) := bd (s_X10_nobody h) fun q1 => bd (lpH (l_X10_standing_8 a0) FU (0, 0) q1.2) fun y8 => bd (s_X10_above y8.1 y8.2) fun x10 => some (x10, y8.2)
theorem t_X10_standing {g : GP} {X : MX} {mcR msR : Nat} (hF : gF g = true) (hX : Cx g RX10 cX10_standing 4 mcR msR (some .long) [] X) {a0 : Int32} {h hz : AH} {z : Int64} (e : s_X10_standing a0 h = some (z, hz)) : AR g X 0 0 (QQ g X NT false hz (.inl (some (.long z))) 0 0) h 0 [.ref 240, .int a0, jk, jk, jk, jk, jk] [] := by
  unfold s_X10_standing at e
  refine aw_aload_n (i := 0) hX rfl rfl d_X10_standing_0 ?_
  obtain ⟨q1, f_1303, e_1303⟩ := bd_some e
  clear e
  refine aw_callV (b := 240) (av := []) (avr := []) hX (k_X10_nobody (cx_g hX) hF f_1303) mi_X10_nobody rfl rfl w_841 w_842 w_843 (by decide) rfl (LAY_lt rfl (by decide)) rfl rfl (Nat.le_of_ble_eq_true rfl) (Nat.zero_le _) (Nat.zero_le _) d_X10_standing_1 ?_
  refine aw_iconst (v := 0) hX (by decide) d_X10_standing_4 ?_
  refine aw_istore_n (i := 2) (lv2 := [.ref 240, .int a0, .int 0, jk, jk, jk, jk]) hX rfl rfl rfl d_X10_standing_5 ?_
  refine aw_iconst (v := 0) hX (by decide) d_X10_standing_6 ?_
  refine aw_istore_n (i := 3) (lv2 := [.ref 240, .int a0, .int 0, .int 0, jk, jk, jk]) hX rfl rfl rfl d_X10_standing_7 ?_
  obtain ⟨y8, f_1304, e_1304⟩ := bd_some e_1303
  clear e_1303
  refine t_X10_standing_8 hF hX f_1304 (fun d9_1 d9_3 d9_4 d9_5 d9_6 => ?_)
  refine aw_aload_n (i := 0) hX rfl rfl d_X10_standing_64 ?_
  refine aw_iload_n (i := 2) hX rfl rfl d_X10_standing_65 ?_
  obtain ⟨x10, f_1305, e_1305⟩ := bd_some e_1304
  clear e_1304
  refine aw_callV (b := 240) (av := [.int y8.1]) (avr := [.int y8.1]) hX (k_X10_above (cx_g hX) hF f_1305) mi_X10_above rfl rfl w_849 w_850 w_851 (by decide) rfl (LAY_lt rfl (by decide)) rfl rfl (Nat.le_of_ble_eq_true rfl) (Nat.zero_le _) (Nat.zero_le _) d_X10_standing_66 ?_
  cases e_1305
  exact aw_lreturn hX (Nat.zero_le _) (Nat.zero_le _) d_X10_standing_69
theorem k_X10_standing {g : GP} (hg : g.1.stackTraces = false) (hF : gF g = true) {a0 : Int32} {h hz : AH} {z : Int64} (e : s_X10_standing a0 h = some (z, hz)) : Ctr g yX10_standing (wsY yX10_standing cX10_standing 7 (some .long)) 4 0 0 [.ref 240, .int a0] NT false h (some (.long z)) NT false hz := ctr_of (lv0 := [.ref 240, .int a0, jk, jk, jk, jk, jk]) rfl rfl (by decide) hg trivial (fun X hX hn => t_X10_standing hF hX e)
theorem d_X10_full_0 : decode cX10_full 0 = .ok (.aload_n 0, 1) := by decide +kernel
theorem d_X10_full_1 : decode cX10_full 1 = .ok (.iconst 0, 1) := by decide +kernel
theorem d_X10_full_2 : decode cX10_full 2 = .ok (.putfield 133, 3) := by decide +kernel
theorem d_X10_full_5 : decode cX10_full 5 = .ok (.aload_n 0, 1) := by decide +kernel
theorem d_X10_full_6 : decode cX10_full 6 = .ok (.iload_n 1, 1) := by decide +kernel
theorem d_X10_full_7 : decode cX10_full 7 = .ok (.invokevirtual 302, 3) := by decide +kernel
theorem d_X10_full_10 : decode cX10_full 10 = .ok (.ifCond .eq 25, 3) := by decide +kernel
theorem d_X10_full_13 : decode cX10_full 13 = .ok (.aload_n 0, 1) := by decide +kernel
theorem d_X10_full_14 : decode cX10_full 14 = .ok (.iload_n 2, 1) := by decide +kernel
theorem d_X10_full_15 : decode cX10_full 15 = .ok (.ifCond .eq 8, 3) := by decide +kernel
theorem d_X10_full_18 : decode cX10_full 18 = .ok (.iload_n 2, 1) := by decide +kernel
theorem d_X10_full_19 : decode cX10_full 19 = .ok (.iconst 1, 1) := by decide +kernel
theorem d_X10_full_20 : decode cX10_full 20 = .ok (.if_icmp .ne 7, 3) := by decide +kernel
theorem d_X10_full_23 : decode cX10_full 23 = .ok (.iconst 1, 1) := by decide +kernel
theorem d_X10_full_24 : decode cX10_full 24 = .ok (.goto 4, 3) := by decide +kernel
theorem d_X10_full_27 : decode cX10_full 27 = .ok (.iconst 0, 1) := by decide +kernel
theorem d_X10_full_28 : decode cX10_full 28 = .ok (.iconst 1, 1) := by decide +kernel
theorem d_X10_full_29 : decode cX10_full 29 = .ok (.invokevirtual 253, 3) := by decide +kernel
theorem d_X10_full_32 : decode cX10_full 32 = .ok (.ifCond .ne 5, 3) := by decide +kernel
theorem d_X10_full_35 : decode cX10_full 35 = .ok (.iconst 0, 1) := by decide +kernel
theorem d_X10_full_36 : decode cX10_full 36 = .ok (.ireturn, 1) := by decide +kernel
theorem d_X10_full_37 : decode cX10_full 37 = .ok (.iload_n 2, 1) := by decide +kernel
theorem d_X10_full_38 : decode cX10_full 38 = .ok (.ifCond .ne 11, 3) := by decide +kernel
theorem d_X10_full_41 : decode cX10_full 41 = .ok (.aload_n 0, 1) := by decide +kernel
theorem d_X10_full_42 : decode cX10_full 42 = .ok (.iload_n 1, 1) := by decide +kernel
theorem d_X10_full_43 : decode cX10_full 43 = .ok (.invokevirtual 378, 3) := by decide +kernel
theorem d_X10_full_46 : decode cX10_full 46 = .ok (.goto 8, 3) := by decide +kernel
theorem d_X10_full_49 : decode cX10_full 49 = .ok (.aload_n 0, 1) := by decide +kernel
theorem d_X10_full_50 : decode cX10_full 50 = .ok (.iload_n 1, 1) := by decide +kernel
theorem d_X10_full_51 : decode cX10_full 51 = .ok (.invokevirtual 381, 3) := by decide +kernel
theorem d_X10_full_54 : decode cX10_full 54 = .ok (.l2i, 1) := by decide +kernel
theorem d_X10_full_55 : decode cX10_full 55 = .ok (.ireturn, 1) := by decide +kernel
def j_X10_full_28 (v1 : Int32) (v2 : Int32) (k0 : Int32) (h : AH) : Option (Int32 × AH) := bd (s_X10_right k0 1 h) fun q2 => if q2.1 = 0 then some (0, q2.2) else if v2 = 0 then bd (s_X10_fullAll v1 q2.2) fun x4 => some (x4.toInt32, q2.2) else bd (s_X10_standing v1 q2.2) fun q3 => some (q3.1.toInt32, q3.2)
theorem tj_X10_full_28 {g : GP} {X : MX} {mcR msR : Nat} (hF : gF g = true) (hX : Cx g RX10 cX10_full 5 mcR msR (some .int) [] X) {v1 : Int32} {v2 : Int32} {k0 : Int32} {h hz : AH} {z : Int32} (e : j_X10_full_28 v1 v2 k0 h = some (z, hz)) : AR g X 0 0 (QQ g X NT false hz (.inl (some (.int z))) 0 0) h 28 [.ref 240, .int v1, .int v2] [.int k0, .ref 240] := by
  unfold j_X10_full_28 at e
  refine aw_iconst (v := 1) hX (by decide) d_X10_full_28 ?_
  obtain ⟨q2, f_1306, e_1306⟩ := bd_some e
  clear e
  refine aw_callV (b := 240) (av := [.int k0, .int 1]) (avr := [.int 1, .int k0]) hX (k_X10_right (cx_g hX) hF f_1306) mi_X10_right rfl rfl w_772 w_773 w_774 (by decide) rfl (LAY_lt rfl (by decide)) rfl rfl (Nat.le_of_ble_eq_true rfl) (Nat.zero_le _) (Nat.zero_le _) d_X10_full_29 ?_
  refine aw_if_ne (t := 37) hX (by decide) d_X10_full_32 (fun c => ?_) (fun c => ?_)
  · rw [if_neg c] at e_1306
    refine aw_iload_n (i := 2) hX rfl rfl d_X10_full_37 ?_
    refine aw_if_ne (t := 49) hX (by decide) d_X10_full_38 (fun c => ?_) (fun c => ?_)
    · rw [if_neg c] at e_1306
      refine aw_aload_n (i := 0) hX rfl rfl d_X10_full_49 ?_
      refine aw_iload_n (i := 1) hX rfl rfl d_X10_full_50 ?_
      obtain ⟨q3, f_1307, e_1307⟩ := bd_some e_1306
      clear e_1306
      refine aw_callV (b := 240) (av := [.int v1]) (avr := [.int v1]) hX (k_X10_standing (cx_g hX) hF f_1307) mi_X10_standing rfl rfl w_853 w_854 w_855 (by decide) rfl (LAY_lt rfl (by decide)) rfl rfl (Nat.le_of_ble_eq_true rfl) (Nat.zero_le _) (Nat.zero_le _) d_X10_full_51 ?_
      refine aw_l2i hX d_X10_full_54 ?_
      cases e_1307
      exact aw_ireturn hX (Nat.zero_le _) (Nat.zero_le _) d_X10_full_55
    · rw [if_pos c] at e_1306
      refine aw_aload_n (i := 0) hX rfl rfl d_X10_full_41 ?_
      refine aw_iload_n (i := 1) hX rfl rfl d_X10_full_42 ?_
      obtain ⟨x4, f_1308, e_1308⟩ := bd_some e_1306
      clear e_1306
      refine aw_callV (b := 240) (av := [.int v1]) (avr := [.int v1]) hX (k_X10_fullAll (cx_g hX) hF f_1308) mi_X10_fullAll rfl rfl w_857 w_858 w_859 (by decide) rfl (LAY_lt rfl (by decide)) rfl rfl (Nat.le_of_ble_eq_true rfl) (Nat.zero_le _) (Nat.zero_le _) d_X10_full_43 ?_
      refine aw_goto (t := 54) hX (by decide) d_X10_full_46 ?_
      refine aw_l2i hX d_X10_full_54 ?_
      cases e_1308
      exact aw_ireturn hX (Nat.zero_le _) (Nat.zero_le _) d_X10_full_55
  · rw [if_pos c] at e_1306
    refine aw_iconst (v := 0) hX (by decide) d_X10_full_35 ?_
    cases e_1306
    exact aw_ireturn hX (Nat.zero_le _) (Nat.zero_le _) d_X10_full_36
def j_X10_full_23 (v1 : Int32) (v2 : Int32) (h : AH) : Option (Int32 × AH) := j_X10_full_28 v1 v2 1 h
theorem tj_X10_full_23 {g : GP} {X : MX} {mcR msR : Nat} (hF : gF g = true) (hX : Cx g RX10 cX10_full 5 mcR msR (some .int) [] X) {v1 : Int32} {v2 : Int32} {h hz : AH} {z : Int32} (e : j_X10_full_23 v1 v2 h = some (z, hz)) : AR g X 0 0 (QQ g X NT false hz (.inl (some (.int z))) 0 0) h 23 [.ref 240, .int v1, .int v2] [.ref 240] := by
  unfold j_X10_full_23 at e
  refine aw_iconst (v := 1) hX (by decide) d_X10_full_23 ?_
  refine aw_goto (t := 28) hX (by decide) d_X10_full_24 ?_
  exact tj_X10_full_28 hF hX e
def s_X10_full (a0 : Int32) (a1 : Int32) (h : AH) : Option (Int32 × AH) := bd (s_X10_isEvening a0 (sI h 240 0 0)) fun q1 => if q1.1 = 0 then some (0, q1.2) else if a1 = 0 then j_X10_full_23 a0 a1 q1.2 else if a1 = 1 then j_X10_full_23 a0 a1 q1.2 else j_X10_full_28 a0 a1 0 q1.2
theorem t_X10_full {g : GP} {X : MX} {mcR msR : Nat} (hF : gF g = true) (hX : Cx g RX10 cX10_full 5 mcR msR (some .int) [] X) {a0 : Int32} {a1 : Int32} {h hz : AH} {z : Int32} (e : s_X10_full a0 a1 h = some (z, hz)) : AR g X 0 0 (QQ g X NT false hz (.inl (some (.int z))) 0 0) h 0 [.ref 240, .int a0, .int a1] [] := by
  unfold s_X10_full at e
  refine aw_aload_n (i := 0) hX rfl rfl d_X10_full_0 ?_
  refine aw_iconst (v := 0) hX (by decide) d_X10_full_1 ?_
  refine ar_putI hX fp_RX10_133 rfl d_X10_full_2 ?_
  refine aw_aload_n (i := 0) hX rfl rfl d_X10_full_5 ?_
  refine aw_iload_n (i := 1) hX rfl rfl d_X10_full_6 ?_
  obtain ⟨q1, f_1309, e_1309⟩ := bd_some e
  clear e
  refine aw_callV (b := 240) (av := [.int a0]) (avr := [.int a0]) hX (k_X10_isEvening (cx_g hX) hF f_1309) mi_X10_isEvening rfl rfl w_807 w_808 w_809 (by decide) rfl (LAY_lt rfl (by decide)) rfl rfl (Nat.le_of_ble_eq_true rfl) (Nat.zero_le _) (Nat.zero_le _) d_X10_full_7 ?_
  refine aw_if_eq (t := 35) hX (by decide) d_X10_full_10 (fun c => ?_) (fun c => ?_)
  · rw [if_pos c] at e_1309
    refine aw_iconst (v := 0) hX (by decide) d_X10_full_35 ?_
    cases e_1309
    exact aw_ireturn hX (Nat.zero_le _) (Nat.zero_le _) d_X10_full_36
  · rw [if_neg c] at e_1309
    refine aw_aload_n (i := 0) hX rfl rfl d_X10_full_13 ?_
    refine aw_iload_n (i := 2) hX rfl rfl d_X10_full_14 ?_
    refine aw_if_eq (t := 23) hX (by decide) d_X10_full_15 (fun c => ?_) (fun c => ?_)
    · rw [if_pos c] at e_1309
      exact tj_X10_full_23 hF hX e_1309
    · rw [if_neg c] at e_1309
      refine aw_iload_n (i := 2) hX rfl rfl d_X10_full_18 ?_
      refine aw_iconst (v := 1) hX (by decide) d_X10_full_19 ?_
      refine aw_icmp_ne (t := 27) hX (by decide) d_X10_full_20 (fun c => ?_) (fun c => ?_)
      · rw [if_neg c] at e_1309
        refine aw_iconst (v := 0) hX (by decide) d_X10_full_27 ?_
        exact tj_X10_full_28 hF hX e_1309
      · rw [if_pos c] at e_1309
        exact tj_X10_full_23 hF hX e_1309
theorem k_X10_full {g : GP} (hg : g.1.stackTraces = false) (hF : gF g = true) {a0 : Int32} {a1 : Int32} {h hz : AH} {z : Int32} (e : s_X10_full a0 a1 h = some (z, hz)) : Ctr g yX10_full (wsY yX10_full cX10_full 3 (some .int)) 5 0 0 [.ref 240, .int a0, .int a1] NT false h (some (.int z)) NT false hz := ctr_of (lv0 := [.ref 240, .int a0, .int a1]) rfl rfl (by decide) hg trivial (fun X hX hn => t_X10_full hF hX e)
theorem d_X10_earnsNow_0 : decode cX10_earnsNow 0 = .ok (.lconst 0, 1) := by decide +kernel
theorem d_X10_earnsNow_1 : decode cX10_earnsNow 1 = .ok (.lstore_n 1, 1) := by decide +kernel
theorem d_X10_earnsNow_2 : decode cX10_earnsNow 2 = .ok (.iconst 0, 1) := by decide +kernel
theorem d_X10_earnsNow_3 : decode cX10_earnsNow 3 = .ok (.istore_n 3, 1) := by decide +kernel
theorem d_X10_earnsNow_4 : decode cX10_earnsNow 4 = .ok (.iload_n 3, 1) := by decide +kernel
theorem d_X10_earnsNow_5 : decode cX10_earnsNow 5 = .ok (.aload_n 0, 1) := by decide +kernel
theorem d_X10_earnsNow_6 : decode cX10_earnsNow 6 = .ok (.getfield 265, 3) := by decide +kernel
theorem d_X10_earnsNow_9 : decode cX10_earnsNow 9 = .ok (.if_icmp .ge 102, 3) := by decide +kernel
theorem d_X10_earnsNow_12 : decode cX10_earnsNow 12 = .ok (.aload_n 0, 1) := by decide +kernel
theorem d_X10_earnsNow_13 : decode cX10_earnsNow 13 = .ok (.iload_n 3, 1) := by decide +kernel
theorem d_X10_earnsNow_14 : decode cX10_earnsNow 14 = .ok (.invokevirtual 347, 3) := by decide +kernel
theorem d_X10_earnsNow_17 : decode cX10_earnsNow 17 = .ok (.istore 4, 2) := by decide +kernel
theorem d_X10_earnsNow_19 : decode cX10_earnsNow 19 = .ok (.iload 4, 2) := by decide +kernel
theorem d_X10_earnsNow_21 : decode cX10_earnsNow 21 = .ok (.ifCond .eq 26, 3) := by decide +kernel
theorem d_X10_earnsNow_24 : decode cX10_earnsNow 24 = .ok (.lload_n 1, 1) := by decide +kernel
theorem d_X10_earnsNow_25 : decode cX10_earnsNow 25 = .ok (.ldc2_w 310, 3) := by decide +kernel
theorem d_X10_earnsNow_28 : decode cX10_earnsNow 28 = .ok (.aload_n 0, 1) := by decide +kernel
theorem d_X10_earnsNow_29 : decode cX10_earnsNow 29 = .ok (.iload_n 3, 1) := by decide +kernel
theorem d_X10_earnsNow_30 : decode cX10_earnsNow 30 = .ok (.iconst 0, 1) := by decide +kernel
theorem d_X10_earnsNow_31 : decode cX10_earnsNow 31 = .ok (.invokevirtual 292, 3) := by decide +kernel
theorem d_X10_earnsNow_34 : decode cX10_earnsNow 34 = .ok (.i2l, 1) := by decide +kernel
theorem d_X10_earnsNow_35 : decode cX10_earnsNow 35 = .ok (.lmul, 1) := by decide +kernel
theorem d_X10_earnsNow_36 : decode cX10_earnsNow 36 = .ok (.aload_n 0, 1) := by decide +kernel
theorem d_X10_earnsNow_37 : decode cX10_earnsNow 37 = .ok (.getfield 23, 3) := by decide +kernel
theorem d_X10_earnsNow_40 : decode cX10_earnsNow 40 = .ok (.iload 4, 2) := by decide +kernel
theorem d_X10_earnsNow_42 : decode cX10_earnsNow 42 = .ok (.iaload, 1) := by decide +kernel
theorem d_X10_earnsNow_43 : decode cX10_earnsNow 43 = .ok (.i2l, 1) := by decide +kernel
theorem d_X10_earnsNow_44 : decode cX10_earnsNow 44 = .ok (.lmul, 1) := by decide +kernel
theorem d_X10_earnsNow_45 : decode cX10_earnsNow 45 = .ok (.ladd, 1) := by decide +kernel
theorem d_X10_earnsNow_46 : decode cX10_earnsNow 46 = .ok (.lstore_n 1, 1) := by decide +kernel
theorem d_X10_earnsNow_47 : decode cX10_earnsNow 47 = .ok (.iconst 0, 1) := by decide +kernel
theorem d_X10_earnsNow_48 : decode cX10_earnsNow 48 = .ok (.istore 5, 2) := by decide +kernel
theorem d_X10_earnsNow_50 : decode cX10_earnsNow 50 = .ok (.iload 5, 2) := by decide +kernel
theorem d_X10_earnsNow_52 : decode cX10_earnsNow 52 = .ok (.aload_n 0, 1) := by decide +kernel
theorem d_X10_earnsNow_53 : decode cX10_earnsNow 53 = .ok (.getfield 262, 3) := by decide +kernel
theorem d_X10_earnsNow_56 : decode cX10_earnsNow 56 = .ok (.if_icmp .ge 49, 3) := by decide +kernel
theorem d_X10_earnsNow_59 : decode cX10_earnsNow 59 = .ok (.iload 4, 2) := by decide +kernel
theorem d_X10_earnsNow_61 : decode cX10_earnsNow 61 = .ok (.ifCond .ne 44, 3) := by decide +kernel
theorem d_X10_earnsNow_64 : decode cX10_earnsNow 64 = .ok (.lload_n 1, 1) := by decide +kernel
theorem d_X10_earnsNow_65 : decode cX10_earnsNow 65 = .ok (.aload_n 0, 1) := by decide +kernel
theorem d_X10_earnsNow_66 : decode cX10_earnsNow 66 = .ok (.iload_n 3, 1) := by decide +kernel
theorem d_X10_earnsNow_67 : decode cX10_earnsNow 67 = .ok (.iconst 0, 1) := by decide +kernel
theorem d_X10_earnsNow_68 : decode cX10_earnsNow 68 = .ok (.invokevirtual 292, 3) := by decide +kernel
theorem d_X10_earnsNow_71 : decode cX10_earnsNow 71 = .ok (.i2l, 1) := by decide +kernel
theorem d_X10_earnsNow_72 : decode cX10_earnsNow 72 = .ok (.aload_n 0, 1) := by decide +kernel
theorem d_X10_earnsNow_73 : decode cX10_earnsNow 73 = .ok (.iload_n 3, 1) := by decide +kernel
theorem d_X10_earnsNow_74 : decode cX10_earnsNow 74 = .ok (.iload 5, 2) := by decide +kernel
theorem d_X10_earnsNow_76 : decode cX10_earnsNow 76 = .ok (.invokevirtual 350, 3) := by decide +kernel
theorem d_X10_earnsNow_79 : decode cX10_earnsNow 79 = .ok (.lmul, 1) := by decide +kernel
theorem d_X10_earnsNow_80 : decode cX10_earnsNow 80 = .ok (.aload_n 0, 1) := by decide +kernel
theorem d_X10_earnsNow_81 : decode cX10_earnsNow 81 = .ok (.getfield 13, 3) := by decide +kernel
theorem d_X10_earnsNow_84 : decode cX10_earnsNow 84 = .ok (.iconst 4, 1) := by decide +kernel
theorem d_X10_earnsNow_85 : decode cX10_earnsNow 85 = .ok (.iload 5, 2) := by decide +kernel
theorem d_X10_earnsNow_87 : decode cX10_earnsNow 87 = .ok (.imul, 1) := by decide +kernel
theorem d_X10_earnsNow_88 : decode cX10_earnsNow 88 = .ok (.iconst 1, 1) := by decide +kernel
theorem d_X10_earnsNow_89 : decode cX10_earnsNow 89 = .ok (.iadd, 1) := by decide +kernel
theorem d_X10_earnsNow_90 : decode cX10_earnsNow 90 = .ok (.iaload, 1) := by decide +kernel
theorem d_X10_earnsNow_91 : decode cX10_earnsNow 91 = .ok (.i2l, 1) := by decide +kernel
theorem d_X10_earnsNow_92 : decode cX10_earnsNow 92 = .ok (.lmul, 1) := by decide +kernel
theorem d_X10_earnsNow_93 : decode cX10_earnsNow 93 = .ok (.ldc2_w 308, 3) := by decide +kernel
theorem d_X10_earnsNow_96 : decode cX10_earnsNow 96 = .ok (.ldiv, 1) := by decide +kernel
theorem d_X10_earnsNow_97 : decode cX10_earnsNow 97 = .ok (.ladd, 1) := by decide +kernel
theorem d_X10_earnsNow_98 : decode cX10_earnsNow 98 = .ok (.lstore_n 1, 1) := by decide +kernel
theorem d_X10_earnsNow_99 : decode cX10_earnsNow 99 = .ok (.iinc 5 1, 3) := by decide +kernel
theorem d_X10_earnsNow_102 : decode cX10_earnsNow 102 = .ok (.goto (-52), 3) := by decide +kernel
theorem d_X10_earnsNow_105 : decode cX10_earnsNow 105 = .ok (.iinc 3 1, 3) := by decide +kernel
theorem d_X10_earnsNow_108 : decode cX10_earnsNow 108 = .ok (.goto (-104), 3) := by decide +kernel
theorem d_X10_earnsNow_111 : decode cX10_earnsNow 111 = .ok (.lload_n 1, 1) := by decide +kernel
theorem d_X10_earnsNow_112 : decode cX10_earnsNow 112 = .ok (.lreturn, 1) := by decide +kernel
def l_X10_earnsNow_50 (p3 : Int32) (p4 : Int32) (h : AH) (s : (Int64 × Int32)) : Option ((Int64 × Int32) ⊕ Int64) := if (gI h 240 3) ≤ s.2 then some (.inr s.1) else if p4 = 0 then bd (s_X10_of p3 0 h) fun x2 => bd (s_X10_comingOf p3 s.2 h) fun x3 => bd (ldI h 241 ((4 * s.2) + 1)) fun x4 => bd (ldivF ((x2.toInt64 * x3) * x4.toInt64) 1000000) fun x5 => some (.inl ((s.1 + x5), s.2 + 1)) else some (.inr s.1)
theorem tb_X10_earnsNow_50 {g : GP} {X : MX} {mcR msR : Nat} (hF : gF g = true) (hX : Cx g RX10 cX10_earnsNow 4 mcR msR (some .long) [] X) {Q : State → Prop} {p3 : Int32} {p4 : Int32} {s : (Int64 × Int32)} {h : AH} {z : ((Int64 × Int32) ⊕ Int64)} (e : l_X10_earnsNow_50 p3 p4 h s = some z) (kI : ∀ (s2 : (Int64 × Int32)), z = .inl s2 → AR g X 0 0 Q h 50 [.ref 240, .long s2.1, jk, .int p3, .int p4, .int s2.2] []) (kE0 : ∀ (yy : Int64) (y4 : Value) (y5 : Value), z = .inr yy → AR g X 0 0 Q h 105 [.ref 240, .long yy, jk, .int p3, y4, y5] []) : AR g X 0 0 Q h 50 [.ref 240, .long s.1, jk, .int p3, .int p4, .int s.2] [] := by
  unfold l_X10_earnsNow_50 at e
  refine aw_iload (i := 5) hX rfl d_X10_earnsNow_50 ?_
  refine aw_aload_n (i := 0) hX rfl rfl d_X10_earnsNow_52 ?_
  refine ar_getI hX fg_RX10_262 rfl d_X10_earnsNow_53 ?_
  refine aw_icmp_ge (t := 105) hX (by decide) d_X10_earnsNow_56 (fun c => ?_) (fun c => ?_)
  · rw [if_pos c] at e
    cases e
    exact kE0 s.1 _ _ rfl
  · rw [if_neg c] at e
    refine aw_iload (i := 4) hX rfl d_X10_earnsNow_59 ?_
    refine aw_if_ne (t := 105) hX (by decide) d_X10_earnsNow_61 (fun c => ?_) (fun c => ?_)
    · rw [if_neg c] at e
      cases e
      exact kE0 s.1 _ _ rfl
    · rw [if_pos c] at e
      refine aw_lload_n (i := 1) hX rfl rfl d_X10_earnsNow_64 ?_
      refine aw_aload_n (i := 0) hX rfl rfl d_X10_earnsNow_65 ?_
      refine aw_iload_n (i := 3) hX rfl rfl d_X10_earnsNow_66 ?_
      refine aw_iconst (v := 0) hX (by decide) d_X10_earnsNow_67 ?_
      obtain ⟨x2, f_1310, e_1310⟩ := bd_some e
      clear e
      refine aw_callV (b := 240) (av := [.int p3, .int 0]) (avr := [.int 0, .int p3]) hX (k_X10_of (cx_g hX) hF f_1310) mi_X10_of rfl rfl w_732 w_733 w_734 (by decide) rfl (LAY_lt rfl (by decide)) rfl rfl (Nat.le_of_ble_eq_true rfl) (Nat.zero_le _) (Nat.zero_le _) d_X10_earnsNow_68 ?_
      refine aw_i2l hX d_X10_earnsNow_71 ?_
      refine aw_aload_n (i := 0) hX rfl rfl d_X10_earnsNow_72 ?_
      refine aw_iload_n (i := 3) hX rfl rfl d_X10_earnsNow_73 ?_
      refine aw_iload (i := 5) hX rfl d_X10_earnsNow_74 ?_
      obtain ⟨x3, f_1311, e_1311⟩ := bd_some e_1310
      clear e_1310
      refine aw_callV (b := 240) (av := [.int p3, .int s.2]) (avr := [.int s.2, .int p3]) hX (k_X10_comingOf (cx_g hX) hF f_1311) mi_X10_comingOf rfl rfl w_823 w_824 w_825 (by decide) rfl (LAY_lt rfl (by decide)) rfl rfl (Nat.le_of_ble_eq_true rfl) (Nat.zero_le _) (Nat.zero_le _) d_X10_earnsNow_76 ?_
      refine aw_lmul hX d_X10_earnsNow_79 ?_
      refine aw_aload_n (i := 0) hX rfl rfl d_X10_earnsNow_80 ?_
      refine ar_getF hX hF fg_RX10_13 rfl d_X10_earnsNow_81 ?_
      show AR g X 0 0 _ _ 84 _ [.ref 241, .long (x2.toInt64 * x3), .long s.1]
      refine aw_iconst (v := 4) hX (by decide) d_X10_earnsNow_84 ?_
      refine aw_iload (i := 5) hX rfl d_X10_earnsNow_85 ?_
      refine aw_imul hX d_X10_earnsNow_87 ?_
      refine aw_iconst (v := 1) hX (by decide) d_X10_earnsNow_88 ?_
      refine aw_iadd hX d_X10_earnsNow_89 ?_
      obtain ⟨x4, f_1312, e_1312⟩ := bd_some e_1311
      clear e_1311
      refine ar_iaload hX f_1312 d_X10_earnsNow_90 ?_
      refine aw_i2l hX d_X10_earnsNow_91 ?_
      refine aw_lmul hX d_X10_earnsNow_92 ?_
      refine aw_ldc2 hX w_735 d_X10_earnsNow_93 ?_
      obtain ⟨x5, f_1313, e_1313⟩ := bd_some e_1312
      clear e_1312
      refine ar_ldiv hX f_1313 d_X10_earnsNow_96 ?_
      refine aw_ladd hX d_X10_earnsNow_97 ?_
      refine aw_lstore_n (i := 1) (lv2 := [.ref 240, .long (s.1 + x5), jk, .int p3, .int p4, .int s.2]) hX rfl rfl rfl d_X10_earnsNow_98 ?_
      refine aw_iinc (i := 5) (lv2 := [.ref 240, .long (s.1 + x5), jk, .int p3, .int p4, .int (s.2 + 1)]) hX rfl rfl rfl rfl d_X10_earnsNow_99 ?_
      refine aw_goto (t := 50) hX (by decide) d_X10_earnsNow_102 ?_
      cases e_1313
      exact kI ((s.1 + x5), s.2 + 1)  rfl
theorem ti_X10_earnsNow_50 {g : GP} {X : MX} {mcR msR : Nat} (hF : gF g = true) (hX : Cx g RX10 cX10_earnsNow 4 mcR msR (some .long) [] X) {Q : State → Prop} {p3 : Int32} {p4 : Int32} {y : Int64} {h : AH} (kE0 : ∀ (y_4 : Value) (y_5 : Value), AR g X 0 0 Q h 105 [.ref 240, .long y, jk, .int p3, y_4, y_5] []) (n : Nat) : ∀ (s : (Int64 × Int32)), lpP (l_X10_earnsNow_50 p3 p4 h) n s = some y → AR g X 0 0 Q h 50 [.ref 240, .long s.1, jk, .int p3, .int p4, .int s.2] [] := by
  induction n with
  | zero => intro s e; cases e
  | succ n ih =>
    intro s e
    obtain ⟨x, e1, e2⟩ := lpP_succ e
    rcases e2 with ⟨s2, rfl, e3⟩ | rfl
    · exact tb_X10_earnsNow_50 hF hX e1 (fun s3  hs => by cases hs; exact ih _   e3) (fun yy x0 x1 hy => by cases hy)
    · exact tb_X10_earnsNow_50 hF hX e1 (fun s3  hs => by cases hs) (fun yy x0 x1 hy => by cases hy; exact kE0 x0 x1)
theorem t_X10_earnsNow_50 {g : GP} {X : MX} {mcR msR : Nat} (hF : gF g = true) (hX : Cx g RX10 cX10_earnsNow 4 mcR msR (some .long) [] X) {Q : State → Prop} {p3 : Int32} {p4 : Int32} {s : (Int64 × Int32)} {h : AH} {n : Nat} {y : Int64} (e : lpP (l_X10_earnsNow_50 p3 p4 h) n s = some y) (kE0 : ∀ (y_4 : Value) (y_5 : Value), AR g X 0 0 Q h 105 [.ref 240, .long y, jk, .int p3, y_4, y_5] []) : AR g X 0 0 Q h 50 [.ref 240, .long s.1, jk, .int p3, .int p4, .int s.2] [] := ti_X10_earnsNow_50 hF hX kE0 n _   e
def j_X10_earnsNow_105_4 (v1 : Int64) (v3 : Int32) (h : AH) : Option ((Int64 × Int32) ⊕ Int64) := some (.inl (v1, v3 + 1))
theorem tj_X10_earnsNow_105_4 {g : GP} {X : MX} {mcR msR : Nat} (hF : gF g = true) (hX : Cx g RX10 cX10_earnsNow 4 mcR msR (some .long) [] X) {Q : State → Prop} {v1 : Int64} {v3 : Int32} {d4 : Value} {d5 : Value} {h : AH} {z : ((Int64 × Int32) ⊕ Int64)} (e : j_X10_earnsNow_105_4 v1 v3 h = some z) (kI : ∀ (s2 : (Int64 × Int32)) (xd4 : Value) (xd5 : Value), z = .inl s2 → AR g X 0 0 Q h 4 [.ref 240, .long s2.1, jk, .int s2.2, xd4, xd5] []) (kE0 : ∀ (yy : Int64) (y0 : Value) (y3 : Value) (y4 : Value) (y5 : Value), z = .inr yy → AR g X 0 0 Q h 111 [y0, .long yy, jk, y3, y4, y5] []) : AR g X 0 0 Q h 105 [.ref 240, .long v1, jk, .int v3, d4, d5] [] := by
  unfold j_X10_earnsNow_105_4 at e
  refine aw_iinc (i := 3) (lv2 := [.ref 240, .long v1, jk, .int (v3 + 1), d4, d5]) hX rfl rfl rfl rfl d_X10_earnsNow_105 ?_
  refine aw_goto (t := 4) hX (by decide) d_X10_earnsNow_108 ?_
  cases e
  exact kI (v1, v3 + 1) _ _ rfl
def j_X10_earnsNow_47_4 (v1 : Int64) (v3 : Int32) (v4 : Int32) (h : AH) : Option ((Int64 × Int32) ⊕ Int64) := bd (lpP (l_X10_earnsNow_50 v3 v4 h) FU (v1, 0)) fun y6 => j_X10_earnsNow_105_4 y6 v3 h
theorem tj_X10_earnsNow_47_4 {g : GP} {X : MX} {mcR msR : Nat} (hF : gF g = true) (hX : Cx g RX10 cX10_earnsNow 4 mcR msR (some .long) [] X) {Q : State → Prop} {v1 : Int64} {v3 : Int32} {v4 : Int32} {d5 : Value} {h : AH} {z : ((Int64 × Int32) ⊕ Int64)} (e : j_X10_earnsNow_47_4 v1 v3 v4 h = some z) (kI : ∀ (s2 : (Int64 × Int32)) (xd4 : Value) (xd5 : Value), z = .inl s2 → AR g X 0 0 Q h 4 [.ref 240, .long s2.1, jk, .int s2.2, xd4, xd5] []) (kE0 : ∀ (yy : Int64) (y0 : Value) (y3 : Value) (y4 : Value) (y5 : Value), z = .inr yy → AR g X 0 0 Q h 111 [y0, .long yy, jk, y3, y4, y5] []) : AR g X 0 0 Q h 47 [.ref 240, .long v1, jk, .int v3, .int v4, d5] [] := by
  unfold j_X10_earnsNow_47_4 at e
  refine aw_iconst (v := 0) hX (by decide) d_X10_earnsNow_47 ?_
  refine aw_istore (i := 5) (lv2 := [.ref 240, .long v1, jk, .int v3, .int v4, .int 0]) hX rfl rfl d_X10_earnsNow_48 ?_
  obtain ⟨y6, f_1314, e_1314⟩ := bd_some e
  clear e
  refine t_X10_earnsNow_50 hF hX f_1314 (fun d7_4 d7_5 => ?_)
  exact tj_X10_earnsNow_105_4 hF hX e_1314 kI kE0
def l_X10_earnsNow_4 (h : AH) (s : (Int64 × Int32)) : Option ((Int64 × Int32) ⊕ Int64) := if (gI h 240 4) ≤ s.2 then some (.inr s.1) else bd (s_X10_buysOf s.2 h) fun x1 => if x1 = 0 then j_X10_earnsNow_47_4 s.1 s.2 x1 h else bd (s_X10_of s.2 0 h) fun x8 => bd (ldI h 244 x1) fun x9 => j_X10_earnsNow_47_4 (s.1 + ((1000 * x8.toInt64) * x9.toInt64)) s.2 x1 h
theorem tb_X10_earnsNow_4 {g : GP} {X : MX} {mcR msR : Nat} (hF : gF g = true) (hX : Cx g RX10 cX10_earnsNow 4 mcR msR (some .long) [] X) {Q : State → Prop} {s : (Int64 × Int32)} {d4 : Value} {d5 : Value} {h : AH} {z : ((Int64 × Int32) ⊕ Int64)} (e : l_X10_earnsNow_4 h s = some z) (kI : ∀ (s2 : (Int64 × Int32)) (xd4 : Value) (xd5 : Value), z = .inl s2 → AR g X 0 0 Q h 4 [.ref 240, .long s2.1, jk, .int s2.2, xd4, xd5] []) (kE0 : ∀ (yy : Int64) (y0 : Value) (y3 : Value) (y4 : Value) (y5 : Value), z = .inr yy → AR g X 0 0 Q h 111 [y0, .long yy, jk, y3, y4, y5] []) : AR g X 0 0 Q h 4 [.ref 240, .long s.1, jk, .int s.2, d4, d5] [] := by
  unfold l_X10_earnsNow_4 at e
  refine aw_iload_n (i := 3) hX rfl rfl d_X10_earnsNow_4 ?_
  refine aw_aload_n (i := 0) hX rfl rfl d_X10_earnsNow_5 ?_
  refine ar_getI hX fg_RX10_265 rfl d_X10_earnsNow_6 ?_
  refine aw_icmp_ge (t := 111) hX (by decide) d_X10_earnsNow_9 (fun c => ?_) (fun c => ?_)
  · rw [if_pos c] at e
    cases e
    exact kE0 s.1 _ _ _ _ rfl
  · rw [if_neg c] at e
    refine aw_aload_n (i := 0) hX rfl rfl d_X10_earnsNow_12 ?_
    refine aw_iload_n (i := 3) hX rfl rfl d_X10_earnsNow_13 ?_
    obtain ⟨x1, f_1315, e_1315⟩ := bd_some e
    clear e
    refine aw_callV (b := 240) (av := [.int s.2]) (avr := [.int s.2]) hX (k_X10_buysOf (cx_g hX) hF f_1315) mi_X10_buysOf rfl rfl w_819 w_820 w_821 (by decide) rfl (LAY_lt rfl (by decide)) rfl rfl (Nat.le_of_ble_eq_true rfl) (Nat.zero_le _) (Nat.zero_le _) d_X10_earnsNow_14 ?_
    refine aw_istore (i := 4) (lv2 := [.ref 240, .long s.1, jk, .int s.2, .int x1, d5]) hX rfl rfl d_X10_earnsNow_17 ?_
    refine aw_iload (i := 4) hX rfl d_X10_earnsNow_19 ?_
    refine aw_if_eq (t := 47) hX (by decide) d_X10_earnsNow_21 (fun c => ?_) (fun c => ?_)
    · rw [if_pos c] at e_1315
      exact tj_X10_earnsNow_47_4 hF hX e_1315 kI kE0
    · rw [if_neg c] at e_1315
      refine aw_lload_n (i := 1) hX rfl rfl d_X10_earnsNow_24 ?_
      refine aw_ldc2 hX w_737 d_X10_earnsNow_25 ?_
      refine aw_aload_n (i := 0) hX rfl rfl d_X10_earnsNow_28 ?_
      refine aw_iload_n (i := 3) hX rfl rfl d_X10_earnsNow_29 ?_
      refine aw_iconst (v := 0) hX (by decide) d_X10_earnsNow_30 ?_
      obtain ⟨x8, f_1316, e_1316⟩ := bd_some e_1315
      clear e_1315
      refine aw_callV (b := 240) (av := [.int s.2, .int 0]) (avr := [.int 0, .int s.2]) hX (k_X10_of (cx_g hX) hF f_1316) mi_X10_of rfl rfl w_732 w_733 w_734 (by decide) rfl (LAY_lt rfl (by decide)) rfl rfl (Nat.le_of_ble_eq_true rfl) (Nat.zero_le _) (Nat.zero_le _) d_X10_earnsNow_31 ?_
      refine aw_i2l hX d_X10_earnsNow_34 ?_
      refine aw_lmul hX d_X10_earnsNow_35 ?_
      refine aw_aload_n (i := 0) hX rfl rfl d_X10_earnsNow_36 ?_
      refine ar_getF hX hF fg_RX10_23 rfl d_X10_earnsNow_37 ?_
      show AR g X 0 0 _ _ 40 _ [.ref 244, .long (1000 * x8.toInt64), .long s.1]
      refine aw_iload (i := 4) hX rfl d_X10_earnsNow_40 ?_
      obtain ⟨x9, f_1317, e_1317⟩ := bd_some e_1316
      clear e_1316
      refine ar_iaload hX f_1317 d_X10_earnsNow_42 ?_
      refine aw_i2l hX d_X10_earnsNow_43 ?_
      refine aw_lmul hX d_X10_earnsNow_44 ?_
      refine aw_ladd hX d_X10_earnsNow_45 ?_
      refine aw_lstore_n (i := 1) (lv2 := [.ref 240, .long (s.1 + ((1000 * x8.toInt64) * x9.toInt64)), jk, .int s.2, .int x1, d5]) hX rfl rfl rfl d_X10_earnsNow_46 ?_
      exact tj_X10_earnsNow_47_4 hF hX e_1317 kI kE0
theorem ti_X10_earnsNow_4 {g : GP} {X : MX} {mcR msR : Nat} (hF : gF g = true) (hX : Cx g RX10 cX10_earnsNow 4 mcR msR (some .long) [] X) {Q : State → Prop} {y : Int64} {h : AH} (kE0 : ∀ (y_0 : Value) (y_3 : Value) (y_4 : Value) (y_5 : Value), AR g X 0 0 Q h 111 [y_0, .long y, jk, y_3, y_4, y_5] []) (n : Nat) : ∀ (s : (Int64 × Int32)) (d4 : Value) (d5 : Value), lpP (l_X10_earnsNow_4 h) n s = some y → AR g X 0 0 Q h 4 [.ref 240, .long s.1, jk, .int s.2, d4, d5] [] := by
  induction n with
  | zero => intro s d4 d5 e; cases e
  | succ n ih =>
    intro s d4 d5 e
    obtain ⟨x, e1, e2⟩ := lpP_succ e
    rcases e2 with ⟨s2, rfl, e3⟩ | rfl
    · exact tb_X10_earnsNow_4 hF hX e1 (fun s3 x0 x1 hs => by cases hs; exact ih _ _ _  e3) (fun yy x0 x1 x2 x3 hy => by cases hy)
    · exact tb_X10_earnsNow_4 hF hX e1 (fun s3 x0 x1 hs => by cases hs) (fun yy x0 x1 x2 x3 hy => by cases hy; exact kE0 x0 x1 x2 x3)
theorem t_X10_earnsNow_4 {g : GP} {X : MX} {mcR msR : Nat} (hF : gF g = true) (hX : Cx g RX10 cX10_earnsNow 4 mcR msR (some .long) [] X) {Q : State → Prop} {s : (Int64 × Int32)} {d4 : Value} {d5 : Value} {h : AH} {n : Nat} {y : Int64} (e : lpP (l_X10_earnsNow_4 h) n s = some y) (kE0 : ∀ (y_0 : Value) (y_3 : Value) (y_4 : Value) (y_5 : Value), AR g X 0 0 Q h 111 [y_0, .long y, jk, y_3, y_4, y_5] []) : AR g X 0 0 Q h 4 [.ref 240, .long s.1, jk, .int s.2, d4, d5] [] := ti_X10_earnsNow_4 hF hX kE0 n _ _ _  e
def s_X10_earnsNow (h : AH) : Option Int64 := bd (lpP (l_X10_earnsNow_4 h) FU (0, 0)) fun y10 => some y10
theorem t_X10_earnsNow {g : GP} {X : MX} {mcR msR : Nat} (hF : gF g = true) (hX : Cx g RX10 cX10_earnsNow 4 mcR msR (some .long) [] X) {h : AH} {z : Int64} (e : s_X10_earnsNow h = some z) : AR g X 0 0 (QQ g X NT false h (.inl (some (.long z))) 0 0) h 0 [.ref 240, jk, jk, jk, jk, jk] [] := by
  unfold s_X10_earnsNow at e
  refine aw_lconst (v := 0) hX (by decide) d_X10_earnsNow_0 ?_
  refine aw_lstore_n (i := 1) (lv2 := [.ref 240, .long 0, jk, jk, jk, jk]) hX rfl rfl rfl d_X10_earnsNow_1 ?_
  refine aw_iconst (v := 0) hX (by decide) d_X10_earnsNow_2 ?_
  refine aw_istore_n (i := 3) (lv2 := [.ref 240, .long 0, jk, .int 0, jk, jk]) hX rfl rfl rfl d_X10_earnsNow_3 ?_
  obtain ⟨y10, f_1318, e_1318⟩ := bd_some e
  clear e
  refine t_X10_earnsNow_4 hF hX f_1318 (fun d11_0 d11_3 d11_4 d11_5 => ?_)
  refine aw_lload_n (i := 1) hX rfl rfl d_X10_earnsNow_111 ?_
  cases e_1318
  exact aw_lreturn hX (Nat.zero_le _) (Nat.zero_le _) d_X10_earnsNow_112
theorem k_X10_earnsNow {g : GP} (hg : g.1.stackTraces = false) (hF : gF g = true) {h : AH} {z : Int64} (e : s_X10_earnsNow h = some z) : Ctr g yX10_earnsNow (wsY yX10_earnsNow cX10_earnsNow 6 (some .long)) 4 0 0 [.ref 240] NT false h (some (.long z)) NT false h := ctr_of (lv0 := [.ref 240, jk, jk, jk, jk, jk]) rfl rfl (by decide) hg trivial (fun X hX hn => t_X10_earnsNow hF hX e)
theorem d_X10_earns_0 : decode cX10_earns 0 = .ok (.aload_n 0, 1) := by decide +kernel
theorem d_X10_earns_1 : decode cX10_earns 1 = .ok (.iconst 0, 1) := by decide +kernel
theorem d_X10_earns_2 : decode cX10_earns 2 = .ok (.putfield 133, 3) := by decide +kernel
theorem d_X10_earns_5 : decode cX10_earns 5 = .ok (.aload_n 0, 1) := by decide +kernel
theorem d_X10_earns_6 : decode cX10_earns 6 = .ok (.invokevirtual 384, 3) := by decide +kernel
theorem d_X10_earns_9 : decode cX10_earns 9 = .ok (.lreturn, 1) := by decide +kernel
def s_X10_earns (h : AH) : Option (Int64 × AH) := bd (s_X10_earnsNow (sI h 240 0 0)) fun x1 => some (x1, sI h 240 0 0)
theorem t_X10_earns {g : GP} {X : MX} {mcR msR : Nat} (hF : gF g = true) (hX : Cx g RX10 cX10_earns 5 mcR msR (some .long) [] X) {h hz : AH} {z : Int64} (e : s_X10_earns h = some (z, hz)) : AR g X 0 0 (QQ g X NT false hz (.inl (some (.long z))) 0 0) h 0 [.ref 240] [] := by
  unfold s_X10_earns at e
  refine aw_aload_n (i := 0) hX rfl rfl d_X10_earns_0 ?_
  refine aw_iconst (v := 0) hX (by decide) d_X10_earns_1 ?_
  refine ar_putI hX fp_RX10_133 rfl d_X10_earns_2 ?_
  refine aw_aload_n (i := 0) hX rfl rfl d_X10_earns_5 ?_
  obtain ⟨x1, f_1319, e_1319⟩ := bd_some e
  clear e
  refine aw_callV (b := 240) (av := []) (avr := []) hX (k_X10_earnsNow (cx_g hX) hF f_1319) mi_X10_earnsNow rfl rfl w_861 w_862 w_863 (by decide) rfl (LAY_lt rfl (by decide)) rfl rfl (Nat.le_of_ble_eq_true rfl) (Nat.zero_le _) (Nat.zero_le _) d_X10_earns_6 ?_
  cases e_1319
  exact aw_lreturn hX (Nat.zero_le _) (Nat.zero_le _) d_X10_earns_9
theorem k_X10_earns {g : GP} (hg : g.1.stackTraces = false) (hF : gF g = true) {h hz : AH} {z : Int64} (e : s_X10_earns h = some (z, hz)) : Ctr g yX10_earns (wsY yX10_earns cX10_earns 1 (some .long)) 5 0 0 [.ref 240] NT false h (some (.long z)) NT false hz := ctr_of (lv0 := [.ref 240]) rfl rfl (by decide) hg trivial (fun X hX hn => t_X10_earns hF hX e)
theorem d_X10_prices_0 : decode cX10_prices 0 = .ok (.aload_n 0, 1) := by decide +kernel
theorem d_X10_prices_1 : decode cX10_prices 1 = .ok (.iconst 0, 1) := by decide +kernel
theorem d_X10_prices_2 : decode cX10_prices 2 = .ok (.putfield 133, 3) := by decide +kernel
theorem d_X10_prices_5 : decode cX10_prices 5 = .ok (.aload_n 0, 1) := by decide +kernel
theorem d_X10_prices_6 : decode cX10_prices 6 = .ok (.iload_n 1, 1) := by decide +kernel
theorem d_X10_prices_7 : decode cX10_prices 7 = .ok (.iconst 1, 1) := by decide +kernel
theorem d_X10_prices_8 : decode cX10_prices 8 = .ok (.iconst 4, 1) := by decide +kernel
theorem d_X10_prices_9 : decode cX10_prices 9 = .ok (.invokestatic 295, 3) := by decide +kernel
theorem d_X10_prices_12 : decode cX10_prices 12 = .ok (.ifCond .eq 17, 3) := by decide +kernel
theorem d_X10_prices_15 : decode cX10_prices 15 = .ok (.aload_n 0, 1) := by decide +kernel
theorem d_X10_prices_16 : decode cX10_prices 16 = .ok (.getfield 23, 3) := by decide +kernel
theorem d_X10_prices_19 : decode cX10_prices 19 = .ok (.iload_n 1, 1) := by decide +kernel
theorem d_X10_prices_20 : decode cX10_prices 20 = .ok (.iaload, 1) := by decide +kernel
theorem d_X10_prices_21 : decode cX10_prices 21 = .ok (.iconst (-1), 1) := by decide +kernel
theorem d_X10_prices_22 : decode cX10_prices 22 = .ok (.if_icmp .eq 7, 3) := by decide +kernel
theorem d_X10_prices_25 : decode cX10_prices 25 = .ok (.iconst 1, 1) := by decide +kernel
theorem d_X10_prices_26 : decode cX10_prices 26 = .ok (.goto 4, 3) := by decide +kernel
theorem d_X10_prices_29 : decode cX10_prices 29 = .ok (.iconst 0, 1) := by decide +kernel
theorem d_X10_prices_30 : decode cX10_prices 30 = .ok (.iconst 1, 1) := by decide +kernel
theorem d_X10_prices_31 : decode cX10_prices 31 = .ok (.invokevirtual 253, 3) := by decide +kernel
theorem d_X10_prices_34 : decode cX10_prices 34 = .ok (.ifCond .ne 5, 3) := by decide +kernel
theorem d_X10_prices_37 : decode cX10_prices 37 = .ok (.iconst 0, 1) := by decide +kernel
theorem d_X10_prices_38 : decode cX10_prices 38 = .ok (.ireturn, 1) := by decide +kernel
theorem d_X10_prices_39 : decode cX10_prices 39 = .ok (.iload_n 2, 1) := by decide +kernel
theorem d_X10_prices_40 : decode cX10_prices 40 = .ok (.iconst 0, 1) := by decide +kernel
theorem d_X10_prices_41 : decode cX10_prices 41 = .ok (.sipush 9999, 3) := by decide +kernel
theorem d_X10_prices_44 : decode cX10_prices 44 = .ok (.invokestatic 295, 3) := by decide +kernel
theorem d_X10_prices_47 : decode cX10_prices 47 = .ok (.ifCond .eq 24, 3) := by decide +kernel
theorem d_X10_prices_50 : decode cX10_prices 50 = .ok (.iload_n 3, 1) := by decide +kernel
theorem d_X10_prices_51 : decode cX10_prices 51 = .ok (.iload_n 2, 1) := by decide +kernel
theorem d_X10_prices_52 : decode cX10_prices 52 = .ok (.sipush 9999, 3) := by decide +kernel
theorem d_X10_prices_55 : decode cX10_prices 55 = .ok (.invokestatic 295, 3) := by decide +kernel
theorem d_X10_prices_58 : decode cX10_prices 58 = .ok (.ifCond .eq 13, 3) := by decide +kernel
theorem d_X10_prices_61 : decode cX10_prices 61 = .ok (.iload 4, 2) := by decide +kernel
theorem d_X10_prices_63 : decode cX10_prices 63 = .ok (.iconst 1, 1) := by decide +kernel
theorem d_X10_prices_64 : decode cX10_prices 64 = .ok (.if_icmp .lt 7, 3) := by decide +kernel
theorem d_X10_prices_67 : decode cX10_prices 67 = .ok (.iconst 1, 1) := by decide +kernel
theorem d_X10_prices_68 : decode cX10_prices 68 = .ok (.goto 4, 3) := by decide +kernel
theorem d_X10_prices_71 : decode cX10_prices 71 = .ok (.iconst 0, 1) := by decide +kernel
theorem d_X10_prices_72 : decode cX10_prices 72 = .ok (.istore 5, 2) := by decide +kernel
theorem d_X10_prices_74 : decode cX10_prices 74 = .ok (.iload 5, 2) := by decide +kernel
theorem d_X10_prices_76 : decode cX10_prices 76 = .ok (.ifCond .eq 14, 3) := by decide +kernel
theorem d_X10_prices_79 : decode cX10_prices 79 = .ok (.iload_n 3, 1) := by decide +kernel
theorem d_X10_prices_80 : decode cX10_prices 80 = .ok (.iload_n 2, 1) := by decide +kernel
theorem d_X10_prices_81 : decode cX10_prices 81 = .ok (.isub, 1) := by decide +kernel
theorem d_X10_prices_82 : decode cX10_prices 82 = .ok (.iload 4, 2) := by decide +kernel
theorem d_X10_prices_84 : decode cX10_prices 84 = .ok (.idiv, 1) := by decide +kernel
theorem d_X10_prices_85 : decode cX10_prices 85 = .ok (.iconst 1, 1) := by decide +kernel
theorem d_X10_prices_86 : decode cX10_prices 86 = .ok (.iadd, 1) := by decide +kernel
theorem d_X10_prices_87 : decode cX10_prices 87 = .ok (.goto 4, 3) := by decide +kernel
theorem d_X10_prices_90 : decode cX10_prices 90 = .ok (.iconst 0, 1) := by decide +kernel
theorem d_X10_prices_91 : decode cX10_prices 91 = .ok (.istore 6, 2) := by decide +kernel
theorem d_X10_prices_93 : decode cX10_prices 93 = .ok (.aload_n 0, 1) := by decide +kernel
theorem d_X10_prices_94 : decode cX10_prices 94 = .ok (.iload 5, 2) := by decide +kernel
theorem d_X10_prices_96 : decode cX10_prices 96 = .ok (.ifCond .eq 14, 3) := by decide +kernel
theorem d_X10_prices_99 : decode cX10_prices 99 = .ok (.iload 6, 2) := by decide +kernel
theorem d_X10_prices_101 : decode cX10_prices 101 = .ok (.bipush 60, 2) := by decide +kernel
theorem d_X10_prices_103 : decode cX10_prices 103 = .ok (.if_icmp .gt 7, 3) := by decide +kernel
theorem d_X10_prices_106 : decode cX10_prices 106 = .ok (.iconst 1, 1) := by decide +kernel
theorem d_X10_prices_107 : decode cX10_prices 107 = .ok (.goto 4, 3) := by decide +kernel
theorem d_X10_prices_110 : decode cX10_prices 110 = .ok (.iconst 0, 1) := by decide +kernel
theorem d_X10_prices_111 : decode cX10_prices 111 = .ok (.iconst 2, 1) := by decide +kernel
theorem d_X10_prices_112 : decode cX10_prices 112 = .ok (.invokevirtual 253, 3) := by decide +kernel
theorem d_X10_prices_115 : decode cX10_prices 115 = .ok (.ifCond .ne 5, 3) := by decide +kernel
theorem d_X10_prices_118 : decode cX10_prices 118 = .ok (.iconst 0, 1) := by decide +kernel
theorem d_X10_prices_119 : decode cX10_prices 119 = .ok (.ireturn, 1) := by decide +kernel
theorem d_X10_prices_120 : decode cX10_prices 120 = .ok (.aload_n 0, 1) := by decide +kernel
theorem d_X10_prices_121 : decode cX10_prices 121 = .ok (.getfield 23, 3) := by decide +kernel
theorem d_X10_prices_124 : decode cX10_prices 124 = .ok (.iload_n 1, 1) := by decide +kernel
theorem d_X10_prices_125 : decode cX10_prices 125 = .ok (.iaload, 1) := by decide +kernel
theorem d_X10_prices_126 : decode cX10_prices 126 = .ok (.istore 7, 2) := by decide +kernel
theorem d_X10_prices_128 : decode cX10_prices 128 = .ok (.iconst 0, 1) := by decide +kernel
theorem d_X10_prices_129 : decode cX10_prices 129 = .ok (.istore 8, 2) := by decide +kernel
theorem d_X10_prices_131 : decode cX10_prices 131 = .ok (.iload 8, 2) := by decide +kernel
theorem d_X10_prices_133 : decode cX10_prices 133 = .ok (.iload 6, 2) := by decide +kernel
theorem d_X10_prices_135 : decode cX10_prices 135 = .ok (.if_icmp .ge 191, 3) := by decide +kernel
theorem d_X10_prices_138 : decode cX10_prices 138 = .ok (.aload_n 0, 1) := by decide +kernel
theorem d_X10_prices_139 : decode cX10_prices 139 = .ok (.getfield 23, 3) := by decide +kernel
theorem d_X10_prices_142 : decode cX10_prices 142 = .ok (.iload_n 1, 1) := by decide +kernel
theorem d_X10_prices_143 : decode cX10_prices 143 = .ok (.iload_n 2, 1) := by decide +kernel
theorem d_X10_prices_144 : decode cX10_prices 144 = .ok (.iload 8, 2) := by decide +kernel
theorem d_X10_prices_146 : decode cX10_prices 146 = .ok (.iload 4, 2) := by decide +kernel
theorem d_X10_prices_148 : decode cX10_prices 148 = .ok (.imul, 1) := by decide +kernel
theorem d_X10_prices_149 : decode cX10_prices 149 = .ok (.iadd, 1) := by decide +kernel
theorem d_X10_prices_150 : decode cX10_prices 150 = .ok (.iastore, 1) := by decide +kernel
theorem d_X10_prices_151 : decode cX10_prices 151 = .ok (.aload_n 0, 1) := by decide +kernel
theorem d_X10_prices_152 : decode cX10_prices 152 = .ok (.invokevirtual 384, 3) := by decide +kernel
theorem d_X10_prices_155 : decode cX10_prices 155 = .ok (.lstore 9, 2) := by decide +kernel
theorem d_X10_prices_157 : decode cX10_prices 157 = .ok (.lconst 0, 1) := by decide +kernel
theorem d_X10_prices_158 : decode cX10_prices 158 = .ok (.lstore 11, 2) := by decide +kernel
theorem d_X10_prices_160 : decode cX10_prices 160 = .ok (.iconst 0, 1) := by decide +kernel
theorem d_X10_prices_161 : decode cX10_prices 161 = .ok (.istore 13, 2) := by decide +kernel
theorem d_X10_prices_163 : decode cX10_prices 163 = .ok (.iload 13, 2) := by decide +kernel
theorem d_X10_prices_165 : decode cX10_prices 165 = .ok (.aload_n 0, 1) := by decide +kernel
theorem d_X10_prices_166 : decode cX10_prices 166 = .ok (.getfield 262, 3) := by decide +kernel
theorem d_X10_prices_169 : decode cX10_prices 169 = .ok (.if_icmp .ge 20, 3) := by decide +kernel
theorem d_X10_prices_172 : decode cX10_prices 172 = .ok (.lload 11, 2) := by decide +kernel
theorem d_X10_prices_174 : decode cX10_prices 174 = .ok (.aload_n 0, 1) := by decide +kernel
theorem d_X10_prices_175 : decode cX10_prices 175 = .ok (.iload 13, 2) := by decide +kernel
theorem d_X10_prices_177 : decode cX10_prices 177 = .ok (.invokevirtual 378, 3) := by decide +kernel
theorem d_X10_prices_180 : decode cX10_prices 180 = .ok (.ladd, 1) := by decide +kernel
theorem d_X10_prices_181 : decode cX10_prices 181 = .ok (.lstore 11, 2) := by decide +kernel
theorem d_X10_prices_183 : decode cX10_prices 183 = .ok (.iinc 13 1, 3) := by decide +kernel
theorem d_X10_prices_186 : decode cX10_prices 186 = .ok (.goto (-23), 3) := by decide +kernel
theorem d_X10_prices_189 : decode cX10_prices 189 = .ok (.iload 8, 2) := by decide +kernel
theorem d_X10_prices_191 : decode cX10_prices 191 = .ok (.ifCond .eq 15, 3) := by decide +kernel
theorem d_X10_prices_194 : decode cX10_prices 194 = .ok (.lload 9, 2) := by decide +kernel
theorem d_X10_prices_196 : decode cX10_prices 196 = .ok (.aload_n 0, 1) := by decide +kernel
theorem d_X10_prices_197 : decode cX10_prices 197 = .ok (.getfield 76, 3) := by decide +kernel
theorem d_X10_prices_200 : decode cX10_prices 200 = .ok (.iconst 1, 1) := by decide +kernel
theorem d_X10_prices_201 : decode cX10_prices 201 = .ok (.laload, 1) := by decide +kernel
theorem d_X10_prices_202 : decode cX10_prices 202 = .ok (.lcmp, 1) := by decide +kernel
theorem d_X10_prices_203 : decode cX10_prices 203 = .ok (.ifCond .le 24, 3) := by decide +kernel
theorem d_X10_prices_206 : decode cX10_prices 206 = .ok (.aload_n 0, 1) := by decide +kernel
theorem d_X10_prices_207 : decode cX10_prices 207 = .ok (.getfield 76, 3) := by decide +kernel
theorem d_X10_prices_210 : decode cX10_prices 210 = .ok (.iconst 0, 1) := by decide +kernel
theorem d_X10_prices_211 : decode cX10_prices 211 = .ok (.aload_n 0, 1) := by decide +kernel
theorem d_X10_prices_212 : decode cX10_prices 212 = .ok (.getfield 23, 3) := by decide +kernel
theorem d_X10_prices_215 : decode cX10_prices 215 = .ok (.iload_n 1, 1) := by decide +kernel
theorem d_X10_prices_216 : decode cX10_prices 216 = .ok (.iaload, 1) := by decide +kernel
theorem d_X10_prices_217 : decode cX10_prices 217 = .ok (.i2l, 1) := by decide +kernel
theorem d_X10_prices_218 : decode cX10_prices 218 = .ok (.lastore, 1) := by decide +kernel
theorem d_X10_prices_219 : decode cX10_prices 219 = .ok (.aload_n 0, 1) := by decide +kernel
theorem d_X10_prices_220 : decode cX10_prices 220 = .ok (.getfield 76, 3) := by decide +kernel
theorem d_X10_prices_223 : decode cX10_prices 223 = .ok (.iconst 1, 1) := by decide +kernel
theorem d_X10_prices_224 : decode cX10_prices 224 = .ok (.lload 9, 2) := by decide +kernel
theorem d_X10_prices_226 : decode cX10_prices 226 = .ok (.lastore, 1) := by decide +kernel
theorem d_X10_prices_227 : decode cX10_prices 227 = .ok (.iload 8, 2) := by decide +kernel
theorem d_X10_prices_229 : decode cX10_prices 229 = .ok (.ifCond .eq 15, 3) := by decide +kernel
theorem d_X10_prices_232 : decode cX10_prices 232 = .ok (.lload 11, 2) := by decide +kernel
theorem d_X10_prices_234 : decode cX10_prices 234 = .ok (.aload_n 0, 1) := by decide +kernel
theorem d_X10_prices_235 : decode cX10_prices 235 = .ok (.getfield 76, 3) := by decide +kernel
theorem d_X10_prices_238 : decode cX10_prices 238 = .ok (.iconst 3, 1) := by decide +kernel
theorem d_X10_prices_239 : decode cX10_prices 239 = .ok (.laload, 1) := by decide +kernel
theorem d_X10_prices_240 : decode cX10_prices 240 = .ok (.lcmp, 1) := by decide +kernel
theorem d_X10_prices_241 : decode cX10_prices 241 = .ok (.ifCond .le 24, 3) := by decide +kernel
theorem d_X10_prices_244 : decode cX10_prices 244 = .ok (.aload_n 0, 1) := by decide +kernel
theorem d_X10_prices_245 : decode cX10_prices 245 = .ok (.getfield 76, 3) := by decide +kernel
theorem d_X10_prices_248 : decode cX10_prices 248 = .ok (.iconst 2, 1) := by decide +kernel
theorem d_X10_prices_249 : decode cX10_prices 249 = .ok (.aload_n 0, 1) := by decide +kernel
theorem d_X10_prices_250 : decode cX10_prices 250 = .ok (.getfield 23, 3) := by decide +kernel
theorem d_X10_prices_253 : decode cX10_prices 253 = .ok (.iload_n 1, 1) := by decide +kernel
theorem d_X10_prices_254 : decode cX10_prices 254 = .ok (.iaload, 1) := by decide +kernel
theorem d_X10_prices_255 : decode cX10_prices 255 = .ok (.i2l, 1) := by decide +kernel
theorem d_X10_prices_256 : decode cX10_prices 256 = .ok (.lastore, 1) := by decide +kernel
theorem d_X10_prices_257 : decode cX10_prices 257 = .ok (.aload_n 0, 1) := by decide +kernel
theorem d_X10_prices_258 : decode cX10_prices 258 = .ok (.getfield 76, 3) := by decide +kernel
theorem d_X10_prices_261 : decode cX10_prices 261 = .ok (.iconst 3, 1) := by decide +kernel
theorem d_X10_prices_262 : decode cX10_prices 262 = .ok (.lload 11, 2) := by decide +kernel
theorem d_X10_prices_264 : decode cX10_prices 264 = .ok (.lastore, 1) := by decide +kernel
theorem d_X10_prices_265 : decode cX10_prices 265 = .ok (.iload 8, 2) := by decide +kernel
theorem d_X10_prices_267 : decode cX10_prices 267 = .ok (.ifCond .ne 12, 3) := by decide +kernel
theorem d_X10_prices_270 : decode cX10_prices 270 = .ok (.aload_n 0, 1) := by decide +kernel
theorem d_X10_prices_271 : decode cX10_prices 271 = .ok (.getfield 76, 3) := by decide +kernel
theorem d_X10_prices_274 : decode cX10_prices 274 = .ok (.iconst 4, 1) := by decide +kernel
theorem d_X10_prices_275 : decode cX10_prices 275 = .ok (.ldc2_w 363, 3) := by decide +kernel
theorem d_X10_prices_278 : decode cX10_prices 278 = .ok (.lastore, 1) := by decide +kernel
theorem d_X10_prices_279 : decode cX10_prices 279 = .ok (.aload_n 0, 1) := by decide +kernel
theorem d_X10_prices_280 : decode cX10_prices 280 = .ok (.getfield 76, 3) := by decide +kernel
theorem d_X10_prices_283 : decode cX10_prices 283 = .ok (.iconst 4, 1) := by decide +kernel
theorem d_X10_prices_284 : decode cX10_prices 284 = .ok (.laload, 1) := by decide +kernel
theorem d_X10_prices_285 : decode cX10_prices 285 = .ok (.ldc2_w 363, 3) := by decide +kernel
theorem d_X10_prices_288 : decode cX10_prices 288 = .ok (.lcmp, 1) := by decide +kernel
theorem d_X10_prices_289 : decode cX10_prices 289 = .ok (.ifCond .ne 31, 3) := by decide +kernel
theorem d_X10_prices_292 : decode cX10_prices 292 = .ok (.lload 9, 2) := by decide +kernel
theorem d_X10_prices_294 : decode cX10_prices 294 = .ok (.ldc2_w 310, 3) := by decide +kernel
theorem d_X10_prices_297 : decode cX10_prices 297 = .ok (.aload_n 0, 1) := by decide +kernel
theorem d_X10_prices_298 : decode cX10_prices 298 = .ok (.getfield 259, 3) := by decide +kernel
theorem d_X10_prices_301 : decode cX10_prices 301 = .ok (.i2l, 1) := by decide +kernel
theorem d_X10_prices_302 : decode cX10_prices 302 = .ok (.lmul, 1) := by decide +kernel
theorem d_X10_prices_303 : decode cX10_prices 303 = .ok (.lcmp, 1) := by decide +kernel
theorem d_X10_prices_304 : decode cX10_prices 304 = .ok (.ifCond .lt 16, 3) := by decide +kernel
theorem d_X10_prices_307 : decode cX10_prices 307 = .ok (.aload_n 0, 1) := by decide +kernel
theorem d_X10_prices_308 : decode cX10_prices 308 = .ok (.getfield 76, 3) := by decide +kernel
theorem d_X10_prices_311 : decode cX10_prices 311 = .ok (.iconst 4, 1) := by decide +kernel
theorem d_X10_prices_312 : decode cX10_prices 312 = .ok (.aload_n 0, 1) := by decide +kernel
theorem d_X10_prices_313 : decode cX10_prices 313 = .ok (.getfield 23, 3) := by decide +kernel
theorem d_X10_prices_316 : decode cX10_prices 316 = .ok (.iload_n 1, 1) := by decide +kernel
theorem d_X10_prices_317 : decode cX10_prices 317 = .ok (.iaload, 1) := by decide +kernel
theorem d_X10_prices_318 : decode cX10_prices 318 = .ok (.i2l, 1) := by decide +kernel
theorem d_X10_prices_319 : decode cX10_prices 319 = .ok (.lastore, 1) := by decide +kernel
theorem d_X10_prices_320 : decode cX10_prices 320 = .ok (.iinc 8 1, 3) := by decide +kernel
theorem d_X10_prices_323 : decode cX10_prices 323 = .ok (.goto (-192), 3) := by decide +kernel
theorem d_X10_prices_326 : decode cX10_prices 326 = .ok (.aload_n 0, 1) := by decide +kernel
theorem d_X10_prices_327 : decode cX10_prices 327 = .ok (.getfield 23, 3) := by decide +kernel
theorem d_X10_prices_330 : decode cX10_prices 330 = .ok (.iload_n 1, 1) := by decide +kernel
theorem d_X10_prices_331 : decode cX10_prices 331 = .ok (.iload 7, 2) := by decide +kernel
theorem d_X10_prices_333 : decode cX10_prices 333 = .ok (.iastore, 1) := by decide +kernel
theorem d_X10_prices_334 : decode cX10_prices 334 = .ok (.aload_n 0, 1) := by decide +kernel
theorem d_X10_prices_335 : decode cX10_prices 335 = .ok (.iconst 1, 1) := by decide +kernel
theorem d_X10_prices_336 : decode cX10_prices 336 = .ok (.putfield 278, 3) := by decide +kernel
theorem d_X10_prices_339 : decode cX10_prices 339 = .ok (.iload 6, 2) := by decide +kernel
theorem d_X10_prices_341 : decode cX10_prices 341 = .ok (.ireturn, 1) := by decide +kernel
def l_X10_prices_163 (p1 : Int32) (p2 : Int32) (p4 : Int32) (p6 : Int32) (p7 : Int32) (p8 : Int32) (p9 : Int64) (s : (Int64 × Int32)) (h : AH) : Option (((Int64 × Int32) ⊕ Int64) × AH) := if (gI h 240 3) ≤ s.2 then some (.inr s.1, h) else bd (s_X10_fullAll s.2 h) fun x8 => some (.inl ((s.1 + x8), s.2 + 1), h)
theorem tb_X10_prices_163 {g : GP} {X : MX} {mcR msR : Nat} (hF : gF g = true) (hX : Cx g RX10 cX10_prices 5 mcR msR (some .int) [] X) {Q : State → Prop} {p1 : Int32} {p2 : Int32} {p4 : Int32} {p6 : Int32} {p7 : Int32} {p8 : Int32} {p9 : Int64} {s : (Int64 × Int32)} {d3 : Value} {d5 : Value} {h hz : AH} {z : ((Int64 × Int32) ⊕ Int64)} (e : l_X10_prices_163 p1 p2 p4 p6 p7 p8 p9 s h = some (z, hz)) (kI : ∀ (s2 : (Int64 × Int32)) (xd3 : Value) (xd5 : Value), z = .inl s2 → AR g X 0 0 Q hz 163 [.ref 240, .int p1, .int p2, xd3, .int p4, xd5, .int p6, .int p7, .int p8, .long p9, jk, .long s2.1, jk, .int s2.2] []) (kE0 : ∀ (yy : Int64) (y3 : Value) (y5 : Value) (y13 : Value), z = .inr yy → AR g X 0 0 Q hz 189 [.ref 240, .int p1, .int p2, y3, .int p4, y5, .int p6, .int p7, .int p8, .long p9, jk, .long yy, jk, y13] []) : AR g X 0 0 Q h 163 [.ref 240, .int p1, .int p2, d3, .int p4, d5, .int p6, .int p7, .int p8, .long p9, jk, .long s.1, jk, .int s.2] [] := by
  unfold l_X10_prices_163 at e
  refine aw_iload (i := 13) hX rfl d_X10_prices_163 ?_
  refine aw_aload_n (i := 0) hX rfl rfl d_X10_prices_165 ?_
  refine ar_getI hX fg_RX10_262 rfl d_X10_prices_166 ?_
  refine aw_icmp_ge (t := 189) hX (by decide) d_X10_prices_169 (fun c => ?_) (fun c => ?_)
  · rw [if_pos c] at e
    cases e
    exact kE0 s.1 _ _ _ rfl
  · rw [if_neg c] at e
    refine aw_lload (i := 11) hX rfl d_X10_prices_172 ?_
    refine aw_aload_n (i := 0) hX rfl rfl d_X10_prices_174 ?_
    refine aw_iload (i := 13) hX rfl d_X10_prices_175 ?_
    obtain ⟨x8, f_1320, e_1320⟩ := bd_some e
    clear e
    refine aw_callV (b := 240) (av := [.int s.2]) (avr := [.int s.2]) hX (k_X10_fullAll (cx_g hX) hF f_1320) mi_X10_fullAll rfl rfl w_857 w_858 w_859 (by decide) rfl (LAY_lt rfl (by decide)) rfl rfl (Nat.le_of_ble_eq_true rfl) (Nat.zero_le _) (Nat.zero_le _) d_X10_prices_177 ?_
    refine aw_ladd hX d_X10_prices_180 ?_
    refine aw_lstore (i := 11) (lv2 := [.ref 240, .int p1, .int p2, d3, .int p4, d5, .int p6, .int p7, .int p8, .long p9, jk, .long (s.1 + x8), jk, .int s.2]) hX rfl rfl d_X10_prices_181 ?_
    refine aw_iinc (i := 13) (lv2 := [.ref 240, .int p1, .int p2, d3, .int p4, d5, .int p6, .int p7, .int p8, .long p9, jk, .long (s.1 + x8), jk, .int (s.2 + 1)]) hX rfl rfl rfl rfl d_X10_prices_183 ?_
    refine aw_goto (t := 163) hX (by decide) d_X10_prices_186 ?_
    cases e_1320
    exact kI ((s.1 + x8), s.2 + 1) _ _ rfl
theorem ti_X10_prices_163 {g : GP} {X : MX} {mcR msR : Nat} (hF : gF g = true) (hX : Cx g RX10 cX10_prices 5 mcR msR (some .int) [] X) {Q : State → Prop} {p1 : Int32} {p2 : Int32} {p4 : Int32} {p6 : Int32} {p7 : Int32} {p8 : Int32} {p9 : Int64} {y : Int64} {hz : AH} (kE0 : ∀ (y_3 : Value) (y_5 : Value) (y_13 : Value), AR g X 0 0 Q hz 189 [.ref 240, .int p1, .int p2, y_3, .int p4, y_5, .int p6, .int p7, .int p8, .long p9, jk, .long y, jk, y_13] []) (n : Nat) : ∀ (s : (Int64 × Int32)) (d3 : Value) (d5 : Value) (h : AH), lpH (l_X10_prices_163 p1 p2 p4 p6 p7 p8 p9) n s h = some (y, hz) → AR g X 0 0 Q h 163 [.ref 240, .int p1, .int p2, d3, .int p4, d5, .int p6, .int p7, .int p8, .long p9, jk, .long s.1, jk, .int s.2] [] := by
  induction n with
  | zero => intro s d3 d5 h e; cases e
  | succ n ih =>
    intro s d3 d5 h e
    obtain ⟨x, h1, e1, e2⟩ := lpH_succ e
    rcases e2 with ⟨s2, rfl, e3⟩ | ⟨rfl, rfl⟩
    · exact tb_X10_prices_163 hF hX e1 (fun s3 x0 x1 hs => by cases hs; exact ih _ _ _ _ e3) (fun yy x0 x1 x2 hy => by cases hy)
    · exact tb_X10_prices_163 hF hX e1 (fun s3 x0 x1 hs => by cases hs) (fun yy x0 x1 x2 hy => by cases hy; exact kE0 x0 x1 x2)
theorem t_X10_prices_163 {g : GP} {X : MX} {mcR msR : Nat} (hF : gF g = true) (hX : Cx g RX10 cX10_prices 5 mcR msR (some .int) [] X) {Q : State → Prop} {p1 : Int32} {p2 : Int32} {p4 : Int32} {p6 : Int32} {p7 : Int32} {p8 : Int32} {p9 : Int64} {s : (Int64 × Int32)} {d3 : Value} {d5 : Value} {h hz : AH} {n : Nat} {y : Int64} (e : lpH (l_X10_prices_163 p1 p2 p4 p6 p7 p8 p9) n s h = some (y, hz)) (kE0 : ∀ (y_3 : Value) (y_5 : Value) (y_13 : Value), AR g X 0 0 Q hz 189 [.ref 240, .int p1, .int p2, y_3, .int p4, y_5, .int p6, .int p7, .int p8, .long p9, jk, .long y, jk, y_13] []) : AR g X 0 0 Q h 163 [.ref 240, .int p1, .int p2, d3, .int p4, d5, .int p6, .int p7, .int p8, .long p9, jk, .long s.1, jk, .int s.2] [] := ti_X10_prices_163 hF hX kE0 n _ _ _ _ e
def j_X10_prices_320_131 (p1 : Int32) (p2 : Int32) (p4 : Int32) (p6 : Int32) (p7 : Int32) (v8 : Int32) (h : AH) : Option ((Int32 ⊕ Unit) × AH) := some (.inl (v8 + 1), h)
theorem tj_X10_prices_320_131 {g : GP} {X : MX} {mcR msR : Nat} (hF : gF g = true) (hX : Cx g RX10 cX10_prices 5 mcR msR (some .int) [] X) {Q : State → Prop} {p1 : Int32} {p2 : Int32} {p4 : Int32} {p6 : Int32} {p7 : Int32} {v8 : Int32} {d3 : Value} {d5 : Value} {d9 : Value} {d10 : Value} {d11 : Value} {d12 : Value} {d13 : Value} {h hz : AH} {z : (Int32 ⊕ Unit)} (e : j_X10_prices_320_131 p1 p2 p4 p6 p7 v8 h = some (z, hz)) (kI : ∀ (s2 : Int32) (xd3 : Value) (xd5 : Value) (xd9 : Value) (xd10 : Value) (xd11 : Value) (xd12 : Value) (xd13 : Value), z = .inl s2 → AR g X 0 0 Q hz 131 [.ref 240, .int p1, .int p2, xd3, .int p4, xd5, .int p6, .int p7, .int s2, xd9, xd10, xd11, xd12, xd13] []) (kE0 : ∀ (yy : Unit) (y2 : Value) (y3 : Value) (y4 : Value) (y5 : Value) (y8 : Value) (y9 : Value) (y10 : Value) (y11 : Value) (y12 : Value) (y13 : Value), z = .inr yy → AR g X 0 0 Q hz 326 [.ref 240, .int p1, y2, y3, y4, y5, .int p6, .int p7, y8, y9, y10, y11, y12, y13] []) : AR g X 0 0 Q h 320 [.ref 240, .int p1, .int p2, d3, .int p4, d5, .int p6, .int p7, .int v8, d9, d10, d11, d12, d13] [] := by
  unfold j_X10_prices_320_131 at e
  refine aw_iinc (i := 8) (lv2 := [.ref 240, .int p1, .int p2, d3, .int p4, d5, .int p6, .int p7, .int (v8 + 1), d9, d10, d11, d12, d13]) hX rfl rfl rfl rfl d_X10_prices_320 ?_
  refine aw_goto (t := 131) hX (by decide) d_X10_prices_323 ?_
  cases e
  exact kI (v8 + 1) _ _ _ _ _ _ _ rfl
def j_X10_prices_279_131 (p1 : Int32) (p2 : Int32) (p4 : Int32) (p6 : Int32) (p7 : Int32) (v8 : Int32) (v9 : Int64) (h : AH) : Option ((Int32 ⊕ Unit) × AH) := bd (ldL h 260 4) fun x17 => if x17 = (-1) then if v9 < (1000 * ((gI h 240 2).toInt64)) then j_X10_prices_320_131 p1 p2 p4 p6 p7 v8 h else bd (ldI h 244 p1) fun x18 => bd (stL h 260 4 x18.toInt64) fun m19 => j_X10_prices_320_131 p1 p2 p4 p6 p7 v8 m19 else j_X10_prices_320_131 p1 p2 p4 p6 p7 v8 h
theorem tj_X10_prices_279_131 {g : GP} {X : MX} {mcR msR : Nat} (hF : gF g = true) (hX : Cx g RX10 cX10_prices 5 mcR msR (some .int) [] X) {Q : State → Prop} {p1 : Int32} {p2 : Int32} {p4 : Int32} {p6 : Int32} {p7 : Int32} {v8 : Int32} {v9 : Int64} {d3 : Value} {d5 : Value} {d11 : Value} {d12 : Value} {d13 : Value} {h hz : AH} {z : (Int32 ⊕ Unit)} (e : j_X10_prices_279_131 p1 p2 p4 p6 p7 v8 v9 h = some (z, hz)) (kI : ∀ (s2 : Int32) (xd3 : Value) (xd5 : Value) (xd9 : Value) (xd10 : Value) (xd11 : Value) (xd12 : Value) (xd13 : Value), z = .inl s2 → AR g X 0 0 Q hz 131 [.ref 240, .int p1, .int p2, xd3, .int p4, xd5, .int p6, .int p7, .int s2, xd9, xd10, xd11, xd12, xd13] []) (kE0 : ∀ (yy : Unit) (y2 : Value) (y3 : Value) (y4 : Value) (y5 : Value) (y8 : Value) (y9 : Value) (y10 : Value) (y11 : Value) (y12 : Value) (y13 : Value), z = .inr yy → AR g X 0 0 Q hz 326 [.ref 240, .int p1, y2, y3, y4, y5, .int p6, .int p7, y8, y9, y10, y11, y12, y13] []) : AR g X 0 0 Q h 279 [.ref 240, .int p1, .int p2, d3, .int p4, d5, .int p6, .int p7, .int v8, .long v9, jk, d11, d12, d13] [] := by
  unfold j_X10_prices_279_131 at e
  refine aw_aload_n (i := 0) hX rfl rfl d_X10_prices_279 ?_
  refine ar_getF hX hF fg_RX10_76 rfl d_X10_prices_280 ?_
  show AR g X 0 0 _ _ 283 _ [.ref 260]
  refine aw_iconst (v := 4) hX (by decide) d_X10_prices_283 ?_
  obtain ⟨x17, f_1321, e_1321⟩ := bd_some e
  clear e
  refine ar_laload hX f_1321 d_X10_prices_284 ?_
  refine aw_ldc2 hX w_834 d_X10_prices_285 ?_
  refine aw_lcmp hX d_X10_prices_288 ?_
  refine aw_if_ne (t := 320) hX (by decide) d_X10_prices_289 (fun c => ?_) (fun c => ?_)
  · replace c := fun q => c (lc_eq.mpr q)
    rw [if_neg c] at e_1321
    exact tj_X10_prices_320_131 hF hX e_1321 kI kE0
  · replace c := lc_eq.mp c
    rw [if_pos c] at e_1321
    refine aw_lload (i := 9) hX rfl d_X10_prices_292 ?_
    refine aw_ldc2 hX w_737 d_X10_prices_294 ?_
    refine aw_aload_n (i := 0) hX rfl rfl d_X10_prices_297 ?_
    refine ar_getI hX fg_RX10_259 rfl d_X10_prices_298 ?_
    refine aw_i2l hX d_X10_prices_301 ?_
    refine aw_lmul hX d_X10_prices_302 ?_
    refine aw_lcmp hX d_X10_prices_303 ?_
    refine aw_if_lt (t := 320) hX (by decide) d_X10_prices_304 (fun c => ?_) (fun c => ?_)
    · replace c := lc_lt.mp c
      rw [if_pos c] at e_1321
      exact tj_X10_prices_320_131 hF hX e_1321 kI kE0
    · replace c := fun q => c (lc_lt.mpr q)
      rw [if_neg c] at e_1321
      refine aw_aload_n (i := 0) hX rfl rfl d_X10_prices_307 ?_
      refine ar_getF hX hF fg_RX10_76 rfl d_X10_prices_308 ?_
      show AR g X 0 0 _ _ 311 _ [.ref 260]
      refine aw_iconst (v := 4) hX (by decide) d_X10_prices_311 ?_
      refine aw_aload_n (i := 0) hX rfl rfl d_X10_prices_312 ?_
      refine ar_getF hX hF fg_RX10_23 rfl d_X10_prices_313 ?_
      show AR g X 0 0 _ _ 316 _ [.ref 244, .int 4, .ref 260]
      refine aw_iload_n (i := 1) hX rfl rfl d_X10_prices_316 ?_
      obtain ⟨x18, f_1322, e_1322⟩ := bd_some e_1321
      clear e_1321
      refine ar_iaload hX f_1322 d_X10_prices_317 ?_
      refine aw_i2l hX d_X10_prices_318 ?_
      obtain ⟨m19, f_1323, e_1323⟩ := bd_some e_1322
      clear e_1322
      refine ar_lastore hX f_1323 d_X10_prices_319 ?_
      exact tj_X10_prices_320_131 hF hX e_1323 kI kE0
def j_X10_prices_265_131 (p1 : Int32) (p2 : Int32) (p4 : Int32) (p6 : Int32) (p7 : Int32) (v8 : Int32) (v9 : Int64) (h : AH) : Option ((Int32 ⊕ Unit) × AH) := if v8 = 0 then bd (stL h 260 4 (-1)) fun m20 => j_X10_prices_279_131 p1 p2 p4 p6 p7 v8 v9 m20 else j_X10_prices_279_131 p1 p2 p4 p6 p7 v8 v9 h
theorem tj_X10_prices_265_131 {g : GP} {X : MX} {mcR msR : Nat} (hF : gF g = true) (hX : Cx g RX10 cX10_prices 5 mcR msR (some .int) [] X) {Q : State → Prop} {p1 : Int32} {p2 : Int32} {p4 : Int32} {p6 : Int32} {p7 : Int32} {v8 : Int32} {v9 : Int64} {d3 : Value} {d5 : Value} {d11 : Value} {d12 : Value} {d13 : Value} {h hz : AH} {z : (Int32 ⊕ Unit)} (e : j_X10_prices_265_131 p1 p2 p4 p6 p7 v8 v9 h = some (z, hz)) (kI : ∀ (s2 : Int32) (xd3 : Value) (xd5 : Value) (xd9 : Value) (xd10 : Value) (xd11 : Value) (xd12 : Value) (xd13 : Value), z = .inl s2 → AR g X 0 0 Q hz 131 [.ref 240, .int p1, .int p2, xd3, .int p4, xd5, .int p6, .int p7, .int s2, xd9, xd10, xd11, xd12, xd13] []) (kE0 : ∀ (yy : Unit) (y2 : Value) (y3 : Value) (y4 : Value) (y5 : Value) (y8 : Value) (y9 : Value) (y10 : Value) (y11 : Value) (y12 : Value) (y13 : Value), z = .inr yy → AR g X 0 0 Q hz 326 [.ref 240, .int p1, y2, y3, y4, y5, .int p6, .int p7, y8, y9, y10, y11, y12, y13] []) : AR g X 0 0 Q h 265 [.ref 240, .int p1, .int p2, d3, .int p4, d5, .int p6, .int p7, .int v8, .long v9, jk, d11, d12, d13] [] := by
  unfold j_X10_prices_265_131 at e
  refine aw_iload (i := 8) hX rfl d_X10_prices_265 ?_
  refine aw_if_ne (t := 279) hX (by decide) d_X10_prices_267 (fun c => ?_) (fun c => ?_)
  · rw [if_neg c] at e
    exact tj_X10_prices_279_131 hF hX e kI kE0
  · rw [if_pos c] at e
    refine aw_aload_n (i := 0) hX rfl rfl d_X10_prices_270 ?_
    refine ar_getF hX hF fg_RX10_76 rfl d_X10_prices_271 ?_
    show AR g X 0 0 _ _ 274 _ [.ref 260]
    refine aw_iconst (v := 4) hX (by decide) d_X10_prices_274 ?_
    refine aw_ldc2 hX w_834 d_X10_prices_275 ?_
    obtain ⟨m20, f_1324, e_1324⟩ := bd_some e
    clear e
    refine ar_lastore hX f_1324 d_X10_prices_278 ?_
    exact tj_X10_prices_279_131 hF hX e_1324 kI kE0
def j_X10_prices_244_131 (p1 : Int32) (p2 : Int32) (p4 : Int32) (p6 : Int32) (p7 : Int32) (v8 : Int32) (v9 : Int64) (v11 : Int64) (h : AH) : Option ((Int32 ⊕ Unit) × AH) := bd (ldI h 244 p1) fun x14 => bd (stL h 260 2 x14.toInt64) fun m15 => bd (stL m15 260 3 v11) fun m16 => j_X10_prices_265_131 p1 p2 p4 p6 p7 v8 v9 m16
theorem tj_X10_prices_244_131 {g : GP} {X : MX} {mcR msR : Nat} (hF : gF g = true) (hX : Cx g RX10 cX10_prices 5 mcR msR (some .int) [] X) {Q : State → Prop} {p1 : Int32} {p2 : Int32} {p4 : Int32} {p6 : Int32} {p7 : Int32} {v8 : Int32} {v9 : Int64} {v11 : Int64} {d3 : Value} {d5 : Value} {d13 : Value} {h hz : AH} {z : (Int32 ⊕ Unit)} (e : j_X10_prices_244_131 p1 p2 p4 p6 p7 v8 v9 v11 h = some (z, hz)) (kI : ∀ (s2 : Int32) (xd3 : Value) (xd5 : Value) (xd9 : Value) (xd10 : Value) (xd11 : Value) (xd12 : Value) (xd13 : Value), z = .inl s2 → AR g X 0 0 Q hz 131 [.ref 240, .int p1, .int p2, xd3, .int p4, xd5, .int p6, .int p7, .int s2, xd9, xd10, xd11, xd12, xd13] []) (kE0 : ∀ (yy : Unit) (y2 : Value) (y3 : Value) (y4 : Value) (y5 : Value) (y8 : Value) (y9 : Value) (y10 : Value) (y11 : Value) (y12 : Value) (y13 : Value), z = .inr yy → AR g X 0 0 Q hz 326 [.ref 240, .int p1, y2, y3, y4, y5, .int p6, .int p7, y8, y9, y10, y11, y12, y13] []) : AR g X 0 0 Q h 244 [.ref 240, .int p1, .int p2, d3, .int p4, d5, .int p6, .int p7, .int v8, .long v9, jk, .long v11, jk, d13] [] := by
  unfold j_X10_prices_244_131 at e
  refine aw_aload_n (i := 0) hX rfl rfl d_X10_prices_244 ?_
  refine ar_getF hX hF fg_RX10_76 rfl d_X10_prices_245 ?_
  show AR g X 0 0 _ _ 248 _ [.ref 260]
  refine aw_iconst (v := 2) hX (by decide) d_X10_prices_248 ?_
  refine aw_aload_n (i := 0) hX rfl rfl d_X10_prices_249 ?_
  refine ar_getF hX hF fg_RX10_23 rfl d_X10_prices_250 ?_
  show AR g X 0 0 _ _ 253 _ [.ref 244, .int 2, .ref 260]
  refine aw_iload_n (i := 1) hX rfl rfl d_X10_prices_253 ?_
  obtain ⟨x14, f_1325, e_1325⟩ := bd_some e
  clear e
  refine ar_iaload hX f_1325 d_X10_prices_254 ?_
  refine aw_i2l hX d_X10_prices_255 ?_
  obtain ⟨m15, f_1326, e_1326⟩ := bd_some e_1325
  clear e_1325
  refine ar_lastore hX f_1326 d_X10_prices_256 ?_
  refine aw_aload_n (i := 0) hX rfl rfl d_X10_prices_257 ?_
  refine ar_getF hX hF fg_RX10_76 rfl d_X10_prices_258 ?_
  show AR g X 0 0 _ _ 261 _ [.ref 260]
  refine aw_iconst (v := 3) hX (by decide) d_X10_prices_261 ?_
  refine aw_lload (i := 11) hX rfl d_X10_prices_262 ?_
  obtain ⟨m16, f_1327, e_1327⟩ := bd_some e_1326
  clear e_1326
  refine ar_lastore hX f_1327 d_X10_prices_264 ?_
  exact tj_X10_prices_265_131 hF hX e_1327 kI kE0
def j_X10_prices_227_131 (p1 : Int32) (p2 : Int32) (p4 : Int32) (p6 : Int32) (p7 : Int32) (v8 : Int32) (v9 : Int64) (v11 : Int64) (h : AH) : Option ((Int32 ⊕ Unit) × AH) := if v8 = 0 then j_X10_prices_244_131 p1 p2 p4 p6 p7 v8 v9 v11 h else bd (ldL h 260 3) fun x21 => if v11 ≤ x21 then j_X10_prices_265_131 p1 p2 p4 p6 p7 v8 v9 h else j_X10_prices_244_131 p1 p2 p4 p6 p7 v8 v9 v11 h
theorem tj_X10_prices_227_131 {g : GP} {X : MX} {mcR msR : Nat} (hF : gF g = true) (hX : Cx g RX10 cX10_prices 5 mcR msR (some .int) [] X) {Q : State → Prop} {p1 : Int32} {p2 : Int32} {p4 : Int32} {p6 : Int32} {p7 : Int32} {v8 : Int32} {v9 : Int64} {v11 : Int64} {d3 : Value} {d5 : Value} {d13 : Value} {h hz : AH} {z : (Int32 ⊕ Unit)} (e : j_X10_prices_227_131 p1 p2 p4 p6 p7 v8 v9 v11 h = some (z, hz)) (kI : ∀ (s2 : Int32) (xd3 : Value) (xd5 : Value) (xd9 : Value) (xd10 : Value) (xd11 : Value) (xd12 : Value) (xd13 : Value), z = .inl s2 → AR g X 0 0 Q hz 131 [.ref 240, .int p1, .int p2, xd3, .int p4, xd5, .int p6, .int p7, .int s2, xd9, xd10, xd11, xd12, xd13] []) (kE0 : ∀ (yy : Unit) (y2 : Value) (y3 : Value) (y4 : Value) (y5 : Value) (y8 : Value) (y9 : Value) (y10 : Value) (y11 : Value) (y12 : Value) (y13 : Value), z = .inr yy → AR g X 0 0 Q hz 326 [.ref 240, .int p1, y2, y3, y4, y5, .int p6, .int p7, y8, y9, y10, y11, y12, y13] []) : AR g X 0 0 Q h 227 [.ref 240, .int p1, .int p2, d3, .int p4, d5, .int p6, .int p7, .int v8, .long v9, jk, .long v11, jk, d13] [] := by
  unfold j_X10_prices_227_131 at e
  refine aw_iload (i := 8) hX rfl d_X10_prices_227 ?_
  refine aw_if_eq (t := 244) hX (by decide) d_X10_prices_229 (fun c => ?_) (fun c => ?_)
  · rw [if_pos c] at e
    exact tj_X10_prices_244_131 hF hX e kI kE0
  · rw [if_neg c] at e
    refine aw_lload (i := 11) hX rfl d_X10_prices_232 ?_
    refine aw_aload_n (i := 0) hX rfl rfl d_X10_prices_234 ?_
    refine ar_getF hX hF fg_RX10_76 rfl d_X10_prices_235 ?_
    show AR g X 0 0 _ _ 238 _ [.ref 260, .long v11]
    refine aw_iconst (v := 3) hX (by decide) d_X10_prices_238 ?_
    obtain ⟨x21, f_1328, e_1328⟩ := bd_some e
    clear e
    refine ar_laload hX f_1328 d_X10_prices_239 ?_
    refine aw_lcmp hX d_X10_prices_240 ?_
    refine aw_if_le (t := 265) hX (by decide) d_X10_prices_241 (fun c => ?_) (fun c => ?_)
    · replace c := lc_le.mp c
      rw [if_pos c] at e_1328
      exact tj_X10_prices_265_131 hF hX e_1328 kI kE0
    · replace c := fun q => c (lc_le.mpr q)
      rw [if_neg c] at e_1328
      exact tj_X10_prices_244_131 hF hX e_1328 kI kE0
def j_X10_prices_206_131 (p1 : Int32) (p2 : Int32) (p4 : Int32) (p6 : Int32) (p7 : Int32) (v8 : Int32) (v9 : Int64) (v11 : Int64) (h : AH) : Option ((Int32 ⊕ Unit) × AH) := bd (ldI h 244 p1) fun x11 => bd (stL h 260 0 x11.toInt64) fun m12 => bd (stL m12 260 1 v9) fun m13 => j_X10_prices_227_131 p1 p2 p4 p6 p7 v8 v9 v11 m13
theorem tj_X10_prices_206_131 {g : GP} {X : MX} {mcR msR : Nat} (hF : gF g = true) (hX : Cx g RX10 cX10_prices 5 mcR msR (some .int) [] X) {Q : State → Prop} {p1 : Int32} {p2 : Int32} {p4 : Int32} {p6 : Int32} {p7 : Int32} {v8 : Int32} {v9 : Int64} {v11 : Int64} {d3 : Value} {d5 : Value} {d13 : Value} {h hz : AH} {z : (Int32 ⊕ Unit)} (e : j_X10_prices_206_131 p1 p2 p4 p6 p7 v8 v9 v11 h = some (z, hz)) (kI : ∀ (s2 : Int32) (xd3 : Value) (xd5 : Value) (xd9 : Value) (xd10 : Value) (xd11 : Value) (xd12 : Value) (xd13 : Value), z = .inl s2 → AR g X 0 0 Q hz 131 [.ref 240, .int p1, .int p2, xd3, .int p4, xd5, .int p6, .int p7, .int s2, xd9, xd10, xd11, xd12, xd13] []) (kE0 : ∀ (yy : Unit) (y2 : Value) (y3 : Value) (y4 : Value) (y5 : Value) (y8 : Value) (y9 : Value) (y10 : Value) (y11 : Value) (y12 : Value) (y13 : Value), z = .inr yy → AR g X 0 0 Q hz 326 [.ref 240, .int p1, y2, y3, y4, y5, .int p6, .int p7, y8, y9, y10, y11, y12, y13] []) : AR g X 0 0 Q h 206 [.ref 240, .int p1, .int p2, d3, .int p4, d5, .int p6, .int p7, .int v8, .long v9, jk, .long v11, jk, d13] [] := by
  unfold j_X10_prices_206_131 at e
  refine aw_aload_n (i := 0) hX rfl rfl d_X10_prices_206 ?_
  refine ar_getF hX hF fg_RX10_76 rfl d_X10_prices_207 ?_
  show AR g X 0 0 _ _ 210 _ [.ref 260]
  refine aw_iconst (v := 0) hX (by decide) d_X10_prices_210 ?_
  refine aw_aload_n (i := 0) hX rfl rfl d_X10_prices_211 ?_
  refine ar_getF hX hF fg_RX10_23 rfl d_X10_prices_212 ?_
  show AR g X 0 0 _ _ 215 _ [.ref 244, .int 0, .ref 260]
  refine aw_iload_n (i := 1) hX rfl rfl d_X10_prices_215 ?_
  obtain ⟨x11, f_1329, e_1329⟩ := bd_some e
  clear e
  refine ar_iaload hX f_1329 d_X10_prices_216 ?_
  refine aw_i2l hX d_X10_prices_217 ?_
  obtain ⟨m12, f_1330, e_1330⟩ := bd_some e_1329
  clear e_1329
  refine ar_lastore hX f_1330 d_X10_prices_218 ?_
  refine aw_aload_n (i := 0) hX rfl rfl d_X10_prices_219 ?_
  refine ar_getF hX hF fg_RX10_76 rfl d_X10_prices_220 ?_
  show AR g X 0 0 _ _ 223 _ [.ref 260]
  refine aw_iconst (v := 1) hX (by decide) d_X10_prices_223 ?_
  refine aw_lload (i := 9) hX rfl d_X10_prices_224 ?_
  obtain ⟨m13, f_1331, e_1331⟩ := bd_some e_1330
  clear e_1330
  refine ar_lastore hX f_1331 d_X10_prices_226 ?_
  exact tj_X10_prices_227_131 hF hX e_1331 kI kE0
def l_X10_prices_131 (p1 : Int32) (p2 : Int32) (p4 : Int32) (p6 : Int32) (p7 : Int32) (s : Int32) (h : AH) : Option ((Int32 ⊕ Unit) × AH) := if p6 ≤ s then some (.inr (), h) else bd (stI h 244 p1 (p2 + (s * p4))) fun m6 => bd (s_X10_earnsNow m6) fun x7 => bd (lpH (l_X10_prices_163 p1 p2 p4 p6 p7 s x7) FU (0, 0) m6) fun y9 => if s = 0 then j_X10_prices_206_131 p1 p2 p4 p6 p7 s x7 y9.1 y9.2 else bd (ldL y9.2 260 1) fun x22 => if x7 ≤ x22 then j_X10_prices_227_131 p1 p2 p4 p6 p7 s x7 y9.1 y9.2 else j_X10_prices_206_131 p1 p2 p4 p6 p7 s x7 y9.1 y9.2
theorem tb_X10_prices_131 {g : GP} {X : MX} {mcR msR : Nat} (hF : gF g = true) (hX : Cx g RX10 cX10_prices 5 mcR msR (some .int) [] X) {Q : State → Prop} {p1 : Int32} {p2 : Int32} {p4 : Int32} {p6 : Int32} {p7 : Int32} {s : Int32} {d3 : Value} {d5 : Value} {d9 : Value} {d10 : Value} {d11 : Value} {d12 : Value} {d13 : Value} {h hz : AH} {z : (Int32 ⊕ Unit)} (e : l_X10_prices_131 p1 p2 p4 p6 p7 s h = some (z, hz)) (kI : ∀ (s2 : Int32) (xd3 : Value) (xd5 : Value) (xd9 : Value) (xd10 : Value) (xd11 : Value) (xd12 : Value) (xd13 : Value), z = .inl s2 → AR g X 0 0 Q hz 131 [.ref 240, .int p1, .int p2, xd3, .int p4, xd5, .int p6, .int p7, .int s2, xd9, xd10, xd11, xd12, xd13] []) (kE0 : ∀ (yy : Unit) (y2 : Value) (y3 : Value) (y4 : Value) (y5 : Value) (y8 : Value) (y9 : Value) (y10 : Value) (y11 : Value) (y12 : Value) (y13 : Value), z = .inr yy → AR g X 0 0 Q hz 326 [.ref 240, .int p1, y2, y3, y4, y5, .int p6, .int p7, y8, y9, y10, y11, y12, y13] []) : AR g X 0 0 Q h 131 [.ref 240, .int p1, .int p2, d3, .int p4, d5, .int p6, .int p7, .int s, d9, d10, d11, d12, d13] [] := by
  unfold l_X10_prices_131 at e
  refine aw_iload (i := 8) hX rfl d_X10_prices_131 ?_
  refine aw_iload (i := 6) hX rfl d_X10_prices_133 ?_
  refine aw_icmp_ge (t := 326) hX (by decide) d_X10_prices_135 (fun c => ?_) (fun c => ?_)
  · rw [if_pos c] at e
    cases e
    exact kE0 () _ _ _ _ _ _ _ _ _ _ rfl
  · rw [if_neg c] at e
    refine aw_aload_n (i := 0) hX rfl rfl d_X10_prices_138 ?_
    refine ar_getF hX hF fg_RX10_23 rfl d_X10_prices_139 ?_
    show AR g X 0 0 _ _ 142 _ [.ref 244]
    refine aw_iload_n (i := 1) hX rfl rfl d_X10_prices_142 ?_
    refine aw_iload_n (i := 2) hX rfl rfl d_X10_prices_143 ?_
    refine aw_iload (i := 8) hX rfl d_X10_prices_144 ?_
    refine aw_iload (i := 4) hX rfl d_X10_prices_146 ?_
    refine aw_imul hX d_X10_prices_148 ?_
    refine aw_iadd hX d_X10_prices_149 ?_
    obtain ⟨m6, f_1332, e_1332⟩ := bd_some e
    clear e
    refine ar_iastore hX f_1332 d_X10_prices_150 ?_
    refine aw_aload_n (i := 0) hX rfl rfl d_X10_prices_151 ?_
    obtain ⟨x7, f_1333, e_1333⟩ := bd_some e_1332
    clear e_1332
    refine aw_callV (b := 240) (av := []) (avr := []) hX (k_X10_earnsNow (cx_g hX) hF f_1333) mi_X10_earnsNow rfl rfl w_861 w_862 w_863 (by decide) rfl (LAY_lt rfl (by decide)) rfl rfl (Nat.le_of_ble_eq_true rfl) (Nat.zero_le _) (Nat.zero_le _) d_X10_prices_152 ?_
    refine aw_lstore (i := 9) (lv2 := [.ref 240, .int p1, .int p2, d3, .int p4, d5, .int p6, .int p7, .int s, .long x7, jk, d11, d12, d13]) hX rfl rfl d_X10_prices_155 ?_
    refine aw_lconst (v := 0) hX (by decide) d_X10_prices_157 ?_
    refine aw_lstore (i := 11) (lv2 := [.ref 240, .int p1, .int p2, d3, .int p4, d5, .int p6, .int p7, .int s, .long x7, jk, .long 0, jk, d13]) hX rfl rfl d_X10_prices_158 ?_
    refine aw_iconst (v := 0) hX (by decide) d_X10_prices_160 ?_
    refine aw_istore (i := 13) (lv2 := [.ref 240, .int p1, .int p2, d3, .int p4, d5, .int p6, .int p7, .int s, .long x7, jk, .long 0, jk, .int 0]) hX rfl rfl d_X10_prices_161 ?_
    obtain ⟨y9, f_1334, e_1334⟩ := bd_some e_1333
    clear e_1333
    refine t_X10_prices_163 hF hX f_1334 (fun d10_3 d10_5 d10_13 => ?_)
    refine aw_iload (i := 8) hX rfl d_X10_prices_189 ?_
    refine aw_if_eq (t := 206) hX (by decide) d_X10_prices_191 (fun c => ?_) (fun c => ?_)
    · rw [if_pos c] at e_1334
      exact tj_X10_prices_206_131 hF hX e_1334 kI kE0
    · rw [if_neg c] at e_1334
      refine aw_lload (i := 9) hX rfl d_X10_prices_194 ?_
      refine aw_aload_n (i := 0) hX rfl rfl d_X10_prices_196 ?_
      refine ar_getF hX hF fg_RX10_76 rfl d_X10_prices_197 ?_
      show AR g X 0 0 _ _ 200 _ [.ref 260, .long x7]
      refine aw_iconst (v := 1) hX (by decide) d_X10_prices_200 ?_
      obtain ⟨x22, f_1335, e_1335⟩ := bd_some e_1334
      clear e_1334
      refine ar_laload hX f_1335 d_X10_prices_201 ?_
      refine aw_lcmp hX d_X10_prices_202 ?_
      refine aw_if_le (t := 227) hX (by decide) d_X10_prices_203 (fun c => ?_) (fun c => ?_)
      · replace c := lc_le.mp c
        rw [if_pos c] at e_1335
        exact tj_X10_prices_227_131 hF hX e_1335 kI kE0
      · replace c := fun q => c (lc_le.mpr q)
        rw [if_neg c] at e_1335
        exact tj_X10_prices_206_131 hF hX e_1335 kI kE0
theorem ti_X10_prices_131 {g : GP} {X : MX} {mcR msR : Nat} (hF : gF g = true) (hX : Cx g RX10 cX10_prices 5 mcR msR (some .int) [] X) {Q : State → Prop} {p1 : Int32} {p2 : Int32} {p4 : Int32} {p6 : Int32} {p7 : Int32} {y : Unit} {hz : AH} (kE0 : ∀ (y_2 : Value) (y_3 : Value) (y_4 : Value) (y_5 : Value) (y_8 : Value) (y_9 : Value) (y_10 : Value) (y_11 : Value) (y_12 : Value) (y_13 : Value), AR g X 0 0 Q hz 326 [.ref 240, .int p1, y_2, y_3, y_4, y_5, .int p6, .int p7, y_8, y_9, y_10, y_11, y_12, y_13] []) (n : Nat) : ∀ (s : Int32) (d3 : Value) (d5 : Value) (d9 : Value) (d10 : Value) (d11 : Value) (d12 : Value) (d13 : Value) (h : AH), lpH (l_X10_prices_131 p1 p2 p4 p6 p7) n s h = some (y, hz) → AR g X 0 0 Q h 131 [.ref 240, .int p1, .int p2, d3, .int p4, d5, .int p6, .int p7, .int s, d9, d10, d11, d12, d13] [] := by
  induction n with
  | zero => intro s d3 d5 d9 d10 d11 d12 d13 h e; cases e
  | succ n ih =>
    intro s d3 d5 d9 d10 d11 d12 d13 h e
    obtain ⟨x, h1, e1, e2⟩ := lpH_succ e
    rcases e2 with ⟨s2, rfl, e3⟩ | ⟨rfl, rfl⟩
    · exact tb_X10_prices_131 hF hX e1 (fun s3 x0 x1 x2 x3 x4 x5 x6 hs => by cases hs; exact ih _ _ _ _ _ _ _ _ _ e3) (fun yy x0 x1 x2 x3 x4 x5 x6 x7 x8 x9 hy => by cases hy)
    · exact tb_X10_prices_131 hF hX e1 (fun s3 x0 x1 x2 x3 x4 x5 x6 hs => by cases hs) (fun yy x0 x1 x2 x3 x4 x5 x6 x7 x8 x9 hy => by cases hy; exact kE0 x0 x1 x2 x3 x4 x5 x6 x7 x8 x9)
theorem t_X10_prices_131 {g : GP} {X : MX} {mcR msR : Nat} (hF : gF g = true) (hX : Cx g RX10 cX10_prices 5 mcR msR (some .int) [] X) {Q : State → Prop} {p1 : Int32} {p2 : Int32} {p4 : Int32} {p6 : Int32} {p7 : Int32} {s : Int32} {d3 : Value} {d5 : Value} {d9 : Value} {d10 : Value} {d11 : Value} {d12 : Value} {d13 : Value} {h hz : AH} {n : Nat} {y : Unit} (e : lpH (l_X10_prices_131 p1 p2 p4 p6 p7) n s h = some (y, hz)) (kE0 : ∀ (y_2 : Value) (y_3 : Value) (y_4 : Value) (y_5 : Value) (y_8 : Value) (y_9 : Value) (y_10 : Value) (y_11 : Value) (y_12 : Value) (y_13 : Value), AR g X 0 0 Q hz 326 [.ref 240, .int p1, y_2, y_3, y_4, y_5, .int p6, .int p7, y_8, y_9, y_10, y_11, y_12, y_13] []) : AR g X 0 0 Q h 131 [.ref 240, .int p1, .int p2, d3, .int p4, d5, .int p6, .int p7, .int s, d9, d10, d11, d12, d13] [] := ti_X10_prices_131 hF hX kE0 n _ _ _ _ _ _ _ _ _ e
def j_X10_prices_111 (v1 : Int32) (v2 : Int32) (v4 : Int32) (v6 : Int32) (k0 : Int32) (h : AH) : Option (Int32 × AH) := bd (s_X10_right k0 2 h) fun q4 => if q4.1 = 0 then some (0, q4.2) else bd (ldI q4.2 244 v1) fun x5 => bd (lpH (l_X10_prices_131 v1 v2 v4 v6 x5) FU 0 q4.2) fun y23 => bd (stI y23.2 244 v1 x5) fun m25 => some (v6, sI m25 240 45 1)
theorem tj_X10_prices_111 {g : GP} {X : MX} {mcR msR : Nat} (hF : gF g = true) (hX : Cx g RX10 cX10_prices 5 mcR msR (some .int) [] X) {v1 : Int32} {v2 : Int32} {v4 : Int32} {v6 : Int32} {k0 : Int32} {d3 : Value} {d5 : Value} {d7 : Value} {d8 : Value} {d9 : Value} {d10 : Value} {d11 : Value} {d12 : Value} {d13 : Value} {h hz : AH} {z : Int32} (e : j_X10_prices_111 v1 v2 v4 v6 k0 h = some (z, hz)) : AR g X 0 0 (QQ g X NT false hz (.inl (some (.int z))) 0 0) h 111 [.ref 240, .int v1, .int v2, d3, .int v4, d5, .int v6, d7, d8, d9, d10, d11, d12, d13] [.int k0, .ref 240] := by
  unfold j_X10_prices_111 at e
  refine aw_iconst (v := 2) hX (by decide) d_X10_prices_111 ?_
  obtain ⟨q4, f_1336, e_1336⟩ := bd_some e
  clear e
  refine aw_callV (b := 240) (av := [.int k0, .int 2]) (avr := [.int 2, .int k0]) hX (k_X10_right (cx_g hX) hF f_1336) mi_X10_right rfl rfl w_772 w_773 w_774 (by decide) rfl (LAY_lt rfl (by decide)) rfl rfl (Nat.le_of_ble_eq_true rfl) (Nat.zero_le _) (Nat.zero_le _) d_X10_prices_112 ?_
  refine aw_if_ne (t := 120) hX (by decide) d_X10_prices_115 (fun c => ?_) (fun c => ?_)
  · rw [if_neg c] at e_1336
    refine aw_aload_n (i := 0) hX rfl rfl d_X10_prices_120 ?_
    refine ar_getF hX hF fg_RX10_23 rfl d_X10_prices_121 ?_
    show AR g X 0 0 _ _ 124 _ [.ref 244]
    refine aw_iload_n (i := 1) hX rfl rfl d_X10_prices_124 ?_
    obtain ⟨x5, f_1337, e_1337⟩ := bd_some e_1336
    clear e_1336
    refine ar_iaload hX f_1337 d_X10_prices_125 ?_
    refine aw_istore (i := 7) (lv2 := [.ref 240, .int v1, .int v2, d3, .int v4, d5, .int v6, .int x5, d8, d9, d10, d11, d12, d13]) hX rfl rfl d_X10_prices_126 ?_
    refine aw_iconst (v := 0) hX (by decide) d_X10_prices_128 ?_
    refine aw_istore (i := 8) (lv2 := [.ref 240, .int v1, .int v2, d3, .int v4, d5, .int v6, .int x5, .int 0, d9, d10, d11, d12, d13]) hX rfl rfl d_X10_prices_129 ?_
    obtain ⟨y23, f_1338, e_1338⟩ := bd_some e_1337
    clear e_1337
    refine t_X10_prices_131 hF hX f_1338 (fun d24_2 d24_3 d24_4 d24_5 d24_8 d24_9 d24_10 d24_11 d24_12 d24_13 => ?_)
    refine aw_aload_n (i := 0) hX rfl rfl d_X10_prices_326 ?_
    refine ar_getF hX hF fg_RX10_23 rfl d_X10_prices_327 ?_
    show AR g X 0 0 _ _ 330 _ [.ref 244]
    refine aw_iload_n (i := 1) hX rfl rfl d_X10_prices_330 ?_
    refine aw_iload (i := 7) hX rfl d_X10_prices_331 ?_
    obtain ⟨m25, f_1339, e_1339⟩ := bd_some e_1338
    clear e_1338
    refine ar_iastore hX f_1339 d_X10_prices_333 ?_
    refine aw_aload_n (i := 0) hX rfl rfl d_X10_prices_334 ?_
    refine aw_iconst (v := 1) hX (by decide) d_X10_prices_335 ?_
    refine ar_putZ hX fp_RX10_278 rfl (by decide) d_X10_prices_336 ?_
    refine aw_iload (i := 6) hX rfl d_X10_prices_339 ?_
    cases e_1339
    exact aw_ireturn hX (Nat.zero_le _) (Nat.zero_le _) d_X10_prices_341
  · rw [if_pos c] at e_1336
    refine aw_iconst (v := 0) hX (by decide) d_X10_prices_118 ?_
    cases e_1336
    exact aw_ireturn hX (Nat.zero_le _) (Nat.zero_le _) d_X10_prices_119
def j_X10_prices_110 (v1 : Int32) (v2 : Int32) (v4 : Int32) (v6 : Int32) (h : AH) : Option (Int32 × AH) := j_X10_prices_111 v1 v2 v4 v6 0 h
theorem tj_X10_prices_110 {g : GP} {X : MX} {mcR msR : Nat} (hF : gF g = true) (hX : Cx g RX10 cX10_prices 5 mcR msR (some .int) [] X) {v1 : Int32} {v2 : Int32} {v4 : Int32} {v6 : Int32} {d3 : Value} {d5 : Value} {d7 : Value} {d8 : Value} {d9 : Value} {d10 : Value} {d11 : Value} {d12 : Value} {d13 : Value} {h hz : AH} {z : Int32} (e : j_X10_prices_110 v1 v2 v4 v6 h = some (z, hz)) : AR g X 0 0 (QQ g X NT false hz (.inl (some (.int z))) 0 0) h 110 [.ref 240, .int v1, .int v2, d3, .int v4, d5, .int v6, d7, d8, d9, d10, d11, d12, d13] [.ref 240] := by
  unfold j_X10_prices_110 at e
  refine aw_iconst (v := 0) hX (by decide) d_X10_prices_110 ?_
  exact tj_X10_prices_111 hF hX e
def j_X10_prices_91 (v1 : Int32) (v2 : Int32) (v4 : Int32) (v5 : Int32) (k0 : Int32) (h : AH) : Option (Int32 × AH) := if v5 = 0 then j_X10_prices_110 v1 v2 v4 k0 h else if 60 < k0 then j_X10_prices_110 v1 v2 v4 k0 h else j_X10_prices_111 v1 v2 v4 k0 1 h
theorem tj_X10_prices_91 {g : GP} {X : MX} {mcR msR : Nat} (hF : gF g = true) (hX : Cx g RX10 cX10_prices 5 mcR msR (some .int) [] X) {v1 : Int32} {v2 : Int32} {v4 : Int32} {v5 : Int32} {k0 : Int32} {d3 : Value} {d6 : Value} {d7 : Value} {d8 : Value} {d9 : Value} {d10 : Value} {d11 : Value} {d12 : Value} {d13 : Value} {h hz : AH} {z : Int32} (e : j_X10_prices_91 v1 v2 v4 v5 k0 h = some (z, hz)) : AR g X 0 0 (QQ g X NT false hz (.inl (some (.int z))) 0 0) h 91 [.ref 240, .int v1, .int v2, d3, .int v4, .int v5, d6, d7, d8, d9, d10, d11, d12, d13] [.int k0] := by
  unfold j_X10_prices_91 at e
  refine aw_istore (i := 6) (lv2 := [.ref 240, .int v1, .int v2, d3, .int v4, .int v5, .int k0, d7, d8, d9, d10, d11, d12, d13]) hX rfl rfl d_X10_prices_91 ?_
  refine aw_aload_n (i := 0) hX rfl rfl d_X10_prices_93 ?_
  refine aw_iload (i := 5) hX rfl d_X10_prices_94 ?_
  refine aw_if_eq (t := 110) hX (by decide) d_X10_prices_96 (fun c => ?_) (fun c => ?_)
  · rw [if_pos c] at e
    exact tj_X10_prices_110 hF hX e
  · rw [if_neg c] at e
    refine aw_iload (i := 6) hX rfl d_X10_prices_99 ?_
    refine aw_bipush (v := 60) hX (by decide) d_X10_prices_101 ?_
    refine aw_icmp_gt (t := 110) hX (by decide) d_X10_prices_103 (fun c => ?_) (fun c => ?_)
    · rw [if_pos c] at e
      exact tj_X10_prices_110 hF hX e
    · rw [if_neg c] at e
      refine aw_iconst (v := 1) hX (by decide) d_X10_prices_106 ?_
      refine aw_goto (t := 111) hX (by decide) d_X10_prices_107 ?_
      exact tj_X10_prices_111 hF hX e
def j_X10_prices_72 (v1 : Int32) (v2 : Int32) (v3 : Int32) (v4 : Int32) (k0 : Int32) (h : AH) : Option (Int32 × AH) := if k0 = 0 then j_X10_prices_91 v1 v2 v4 k0 0 h else bd (idivF (v3 - v2) v4) fun x26 => j_X10_prices_91 v1 v2 v4 k0 (x26 + 1) h
theorem tj_X10_prices_72 {g : GP} {X : MX} {mcR msR : Nat} (hF : gF g = true) (hX : Cx g RX10 cX10_prices 5 mcR msR (some .int) [] X) {v1 : Int32} {v2 : Int32} {v3 : Int32} {v4 : Int32} {k0 : Int32} {d5 : Value} {d6 : Value} {d7 : Value} {d8 : Value} {d9 : Value} {d10 : Value} {d11 : Value} {d12 : Value} {d13 : Value} {h hz : AH} {z : Int32} (e : j_X10_prices_72 v1 v2 v3 v4 k0 h = some (z, hz)) : AR g X 0 0 (QQ g X NT false hz (.inl (some (.int z))) 0 0) h 72 [.ref 240, .int v1, .int v2, .int v3, .int v4, d5, d6, d7, d8, d9, d10, d11, d12, d13] [.int k0] := by
  unfold j_X10_prices_72 at e
  refine aw_istore (i := 5) (lv2 := [.ref 240, .int v1, .int v2, .int v3, .int v4, .int k0, d6, d7, d8, d9, d10, d11, d12, d13]) hX rfl rfl d_X10_prices_72 ?_
  refine aw_iload (i := 5) hX rfl d_X10_prices_74 ?_
  refine aw_if_eq (t := 90) hX (by decide) d_X10_prices_76 (fun c => ?_) (fun c => ?_)
  · rw [if_pos c] at e
    refine aw_iconst (v := 0) hX (by decide) d_X10_prices_90 ?_
    exact tj_X10_prices_91 hF hX e
  · rw [if_neg c] at e
    refine aw_iload_n (i := 3) hX rfl rfl d_X10_prices_79 ?_
    refine aw_iload_n (i := 2) hX rfl rfl d_X10_prices_80 ?_
    refine aw_isub hX d_X10_prices_81 ?_
    refine aw_iload (i := 4) hX rfl d_X10_prices_82 ?_
    obtain ⟨x26, f_1340, e_1340⟩ := bd_some e
    clear e
    refine ar_idiv hX f_1340 d_X10_prices_84 ?_
    refine aw_iconst (v := 1) hX (by decide) d_X10_prices_85 ?_
    refine aw_iadd hX d_X10_prices_86 ?_
    refine aw_goto (t := 91) hX (by decide) d_X10_prices_87 ?_
    exact tj_X10_prices_91 hF hX e_1340
def j_X10_prices_71 (v1 : Int32) (v2 : Int32) (v3 : Int32) (v4 : Int32) (h : AH) : Option (Int32 × AH) := j_X10_prices_72 v1 v2 v3 v4 0 h
theorem tj_X10_prices_71 {g : GP} {X : MX} {mcR msR : Nat} (hF : gF g = true) (hX : Cx g RX10 cX10_prices 5 mcR msR (some .int) [] X) {v1 : Int32} {v2 : Int32} {v3 : Int32} {v4 : Int32} {d5 : Value} {d6 : Value} {d7 : Value} {d8 : Value} {d9 : Value} {d10 : Value} {d11 : Value} {d12 : Value} {d13 : Value} {h hz : AH} {z : Int32} (e : j_X10_prices_71 v1 v2 v3 v4 h = some (z, hz)) : AR g X 0 0 (QQ g X NT false hz (.inl (some (.int z))) 0 0) h 71 [.ref 240, .int v1, .int v2, .int v3, .int v4, d5, d6, d7, d8, d9, d10, d11, d12, d13] [] := by
  unfold j_X10_prices_71 at e
  refine aw_iconst (v := 0) hX (by decide) d_X10_prices_71 ?_
  exact tj_X10_prices_72 hF hX e
def j_X10_prices_30 (v1 : Int32) (v2 : Int32) (v3 : Int32) (v4 : Int32) (k0 : Int32) (h : AH) : Option (Int32 × AH) := bd (s_X10_right k0 1 h) fun q2 => if q2.1 = 0 then some (0, q2.2) else bd (s_X10_within v2 0 9999 q2.2) fun x3 => if x3 = 0 then j_X10_prices_71 v1 v2 v3 v4 q2.2 else bd (s_X10_within v3 v2 9999 q2.2) fun x27 => if x27 = 0 then j_X10_prices_71 v1 v2 v3 v4 q2.2 else if v4 < 1 then j_X10_prices_71 v1 v2 v3 v4 q2.2 else j_X10_prices_72 v1 v2 v3 v4 1 q2.2
theorem tj_X10_prices_30 {g : GP} {X : MX} {mcR msR : Nat} (hF : gF g = true) (hX : Cx g RX10 cX10_prices 5 mcR msR (some .int) [] X) {v1 : Int32} {v2 : Int32} {v3 : Int32} {v4 : Int32} {k0 : Int32} {d5 : Value} {d6 : Value} {d7 : Value} {d8 : Value} {d9 : Value} {d10 : Value} {d11 : Value} {d12 : Value} {d13 : Value} {h hz : AH} {z : Int32} (e : j_X10_prices_30 v1 v2 v3 v4 k0 h = some (z, hz)) : AR g X 0 0 (QQ g X NT false hz (.inl (some (.int z))) 0 0) h 30 [.ref 240, .int v1, .int v2, .int v3, .int v4, d5, d6, d7, d8, d9, d10, d11, d12, d13] [.int k0, .ref 240] := by
  unfold j_X10_prices_30 at e
  refine aw_iconst (v := 1) hX (by decide) d_X10_prices_30 ?_
  obtain ⟨q2, f_1341, e_1341⟩ := bd_some e
  clear e
  refine aw_callV (b := 240) (av := [.int k0, .int 1]) (avr := [.int 1, .int k0]) hX (k_X10_right (cx_g hX) hF f_1341) mi_X10_right rfl rfl w_772 w_773 w_774 (by decide) rfl (LAY_lt rfl (by decide)) rfl rfl (Nat.le_of_ble_eq_true rfl) (Nat.zero_le _) (Nat.zero_le _) d_X10_prices_31 ?_
  refine aw_if_ne (t := 39) hX (by decide) d_X10_prices_34 (fun c => ?_) (fun c => ?_)
  · rw [if_neg c] at e_1341
    refine aw_iload_n (i := 2) hX rfl rfl d_X10_prices_39 ?_
    refine aw_iconst (v := 0) hX (by decide) d_X10_prices_40 ?_
    refine aw_sipush (v := 9999) hX (by decide) d_X10_prices_41 ?_
    obtain ⟨x3, f_1342, e_1342⟩ := bd_some e_1341
    clear e_1341
    refine aw_callS (av := [.int v2, .int 0, .int 9999]) (avr := [.int 9999, .int 0, .int v2]) hX (k_X10_within (cx_g hX) hF f_1342) mi_X10_within rfl rfl w_800 w_801 rfl (by decide) (Nat.le_of_ble_eq_true rfl) (Nat.zero_le _) (Nat.zero_le _) d_X10_prices_44 ?_
    refine aw_if_eq (t := 71) hX (by decide) d_X10_prices_47 (fun c => ?_) (fun c => ?_)
    · rw [if_pos c] at e_1342
      exact tj_X10_prices_71 hF hX e_1342
    · rw [if_neg c] at e_1342
      refine aw_iload_n (i := 3) hX rfl rfl d_X10_prices_50 ?_
      refine aw_iload_n (i := 2) hX rfl rfl d_X10_prices_51 ?_
      refine aw_sipush (v := 9999) hX (by decide) d_X10_prices_52 ?_
      obtain ⟨x27, f_1343, e_1343⟩ := bd_some e_1342
      clear e_1342
      refine aw_callS (av := [.int v3, .int v2, .int 9999]) (avr := [.int 9999, .int v2, .int v3]) hX (k_X10_within (cx_g hX) hF f_1343) mi_X10_within rfl rfl w_800 w_801 rfl (by decide) (Nat.le_of_ble_eq_true rfl) (Nat.zero_le _) (Nat.zero_le _) d_X10_prices_55 ?_
      refine aw_if_eq (t := 71) hX (by decide) d_X10_prices_58 (fun c => ?_) (fun c => ?_)
      · rw [if_pos c] at e_1343
        exact tj_X10_prices_71 hF hX e_1343
      · rw [if_neg c] at e_1343
        refine aw_iload (i := 4) hX rfl d_X10_prices_61 ?_
        refine aw_iconst (v := 1) hX (by decide) d_X10_prices_63 ?_
        refine aw_icmp_lt (t := 71) hX (by decide) d_X10_prices_64 (fun c => ?_) (fun c => ?_)
        · rw [if_pos c] at e_1343
          exact tj_X10_prices_71 hF hX e_1343
        · rw [if_neg c] at e_1343
          refine aw_iconst (v := 1) hX (by decide) d_X10_prices_67 ?_
          refine aw_goto (t := 72) hX (by decide) d_X10_prices_68 ?_
          exact tj_X10_prices_72 hF hX e_1343
  · rw [if_pos c] at e_1341
    refine aw_iconst (v := 0) hX (by decide) d_X10_prices_37 ?_
    cases e_1341
    exact aw_ireturn hX (Nat.zero_le _) (Nat.zero_le _) d_X10_prices_38
def j_X10_prices_29 (v1 : Int32) (v2 : Int32) (v3 : Int32) (v4 : Int32) (h : AH) : Option (Int32 × AH) := j_X10_prices_30 v1 v2 v3 v4 0 h
theorem tj_X10_prices_29 {g : GP} {X : MX} {mcR msR : Nat} (hF : gF g = true) (hX : Cx g RX10 cX10_prices 5 mcR msR (some .int) [] X) {v1 : Int32} {v2 : Int32} {v3 : Int32} {v4 : Int32} {d5 : Value} {d6 : Value} {d7 : Value} {d8 : Value} {d9 : Value} {d10 : Value} {d11 : Value} {d12 : Value} {d13 : Value} {h hz : AH} {z : Int32} (e : j_X10_prices_29 v1 v2 v3 v4 h = some (z, hz)) : AR g X 0 0 (QQ g X NT false hz (.inl (some (.int z))) 0 0) h 29 [.ref 240, .int v1, .int v2, .int v3, .int v4, d5, d6, d7, d8, d9, d10, d11, d12, d13] [.ref 240] := by
  unfold j_X10_prices_29 at e
  refine aw_iconst (v := 0) hX (by decide) d_X10_prices_29 ?_
  exact tj_X10_prices_30 hF hX e
def s_X10_prices (a0 : Int32) (a1 : Int32) (a2 : Int32) (a3 : Int32) (h : AH) : Option (Int32 × AH) := bd (s_X10_within a0 1 4 (sI h 240 0 0)) fun x1 => if x1 = 0 then j_X10_prices_29 a0 a1 a2 a3 (sI h 240 0 0) else bd (ldI (sI h 240 0 0) 244 a0) fun x28 => if x28 = (-1) then j_X10_prices_29 a0 a1 a2 a3 (sI h 240 0 0) else j_X10_prices_30 a0 a1 a2 a3 1 (sI h 240 0 0)
theorem t_X10_prices {g : GP} {X : MX} {mcR msR : Nat} (hF : gF g = true) (hX : Cx g RX10 cX10_prices 5 mcR msR (some .int) [] X) {a0 : Int32} {a1 : Int32} {a2 : Int32} {a3 : Int32} {h hz : AH} {z : Int32} (e : s_X10_prices a0 a1 a2 a3 h = some (z, hz)) : AR g X 0 0 (QQ g X NT false hz (.inl (some (.int z))) 0 0) h 0 [.ref 240, .int a0, .int a1, .int a2, .int a3, jk, jk, jk, jk, jk, jk, jk, jk, jk] [] := by
  unfold s_X10_prices at e
  refine aw_aload_n (i := 0) hX rfl rfl d_X10_prices_0 ?_
  refine aw_iconst (v := 0) hX (by decide) d_X10_prices_1 ?_
  refine ar_putI hX fp_RX10_133 rfl d_X10_prices_2 ?_
  refine aw_aload_n (i := 0) hX rfl rfl d_X10_prices_5 ?_
  refine aw_iload_n (i := 1) hX rfl rfl d_X10_prices_6 ?_
  refine aw_iconst (v := 1) hX (by decide) d_X10_prices_7 ?_
  refine aw_iconst (v := 4) hX (by decide) d_X10_prices_8 ?_
  obtain ⟨x1, f_1344, e_1344⟩ := bd_some e
  clear e
  refine aw_callS (av := [.int a0, .int 1, .int 4]) (avr := [.int 4, .int 1, .int a0]) hX (k_X10_within (cx_g hX) hF f_1344) mi_X10_within rfl rfl w_800 w_801 rfl (by decide) (Nat.le_of_ble_eq_true rfl) (Nat.zero_le _) (Nat.zero_le _) d_X10_prices_9 ?_
  refine aw_if_eq (t := 29) hX (by decide) d_X10_prices_12 (fun c => ?_) (fun c => ?_)
  · rw [if_pos c] at e_1344
    exact tj_X10_prices_29 hF hX e_1344
  · rw [if_neg c] at e_1344
    refine aw_aload_n (i := 0) hX rfl rfl d_X10_prices_15 ?_
    refine ar_getF hX hF fg_RX10_23 rfl d_X10_prices_16 ?_
    show AR g X 0 0 _ _ 19 _ [.ref 244, .ref 240]
    refine aw_iload_n (i := 1) hX rfl rfl d_X10_prices_19 ?_
    obtain ⟨x28, f_1345, e_1345⟩ := bd_some e_1344
    clear e_1344
    refine ar_iaload hX f_1345 d_X10_prices_20 ?_
    refine aw_iconst (v := (-1)) hX (by decide) d_X10_prices_21 ?_
    refine aw_icmp_eq (t := 29) hX (by decide) d_X10_prices_22 (fun c => ?_) (fun c => ?_)
    · rw [if_pos c] at e_1345
      exact tj_X10_prices_29 hF hX e_1345
    · rw [if_neg c] at e_1345
      refine aw_iconst (v := 1) hX (by decide) d_X10_prices_25 ?_
      refine aw_goto (t := 30) hX (by decide) d_X10_prices_26 ?_
      exact tj_X10_prices_30 hF hX e_1345
theorem k_X10_prices {g : GP} (hg : g.1.stackTraces = false) (hF : gF g = true) {a0 : Int32} {a1 : Int32} {a2 : Int32} {a3 : Int32} {h hz : AH} {z : Int32} (e : s_X10_prices a0 a1 a2 a3 h = some (z, hz)) : Ctr g yX10_prices (wsY yX10_prices cX10_prices 14 (some .int)) 5 0 0 [.ref 240, .int a0, .int a1, .int a2, .int a3] NT false h (some (.int z)) NT false hz := ctr_of (lv0 := [.ref 240, .int a0, .int a1, .int a2, .int a3, jk, jk, jk, jk, jk, jk, jk, jk, jk]) rfl rfl (by decide) hg trivial (fun X hX hn => t_X10_prices hF hX e)
theorem d_X10_found_0 : decode cX10_found 0 = .ok (.aload_n 0, 1) := by decide +kernel
theorem d_X10_found_1 : decode cX10_found 1 = .ok (.iconst 0, 1) := by decide +kernel
theorem d_X10_found_2 : decode cX10_found 2 = .ok (.putfield 133, 3) := by decide +kernel
theorem d_X10_found_5 : decode cX10_found 5 = .ok (.aload_n 0, 1) := by decide +kernel
theorem d_X10_found_6 : decode cX10_found 6 = .ok (.aload_n 0, 1) := by decide +kernel
theorem d_X10_found_7 : decode cX10_found 7 = .ok (.getfield 278, 3) := by decide +kernel
theorem d_X10_found_10 : decode cX10_found 10 = .ok (.ifCond .eq 16, 3) := by decide +kernel
theorem d_X10_found_13 : decode cX10_found 13 = .ok (.iload_n 1, 1) := by decide +kernel
theorem d_X10_found_14 : decode cX10_found 14 = .ok (.iconst 0, 1) := by decide +kernel
theorem d_X10_found_15 : decode cX10_found 15 = .ok (.iconst 4, 1) := by decide +kernel
theorem d_X10_found_16 : decode cX10_found 16 = .ok (.invokestatic 295, 3) := by decide +kernel
theorem d_X10_found_19 : decode cX10_found 19 = .ok (.ifCond .eq 7, 3) := by decide +kernel
theorem d_X10_found_22 : decode cX10_found 22 = .ok (.iconst 1, 1) := by decide +kernel
theorem d_X10_found_23 : decode cX10_found 23 = .ok (.goto 4, 3) := by decide +kernel
theorem d_X10_found_26 : decode cX10_found 26 = .ok (.iconst 0, 1) := by decide +kernel
theorem d_X10_found_27 : decode cX10_found 27 = .ok (.iconst 1, 1) := by decide +kernel
theorem d_X10_found_28 : decode cX10_found 28 = .ok (.invokevirtual 253, 3) := by decide +kernel
theorem d_X10_found_31 : decode cX10_found 31 = .ok (.ifCond .eq 12, 3) := by decide +kernel
theorem d_X10_found_34 : decode cX10_found 34 = .ok (.aload_n 0, 1) := by decide +kernel
theorem d_X10_found_35 : decode cX10_found 35 = .ok (.getfield 76, 3) := by decide +kernel
theorem d_X10_found_38 : decode cX10_found 38 = .ok (.iload_n 1, 1) := by decide +kernel
theorem d_X10_found_39 : decode cX10_found 39 = .ok (.laload, 1) := by decide +kernel
theorem d_X10_found_40 : decode cX10_found 40 = .ok (.goto 4, 3) := by decide +kernel
theorem d_X10_found_43 : decode cX10_found 43 = .ok (.lconst 0, 1) := by decide +kernel
theorem d_X10_found_44 : decode cX10_found 44 = .ok (.lreturn, 1) := by decide +kernel
def j_X10_found_27 (v1 : Int32) (k0 : Int32) (h : AH) : Option (Int64 × AH) := bd (s_X10_right k0 1 h) fun q1 => if q1.1 = 0 then some (0, q1.2) else bd (ldL q1.2 260 v1) fun x2 => some (x2, q1.2)
theorem tj_X10_found_27 {g : GP} {X : MX} {mcR msR : Nat} (hF : gF g = true) (hX : Cx g RX10 cX10_found 2 mcR msR (some .long) [] X) {v1 : Int32} {k0 : Int32} {h hz : AH} {z : Int64} (e : j_X10_found_27 v1 k0 h = some (z, hz)) : AR g X 0 0 (QQ g X NT false hz (.inl (some (.long z))) 0 0) h 27 [.ref 240, .int v1] [.int k0, .ref 240] := by
  unfold j_X10_found_27 at e
  refine aw_iconst (v := 1) hX (by decide) d_X10_found_27 ?_
  obtain ⟨q1, f_1346, e_1346⟩ := bd_some e
  clear e
  refine aw_callV (b := 240) (av := [.int k0, .int 1]) (avr := [.int 1, .int k0]) hX (k_X10_right (cx_g hX) hF f_1346) mi_X10_right rfl rfl w_772 w_773 w_774 (by decide) rfl (LAY_lt rfl (by decide)) rfl rfl (Nat.le_of_ble_eq_true rfl) (Nat.zero_le _) (Nat.zero_le _) d_X10_found_28 ?_
  refine aw_if_eq (t := 43) hX (by decide) d_X10_found_31 (fun c => ?_) (fun c => ?_)
  · rw [if_pos c] at e_1346
    refine aw_lconst (v := 0) hX (by decide) d_X10_found_43 ?_
    cases e_1346
    exact aw_lreturn hX (Nat.zero_le _) (Nat.zero_le _) d_X10_found_44
  · rw [if_neg c] at e_1346
    refine aw_aload_n (i := 0) hX rfl rfl d_X10_found_34 ?_
    refine ar_getF hX hF fg_RX10_76 rfl d_X10_found_35 ?_
    show AR g X 0 0 _ _ 38 _ [.ref 260]
    refine aw_iload_n (i := 1) hX rfl rfl d_X10_found_38 ?_
    obtain ⟨x2, f_1347, e_1347⟩ := bd_some e_1346
    clear e_1346
    refine ar_laload hX f_1347 d_X10_found_39 ?_
    refine aw_goto (t := 44) hX (by decide) d_X10_found_40 ?_
    cases e_1347
    exact aw_lreturn hX (Nat.zero_le _) (Nat.zero_le _) d_X10_found_44
def j_X10_found_26 (v1 : Int32) (h : AH) : Option (Int64 × AH) := j_X10_found_27 v1 0 h
theorem tj_X10_found_26 {g : GP} {X : MX} {mcR msR : Nat} (hF : gF g = true) (hX : Cx g RX10 cX10_found 2 mcR msR (some .long) [] X) {v1 : Int32} {h hz : AH} {z : Int64} (e : j_X10_found_26 v1 h = some (z, hz)) : AR g X 0 0 (QQ g X NT false hz (.inl (some (.long z))) 0 0) h 26 [.ref 240, .int v1] [.ref 240] := by
  unfold j_X10_found_26 at e
  refine aw_iconst (v := 0) hX (by decide) d_X10_found_26 ?_
  exact tj_X10_found_27 hF hX e
def s_X10_found (a0 : Int32) (h : AH) : Option (Int64 × AH) := if (gI (sI h 240 0 0) 240 45) = 0 then j_X10_found_26 a0 (sI h 240 0 0) else bd (s_X10_within a0 0 4 (sI h 240 0 0)) fun x3 => if x3 = 0 then j_X10_found_26 a0 (sI h 240 0 0) else j_X10_found_27 a0 1 (sI h 240 0 0)
theorem t_X10_found {g : GP} {X : MX} {mcR msR : Nat} (hF : gF g = true) (hX : Cx g RX10 cX10_found 2 mcR msR (some .long) [] X) {a0 : Int32} {h hz : AH} {z : Int64} (e : s_X10_found a0 h = some (z, hz)) : AR g X 0 0 (QQ g X NT false hz (.inl (some (.long z))) 0 0) h 0 [.ref 240, .int a0] [] := by
  unfold s_X10_found at e
  refine aw_aload_n (i := 0) hX rfl rfl d_X10_found_0 ?_
  refine aw_iconst (v := 0) hX (by decide) d_X10_found_1 ?_
  refine ar_putI hX fp_RX10_133 rfl d_X10_found_2 ?_
  refine aw_aload_n (i := 0) hX rfl rfl d_X10_found_5 ?_
  refine aw_aload_n (i := 0) hX rfl rfl d_X10_found_6 ?_
  refine ar_getI hX fg_RX10_278 rfl d_X10_found_7 ?_
  refine aw_if_eq (t := 26) hX (by decide) d_X10_found_10 (fun c => ?_) (fun c => ?_)
  · rw [if_pos c] at e
    exact tj_X10_found_26 hF hX e
  · rw [if_neg c] at e
    refine aw_iload_n (i := 1) hX rfl rfl d_X10_found_13 ?_
    refine aw_iconst (v := 0) hX (by decide) d_X10_found_14 ?_
    refine aw_iconst (v := 4) hX (by decide) d_X10_found_15 ?_
    obtain ⟨x3, f_1348, e_1348⟩ := bd_some e
    clear e
    refine aw_callS (av := [.int a0, .int 0, .int 4]) (avr := [.int 4, .int 0, .int a0]) hX (k_X10_within (cx_g hX) hF f_1348) mi_X10_within rfl rfl w_800 w_801 rfl (by decide) (Nat.le_of_ble_eq_true rfl) (Nat.zero_le _) (Nat.zero_le _) d_X10_found_16 ?_
    refine aw_if_eq (t := 26) hX (by decide) d_X10_found_19 (fun c => ?_) (fun c => ?_)
    · rw [if_pos c] at e_1348
      exact tj_X10_found_26 hF hX e_1348
    · rw [if_neg c] at e_1348
      refine aw_iconst (v := 1) hX (by decide) d_X10_found_22 ?_
      refine aw_goto (t := 27) hX (by decide) d_X10_found_23 ?_
      exact tj_X10_found_27 hF hX e_1348
theorem k_X10_found {g : GP} (hg : g.1.stackTraces = false) (hF : gF g = true) {a0 : Int32} {h hz : AH} {z : Int64} (e : s_X10_found a0 h = some (z, hz)) : Ctr g yX10_found (wsY yX10_found cX10_found 2 (some .long)) 2 0 0 [.ref 240, .int a0] NT false h (some (.long z)) NT false hz := ctr_of (lv0 := [.ref 240, .int a0]) rfl rfl (by decide) hg trivial (fun X hX hn => t_X10_found hF hX e)
theorem d_X10_over_0 : decode cX10_over 0 = .ok (.aload_n 0, 1) := by decide +kernel
theorem d_X10_over_1 : decode cX10_over 1 = .ok (.iconst 0, 1) := by decide +kernel
theorem d_X10_over_2 : decode cX10_over 2 = .ok (.putfield 133, 3) := by decide +kernel
theorem d_X10_over_5 : decode cX10_over 5 = .ok (.aload_n 0, 1) := by decide +kernel
theorem d_X10_over_6 : decode cX10_over 6 = .ok (.iload_n 1, 1) := by decide +kernel
theorem d_X10_over_7 : decode cX10_over 7 = .ok (.invokevirtual 305, 3) := by decide +kernel
theorem d_X10_over_10 : decode cX10_over 10 = .ok (.ifCond .eq 19, 3) := by decide +kernel
theorem d_X10_over_13 : decode cX10_over 13 = .ok (.aload_n 0, 1) := by decide +kernel
theorem d_X10_over_14 : decode cX10_over 14 = .ok (.iload_n 2, 1) := by decide +kernel
theorem d_X10_over_15 : decode cX10_over 15 = .ok (.iconst 0, 1) := by decide +kernel
theorem d_X10_over_16 : decode cX10_over 16 = .ok (.ldc_w 388, 3) := by decide +kernel
theorem d_X10_over_19 : decode cX10_over 19 = .ok (.invokestatic 295, 3) := by decide +kernel
theorem d_X10_over_22 : decode cX10_over 22 = .ok (.iconst 2, 1) := by decide +kernel
theorem d_X10_over_23 : decode cX10_over 23 = .ok (.invokevirtual 253, 3) := by decide +kernel
theorem d_X10_over_26 : decode cX10_over 26 = .ok (.ifCond .ne 5, 3) := by decide +kernel
theorem d_X10_over_29 : decode cX10_over 29 = .ok (.iconst 0, 1) := by decide +kernel
theorem d_X10_over_30 : decode cX10_over 30 = .ok (.ireturn, 1) := by decide +kernel
theorem d_X10_over_31 : decode cX10_over 31 = .ok (.iconst 0, 1) := by decide +kernel
theorem d_X10_over_32 : decode cX10_over 32 = .ok (.istore_n 3, 1) := by decide +kernel
theorem d_X10_over_33 : decode cX10_over 33 = .ok (.iload_n 3, 1) := by decide +kernel
theorem d_X10_over_34 : decode cX10_over 34 = .ok (.sipush 400, 3) := by decide +kernel
theorem d_X10_over_37 : decode cX10_over 37 = .ok (.if_icmp .gt 16, 3) := by decide +kernel
theorem d_X10_over_40 : decode cX10_over 40 = .ok (.aload_n 0, 1) := by decide +kernel
theorem d_X10_over_41 : decode cX10_over 41 = .ok (.getfield 79, 3) := by decide +kernel
theorem d_X10_over_44 : decode cX10_over 44 = .ok (.iload_n 3, 1) := by decide +kernel
theorem d_X10_over_45 : decode cX10_over 45 = .ok (.iconst 1, 1) := by decide +kernel
theorem d_X10_over_46 : decode cX10_over 46 = .ok (.bastore, 1) := by decide +kernel
theorem d_X10_over_47 : decode cX10_over 47 = .ok (.iinc 3 1, 3) := by decide +kernel
theorem d_X10_over_50 : decode cX10_over 50 = .ok (.goto (-17), 3) := by decide +kernel
theorem d_X10_over_53 : decode cX10_over 53 = .ok (.iconst 0, 1) := by decide +kernel
theorem d_X10_over_54 : decode cX10_over 54 = .ok (.istore_n 3, 1) := by decide +kernel
theorem d_X10_over_55 : decode cX10_over 55 = .ok (.iload_n 3, 1) := by decide +kernel
theorem d_X10_over_56 : decode cX10_over 56 = .ok (.aload_n 0, 1) := by decide +kernel
theorem d_X10_over_57 : decode cX10_over 57 = .ok (.getfield 262, 3) := by decide +kernel
theorem d_X10_over_60 : decode cX10_over 60 = .ok (.if_icmp .ge 95, 3) := by decide +kernel
theorem d_X10_over_63 : decode cX10_over 63 = .ok (.aload_n 0, 1) := by decide +kernel
theorem d_X10_over_64 : decode cX10_over 64 = .ok (.getfield 64, 3) := by decide +kernel
theorem d_X10_over_67 : decode cX10_over 67 = .ok (.bipush 16, 2) := by decide +kernel
theorem d_X10_over_69 : decode cX10_over 69 = .ok (.iconst 5, 1) := by decide +kernel
theorem d_X10_over_70 : decode cX10_over 70 = .ok (.iload_n 1, 1) := by decide +kernel
theorem d_X10_over_71 : decode cX10_over 71 = .ok (.imul, 1) := by decide +kernel
theorem d_X10_over_72 : decode cX10_over 72 = .ok (.iconst 1, 1) := by decide +kernel
theorem d_X10_over_73 : decode cX10_over 73 = .ok (.iadd, 1) := by decide +kernel
theorem d_X10_over_74 : decode cX10_over 74 = .ok (.imul, 1) := by decide +kernel
theorem d_X10_over_75 : decode cX10_over 75 = .ok (.iload_n 3, 1) := by decide +kernel
theorem d_X10_over_76 : decode cX10_over 76 = .ok (.iadd, 1) := by decide +kernel
theorem d_X10_over_77 : decode cX10_over 77 = .ok (.laload, 1) := by decide +kernel
theorem d_X10_over_78 : decode cX10_over 78 = .ok (.ldc2_w 310, 3) := by decide +kernel
theorem d_X10_over_81 : decode cX10_over 81 = .ok (.ldiv, 1) := by decide +kernel
theorem d_X10_over_82 : decode cX10_over 82 = .ok (.lstore 4, 2) := by decide +kernel
theorem d_X10_over_84 : decode cX10_over 84 = .ok (.aload_n 0, 1) := by decide +kernel
theorem d_X10_over_85 : decode cX10_over 85 = .ok (.invokevirtual 368, 3) := by decide +kernel
theorem d_X10_over_88 : decode cX10_over 88 = .ok (.iconst 1, 1) := by decide +kernel
theorem d_X10_over_89 : decode cX10_over 89 = .ok (.istore 6, 2) := by decide +kernel
theorem d_X10_over_91 : decode cX10_over 91 = .ok (.iload 6, 2) := by decide +kernel
theorem d_X10_over_93 : decode cX10_over 93 = .ok (.sipush 400, 3) := by decide +kernel
theorem d_X10_over_96 : decode cX10_over 96 = .ok (.if_icmp .gt 53, 3) := by decide +kernel
theorem d_X10_over_99 : decode cX10_over 99 = .ok (.aload_n 0, 1) := by decide +kernel
theorem d_X10_over_100 : decode cX10_over 100 = .ok (.iload 6, 2) := by decide +kernel
theorem d_X10_over_102 : decode cX10_over 102 = .ok (.iconst 1, 1) := by decide +kernel
theorem d_X10_over_103 : decode cX10_over 103 = .ok (.isub, 1) := by decide +kernel
theorem d_X10_over_104 : decode cX10_over 104 = .ok (.lload 4, 2) := by decide +kernel
theorem d_X10_over_106 : decode cX10_over 106 = .ok (.invokevirtual 371, 3) := by decide +kernel
theorem d_X10_over_109 : decode cX10_over 109 = .ok (.aload_n 0, 1) := by decide +kernel
theorem d_X10_over_110 : decode cX10_over 110 = .ok (.getfield 79, 3) := by decide +kernel
theorem d_X10_over_113 : decode cX10_over 113 = .ok (.iload 6, 2) := by decide +kernel
theorem d_X10_over_115 : decode cX10_over 115 = .ok (.aload_n 0, 1) := by decide +kernel
theorem d_X10_over_116 : decode cX10_over 116 = .ok (.getfield 79, 3) := by decide +kernel
theorem d_X10_over_119 : decode cX10_over 119 = .ok (.iload 6, 2) := by decide +kernel
theorem d_X10_over_121 : decode cX10_over 121 = .ok (.baload, 1) := by decide +kernel
theorem d_X10_over_122 : decode cX10_over 122 = .ok (.ifCond .eq 19, 3) := by decide +kernel
theorem d_X10_over_125 : decode cX10_over 125 = .ok (.aload_n 0, 1) := by decide +kernel
theorem d_X10_over_126 : decode cX10_over 126 = .ok (.iload 6, 2) := by decide +kernel
theorem d_X10_over_128 : decode cX10_over 128 = .ok (.invokevirtual 375, 3) := by decide +kernel
theorem d_X10_over_131 : decode cX10_over 131 = .ok (.iload_n 2, 1) := by decide +kernel
theorem d_X10_over_132 : decode cX10_over 132 = .ok (.i2l, 1) := by decide +kernel
theorem d_X10_over_133 : decode cX10_over 133 = .ok (.lcmp, 1) := by decide +kernel
theorem d_X10_over_134 : decode cX10_over 134 = .ok (.ifCond .gt 7, 3) := by decide +kernel
theorem d_X10_over_137 : decode cX10_over 137 = .ok (.iconst 1, 1) := by decide +kernel
theorem d_X10_over_138 : decode cX10_over 138 = .ok (.goto 4, 3) := by decide +kernel
theorem d_X10_over_141 : decode cX10_over 141 = .ok (.iconst 0, 1) := by decide +kernel
theorem d_X10_over_142 : decode cX10_over 142 = .ok (.bastore, 1) := by decide +kernel
theorem d_X10_over_143 : decode cX10_over 143 = .ok (.iinc 6 1, 3) := by decide +kernel
theorem d_X10_over_146 : decode cX10_over 146 = .ok (.goto (-55), 3) := by decide +kernel
theorem d_X10_over_149 : decode cX10_over 149 = .ok (.iinc 3 1, 3) := by decide +kernel
theorem d_X10_over_152 : decode cX10_over 152 = .ok (.goto (-97), 3) := by decide +kernel
theorem d_X10_over_155 : decode cX10_over 155 = .ok (.iconst 0, 1) := by decide +kernel
theorem d_X10_over_156 : decode cX10_over 156 = .ok (.istore_n 3, 1) := by decide +kernel
theorem d_X10_over_157 : decode cX10_over 157 = .ok (.iconst 1, 1) := by decide +kernel
theorem d_X10_over_158 : decode cX10_over 158 = .ok (.istore 4, 2) := by decide +kernel
theorem d_X10_over_160 : decode cX10_over 160 = .ok (.iload 4, 2) := by decide +kernel
theorem d_X10_over_162 : decode cX10_over 162 = .ok (.sipush 400, 3) := by decide +kernel
theorem d_X10_over_165 : decode cX10_over 165 = .ok (.if_icmp .gt 26, 3) := by decide +kernel
theorem d_X10_over_168 : decode cX10_over 168 = .ok (.aload_n 0, 1) := by decide +kernel
theorem d_X10_over_169 : decode cX10_over 169 = .ok (.getfield 79, 3) := by decide +kernel
theorem d_X10_over_172 : decode cX10_over 172 = .ok (.iload 4, 2) := by decide +kernel
theorem d_X10_over_174 : decode cX10_over 174 = .ok (.baload, 1) := by decide +kernel
theorem d_X10_over_175 : decode cX10_over 175 = .ok (.ifCond .eq 8, 3) := by decide +kernel
theorem d_X10_over_178 : decode cX10_over 178 = .ok (.iload 4, 2) := by decide +kernel
theorem d_X10_over_180 : decode cX10_over 180 = .ok (.goto 4, 3) := by decide +kernel
theorem d_X10_over_183 : decode cX10_over 183 = .ok (.iload_n 3, 1) := by decide +kernel
theorem d_X10_over_184 : decode cX10_over 184 = .ok (.istore_n 3, 1) := by decide +kernel
theorem d_X10_over_185 : decode cX10_over 185 = .ok (.iinc 4 1, 3) := by decide +kernel
theorem d_X10_over_188 : decode cX10_over 188 = .ok (.goto (-28), 3) := by decide +kernel
theorem d_X10_over_191 : decode cX10_over 191 = .ok (.iload_n 3, 1) := by decide +kernel
theorem d_X10_over_192 : decode cX10_over 192 = .ok (.ireturn, 1) := by decide +kernel
def l_X10_over_33 (p1 : Int32) (p2 : Int32) (s : Int32) (h : AH) : Option ((Int32 ⊕ Unit) × AH) := if 400 < s then some (.inr (), h) else bd (stZ h 261 s 1) fun m4 => some (.inl (s + 1), m4)
theorem tb_X10_over_33 {g : GP} {X : MX} {mcR msR : Nat} (hF : gF g = true) (hX : Cx g RX10 cX10_over 3 mcR msR (some .int) [] X) {Q : State → Prop} {p1 : Int32} {p2 : Int32} {s : Int32} {d4 : Value} {d5 : Value} {d6 : Value} {h hz : AH} {z : (Int32 ⊕ Unit)} (e : l_X10_over_33 p1 p2 s h = some (z, hz)) (kI : ∀ (s2 : Int32) (xd4 : Value) (xd5 : Value) (xd6 : Value), z = .inl s2 → AR g X 0 0 Q hz 33 [.ref 240, .int p1, .int p2, .int s2, xd4, xd5, xd6] []) (kE0 : ∀ (yy : Unit) (y3 : Value) (y4 : Value) (y5 : Value) (y6 : Value), z = .inr yy → AR g X 0 0 Q hz 53 [.ref 240, .int p1, .int p2, y3, y4, y5, y6] []) : AR g X 0 0 Q h 33 [.ref 240, .int p1, .int p2, .int s, d4, d5, d6] [] := by
  unfold l_X10_over_33 at e
  refine aw_iload_n (i := 3) hX rfl rfl d_X10_over_33 ?_
  refine aw_sipush (v := 400) hX (by decide) d_X10_over_34 ?_
  refine aw_icmp_gt (t := 53) hX (by decide) d_X10_over_37 (fun c => ?_) (fun c => ?_)
  · rw [if_pos c] at e
    cases e
    exact kE0 () _ _ _ _ rfl
  · rw [if_neg c] at e
    refine aw_aload_n (i := 0) hX rfl rfl d_X10_over_40 ?_
    refine ar_getF hX hF fg_RX10_79 rfl d_X10_over_41 ?_
    show AR g X 0 0 _ _ 44 _ [.ref 261]
    refine aw_iload_n (i := 3) hX rfl rfl d_X10_over_44 ?_
    refine aw_iconst (v := 1) hX (by decide) d_X10_over_45 ?_
    obtain ⟨m4, f_1349, e_1349⟩ := bd_some e
    clear e
    refine ar_bastore hX f_1349 d_X10_over_46 ?_
    refine aw_iinc (i := 3) (lv2 := [.ref 240, .int p1, .int p2, .int (s + 1), d4, d5, d6]) hX rfl rfl rfl rfl d_X10_over_47 ?_
    refine aw_goto (t := 33) hX (by decide) d_X10_over_50 ?_
    cases e_1349
    exact kI (s + 1) _ _ _ rfl
theorem ti_X10_over_33 {g : GP} {X : MX} {mcR msR : Nat} (hF : gF g = true) (hX : Cx g RX10 cX10_over 3 mcR msR (some .int) [] X) {Q : State → Prop} {p1 : Int32} {p2 : Int32} {y : Unit} {hz : AH} (kE0 : ∀ (y_3 : Value) (y_4 : Value) (y_5 : Value) (y_6 : Value), AR g X 0 0 Q hz 53 [.ref 240, .int p1, .int p2, y_3, y_4, y_5, y_6] []) (n : Nat) : ∀ (s : Int32) (d4 : Value) (d5 : Value) (d6 : Value) (h : AH), lpH (l_X10_over_33 p1 p2) n s h = some (y, hz) → AR g X 0 0 Q h 33 [.ref 240, .int p1, .int p2, .int s, d4, d5, d6] [] := by
  induction n with
  | zero => intro s d4 d5 d6 h e; cases e
  | succ n ih =>
    intro s d4 d5 d6 h e
    obtain ⟨x, h1, e1, e2⟩ := lpH_succ e
    rcases e2 with ⟨s2, rfl, e3⟩ | ⟨rfl, rfl⟩
    · exact tb_X10_over_33 hF hX e1 (fun s3 x0 x1 x2 hs => by cases hs; exact ih _ _ _ _ _ e3) (fun yy x0 x1 x2 x3 hy => by cases hy)
    · exact tb_X10_over_33 hF hX e1 (fun s3 x0 x1 x2 hs => by cases hs) (fun yy x0 x1 x2 x3 hy => by cases hy; exact kE0 x0 x1 x2 x3)
theorem t_X10_over_33 {g : GP} {X : MX} {mcR msR : Nat} (hF : gF g = true) (hX : Cx g RX10 cX10_over 3 mcR msR (some .int) [] X) {Q : State → Prop} {p1 : Int32} {p2 : Int32} {s : Int32} {d4 : Value} {d5 : Value} {d6 : Value} {h hz : AH} {n : Nat} {y : Unit} (e : lpH (l_X10_over_33 p1 p2) n s h = some (y, hz)) (kE0 : ∀ (y_3 : Value) (y_4 : Value) (y_5 : Value) (y_6 : Value), AR g X 0 0 Q hz 53 [.ref 240, .int p1, .int p2, y_3, y_4, y_5, y_6] []) : AR g X 0 0 Q h 33 [.ref 240, .int p1, .int p2, .int s, d4, d5, d6] [] := ti_X10_over_33 hF hX kE0 n _ _ _ _ _ e
def j_X10_over_142_91 (p1 : Int32) (p2 : Int32) (p3 : Int32) (p4 : Int64) (v6 : Int32) (k0 : Int32) (k1 : Int32) (h : AH) : Option ((Int32 ⊕ Unit) × AH) := bd (stZ h 261 k1 k0) fun m12 => some (.inl (v6 + 1), m12)
theorem tj_X10_over_142_91 {g : GP} {X : MX} {mcR msR : Nat} (hF : gF g = true) (hX : Cx g RX10 cX10_over 3 mcR msR (some .int) [] X) {Q : State → Prop} {p1 : Int32} {p2 : Int32} {p3 : Int32} {p4 : Int64} {v6 : Int32} {k0 : Int32} {k1 : Int32} {h hz : AH} {z : (Int32 ⊕ Unit)} (e : j_X10_over_142_91 p1 p2 p3 p4 v6 k0 k1 h = some (z, hz)) (kI : ∀ (s2 : Int32), z = .inl s2 → AR g X 0 0 Q hz 91 [.ref 240, .int p1, .int p2, .int p3, .long p4, jk, .int s2] []) (kE0 : ∀ (yy : Unit) (y4 : Value) (y5 : Value) (y6 : Value), z = .inr yy → AR g X 0 0 Q hz 149 [.ref 240, .int p1, .int p2, .int p3, y4, y5, y6] []) : AR g X 0 0 Q h 142 [.ref 240, .int p1, .int p2, .int p3, .long p4, jk, .int v6] [.int k0, .int k1, .ref 261] := by
  unfold j_X10_over_142_91 at e
  obtain ⟨m12, f_1350, e_1350⟩ := bd_some e
  clear e
  refine ar_bastore hX f_1350 d_X10_over_142 ?_
  refine aw_iinc (i := 6) (lv2 := [.ref 240, .int p1, .int p2, .int p3, .long p4, jk, .int (v6 + 1)]) hX rfl rfl rfl rfl d_X10_over_143 ?_
  refine aw_goto (t := 91) hX (by decide) d_X10_over_146 ?_
  cases e_1350
  exact kI (v6 + 1)  rfl
def j_X10_over_141_91 (p1 : Int32) (p2 : Int32) (p3 : Int32) (p4 : Int64) (v6 : Int32) (k0 : Int32) (h : AH) : Option ((Int32 ⊕ Unit) × AH) := j_X10_over_142_91 p1 p2 p3 p4 v6 0 k0 h
theorem tj_X10_over_141_91 {g : GP} {X : MX} {mcR msR : Nat} (hF : gF g = true) (hX : Cx g RX10 cX10_over 3 mcR msR (some .int) [] X) {Q : State → Prop} {p1 : Int32} {p2 : Int32} {p3 : Int32} {p4 : Int64} {v6 : Int32} {k0 : Int32} {h hz : AH} {z : (Int32 ⊕ Unit)} (e : j_X10_over_141_91 p1 p2 p3 p4 v6 k0 h = some (z, hz)) (kI : ∀ (s2 : Int32), z = .inl s2 → AR g X 0 0 Q hz 91 [.ref 240, .int p1, .int p2, .int p3, .long p4, jk, .int s2] []) (kE0 : ∀ (yy : Unit) (y4 : Value) (y5 : Value) (y6 : Value), z = .inr yy → AR g X 0 0 Q hz 149 [.ref 240, .int p1, .int p2, .int p3, y4, y5, y6] []) : AR g X 0 0 Q h 141 [.ref 240, .int p1, .int p2, .int p3, .long p4, jk, .int v6] [.int k0, .ref 261] := by
  unfold j_X10_over_141_91 at e
  refine aw_iconst (v := 0) hX (by decide) d_X10_over_141 ?_
  exact tj_X10_over_142_91 hF hX e kI kE0
def l_X10_over_91 (p1 : Int32) (p2 : Int32) (p3 : Int32) (p4 : Int64) (s : Int32) (h : AH) : Option ((Int32 ⊕ Unit) × AH) := if 400 < s then some (.inr (), h) else bd (s_X10_oneMore (s - 1) p4 h) fun q10 => bd (ldZ q10.2 261 s) fun x11 => if x11 = 0 then j_X10_over_141_91 p1 p2 p3 p4 s s q10.2 else bd (s_X10_above s q10.2) fun x13 => if p2.toInt64 < x13 then j_X10_over_141_91 p1 p2 p3 p4 s s q10.2 else j_X10_over_142_91 p1 p2 p3 p4 s 1 s q10.2
theorem tb_X10_over_91 {g : GP} {X : MX} {mcR msR : Nat} (hF : gF g = true) (hX : Cx g RX10 cX10_over 3 mcR msR (some .int) [] X) {Q : State → Prop} {p1 : Int32} {p2 : Int32} {p3 : Int32} {p4 : Int64} {s : Int32} {h hz : AH} {z : (Int32 ⊕ Unit)} (e : l_X10_over_91 p1 p2 p3 p4 s h = some (z, hz)) (kI : ∀ (s2 : Int32), z = .inl s2 → AR g X 0 0 Q hz 91 [.ref 240, .int p1, .int p2, .int p3, .long p4, jk, .int s2] []) (kE0 : ∀ (yy : Unit) (y4 : Value) (y5 : Value) (y6 : Value), z = .inr yy → AR g X 0 0 Q hz 149 [.ref 240, .int p1, .int p2, .int p3, y4, y5, y6] []) : AR g X 0 0 Q h 91 [.ref 240, .int p1, .int p2, .int p3, .long p4, jk, .int s] [] := by
  unfold l_X10_over_91 at e
  refine aw_iload (i := 6) hX rfl d_X10_over_91 ?_
  refine aw_sipush (v := 400) hX (by decide) d_X10_over_93 ?_
  refine aw_icmp_gt (t := 149) hX (by decide) d_X10_over_96 (fun c => ?_) (fun c => ?_)
  · rw [if_pos c] at e
    cases e
    exact kE0 () _ _ _ rfl
  · rw [if_neg c] at e
    refine aw_aload_n (i := 0) hX rfl rfl d_X10_over_99 ?_
    refine aw_iload (i := 6) hX rfl d_X10_over_100 ?_
    refine aw_iconst (v := 1) hX (by decide) d_X10_over_102 ?_
    refine aw_isub hX d_X10_over_103 ?_
    refine aw_lload (i := 4) hX rfl d_X10_over_104 ?_
    obtain ⟨q10, f_1351, e_1351⟩ := bd_some e
    clear e
    refine aw_callV (b := 240) (av := [.int (s - 1), .long p4]) (avr := [.long p4, .int (s - 1)]) hX (k_X10_oneMore (cx_g hX) hF f_1351) mi_X10_oneMore rfl rfl w_845 w_846 w_847 (by decide) rfl (LAY_lt rfl (by decide)) rfl rfl (Nat.le_of_ble_eq_true rfl) (Nat.zero_le _) (Nat.zero_le _) d_X10_over_106 ?_
    refine aw_aload_n (i := 0) hX rfl rfl d_X10_over_109 ?_
    refine ar_getF hX hF fg_RX10_79 rfl d_X10_over_110 ?_
    show AR g X 0 0 _ _ 113 _ [.ref 261]
    refine aw_iload (i := 6) hX rfl d_X10_over_113 ?_
    refine aw_aload_n (i := 0) hX rfl rfl d_X10_over_115 ?_
    refine ar_getF hX hF fg_RX10_79 rfl d_X10_over_116 ?_
    show AR g X 0 0 _ _ 119 _ [.ref 261, .int s, .ref 261]
    refine aw_iload (i := 6) hX rfl d_X10_over_119 ?_
    obtain ⟨x11, f_1352, e_1352⟩ := bd_some e_1351
    clear e_1351
    refine ar_baload hX f_1352 d_X10_over_121 ?_
    refine aw_if_eq (t := 141) hX (by decide) d_X10_over_122 (fun c => ?_) (fun c => ?_)
    · rw [if_pos c] at e_1352
      exact tj_X10_over_141_91 hF hX e_1352 kI kE0
    · rw [if_neg c] at e_1352
      refine aw_aload_n (i := 0) hX rfl rfl d_X10_over_125 ?_
      refine aw_iload (i := 6) hX rfl d_X10_over_126 ?_
      obtain ⟨x13, f_1353, e_1353⟩ := bd_some e_1352
      clear e_1352
      refine aw_callV (b := 240) (av := [.int s]) (avr := [.int s]) hX (k_X10_above (cx_g hX) hF f_1353) mi_X10_above rfl rfl w_849 w_850 w_851 (by decide) rfl (LAY_lt rfl (by decide)) rfl rfl (Nat.le_of_ble_eq_true rfl) (Nat.zero_le _) (Nat.zero_le _) d_X10_over_128 ?_
      refine aw_iload_n (i := 2) hX rfl rfl d_X10_over_131 ?_
      refine aw_i2l hX d_X10_over_132 ?_
      refine aw_lcmp hX d_X10_over_133 ?_
      refine aw_if_gt (t := 141) hX (by decide) d_X10_over_134 (fun c => ?_) (fun c => ?_)
      · replace c := lc_gt.mp c
        rw [if_pos c] at e_1353
        exact tj_X10_over_141_91 hF hX e_1353 kI kE0
      · replace c := fun q => c (lc_gt.mpr q)
        rw [if_neg c] at e_1353
        refine aw_iconst (v := 1) hX (by decide) d_X10_over_137 ?_
        refine aw_goto (t := 142) hX (by decide) d_X10_over_138 ?_
        exact tj_X10_over_142_91 hF hX e_1353 kI kE0
theorem ti_X10_over_91 {g : GP} {X : MX} {mcR msR : Nat} (hF : gF g = true) (hX : Cx g RX10 cX10_over 3 mcR msR (some .int) [] X) {Q : State → Prop} {p1 : Int32} {p2 : Int32} {p3 : Int32} {p4 : Int64} {y : Unit} {hz : AH} (kE0 : ∀ (y_4 : Value) (y_5 : Value) (y_6 : Value), AR g X 0 0 Q hz 149 [.ref 240, .int p1, .int p2, .int p3, y_4, y_5, y_6] []) (n : Nat) : ∀ (s : Int32) (h : AH), lpH (l_X10_over_91 p1 p2 p3 p4) n s h = some (y, hz) → AR g X 0 0 Q h 91 [.ref 240, .int p1, .int p2, .int p3, .long p4, jk, .int s] [] := by
  induction n with
  | zero => intro s h e; cases e
  | succ n ih =>
    intro s h e
    obtain ⟨x, h1, e1, e2⟩ := lpH_succ e
    rcases e2 with ⟨s2, rfl, e3⟩ | ⟨rfl, rfl⟩
    · exact tb_X10_over_91 hF hX e1 (fun s3  hs => by cases hs; exact ih _  _ e3) (fun yy x0 x1 x2 hy => by cases hy)
    · exact tb_X10_over_91 hF hX e1 (fun s3  hs => by cases hs) (fun yy x0 x1 x2 hy => by cases hy; exact kE0 x0 x1 x2)
theorem t_X10_over_91 {g : GP} {X : MX} {mcR msR : Nat} (hF : gF g = true) (hX : Cx g RX10 cX10_over 3 mcR msR (some .int) [] X) {Q : State → Prop} {p1 : Int32} {p2 : Int32} {p3 : Int32} {p4 : Int64} {s : Int32} {h hz : AH} {n : Nat} {y : Unit} (e : lpH (l_X10_over_91 p1 p2 p3 p4) n s h = some (y, hz)) (kE0 : ∀ (y_4 : Value) (y_5 : Value) (y_6 : Value), AR g X 0 0 Q hz 149 [.ref 240, .int p1, .int p2, .int p3, y_4, y_5, y_6] []) : AR g X 0 0 Q h 91 [.ref 240, .int p1, .int p2, .int p3, .long p4, jk, .int s] [] := ti_X10_over_91 hF hX kE0 n _  _ e
def l_X10_over_55 (p1 : Int32) (p2 : Int32) (s : Int32) (h : AH) : Option ((Int32 ⊕ Unit) × AH) := if (gI h 240 3) ≤ s then some (.inr (), h) else bd (ldL h 256 ((16 * ((5 * p1) + 1)) + s)) fun x7 => bd (ldivF x7 1000) fun x8 => bd (s_X10_nobody h) fun q9 => bd (lpH (l_X10_over_91 p1 p2 s x8) FU 1 q9.2) fun y14 => some (.inl (s + 1), y14.2)
theorem tb_X10_over_55 {g : GP} {X : MX} {mcR msR : Nat} (hF : gF g = true) (hX : Cx g RX10 cX10_over 3 mcR msR (some .int) [] X) {Q : State → Prop} {p1 : Int32} {p2 : Int32} {s : Int32} {d4 : Value} {d5 : Value} {d6 : Value} {h hz : AH} {z : (Int32 ⊕ Unit)} (e : l_X10_over_55 p1 p2 s h = some (z, hz)) (kI : ∀ (s2 : Int32) (xd4 : Value) (xd5 : Value) (xd6 : Value), z = .inl s2 → AR g X 0 0 Q hz 55 [.ref 240, .int p1, .int p2, .int s2, xd4, xd5, xd6] []) (kE0 : ∀ (yy : Unit) (y1 : Value) (y2 : Value) (y3 : Value) (y4 : Value) (y5 : Value) (y6 : Value), z = .inr yy → AR g X 0 0 Q hz 155 [.ref 240, y1, y2, y3, y4, y5, y6] []) : AR g X 0 0 Q h 55 [.ref 240, .int p1, .int p2, .int s, d4, d5, d6] [] := by
  unfold l_X10_over_55 at e
  refine aw_iload_n (i := 3) hX rfl rfl d_X10_over_55 ?_
  refine aw_aload_n (i := 0) hX rfl rfl d_X10_over_56 ?_
  refine ar_getI hX fg_RX10_262 rfl d_X10_over_57 ?_
  refine aw_icmp_ge (t := 155) hX (by decide) d_X10_over_60 (fun c => ?_) (fun c => ?_)
  · rw [if_pos c] at e
    cases e
    exact kE0 () _ _ _ _ _ _ rfl
  · rw [if_neg c] at e
    refine aw_aload_n (i := 0) hX rfl rfl d_X10_over_63 ?_
    refine ar_getF hX hF fg_RX10_64 rfl d_X10_over_64 ?_
    show AR g X 0 0 _ _ 67 _ [.ref 256]
    refine aw_bipush (v := 16) hX (by decide) d_X10_over_67 ?_
    refine aw_iconst (v := 5) hX (by decide) d_X10_over_69 ?_
    refine aw_iload_n (i := 1) hX rfl rfl d_X10_over_70 ?_
    refine aw_imul hX d_X10_over_71 ?_
    refine aw_iconst (v := 1) hX (by decide) d_X10_over_72 ?_
    refine aw_iadd hX d_X10_over_73 ?_
    refine aw_imul hX d_X10_over_74 ?_
    refine aw_iload_n (i := 3) hX rfl rfl d_X10_over_75 ?_
    refine aw_iadd hX d_X10_over_76 ?_
    obtain ⟨x7, f_1354, e_1354⟩ := bd_some e
    clear e
    refine ar_laload hX f_1354 d_X10_over_77 ?_
    refine aw_ldc2 hX w_737 d_X10_over_78 ?_
    obtain ⟨x8, f_1355, e_1355⟩ := bd_some e_1354
    clear e_1354
    refine ar_ldiv hX f_1355 d_X10_over_81 ?_
    refine aw_lstore (i := 4) (lv2 := [.ref 240, .int p1, .int p2, .int s, .long x8, jk, d6]) hX rfl rfl d_X10_over_82 ?_
    refine aw_aload_n (i := 0) hX rfl rfl d_X10_over_84 ?_
    obtain ⟨q9, f_1356, e_1356⟩ := bd_some e_1355
    clear e_1355
    refine aw_callV (b := 240) (av := []) (avr := []) hX (k_X10_nobody (cx_g hX) hF f_1356) mi_X10_nobody rfl rfl w_841 w_842 w_843 (by decide) rfl (LAY_lt rfl (by decide)) rfl rfl (Nat.le_of_ble_eq_true rfl) (Nat.zero_le _) (Nat.zero_le _) d_X10_over_85 ?_
    refine aw_iconst (v := 1) hX (by decide) d_X10_over_88 ?_
    refine aw_istore (i := 6) (lv2 := [.ref 240, .int p1, .int p2, .int s, .long x8, jk, .int 1]) hX rfl rfl d_X10_over_89 ?_
    obtain ⟨y14, f_1357, e_1357⟩ := bd_some e_1356
    clear e_1356
    refine t_X10_over_91 hF hX f_1357 (fun d15_4 d15_5 d15_6 => ?_)
    refine aw_iinc (i := 3) (lv2 := [.ref 240, .int p1, .int p2, .int (s + 1), d15_4, d15_5, d15_6]) hX rfl rfl rfl rfl d_X10_over_149 ?_
    refine aw_goto (t := 55) hX (by decide) d_X10_over_152 ?_
    cases e_1357
    exact kI (s + 1) _ _ _ rfl
theorem ti_X10_over_55 {g : GP} {X : MX} {mcR msR : Nat} (hF : gF g = true) (hX : Cx g RX10 cX10_over 3 mcR msR (some .int) [] X) {Q : State → Prop} {p1 : Int32} {p2 : Int32} {y : Unit} {hz : AH} (kE0 : ∀ (y_1 : Value) (y_2 : Value) (y_3 : Value) (y_4 : Value) (y_5 : Value) (y_6 : Value), AR g X 0 0 Q hz 155 [.ref 240, y_1, y_2, y_3, y_4, y_5, y_6] []) (n : Nat) : ∀ (s : Int32) (d4 : Value) (d5 : Value) (d6 : Value) (h : AH), lpH (l_X10_over_55 p1 p2) n s h = some (y, hz) → AR g X 0 0 Q h 55 [.ref 240, .int p1, .int p2, .int s, d4, d5, d6] [] := by
  induction n with
  | zero => intro s d4 d5 d6 h e; cases e
  | succ n ih =>
    intro s d4 d5 d6 h e
    obtain ⟨x, h1, e1, e2⟩ := lpH_succ e
    rcases e2 with ⟨s2, rfl, e3⟩ | ⟨rfl, rfl⟩
    · exact tb_X10_over_55 hF hX e1 (fun s3 x0 x1 x2 hs => by cases hs; exact ih _ _ _ _ _ e3) (fun yy x0 x1 x2 x3 x4 x5 hy => by cases hy)
    · exact tb_X10_over_55 hF hX e1 (fun s3 x0 x1 x2 hs => by cases hs) (fun yy x0 x1 x2 x3 x4 x5 hy => by cases hy; exact kE0 x0 x1 x2 x3 x4 x5)
theorem t_X10_over_55 {g : GP} {X : MX} {mcR msR : Nat} (hF : gF g = true) (hX : Cx g RX10 cX10_over 3 mcR msR (some .int) [] X) {Q : State → Prop} {p1 : Int32} {p2 : Int32} {s : Int32} {d4 : Value} {d5 : Value} {d6 : Value} {h hz : AH} {n : Nat} {y : Unit} (e : lpH (l_X10_over_55 p1 p2) n s h = some (y, hz)) (kE0 : ∀ (y_1 : Value) (y_2 : Value) (y_3 : Value) (y_4 : Value) (y_5 : Value) (y_6 : Value), AR g X 0 0 Q hz 155 [.ref 240, y_1, y_2, y_3, y_4, y_5, y_6] []) : AR g X 0 0 Q h 55 [.ref 240, .int p1, .int p2, .int s, d4, d5, d6] [] := ti_X10_over_55 hF hX kE0 n _ _ _ _ _ e
def j_X10_over_184_160 (v4 : Int32) (k0 : Int32) (h : AH) : Option (((Int32 × Int32) ⊕ Int32) × AH) := some (.inl (k0, v4 + 1), h)
theorem tj_X10_over_184_160 {g : GP} {X : MX} {mcR msR : Nat} (hF : gF g = true) (hX : Cx g RX10 cX10_over 3 mcR msR (some .int) [] X) {Q : State → Prop} {v4 : Int32} {k0 : Int32} {d1 : Value} {d2 : Value} {d3 : Value} {d5 : Value} {d6 : Value} {h hz : AH} {z : ((Int32 × Int32) ⊕ Int32)} (e : j_X10_over_184_160 v4 k0 h = some (z, hz)) (kI : ∀ (s2 : (Int32 × Int32)) (xd1 : Value) (xd2 : Value) (xd5 : Value) (xd6 : Value), z = .inl s2 → AR g X 0 0 Q hz 160 [.ref 240, xd1, xd2, .int s2.1, .int s2.2, xd5, xd6] []) (kE0 : ∀ (yy : Int32) (y0 : Value) (y1 : Value) (y2 : Value) (y4 : Value) (y5 : Value) (y6 : Value), z = .inr yy → AR g X 0 0 Q hz 191 [y0, y1, y2, .int yy, y4, y5, y6] []) : AR g X 0 0 Q h 184 [.ref 240, d1, d2, d3, .int v4, d5, d6] [.int k0] := by
  unfold j_X10_over_184_160 at e
  refine aw_istore_n (i := 3) (lv2 := [.ref 240, d1, _, .int k0, .int v4, d5, d6]) hX rfl rfl rfl d_X10_over_184 ?_
  refine aw_iinc (i := 4) (lv2 := [.ref 240, d1, _, .int k0, .int (v4 + 1), d5, d6]) hX rfl rfl rfl rfl d_X10_over_185 ?_
  refine aw_goto (t := 160) hX (by decide) d_X10_over_188 ?_
  cases e
  exact kI (k0, v4 + 1) _ _ _ _ rfl
def l_X10_over_160 (s : (Int32 × Int32)) (h : AH) : Option (((Int32 × Int32) ⊕ Int32) × AH) := if 400 < s.2 then some (.inr s.1, h) else bd (ldZ h 261 s.2) fun x18 => if x18 = 0 then j_X10_over_184_160 s.2 s.1 h else j_X10_over_184_160 s.2 s.2 h
theorem tb_X10_over_160 {g : GP} {X : MX} {mcR msR : Nat} (hF : gF g = true) (hX : Cx g RX10 cX10_over 3 mcR msR (some .int) [] X) {Q : State → Prop} {s : (Int32 × Int32)} {d1 : Value} {d2 : Value} {d5 : Value} {d6 : Value} {h hz : AH} {z : ((Int32 × Int32) ⊕ Int32)} (e : l_X10_over_160 s h = some (z, hz)) (kI : ∀ (s2 : (Int32 × Int32)) (xd1 : Value) (xd2 : Value) (xd5 : Value) (xd6 : Value), z = .inl s2 → AR g X 0 0 Q hz 160 [.ref 240, xd1, xd2, .int s2.1, .int s2.2, xd5, xd6] []) (kE0 : ∀ (yy : Int32) (y0 : Value) (y1 : Value) (y2 : Value) (y4 : Value) (y5 : Value) (y6 : Value), z = .inr yy → AR g X 0 0 Q hz 191 [y0, y1, y2, .int yy, y4, y5, y6] []) : AR g X 0 0 Q h 160 [.ref 240, d1, d2, .int s.1, .int s.2, d5, d6] [] := by
  unfold l_X10_over_160 at e
  refine aw_iload (i := 4) hX rfl d_X10_over_160 ?_
  refine aw_sipush (v := 400) hX (by decide) d_X10_over_162 ?_
  refine aw_icmp_gt (t := 191) hX (by decide) d_X10_over_165 (fun c => ?_) (fun c => ?_)
  · rw [if_pos c] at e
    cases e
    exact kE0 s.1 _ _ _ _ _ _ rfl
  · rw [if_neg c] at e
    refine aw_aload_n (i := 0) hX rfl rfl d_X10_over_168 ?_
    refine ar_getF hX hF fg_RX10_79 rfl d_X10_over_169 ?_
    show AR g X 0 0 _ _ 172 _ [.ref 261]
    refine aw_iload (i := 4) hX rfl d_X10_over_172 ?_
    obtain ⟨x18, f_1358, e_1358⟩ := bd_some e
    clear e
    refine ar_baload hX f_1358 d_X10_over_174 ?_
    refine aw_if_eq (t := 183) hX (by decide) d_X10_over_175 (fun c => ?_) (fun c => ?_)
    · rw [if_pos c] at e_1358
      refine aw_iload_n (i := 3) hX rfl rfl d_X10_over_183 ?_
      exact tj_X10_over_184_160 hF hX e_1358 kI kE0
    · rw [if_neg c] at e_1358
      refine aw_iload (i := 4) hX rfl d_X10_over_178 ?_
      refine aw_goto (t := 184) hX (by decide) d_X10_over_180 ?_
      exact tj_X10_over_184_160 hF hX e_1358 kI kE0
theorem ti_X10_over_160 {g : GP} {X : MX} {mcR msR : Nat} (hF : gF g = true) (hX : Cx g RX10 cX10_over 3 mcR msR (some .int) [] X) {Q : State → Prop} {y : Int32} {hz : AH} (kE0 : ∀ (y_0 : Value) (y_1 : Value) (y_2 : Value) (y_4 : Value) (y_5 : Value) (y_6 : Value), AR g X 0 0 Q hz 191 [y_0, y_1, y_2, .int y, y_4, y_5, y_6] []) (n : Nat) : ∀ (s : (Int32 × Int32)) (d1 : Value) (d2 : Value) (d5 : Value) (d6 : Value) (h : AH), lpH (l_X10_over_160) n s h = some (y, hz) → AR g X 0 0 Q h 160 [.ref 240, d1, d2, .int s.1, .int s.2, d5, d6] [] := by
  induction n with
  | zero => intro s d1 d2 d5 d6 h e; cases e
  | succ n ih =>
    intro s d1 d2 d5 d6 h e
    obtain ⟨x, h1, e1, e2⟩ := lpH_succ e
    rcases e2 with ⟨s2, rfl, e3⟩ | ⟨rfl, rfl⟩
    · exact tb_X10_over_160 hF hX e1 (fun s3 x0 x1 x2 x3 hs => by cases hs; exact ih _ _ _ _ _ _ e3) (fun yy x0 x1 x2 x3 x4 x5 hy => by cases hy)
    · exact tb_X10_over_160 hF hX e1 (fun s3 x0 x1 x2 x3 hs => by cases hs) (fun yy x0 x1 x2 x3 x4 x5 hy => by cases hy; exact kE0 x0 x1 x2 x3 x4 x5)
theorem t_X10_over_160 {g : GP} {X : MX} {mcR msR : Nat} (hF : gF g = true) (hX : Cx g RX10 cX10_over 3 mcR msR (some .int) [] X) {Q : State → Prop} {s : (Int32 × Int32)} {d1 : Value} {d2 : Value} {d5 : Value} {d6 : Value} {h hz : AH} {n : Nat} {y : Int32} (e : lpH (l_X10_over_160) n s h = some (y, hz)) (kE0 : ∀ (y_0 : Value) (y_1 : Value) (y_2 : Value) (y_4 : Value) (y_5 : Value) (y_6 : Value), AR g X 0 0 Q hz 191 [y_0, y_1, y_2, .int y, y_4, y_5, y_6] []) : AR g X 0 0 Q h 160 [.ref 240, d1, d2, .int s.1, .int s.2, d5, d6] [] := ti_X10_over_160 hF hX kE0 n _ _ _ _ _ _ e
def s_X10_over (a0 : Int32) (a1 : Int32) (h : AH) : Option (Int32 × AH) := bd (s_X10_isKind a0 (sI h 240 0 0)) fun q1 => if q1.1 = 0 then some (0, q1.2) else bd (s_X10_within a1 0 1000000000 q1.2) fun x2 => bd (s_X10_right x2 2 q1.2) fun q3 => if q3.1 = 0 then some (0, q3.2) else bd (lpH (l_X10_over_33 a0 a1) FU 0 q3.2) fun y5 => bd (lpH (l_X10_over_55 a0 a1) FU 0 y5.2) fun y16 => bd (lpH (l_X10_over_160) FU (0, 1) y16.2) fun y19 => some (y19.1, y19.2)
theorem t_X10_over {g : GP} {X : MX} {mcR msR : Nat} (hF : gF g = true) (hX : Cx g RX10 cX10_over 3 mcR msR (some .int) [] X) {a0 : Int32} {a1 : Int32} {h hz : AH} {z : Int32} (e : s_X10_over a0 a1 h = some (z, hz)) : AR g X 0 0 (QQ g X NT false hz (.inl (some (.int z))) 0 0) h 0 [.ref 240, .int a0, .int a1, jk, jk, jk, jk] [] := by
  unfold s_X10_over at e
  refine aw_aload_n (i := 0) hX rfl rfl d_X10_over_0 ?_
  refine aw_iconst (v := 0) hX (by decide) d_X10_over_1 ?_
  refine ar_putI hX fp_RX10_133 rfl d_X10_over_2 ?_
  refine aw_aload_n (i := 0) hX rfl rfl d_X10_over_5 ?_
  refine aw_iload_n (i := 1) hX rfl rfl d_X10_over_6 ?_
  obtain ⟨q1, f_1359, e_1359⟩ := bd_some e
  clear e
  refine aw_callV (b := 240) (av := [.int a0]) (avr := [.int a0]) hX (k_X10_isKind (cx_g hX) hF f_1359) mi_X10_isKind rfl rfl w_811 w_812 w_813 (by decide) rfl (LAY_lt rfl (by decide)) rfl rfl (Nat.le_of_ble_eq_true rfl) (Nat.zero_le _) (Nat.zero_le _) d_X10_over_7 ?_
  refine aw_if_eq (t := 29) hX (by decide) d_X10_over_10 (fun c => ?_) (fun c => ?_)
  · rw [if_pos c] at e_1359
    refine aw_iconst (v := 0) hX (by decide) d_X10_over_29 ?_
    cases e_1359
    exact aw_ireturn hX (Nat.zero_le _) (Nat.zero_le _) d_X10_over_30
  · rw [if_neg c] at e_1359
    refine aw_aload_n (i := 0) hX rfl rfl d_X10_over_13 ?_
    refine aw_iload_n (i := 2) hX rfl rfl d_X10_over_14 ?_
    refine aw_iconst (v := 0) hX (by decide) d_X10_over_15 ?_
    refine aw_ldc_w hX w_865 d_X10_over_16 ?_
    obtain ⟨x2, f_1360, e_1360⟩ := bd_some e_1359
    clear e_1359
    refine aw_callS (av := [.int a1, .int 0, .int 1000000000]) (avr := [.int 1000000000, .int 0, .int a1]) hX (k_X10_within (cx_g hX) hF f_1360) mi_X10_within rfl rfl w_800 w_801 rfl (by decide) (Nat.le_of_ble_eq_true rfl) (Nat.zero_le _) (Nat.zero_le _) d_X10_over_19 ?_
    refine aw_iconst (v := 2) hX (by decide) d_X10_over_22 ?_
    obtain ⟨q3, f_1361, e_1361⟩ := bd_some e_1360
    clear e_1360
    refine aw_callV (b := 240) (av := [.int x2, .int 2]) (avr := [.int 2, .int x2]) hX (k_X10_right (cx_g hX) hF f_1361) mi_X10_right rfl rfl w_772 w_773 w_774 (by decide) rfl (LAY_lt rfl (by decide)) rfl rfl (Nat.le_of_ble_eq_true rfl) (Nat.zero_le _) (Nat.zero_le _) d_X10_over_23 ?_
    refine aw_if_ne (t := 31) hX (by decide) d_X10_over_26 (fun c => ?_) (fun c => ?_)
    · rw [if_neg c] at e_1361
      refine aw_iconst (v := 0) hX (by decide) d_X10_over_31 ?_
      refine aw_istore_n (i := 3) (lv2 := [.ref 240, .int a0, .int a1, .int 0, jk, jk, jk]) hX rfl rfl rfl d_X10_over_32 ?_
      obtain ⟨y5, f_1362, e_1362⟩ := bd_some e_1361
      clear e_1361
      refine t_X10_over_33 hF hX f_1362 (fun d6_3 d6_4 d6_5 d6_6 => ?_)
      refine aw_iconst (v := 0) hX (by decide) d_X10_over_53 ?_
      refine aw_istore_n (i := 3) (lv2 := [.ref 240, .int a0, .int a1, .int 0, d6_4, d6_5, d6_6]) hX rfl rfl rfl d_X10_over_54 ?_
      obtain ⟨y16, f_1363, e_1363⟩ := bd_some e_1362
      clear e_1362
      refine t_X10_over_55 hF hX f_1363 (fun d17_1 d17_2 d17_3 d17_4 d17_5 d17_6 => ?_)
      refine aw_iconst (v := 0) hX (by decide) d_X10_over_155 ?_
      refine aw_istore_n (i := 3) (lv2 := [.ref 240, d17_1, _, .int 0, d17_4, d17_5, d17_6]) hX rfl rfl rfl d_X10_over_156 ?_
      refine aw_iconst (v := 1) hX (by decide) d_X10_over_157 ?_
      refine aw_istore (i := 4) (lv2 := [.ref 240, d17_1, _, .int 0, .int 1, d17_5, d17_6]) hX rfl rfl d_X10_over_158 ?_
      obtain ⟨y19, f_1364, e_1364⟩ := bd_some e_1363
      clear e_1363
      refine t_X10_over_160 hF hX f_1364 (fun d20_0 d20_1 d20_2 d20_4 d20_5 d20_6 => ?_)
      refine aw_iload_n (i := 3) hX rfl rfl d_X10_over_191 ?_
      cases e_1364
      exact aw_ireturn hX (Nat.zero_le _) (Nat.zero_le _) d_X10_over_192
    · rw [if_pos c] at e_1361
      refine aw_iconst (v := 0) hX (by decide) d_X10_over_29 ?_
      cases e_1361
      exact aw_ireturn hX (Nat.zero_le _) (Nat.zero_le _) d_X10_over_30
theorem k_X10_over {g : GP} (hg : g.1.stackTraces = false) (hF : gF g = true) {a0 : Int32} {a1 : Int32} {h hz : AH} {z : Int32} (e : s_X10_over a0 a1 h = some (z, hz)) : Ctr g yX10_over (wsY yX10_over cX10_over 7 (some .int)) 3 0 0 [.ref 240, .int a0, .int a1] NT false h (some (.int z)) NT false hz := ctr_of (lv0 := [.ref 240, .int a0, .int a1, jk, jk, jk, jk]) rfl rfl (by decide) hg trivial (fun X hX hn => t_X10_over hF hX e)
theorem d_X10_again_0 : decode cX10_again 0 = .ok (.aload_n 0, 1) := by decide +kernel
theorem d_X10_again_1 : decode cX10_again 1 = .ok (.iconst 0, 1) := by decide +kernel
theorem d_X10_again_2 : decode cX10_again 2 = .ok (.putfield 133, 3) := by decide +kernel
theorem d_X10_again_5 : decode cX10_again 5 = .ok (.aload_n 0, 1) := by decide +kernel
theorem d_X10_again_6 : decode cX10_again 6 = .ok (.iload_n 1, 1) := by decide +kernel
theorem d_X10_again_7 : decode cX10_again 7 = .ok (.invokevirtual 302, 3) := by decide +kernel
theorem d_X10_again_10 : decode cX10_again 10 = .ok (.ifCond .eq 33, 3) := by decide +kernel
theorem d_X10_again_13 : decode cX10_again 13 = .ok (.aload_n 0, 1) := by decide +kernel
theorem d_X10_again_14 : decode cX10_again 14 = .ok (.iload_n 3, 1) := by decide +kernel
theorem d_X10_again_15 : decode cX10_again 15 = .ok (.iconst 0, 1) := by decide +kernel
theorem d_X10_again_16 : decode cX10_again 16 = .ok (.iconst 3, 1) := by decide +kernel
theorem d_X10_again_17 : decode cX10_again 17 = .ok (.invokestatic 295, 3) := by decide +kernel
theorem d_X10_again_20 : decode cX10_again 20 = .ok (.iconst 1, 1) := by decide +kernel
theorem d_X10_again_21 : decode cX10_again 21 = .ok (.invokevirtual 253, 3) := by decide +kernel
theorem d_X10_again_24 : decode cX10_again 24 = .ok (.ifCond .eq 19, 3) := by decide +kernel
theorem d_X10_again_27 : decode cX10_again 27 = .ok (.aload_n 0, 1) := by decide +kernel
theorem d_X10_again_28 : decode cX10_again 28 = .ok (.iload_n 2, 1) := by decide +kernel
theorem d_X10_again_29 : decode cX10_again 29 = .ok (.iconst 0, 1) := by decide +kernel
theorem d_X10_again_30 : decode cX10_again 30 = .ok (.sipush 999, 3) := by decide +kernel
theorem d_X10_again_33 : decode cX10_again 33 = .ok (.invokestatic 295, 3) := by decide +kernel
theorem d_X10_again_36 : decode cX10_again 36 = .ok (.iconst 2, 1) := by decide +kernel
theorem d_X10_again_37 : decode cX10_again 37 = .ok (.invokevirtual 253, 3) := by decide +kernel
theorem d_X10_again_40 : decode cX10_again 40 = .ok (.ifCond .ne 5, 3) := by decide +kernel
theorem d_X10_again_43 : decode cX10_again 43 = .ok (.iconst 0, 1) := by decide +kernel
theorem d_X10_again_44 : decode cX10_again 44 = .ok (.ireturn, 1) := by decide +kernel
theorem d_X10_again_45 : decode cX10_again 45 = .ok (.lconst 0, 1) := by decide +kernel
theorem d_X10_again_46 : decode cX10_again 46 = .ok (.lstore 4, 2) := by decide +kernel
theorem d_X10_again_48 : decode cX10_again 48 = .ok (.lconst 0, 1) := by decide +kernel
theorem d_X10_again_49 : decode cX10_again 49 = .ok (.lstore 6, 2) := by decide +kernel
theorem d_X10_again_51 : decode cX10_again 51 = .ok (.lconst 0, 1) := by decide +kernel
theorem d_X10_again_52 : decode cX10_again 52 = .ok (.lstore 8, 2) := by decide +kernel
theorem d_X10_again_54 : decode cX10_again 54 = .ok (.iconst 0, 1) := by decide +kernel
theorem d_X10_again_55 : decode cX10_again 55 = .ok (.istore 10, 2) := by decide +kernel
theorem d_X10_again_57 : decode cX10_again 57 = .ok (.iload 10, 2) := by decide +kernel
theorem d_X10_again_59 : decode cX10_again 59 = .ok (.aload_n 0, 1) := by decide +kernel
theorem d_X10_again_60 : decode cX10_again 60 = .ok (.getfield 265, 3) := by decide +kernel
theorem d_X10_again_63 : decode cX10_again 63 = .ok (.if_icmp .ge 107, 3) := by decide +kernel
theorem d_X10_again_66 : decode cX10_again 66 = .ok (.aload_n 0, 1) := by decide +kernel
theorem d_X10_again_67 : decode cX10_again 67 = .ok (.iload 10, 2) := by decide +kernel
theorem d_X10_again_69 : decode cX10_again 69 = .ok (.invokevirtual 347, 3) := by decide +kernel
theorem d_X10_again_72 : decode cX10_again 72 = .ok (.istore 11, 2) := by decide +kernel
theorem d_X10_again_74 : decode cX10_again 74 = .ok (.aload_n 0, 1) := by decide +kernel
theorem d_X10_again_75 : decode cX10_again 75 = .ok (.iload 10, 2) := by decide +kernel
theorem d_X10_again_77 : decode cX10_again 77 = .ok (.iconst 0, 1) := by decide +kernel
theorem d_X10_again_78 : decode cX10_again 78 = .ok (.invokevirtual 292, 3) := by decide +kernel
theorem d_X10_again_81 : decode cX10_again 81 = .ok (.i2l, 1) := by decide +kernel
theorem d_X10_again_82 : decode cX10_again 82 = .ok (.aload_n 0, 1) := by decide +kernel
theorem d_X10_again_83 : decode cX10_again 83 = .ok (.iload 10, 2) := by decide +kernel
theorem d_X10_again_85 : decode cX10_again 85 = .ok (.iload_n 1, 1) := by decide +kernel
theorem d_X10_again_86 : decode cX10_again 86 = .ok (.invokevirtual 350, 3) := by decide +kernel
theorem d_X10_again_89 : decode cX10_again 89 = .ok (.lmul, 1) := by decide +kernel
theorem d_X10_again_90 : decode cX10_again 90 = .ok (.ldc2_w 310, 3) := by decide +kernel
theorem d_X10_again_93 : decode cX10_again 93 = .ok (.ldiv, 1) := by decide +kernel
theorem d_X10_again_94 : decode cX10_again 94 = .ok (.lstore 12, 2) := by decide +kernel
theorem d_X10_again_96 : decode cX10_again 96 = .ok (.lload 8, 2) := by decide +kernel
theorem d_X10_again_98 : decode cX10_again 98 = .ok (.iload 11, 2) := by decide +kernel
theorem d_X10_again_100 : decode cX10_again 100 = .ok (.ifCond .ne 8, 3) := by decide +kernel
theorem d_X10_again_103 : decode cX10_again 103 = .ok (.lload 12, 2) := by decide +kernel
theorem d_X10_again_105 : decode cX10_again 105 = .ok (.goto 4, 3) := by decide +kernel
theorem d_X10_again_108 : decode cX10_again 108 = .ok (.lconst 0, 1) := by decide +kernel
theorem d_X10_again_109 : decode cX10_again 109 = .ok (.ladd, 1) := by decide +kernel
theorem d_X10_again_110 : decode cX10_again 110 = .ok (.lstore 8, 2) := by decide +kernel
theorem d_X10_again_112 : decode cX10_again 112 = .ok (.lload 6, 2) := by decide +kernel
theorem d_X10_again_114 : decode cX10_again 114 = .ok (.iload 11, 2) := by decide +kernel
theorem d_X10_again_116 : decode cX10_again 116 = .ok (.iconst 1, 1) := by decide +kernel
theorem d_X10_again_117 : decode cX10_again 117 = .ok (.if_icmp .eq 9, 3) := by decide +kernel
theorem d_X10_again_120 : decode cX10_again 120 = .ok (.iload 11, 2) := by decide +kernel
theorem d_X10_again_122 : decode cX10_again 122 = .ok (.iconst 4, 1) := by decide +kernel
theorem d_X10_again_123 : decode cX10_again 123 = .ok (.if_icmp .ne 8, 3) := by decide +kernel
theorem d_X10_again_126 : decode cX10_again 126 = .ok (.lload 12, 2) := by decide +kernel
theorem d_X10_again_128 : decode cX10_again 128 = .ok (.goto 4, 3) := by decide +kernel
theorem d_X10_again_131 : decode cX10_again 131 = .ok (.lconst 0, 1) := by decide +kernel
theorem d_X10_again_132 : decode cX10_again 132 = .ok (.ladd, 1) := by decide +kernel
theorem d_X10_again_133 : decode cX10_again 133 = .ok (.lstore 6, 2) := by decide +kernel
theorem d_X10_again_135 : decode cX10_again 135 = .ok (.lload 4, 2) := by decide +kernel
theorem d_X10_again_137 : decode cX10_again 137 = .ok (.iload 11, 2) := by decide +kernel
theorem d_X10_again_139 : decode cX10_again 139 = .ok (.iconst 1, 1) := by decide +kernel
theorem d_X10_again_140 : decode cX10_again 140 = .ok (.if_icmp .eq 9, 3) := by decide +kernel
theorem d_X10_again_143 : decode cX10_again 143 = .ok (.iload 11, 2) := by decide +kernel
theorem d_X10_again_145 : decode cX10_again 145 = .ok (.iconst 4, 1) := by decide +kernel
theorem d_X10_again_146 : decode cX10_again 146 = .ok (.if_icmp .ne 14, 3) := by decide +kernel
theorem d_X10_again_149 : decode cX10_again 149 = .ok (.aload_n 0, 1) := by decide +kernel
theorem d_X10_again_150 : decode cX10_again 150 = .ok (.iload 10, 2) := by decide +kernel
theorem d_X10_again_152 : decode cX10_again 152 = .ok (.iconst 0, 1) := by decide +kernel
theorem d_X10_again_153 : decode cX10_again 153 = .ok (.invokevirtual 292, 3) := by decide +kernel
theorem d_X10_again_156 : decode cX10_again 156 = .ok (.i2l, 1) := by decide +kernel
theorem d_X10_again_157 : decode cX10_again 157 = .ok (.goto 4, 3) := by decide +kernel
theorem d_X10_again_160 : decode cX10_again 160 = .ok (.lconst 0, 1) := by decide +kernel
theorem d_X10_again_161 : decode cX10_again 161 = .ok (.ladd, 1) := by decide +kernel
theorem d_X10_again_162 : decode cX10_again 162 = .ok (.lstore 4, 2) := by decide +kernel
theorem d_X10_again_164 : decode cX10_again 164 = .ok (.iinc 10 1, 3) := by decide +kernel
theorem d_X10_again_167 : decode cX10_again 167 = .ok (.goto (-110), 3) := by decide +kernel
theorem d_X10_again_170 : decode cX10_again 170 = .ok (.lload 4, 2) := by decide +kernel
theorem d_X10_again_172 : decode cX10_again 172 = .ok (.aload_n 0, 1) := by decide +kernel
theorem d_X10_again_173 : decode cX10_again 173 = .ok (.getfield 7, 3) := by decide +kernel
theorem d_X10_again_176 : decode cX10_again 176 = .ok (.i2l, 1) := by decide +kernel
theorem d_X10_again_177 : decode cX10_again 177 = .ok (.lcmp, 1) := by decide +kernel
theorem d_X10_again_178 : decode cX10_again 178 = .ok (.ifCond .le 7, 3) := by decide +kernel
theorem d_X10_again_181 : decode cX10_again 181 = .ok (.lconst 0, 1) := by decide +kernel
theorem d_X10_again_182 : decode cX10_again 182 = .ok (.goto 15, 3) := by decide +kernel
theorem d_X10_again_185 : decode cX10_again 185 = .ok (.aload_n 0, 1) := by decide +kernel
theorem d_X10_again_186 : decode cX10_again 186 = .ok (.getfield 7, 3) := by decide +kernel
theorem d_X10_again_189 : decode cX10_again 189 = .ok (.i2l, 1) := by decide +kernel
theorem d_X10_again_190 : decode cX10_again 190 = .ok (.lload 4, 2) := by decide +kernel
theorem d_X10_again_192 : decode cX10_again 192 = .ok (.lsub, 1) := by decide +kernel
theorem d_X10_again_193 : decode cX10_again 193 = .ok (.ldc2_w 308, 3) := by decide +kernel
theorem d_X10_again_196 : decode cX10_again 196 = .ok (.lmul, 1) := by decide +kernel
theorem d_X10_again_197 : decode cX10_again 197 = .ok (.lstore 10, 2) := by decide +kernel
theorem d_X10_again_199 : decode cX10_again 199 = .ok (.lload 8, 2) := by decide +kernel
theorem d_X10_again_201 : decode cX10_again 201 = .ok (.lload 10, 2) := by decide +kernel
theorem d_X10_again_203 : decode cX10_again 203 = .ok (.lcmp, 1) := by decide +kernel
theorem d_X10_again_204 : decode cX10_again 204 = .ok (.ifCond .le 11, 3) := by decide +kernel
theorem d_X10_again_207 : decode cX10_again 207 = .ok (.lload 8, 2) := by decide +kernel
theorem d_X10_again_209 : decode cX10_again 209 = .ok (.lload 10, 2) := by decide +kernel
theorem d_X10_again_211 : decode cX10_again 211 = .ok (.lsub, 1) := by decide +kernel
theorem d_X10_again_212 : decode cX10_again 212 = .ok (.goto 4, 3) := by decide +kernel
theorem d_X10_again_215 : decode cX10_again 215 = .ok (.lconst 0, 1) := by decide +kernel
theorem d_X10_again_216 : decode cX10_again 216 = .ok (.lstore 12, 2) := by decide +kernel
theorem d_X10_again_218 : decode cX10_again 218 = .ok (.lload 4, 2) := by decide +kernel
theorem d_X10_again_220 : decode cX10_again 220 = .ok (.ldc2_w 308, 3) := by decide +kernel
theorem d_X10_again_223 : decode cX10_again 223 = .ok (.lmul, 1) := by decide +kernel
theorem d_X10_again_224 : decode cX10_again 224 = .ok (.lload 6, 2) := by decide +kernel
theorem d_X10_again_226 : decode cX10_again 226 = .ok (.lsub, 1) := by decide +kernel
theorem d_X10_again_227 : decode cX10_again 227 = .ok (.lstore 14, 2) := by decide +kernel
theorem d_X10_again_229 : decode cX10_again 229 = .ok (.lload 12, 2) := by decide +kernel
theorem d_X10_again_231 : decode cX10_again 231 = .ok (.lload 14, 2) := by decide +kernel
theorem d_X10_again_233 : decode cX10_again 233 = .ok (.lcmp, 1) := by decide +kernel
theorem d_X10_again_234 : decode cX10_again 234 = .ok (.ifCond .ge 8, 3) := by decide +kernel
theorem d_X10_again_237 : decode cX10_again 237 = .ok (.lload 12, 2) := by decide +kernel
theorem d_X10_again_239 : decode cX10_again 239 = .ok (.goto 5, 3) := by decide +kernel
theorem d_X10_again_242 : decode cX10_again 242 = .ok (.lload 14, 2) := by decide +kernel
theorem d_X10_again_244 : decode cX10_again 244 = .ok (.lstore 16, 2) := by decide +kernel
theorem d_X10_again_246 : decode cX10_again 246 = .ok (.iload_n 3, 1) := by decide +kernel
theorem d_X10_again_247 : decode cX10_again 247 = .ok (.iconst 1, 1) := by decide +kernel
theorem d_X10_again_248 : decode cX10_again 248 = .ok (.if_icmp .eq 26, 3) := by decide +kernel
theorem d_X10_again_251 : decode cX10_again 251 = .ok (.iload_n 3, 1) := by decide +kernel
theorem d_X10_again_252 : decode cX10_again 252 = .ok (.ifCond .ne 8, 3) := by decide +kernel
theorem d_X10_again_255 : decode cX10_again 255 = .ok (.lload 16, 2) := by decide +kernel
theorem d_X10_again_257 : decode cX10_again 257 = .ok (.goto 15, 3) := by decide +kernel
theorem d_X10_again_260 : decode cX10_again 260 = .ok (.iload_n 3, 1) := by decide +kernel
theorem d_X10_again_261 : decode cX10_again 261 = .ok (.iconst 2, 1) := by decide +kernel
theorem d_X10_again_262 : decode cX10_again 262 = .ok (.if_icmp .ne 8, 3) := by decide +kernel
theorem d_X10_again_265 : decode cX10_again 265 = .ok (.lload 12, 2) := by decide +kernel
theorem d_X10_again_267 : decode cX10_again 267 = .ok (.goto 5, 3) := by decide +kernel
theorem d_X10_again_270 : decode cX10_again 270 = .ok (.lload 14, 2) := by decide +kernel
theorem d_X10_again_272 : decode cX10_again 272 = .ok (.l2i, 1) := by decide +kernel
theorem d_X10_again_273 : decode cX10_again 273 = .ok (.ireturn, 1) := by decide +kernel
theorem d_X10_again_274 : decode cX10_again 274 = .ok (.lload 16, 2) := by decide +kernel
theorem d_X10_again_276 : decode cX10_again 276 = .ok (.aload_n 0, 1) := by decide +kernel
theorem d_X10_again_277 : decode cX10_again 277 = .ok (.getfield 13, 3) := by decide +kernel
theorem d_X10_again_280 : decode cX10_again 280 = .ok (.iconst 4, 1) := by decide +kernel
theorem d_X10_again_281 : decode cX10_again 281 = .ok (.iload_n 1, 1) := by decide +kernel
theorem d_X10_again_282 : decode cX10_again 282 = .ok (.imul, 1) := by decide +kernel
theorem d_X10_again_283 : decode cX10_again 283 = .ok (.iconst 1, 1) := by decide +kernel
theorem d_X10_again_284 : decode cX10_again 284 = .ok (.iadd, 1) := by decide +kernel
theorem d_X10_again_285 : decode cX10_again 285 = .ok (.iaload, 1) := by decide +kernel
theorem d_X10_again_286 : decode cX10_again 286 = .ok (.iload_n 2, 1) := by decide +kernel
theorem d_X10_again_287 : decode cX10_again 287 = .ok (.isub, 1) := by decide +kernel
theorem d_X10_again_288 : decode cX10_again 288 = .ok (.i2l, 1) := by decide +kernel
theorem d_X10_again_289 : decode cX10_again 289 = .ok (.lmul, 1) := by decide +kernel
theorem d_X10_again_290 : decode cX10_again 290 = .ok (.ldc2_w 310, 3) := by decide +kernel
theorem d_X10_again_293 : decode cX10_again 293 = .ok (.invokestatic 354, 3) := by decide +kernel
theorem d_X10_again_296 : decode cX10_again 296 = .ok (.l2i, 1) := by decide +kernel
theorem d_X10_again_297 : decode cX10_again 297 = .ok (.ireturn, 1) := by decide +kernel
def j_X10_again_161_57 (p1 : Int32) (p2 : Int32) (p3 : Int32) (v6 : Int64) (v8 : Int64) (v10 : Int32) (k0 : Int64) (k1 : Int64) (h : AH) : Option (((Int64 × Int64 × Int64 × Int32) ⊕ (Int64 × Int64 × Int64)) × AH) := some (.inl ((k1 + k0), v6, v8, v10 + 1), h)
theorem tj_X10_again_161_57 {g : GP} {X : MX} {mcR msR : Nat} (hF : gF g = true) (hX : Cx g RX10 cX10_again 4 mcR msR (some .int) [] X) {Q : State → Prop} {p1 : Int32} {p2 : Int32} {p3 : Int32} {v6 : Int64} {v8 : Int64} {v10 : Int32} {k0 : Int64} {k1 : Int64} {d4 : Value} {d5 : Value} {d11 : Value} {d12 : Value} {d13 : Value} {d14 : Value} {d15 : Value} {d16 : Value} {d17 : Value} {h hz : AH} {z : ((Int64 × Int64 × Int64 × Int32) ⊕ (Int64 × Int64 × Int64))} (e : j_X10_again_161_57 p1 p2 p3 v6 v8 v10 k0 k1 h = some (z, hz)) (kI : ∀ (s2 : (Int64 × Int64 × Int64 × Int32)) (xd11 : Value) (xd12 : Value) (xd13 : Value) (xd14 : Value) (xd15 : Value) (xd16 : Value) (xd17 : Value), z = .inl s2 → AR g X 0 0 Q hz 57 [.ref 240, .int p1, .int p2, .int p3, .long s2.1, jk, .long s2.2.1, jk, .long s2.2.2.1, jk, .int s2.2.2.2, xd11, xd12, xd13, xd14, xd15, xd16, xd17] []) (kE0 : ∀ (yy : (Int64 × Int64 × Int64)) (y10 : Value) (y11 : Value) (y12 : Value) (y13 : Value) (y14 : Value) (y15 : Value) (y16 : Value) (y17 : Value), z = .inr yy → AR g X 0 0 Q hz 170 [.ref 240, .int p1, .int p2, .int p3, .long yy.1, jk, .long yy.2.1, jk, .long yy.2.2, jk, y10, y11, y12, y13, y14, y15, y16, y17] []) : AR g X 0 0 Q h 161 [.ref 240, .int p1, .int p2, .int p3, d4, d5, .long v6, jk, .long v8, jk, .int v10, d11, d12, d13, d14, d15, d16, d17] [.long k0, .long k1] := by
  unfold j_X10_again_161_57 at e
  refine aw_ladd hX d_X10_again_161 ?_
  refine aw_lstore (i := 4) (lv2 := [.ref 240, .int p1, .int p2, .int p3, .long (k1 + k0), jk, .long v6, jk, .long v8, jk, .int v10, d11, d12, d13, d14, d15, d16, d17]) hX rfl rfl d_X10_again_162 ?_
  refine aw_iinc (i := 10) (lv2 := [.ref 240, .int p1, .int p2, .int p3, .long (k1 + k0), jk, .long v6, jk, .long v8, jk, .int (v10 + 1), d11, d12, d13, d14, d15, d16, d17]) hX rfl rfl rfl rfl d_X10_again_164 ?_
  refine aw_goto (t := 57) hX (by decide) d_X10_again_167 ?_
  cases e
  exact kI ((k1 + k0), v6, v8, v10 + 1) _ _ _ _ _ _ _ rfl
def j_X10_again_149_57 (p1 : Int32) (p2 : Int32) (p3 : Int32) (v6 : Int64) (v8 : Int64) (v10 : Int32) (k0 : Int64) (h : AH) : Option (((Int64 × Int64 × Int64 × Int32) ⊕ (Int64 × Int64 × Int64)) × AH) := bd (s_X10_of v10 0 h) fun x10 => j_X10_again_161_57 p1 p2 p3 v6 v8 v10 x10.toInt64 k0 h
theorem tj_X10_again_149_57 {g : GP} {X : MX} {mcR msR : Nat} (hF : gF g = true) (hX : Cx g RX10 cX10_again 4 mcR msR (some .int) [] X) {Q : State → Prop} {p1 : Int32} {p2 : Int32} {p3 : Int32} {v6 : Int64} {v8 : Int64} {v10 : Int32} {k0 : Int64} {d4 : Value} {d5 : Value} {d11 : Value} {d12 : Value} {d13 : Value} {d14 : Value} {d15 : Value} {d16 : Value} {d17 : Value} {h hz : AH} {z : ((Int64 × Int64 × Int64 × Int32) ⊕ (Int64 × Int64 × Int64))} (e : j_X10_again_149_57 p1 p2 p3 v6 v8 v10 k0 h = some (z, hz)) (kI : ∀ (s2 : (Int64 × Int64 × Int64 × Int32)) (xd11 : Value) (xd12 : Value) (xd13 : Value) (xd14 : Value) (xd15 : Value) (xd16 : Value) (xd17 : Value), z = .inl s2 → AR g X 0 0 Q hz 57 [.ref 240, .int p1, .int p2, .int p3, .long s2.1, jk, .long s2.2.1, jk, .long s2.2.2.1, jk, .int s2.2.2.2, xd11, xd12, xd13, xd14, xd15, xd16, xd17] []) (kE0 : ∀ (yy : (Int64 × Int64 × Int64)) (y10 : Value) (y11 : Value) (y12 : Value) (y13 : Value) (y14 : Value) (y15 : Value) (y16 : Value) (y17 : Value), z = .inr yy → AR g X 0 0 Q hz 170 [.ref 240, .int p1, .int p2, .int p3, .long yy.1, jk, .long yy.2.1, jk, .long yy.2.2, jk, y10, y11, y12, y13, y14, y15, y16, y17] []) : AR g X 0 0 Q h 149 [.ref 240, .int p1, .int p2, .int p3, d4, d5, .long v6, jk, .long v8, jk, .int v10, d11, d12, d13, d14, d15, d16, d17] [.long k0] := by
  unfold j_X10_again_149_57 at e
  refine aw_aload_n (i := 0) hX rfl rfl d_X10_again_149 ?_
  refine aw_iload (i := 10) hX rfl d_X10_again_150 ?_
  refine aw_iconst (v := 0) hX (by decide) d_X10_again_152 ?_
  obtain ⟨x10, f_1365, e_1365⟩ := bd_some e
  clear e
  refine aw_callV (b := 240) (av := [.int v10, .int 0]) (avr := [.int 0, .int v10]) hX (k_X10_of (cx_g hX) hF f_1365) mi_X10_of rfl rfl w_732 w_733 w_734 (by decide) rfl (LAY_lt rfl (by decide)) rfl rfl (Nat.le_of_ble_eq_true rfl) (Nat.zero_le _) (Nat.zero_le _) d_X10_again_153 ?_
  refine aw_i2l hX d_X10_again_156 ?_
  refine aw_goto (t := 161) hX (by decide) d_X10_again_157 ?_
  exact tj_X10_again_161_57 hF hX e_1365 kI kE0
def j_X10_again_132_57 (p1 : Int32) (p2 : Int32) (p3 : Int32) (v4 : Int64) (v8 : Int64) (v10 : Int32) (v11 : Int32) (k0 : Int64) (k1 : Int64) (h : AH) : Option (((Int64 × Int64 × Int64 × Int32) ⊕ (Int64 × Int64 × Int64)) × AH) := if v11 = 1 then j_X10_again_149_57 p1 p2 p3 (k1 + k0) v8 v10 v4 h else if v11 = 4 then j_X10_again_149_57 p1 p2 p3 (k1 + k0) v8 v10 v4 h else j_X10_again_161_57 p1 p2 p3 (k1 + k0) v8 v10 0 v4 h
theorem tj_X10_again_132_57 {g : GP} {X : MX} {mcR msR : Nat} (hF : gF g = true) (hX : Cx g RX10 cX10_again 4 mcR msR (some .int) [] X) {Q : State → Prop} {p1 : Int32} {p2 : Int32} {p3 : Int32} {v4 : Int64} {v8 : Int64} {v10 : Int32} {v11 : Int32} {k0 : Int64} {k1 : Int64} {d6 : Value} {d7 : Value} {d12 : Value} {d13 : Value} {d14 : Value} {d15 : Value} {d16 : Value} {d17 : Value} {h hz : AH} {z : ((Int64 × Int64 × Int64 × Int32) ⊕ (Int64 × Int64 × Int64))} (e : j_X10_again_132_57 p1 p2 p3 v4 v8 v10 v11 k0 k1 h = some (z, hz)) (kI : ∀ (s2 : (Int64 × Int64 × Int64 × Int32)) (xd11 : Value) (xd12 : Value) (xd13 : Value) (xd14 : Value) (xd15 : Value) (xd16 : Value) (xd17 : Value), z = .inl s2 → AR g X 0 0 Q hz 57 [.ref 240, .int p1, .int p2, .int p3, .long s2.1, jk, .long s2.2.1, jk, .long s2.2.2.1, jk, .int s2.2.2.2, xd11, xd12, xd13, xd14, xd15, xd16, xd17] []) (kE0 : ∀ (yy : (Int64 × Int64 × Int64)) (y10 : Value) (y11 : Value) (y12 : Value) (y13 : Value) (y14 : Value) (y15 : Value) (y16 : Value) (y17 : Value), z = .inr yy → AR g X 0 0 Q hz 170 [.ref 240, .int p1, .int p2, .int p3, .long yy.1, jk, .long yy.2.1, jk, .long yy.2.2, jk, y10, y11, y12, y13, y14, y15, y16, y17] []) : AR g X 0 0 Q h 132 [.ref 240, .int p1, .int p2, .int p3, .long v4, jk, d6, d7, .long v8, jk, .int v10, .int v11, d12, d13, d14, d15, d16, d17] [.long k0, .long k1] := by
  unfold j_X10_again_132_57 at e
  refine aw_ladd hX d_X10_again_132 ?_
  refine aw_lstore (i := 6) (lv2 := [.ref 240, .int p1, .int p2, .int p3, .long v4, jk, .long (k1 + k0), jk, .long v8, jk, .int v10, .int v11, d12, d13, d14, d15, d16, d17]) hX rfl rfl d_X10_again_133 ?_
  refine aw_lload (i := 4) hX rfl d_X10_again_135 ?_
  refine aw_iload (i := 11) hX rfl d_X10_again_137 ?_
  refine aw_iconst (v := 1) hX (by decide) d_X10_again_139 ?_
  refine aw_icmp_eq (t := 149) hX (by decide) d_X10_again_140 (fun c => ?_) (fun c => ?_)
  · rw [if_pos c] at e
    exact tj_X10_again_149_57 hF hX e kI kE0
  · rw [if_neg c] at e
    refine aw_iload (i := 11) hX rfl d_X10_again_143 ?_
    refine aw_iconst (v := 4) hX (by decide) d_X10_again_145 ?_
    refine aw_icmp_ne (t := 160) hX (by decide) d_X10_again_146 (fun c => ?_) (fun c => ?_)
    · rw [if_neg c] at e
      refine aw_lconst (v := 0) hX (by decide) d_X10_again_160 ?_
      exact tj_X10_again_161_57 hF hX e kI kE0
    · rw [if_pos c] at e
      exact tj_X10_again_149_57 hF hX e kI kE0
def j_X10_again_126_57 (p1 : Int32) (p2 : Int32) (p3 : Int32) (v4 : Int64) (v8 : Int64) (v10 : Int32) (v11 : Int32) (v12 : Int64) (k0 : Int64) (h : AH) : Option (((Int64 × Int64 × Int64 × Int32) ⊕ (Int64 × Int64 × Int64)) × AH) := j_X10_again_132_57 p1 p2 p3 v4 v8 v10 v11 v12 k0 h
theorem tj_X10_again_126_57 {g : GP} {X : MX} {mcR msR : Nat} (hF : gF g = true) (hX : Cx g RX10 cX10_again 4 mcR msR (some .int) [] X) {Q : State → Prop} {p1 : Int32} {p2 : Int32} {p3 : Int32} {v4 : Int64} {v8 : Int64} {v10 : Int32} {v11 : Int32} {v12 : Int64} {k0 : Int64} {d6 : Value} {d7 : Value} {d14 : Value} {d15 : Value} {d16 : Value} {d17 : Value} {h hz : AH} {z : ((Int64 × Int64 × Int64 × Int32) ⊕ (Int64 × Int64 × Int64))} (e : j_X10_again_126_57 p1 p2 p3 v4 v8 v10 v11 v12 k0 h = some (z, hz)) (kI : ∀ (s2 : (Int64 × Int64 × Int64 × Int32)) (xd11 : Value) (xd12 : Value) (xd13 : Value) (xd14 : Value) (xd15 : Value) (xd16 : Value) (xd17 : Value), z = .inl s2 → AR g X 0 0 Q hz 57 [.ref 240, .int p1, .int p2, .int p3, .long s2.1, jk, .long s2.2.1, jk, .long s2.2.2.1, jk, .int s2.2.2.2, xd11, xd12, xd13, xd14, xd15, xd16, xd17] []) (kE0 : ∀ (yy : (Int64 × Int64 × Int64)) (y10 : Value) (y11 : Value) (y12 : Value) (y13 : Value) (y14 : Value) (y15 : Value) (y16 : Value) (y17 : Value), z = .inr yy → AR g X 0 0 Q hz 170 [.ref 240, .int p1, .int p2, .int p3, .long yy.1, jk, .long yy.2.1, jk, .long yy.2.2, jk, y10, y11, y12, y13, y14, y15, y16, y17] []) : AR g X 0 0 Q h 126 [.ref 240, .int p1, .int p2, .int p3, .long v4, jk, d6, d7, .long v8, jk, .int v10, .int v11, .long v12, jk, d14, d15, d16, d17] [.long k0] := by
  unfold j_X10_again_126_57 at e
  refine aw_lload (i := 12) hX rfl d_X10_again_126 ?_
  refine aw_goto (t := 132) hX (by decide) d_X10_again_128 ?_
  exact tj_X10_again_132_57 hF hX e kI kE0
def j_X10_again_109_57 (p1 : Int32) (p2 : Int32) (p3 : Int32) (v4 : Int64) (v6 : Int64) (v10 : Int32) (v11 : Int32) (v12 : Int64) (k0 : Int64) (k1 : Int64) (h : AH) : Option (((Int64 × Int64 × Int64 × Int32) ⊕ (Int64 × Int64 × Int64)) × AH) := if v11 = 1 then j_X10_again_126_57 p1 p2 p3 v4 (k1 + k0) v10 v11 v12 v6 h else if v11 = 4 then j_X10_again_126_57 p1 p2 p3 v4 (k1 + k0) v10 v11 v12 v6 h else j_X10_again_132_57 p1 p2 p3 v4 (k1 + k0) v10 v11 0 v6 h
theorem tj_X10_again_109_57 {g : GP} {X : MX} {mcR msR : Nat} (hF : gF g = true) (hX : Cx g RX10 cX10_again 4 mcR msR (some .int) [] X) {Q : State → Prop} {p1 : Int32} {p2 : Int32} {p3 : Int32} {v4 : Int64} {v6 : Int64} {v10 : Int32} {v11 : Int32} {v12 : Int64} {k0 : Int64} {k1 : Int64} {d8 : Value} {d9 : Value} {d14 : Value} {d15 : Value} {d16 : Value} {d17 : Value} {h hz : AH} {z : ((Int64 × Int64 × Int64 × Int32) ⊕ (Int64 × Int64 × Int64))} (e : j_X10_again_109_57 p1 p2 p3 v4 v6 v10 v11 v12 k0 k1 h = some (z, hz)) (kI : ∀ (s2 : (Int64 × Int64 × Int64 × Int32)) (xd11 : Value) (xd12 : Value) (xd13 : Value) (xd14 : Value) (xd15 : Value) (xd16 : Value) (xd17 : Value), z = .inl s2 → AR g X 0 0 Q hz 57 [.ref 240, .int p1, .int p2, .int p3, .long s2.1, jk, .long s2.2.1, jk, .long s2.2.2.1, jk, .int s2.2.2.2, xd11, xd12, xd13, xd14, xd15, xd16, xd17] []) (kE0 : ∀ (yy : (Int64 × Int64 × Int64)) (y10 : Value) (y11 : Value) (y12 : Value) (y13 : Value) (y14 : Value) (y15 : Value) (y16 : Value) (y17 : Value), z = .inr yy → AR g X 0 0 Q hz 170 [.ref 240, .int p1, .int p2, .int p3, .long yy.1, jk, .long yy.2.1, jk, .long yy.2.2, jk, y10, y11, y12, y13, y14, y15, y16, y17] []) : AR g X 0 0 Q h 109 [.ref 240, .int p1, .int p2, .int p3, .long v4, jk, .long v6, jk, d8, d9, .int v10, .int v11, .long v12, jk, d14, d15, d16, d17] [.long k0, .long k1] := by
  unfold j_X10_again_109_57 at e
  refine aw_ladd hX d_X10_again_109 ?_
  refine aw_lstore (i := 8) (lv2 := [.ref 240, .int p1, .int p2, .int p3, .long v4, jk, .long v6, jk, .long (k1 + k0), jk, .int v10, .int v11, .long v12, jk, d14, d15, d16, d17]) hX rfl rfl d_X10_again_110 ?_
  refine aw_lload (i := 6) hX rfl d_X10_again_112 ?_
  refine aw_iload (i := 11) hX rfl d_X10_again_114 ?_
  refine aw_iconst (v := 1) hX (by decide) d_X10_again_116 ?_
  refine aw_icmp_eq (t := 126) hX (by decide) d_X10_again_117 (fun c => ?_) (fun c => ?_)
  · rw [if_pos c] at e
    exact tj_X10_again_126_57 hF hX e kI kE0
  · rw [if_neg c] at e
    refine aw_iload (i := 11) hX rfl d_X10_again_120 ?_
    refine aw_iconst (v := 4) hX (by decide) d_X10_again_122 ?_
    refine aw_icmp_ne (t := 131) hX (by decide) d_X10_again_123 (fun c => ?_) (fun c => ?_)
    · rw [if_neg c] at e
      refine aw_lconst (v := 0) hX (by decide) d_X10_again_131 ?_
      exact tj_X10_again_132_57 hF hX e kI kE0
    · rw [if_pos c] at e
      exact tj_X10_again_126_57 hF hX e kI kE0
def l_X10_again_57 (p1 : Int32) (p2 : Int32) (p3 : Int32) (s : (Int64 × Int64 × Int64 × Int32)) (h : AH) : Option (((Int64 × Int64 × Int64 × Int32) ⊕ (Int64 × Int64 × Int64)) × AH) := if (gI h 240 4) ≤ s.2.2.2 then some (.inr (s.1, s.2.1, s.2.2.1), h) else bd (s_X10_buysOf s.2.2.2 h) fun x6 => bd (s_X10_of s.2.2.2 0 h) fun x7 => bd (s_X10_comingOf s.2.2.2 p1 h) fun x8 => bd (ldivF (x7.toInt64 * x8) 1000) fun x9 => if x6 = 0 then j_X10_again_109_57 p1 p2 p3 s.1 s.2.1 s.2.2.2 x6 x9 x9 s.2.2.1 h else j_X10_again_109_57 p1 p2 p3 s.1 s.2.1 s.2.2.2 x6 x9 0 s.2.2.1 h
theorem tb_X10_again_57 {g : GP} {X : MX} {mcR msR : Nat} (hF : gF g = true) (hX : Cx g RX10 cX10_again 4 mcR msR (some .int) [] X) {Q : State → Prop} {p1 : Int32} {p2 : Int32} {p3 : Int32} {s : (Int64 × Int64 × Int64 × Int32)} {d11 : Value} {d12 : Value} {d13 : Value} {d14 : Value} {d15 : Value} {d16 : Value} {d17 : Value} {h hz : AH} {z : ((Int64 × Int64 × Int64 × Int32) ⊕ (Int64 × Int64 × Int64))} (e : l_X10_again_57 p1 p2 p3 s h = some (z, hz)) (kI : ∀ (s2 : (Int64 × Int64 × Int64 × Int32)) (xd11 : Value) (xd12 : Value) (xd13 : Value) (xd14 : Value) (xd15 : Value) (xd16 : Value) (xd17 : Value), z = .inl s2 → AR g X 0 0 Q hz 57 [.ref 240, .int p1, .int p2, .int p3, .long s2.1, jk, .long s2.2.1, jk, .long s2.2.2.1, jk, .int s2.2.2.2, xd11, xd12, xd13, xd14, xd15, xd16, xd17] []) (kE0 : ∀ (yy : (Int64 × Int64 × Int64)) (y10 : Value) (y11 : Value) (y12 : Value) (y13 : Value) (y14 : Value) (y15 : Value) (y16 : Value) (y17 : Value), z = .inr yy → AR g X 0 0 Q hz 170 [.ref 240, .int p1, .int p2, .int p3, .long yy.1, jk, .long yy.2.1, jk, .long yy.2.2, jk, y10, y11, y12, y13, y14, y15, y16, y17] []) : AR g X 0 0 Q h 57 [.ref 240, .int p1, .int p2, .int p3, .long s.1, jk, .long s.2.1, jk, .long s.2.2.1, jk, .int s.2.2.2, d11, d12, d13, d14, d15, d16, d17] [] := by
  unfold l_X10_again_57 at e
  refine aw_iload (i := 10) hX rfl d_X10_again_57 ?_
  refine aw_aload_n (i := 0) hX rfl rfl d_X10_again_59 ?_
  refine ar_getI hX fg_RX10_265 rfl d_X10_again_60 ?_
  refine aw_icmp_ge (t := 170) hX (by decide) d_X10_again_63 (fun c => ?_) (fun c => ?_)
  · rw [if_pos c] at e
    cases e
    exact kE0 (s.1, s.2.1, s.2.2.1) _ _ _ _ _ _ _ _ rfl
  · rw [if_neg c] at e
    refine aw_aload_n (i := 0) hX rfl rfl d_X10_again_66 ?_
    refine aw_iload (i := 10) hX rfl d_X10_again_67 ?_
    obtain ⟨x6, f_1366, e_1366⟩ := bd_some e
    clear e
    refine aw_callV (b := 240) (av := [.int s.2.2.2]) (avr := [.int s.2.2.2]) hX (k_X10_buysOf (cx_g hX) hF f_1366) mi_X10_buysOf rfl rfl w_819 w_820 w_821 (by decide) rfl (LAY_lt rfl (by decide)) rfl rfl (Nat.le_of_ble_eq_true rfl) (Nat.zero_le _) (Nat.zero_le _) d_X10_again_69 ?_
    refine aw_istore (i := 11) (lv2 := [.ref 240, .int p1, .int p2, .int p3, .long s.1, jk, .long s.2.1, jk, .long s.2.2.1, jk, .int s.2.2.2, .int x6, d12, d13, d14, d15, d16, d17]) hX rfl rfl d_X10_again_72 ?_
    refine aw_aload_n (i := 0) hX rfl rfl d_X10_again_74 ?_
    refine aw_iload (i := 10) hX rfl d_X10_again_75 ?_
    refine aw_iconst (v := 0) hX (by decide) d_X10_again_77 ?_
    obtain ⟨x7, f_1367, e_1367⟩ := bd_some e_1366
    clear e_1366
    refine aw_callV (b := 240) (av := [.int s.2.2.2, .int 0]) (avr := [.int 0, .int s.2.2.2]) hX (k_X10_of (cx_g hX) hF f_1367) mi_X10_of rfl rfl w_732 w_733 w_734 (by decide) rfl (LAY_lt rfl (by decide)) rfl rfl (Nat.le_of_ble_eq_true rfl) (Nat.zero_le _) (Nat.zero_le _) d_X10_again_78 ?_
    refine aw_i2l hX d_X10_again_81 ?_
    refine aw_aload_n (i := 0) hX rfl rfl d_X10_again_82 ?_
    refine aw_iload (i := 10) hX rfl d_X10_again_83 ?_
    refine aw_iload_n (i := 1) hX rfl rfl d_X10_again_85 ?_
    obtain ⟨x8, f_1368, e_1368⟩ := bd_some e_1367
    clear e_1367
    refine aw_callV (b := 240) (av := [.int s.2.2.2, .int p1]) (avr := [.int p1, .int s.2.2.2]) hX (k_X10_comingOf (cx_g hX) hF f_1368) mi_X10_comingOf rfl rfl w_823 w_824 w_825 (by decide) rfl (LAY_lt rfl (by decide)) rfl rfl (Nat.le_of_ble_eq_true rfl) (Nat.zero_le _) (Nat.zero_le _) d_X10_again_86 ?_
    refine aw_lmul hX d_X10_again_89 ?_
    refine aw_ldc2 hX w_737 d_X10_again_90 ?_
    obtain ⟨x9, f_1369, e_1369⟩ := bd_some e_1368
    clear e_1368
    refine ar_ldiv hX f_1369 d_X10_again_93 ?_
    refine aw_lstore (i := 12) (lv2 := [.ref 240, .int p1, .int p2, .int p3, .long s.1, jk, .long s.2.1, jk, .long s.2.2.1, jk, .int s.2.2.2, .int x6, .long x9, jk, d14, d15, d16, d17]) hX rfl rfl d_X10_again_94 ?_
    refine aw_lload (i := 8) hX rfl d_X10_again_96 ?_
    refine aw_iload (i := 11) hX rfl d_X10_again_98 ?_
    refine aw_if_ne (t := 108) hX (by decide) d_X10_again_100 (fun c => ?_) (fun c => ?_)
    · rw [if_neg c] at e_1369
      refine aw_lconst (v := 0) hX (by decide) d_X10_again_108 ?_
      exact tj_X10_again_109_57 hF hX e_1369 kI kE0
    · rw [if_pos c] at e_1369
      refine aw_lload (i := 12) hX rfl d_X10_again_103 ?_
      refine aw_goto (t := 109) hX (by decide) d_X10_again_105 ?_
      exact tj_X10_again_109_57 hF hX e_1369 kI kE0
theorem ti_X10_again_57 {g : GP} {X : MX} {mcR msR : Nat} (hF : gF g = true) (hX : Cx g RX10 cX10_again 4 mcR msR (some .int) [] X) {Q : State → Prop} {p1 : Int32} {p2 : Int32} {p3 : Int32} {y : (Int64 × Int64 × Int64)} {hz : AH} (kE0 : ∀ (y_10 : Value) (y_11 : Value) (y_12 : Value) (y_13 : Value) (y_14 : Value) (y_15 : Value) (y_16 : Value) (y_17 : Value), AR g X 0 0 Q hz 170 [.ref 240, .int p1, .int p2, .int p3, .long y.1, jk, .long y.2.1, jk, .long y.2.2, jk, y_10, y_11, y_12, y_13, y_14, y_15, y_16, y_17] []) (n : Nat) : ∀ (s : (Int64 × Int64 × Int64 × Int32)) (d11 : Value) (d12 : Value) (d13 : Value) (d14 : Value) (d15 : Value) (d16 : Value) (d17 : Value) (h : AH), lpH (l_X10_again_57 p1 p2 p3) n s h = some (y, hz) → AR g X 0 0 Q h 57 [.ref 240, .int p1, .int p2, .int p3, .long s.1, jk, .long s.2.1, jk, .long s.2.2.1, jk, .int s.2.2.2, d11, d12, d13, d14, d15, d16, d17] [] := by
  induction n with
  | zero => intro s d11 d12 d13 d14 d15 d16 d17 h e; cases e
  | succ n ih =>
    intro s d11 d12 d13 d14 d15 d16 d17 h e
    obtain ⟨x, h1, e1, e2⟩ := lpH_succ e
    rcases e2 with ⟨s2, rfl, e3⟩ | ⟨rfl, rfl⟩
    · exact tb_X10_again_57 hF hX e1 (fun s3 x0 x1 x2 x3 x4 x5 x6 hs => by cases hs; exact ih _ _ _ _ _ _ _ _ _ e3) (fun yy x0 x1 x2 x3 x4 x5 x6 x7 hy => by cases hy)
    · exact tb_X10_again_57 hF hX e1 (fun s3 x0 x1 x2 x3 x4 x5 x6 hs => by cases hs) (fun yy x0 x1 x2 x3 x4 x5 x6 x7 hy => by cases hy; exact kE0 x0 x1 x2 x3 x4 x5 x6 x7)
theorem t_X10_again_57 {g : GP} {X : MX} {mcR msR : Nat} (hF : gF g = true) (hX : Cx g RX10 cX10_again 4 mcR msR (some .int) [] X) {Q : State → Prop} {p1 : Int32} {p2 : Int32} {p3 : Int32} {s : (Int64 × Int64 × Int64 × Int32)} {d11 : Value} {d12 : Value} {d13 : Value} {d14 : Value} {d15 : Value} {d16 : Value} {d17 : Value} {h hz : AH} {n : Nat} {y : (Int64 × Int64 × Int64)} (e : lpH (l_X10_again_57 p1 p2 p3) n s h = some (y, hz)) (kE0 : ∀ (y_10 : Value) (y_11 : Value) (y_12 : Value) (y_13 : Value) (y_14 : Value) (y_15 : Value) (y_16 : Value) (y_17 : Value), AR g X 0 0 Q hz 170 [.ref 240, .int p1, .int p2, .int p3, .long y.1, jk, .long y.2.1, jk, .long y.2.2, jk, y_10, y_11, y_12, y_13, y_14, y_15, y_16, y_17] []) : AR g X 0 0 Q h 57 [.ref 240, .int p1, .int p2, .int p3, .long s.1, jk, .long s.2.1, jk, .long s.2.2.1, jk, .int s.2.2.2, d11, d12, d13, d14, d15, d16, d17] [] := ti_X10_again_57 hF hX kE0 n _ _ _ _ _ _ _ _ _ e
def j_X10_again_244 (v1 : Int32) (v2 : Int32) (v3 : Int32) (v12 : Int64) (v14 : Int64) (k0 : Int64) (h : AH) : Option (Int32 × AH) := if v3 = 1 then bd (ldI h 241 ((4 * v1) + 1)) fun x13 => bd (s_X10_floor (k0 * ((x13 - v2).toInt64)) 1000 h) fun x14 => some (x14.toInt32, h) else if v3 = 0 then some (k0.toInt32, h) else if v3 = 2 then some (v12.toInt32, h) else some (v14.toInt32, h)
theorem tj_X10_again_244 {g : GP} {X : MX} {mcR msR : Nat} (hF : gF g = true) (hX : Cx g RX10 cX10_again 4 mcR msR (some .int) [] X) {v1 : Int32} {v2 : Int32} {v3 : Int32} {v12 : Int64} {v14 : Int64} {k0 : Int64} {d4 : Value} {d5 : Value} {d6 : Value} {d7 : Value} {d8 : Value} {d9 : Value} {d10 : Value} {d11 : Value} {d16 : Value} {d17 : Value} {h hz : AH} {z : Int32} (e : j_X10_again_244 v1 v2 v3 v12 v14 k0 h = some (z, hz)) : AR g X 0 0 (QQ g X NT false hz (.inl (some (.int z))) 0 0) h 244 [.ref 240, .int v1, .int v2, .int v3, d4, d5, d6, d7, d8, d9, d10, d11, .long v12, jk, .long v14, jk, d16, d17] [.long k0] := by
  unfold j_X10_again_244 at e
  refine aw_lstore (i := 16) (lv2 := [.ref 240, .int v1, .int v2, .int v3, d4, d5, d6, d7, d8, d9, d10, d11, .long v12, jk, .long v14, jk, .long k0, jk]) hX rfl rfl d_X10_again_244 ?_
  refine aw_iload_n (i := 3) hX rfl rfl d_X10_again_246 ?_
  refine aw_iconst (v := 1) hX (by decide) d_X10_again_247 ?_
  refine aw_icmp_eq (t := 274) hX (by decide) d_X10_again_248 (fun c => ?_) (fun c => ?_)
  · rw [if_pos c] at e
    refine aw_lload (i := 16) hX rfl d_X10_again_274 ?_
    refine aw_aload_n (i := 0) hX rfl rfl d_X10_again_276 ?_
    refine ar_getF hX hF fg_RX10_13 rfl d_X10_again_277 ?_
    show AR g X 0 0 _ _ 280 _ [.ref 241, .long k0]
    refine aw_iconst (v := 4) hX (by decide) d_X10_again_280 ?_
    refine aw_iload_n (i := 1) hX rfl rfl d_X10_again_281 ?_
    refine aw_imul hX d_X10_again_282 ?_
    refine aw_iconst (v := 1) hX (by decide) d_X10_again_283 ?_
    refine aw_iadd hX d_X10_again_284 ?_
    obtain ⟨x13, f_1370, e_1370⟩ := bd_some e
    clear e
    refine ar_iaload hX f_1370 d_X10_again_285 ?_
    refine aw_iload_n (i := 2) hX rfl rfl d_X10_again_286 ?_
    refine aw_isub hX d_X10_again_287 ?_
    refine aw_i2l hX d_X10_again_288 ?_
    refine aw_lmul hX d_X10_again_289 ?_
    refine aw_ldc2 hX w_737 d_X10_again_290 ?_
    obtain ⟨x14, f_1371, e_1371⟩ := bd_some e_1370
    clear e_1370
    refine aw_callS (av := [.long (k0 * ((x13 - v2).toInt64)), .long 1000]) (avr := [.long 1000, .long (k0 * ((x13 - v2).toInt64))]) hX (k_X10_floor (cx_g hX) hF f_1371) mi_X10_floor rfl rfl w_827 w_828 rfl (by decide) (Nat.le_of_ble_eq_true rfl) (Nat.zero_le _) (Nat.zero_le _) d_X10_again_293 ?_
    refine aw_l2i hX d_X10_again_296 ?_
    cases e_1371
    exact aw_ireturn hX (Nat.zero_le _) (Nat.zero_le _) d_X10_again_297
  · rw [if_neg c] at e
    refine aw_iload_n (i := 3) hX rfl rfl d_X10_again_251 ?_
    refine aw_if_ne (t := 260) hX (by decide) d_X10_again_252 (fun c => ?_) (fun c => ?_)
    · rw [if_neg c] at e
      refine aw_iload_n (i := 3) hX rfl rfl d_X10_again_260 ?_
      refine aw_iconst (v := 2) hX (by decide) d_X10_again_261 ?_
      refine aw_icmp_ne (t := 270) hX (by decide) d_X10_again_262 (fun c => ?_) (fun c => ?_)
      · rw [if_neg c] at e
        refine aw_lload (i := 14) hX rfl d_X10_again_270 ?_
        refine aw_l2i hX d_X10_again_272 ?_
        cases e
        exact aw_ireturn hX (Nat.zero_le _) (Nat.zero_le _) d_X10_again_273
      · rw [if_pos c] at e
        refine aw_lload (i := 12) hX rfl d_X10_again_265 ?_
        refine aw_goto (t := 272) hX (by decide) d_X10_again_267 ?_
        refine aw_l2i hX d_X10_again_272 ?_
        cases e
        exact aw_ireturn hX (Nat.zero_le _) (Nat.zero_le _) d_X10_again_273
    · rw [if_pos c] at e
      refine aw_lload (i := 16) hX rfl d_X10_again_255 ?_
      refine aw_goto (t := 272) hX (by decide) d_X10_again_257 ?_
      refine aw_l2i hX d_X10_again_272 ?_
      cases e
      exact aw_ireturn hX (Nat.zero_le _) (Nat.zero_le _) d_X10_again_273
def j_X10_again_216 (v1 : Int32) (v2 : Int32) (v3 : Int32) (v4 : Int64) (v6 : Int64) (k0 : Int64) (h : AH) : Option (Int32 × AH) := if ((v4 * 1000000) - v6) ≤ k0 then j_X10_again_244 v1 v2 v3 k0 ((v4 * 1000000) - v6) ((v4 * 1000000) - v6) h else j_X10_again_244 v1 v2 v3 k0 ((v4 * 1000000) - v6) k0 h
theorem tj_X10_again_216 {g : GP} {X : MX} {mcR msR : Nat} (hF : gF g = true) (hX : Cx g RX10 cX10_again 4 mcR msR (some .int) [] X) {v1 : Int32} {v2 : Int32} {v3 : Int32} {v4 : Int64} {v6 : Int64} {k0 : Int64} {d8 : Value} {d9 : Value} {d10 : Value} {d11 : Value} {d12 : Value} {d13 : Value} {d14 : Value} {d15 : Value} {d16 : Value} {d17 : Value} {h hz : AH} {z : Int32} (e : j_X10_again_216 v1 v2 v3 v4 v6 k0 h = some (z, hz)) : AR g X 0 0 (QQ g X NT false hz (.inl (some (.int z))) 0 0) h 216 [.ref 240, .int v1, .int v2, .int v3, .long v4, jk, .long v6, jk, d8, d9, d10, d11, d12, d13, d14, d15, d16, d17] [.long k0] := by
  unfold j_X10_again_216 at e
  refine aw_lstore (i := 12) (lv2 := [.ref 240, .int v1, .int v2, .int v3, .long v4, jk, .long v6, jk, d8, d9, d10, _, .long k0, jk, d14, d15, d16, d17]) hX rfl rfl d_X10_again_216 ?_
  refine aw_lload (i := 4) hX rfl d_X10_again_218 ?_
  refine aw_ldc2 hX w_735 d_X10_again_220 ?_
  refine aw_lmul hX d_X10_again_223 ?_
  refine aw_lload (i := 6) hX rfl d_X10_again_224 ?_
  refine aw_lsub hX d_X10_again_226 ?_
  refine aw_lstore (i := 14) (lv2 := [.ref 240, .int v1, .int v2, .int v3, .long v4, jk, .long v6, jk, d8, d9, d10, _, .long k0, jk, .long ((v4 * 1000000) - v6), jk, d16, d17]) hX rfl rfl d_X10_again_227 ?_
  refine aw_lload (i := 12) hX rfl d_X10_again_229 ?_
  refine aw_lload (i := 14) hX rfl d_X10_again_231 ?_
  refine aw_lcmp hX d_X10_again_233 ?_
  refine aw_if_ge (t := 242) hX (by decide) d_X10_again_234 (fun c => ?_) (fun c => ?_)
  · replace c := lc_ge.mp c
    rw [if_pos c] at e
    refine aw_lload (i := 14) hX rfl d_X10_again_242 ?_
    exact tj_X10_again_244 hF hX e
  · replace c := fun q => c (lc_ge.mpr q)
    rw [if_neg c] at e
    refine aw_lload (i := 12) hX rfl d_X10_again_237 ?_
    refine aw_goto (t := 244) hX (by decide) d_X10_again_239 ?_
    exact tj_X10_again_244 hF hX e
def j_X10_again_197 (v1 : Int32) (v2 : Int32) (v3 : Int32) (v4 : Int64) (v6 : Int64) (v8 : Int64) (k0 : Int64) (h : AH) : Option (Int32 × AH) := if v8 ≤ k0 then j_X10_again_216 v1 v2 v3 v4 v6 0 h else j_X10_again_216 v1 v2 v3 v4 v6 (v8 - k0) h
theorem tj_X10_again_197 {g : GP} {X : MX} {mcR msR : Nat} (hF : gF g = true) (hX : Cx g RX10 cX10_again 4 mcR msR (some .int) [] X) {v1 : Int32} {v2 : Int32} {v3 : Int32} {v4 : Int64} {v6 : Int64} {v8 : Int64} {k0 : Int64} {d10 : Value} {d11 : Value} {d12 : Value} {d13 : Value} {d14 : Value} {d15 : Value} {d16 : Value} {d17 : Value} {h hz : AH} {z : Int32} (e : j_X10_again_197 v1 v2 v3 v4 v6 v8 k0 h = some (z, hz)) : AR g X 0 0 (QQ g X NT false hz (.inl (some (.int z))) 0 0) h 197 [.ref 240, .int v1, .int v2, .int v3, .long v4, jk, .long v6, jk, .long v8, jk, d10, d11, d12, d13, d14, d15, d16, d17] [.long k0] := by
  unfold j_X10_again_197 at e
  refine aw_lstore (i := 10) (lv2 := [.ref 240, .int v1, .int v2, .int v3, .long v4, jk, .long v6, jk, .long v8, jk, .long k0, jk, d12, d13, d14, d15, d16, d17]) hX rfl rfl d_X10_again_197 ?_
  refine aw_lload (i := 8) hX rfl d_X10_again_199 ?_
  refine aw_lload (i := 10) hX rfl d_X10_again_201 ?_
  refine aw_lcmp hX d_X10_again_203 ?_
  refine aw_if_le (t := 215) hX (by decide) d_X10_again_204 (fun c => ?_) (fun c => ?_)
  · replace c := lc_le.mp c
    rw [if_pos c] at e
    refine aw_lconst (v := 0) hX (by decide) d_X10_again_215 ?_
    exact tj_X10_again_216 hF hX e
  · replace c := fun q => c (lc_le.mpr q)
    rw [if_neg c] at e
    refine aw_lload (i := 8) hX rfl d_X10_again_207 ?_
    refine aw_lload (i := 10) hX rfl d_X10_again_209 ?_
    refine aw_lsub hX d_X10_again_211 ?_
    refine aw_goto (t := 216) hX (by decide) d_X10_again_212 ?_
    exact tj_X10_again_216 hF hX e
def s_X10_again (a0 : Int32) (a1 : Int32) (a2 : Int32) (h : AH) : Option (Int32 × AH) := bd (s_X10_isEvening a0 (sI h 240 0 0)) fun q1 => if q1.1 = 0 then some (0, q1.2) else bd (s_X10_within a2 0 3 q1.2) fun x2 => bd (s_X10_right x2 1 q1.2) fun q3 => if q3.1 = 0 then some (0, q3.2) else bd (s_X10_within a1 0 999 q3.2) fun x4 => bd (s_X10_right x4 2 q3.2) fun q5 => if q5.1 = 0 then some (0, q5.2) else bd (lpH (l_X10_again_57 a0 a1 a2) FU (0, 0, 0, 0) q5.2) fun y11 => if y11.1.1 ≤ ((gI y11.2 240 1).toInt64) then j_X10_again_197 a0 a1 a2 y11.1.1 y11.1.2.1 y11.1.2.2 ((((gI y11.2 240 1).toInt64) - y11.1.1) * 1000000) y11.2 else j_X10_again_197 a0 a1 a2 y11.1.1 y11.1.2.1 y11.1.2.2 0 y11.2
theorem t_X10_again {g : GP} {X : MX} {mcR msR : Nat} (hF : gF g = true) (hX : Cx g RX10 cX10_again 4 mcR msR (some .int) [] X) {a0 : Int32} {a1 : Int32} {a2 : Int32} {h hz : AH} {z : Int32} (e : s_X10_again a0 a1 a2 h = some (z, hz)) : AR g X 0 0 (QQ g X NT false hz (.inl (some (.int z))) 0 0) h 0 [.ref 240, .int a0, .int a1, .int a2, jk, jk, jk, jk, jk, jk, jk, jk, jk, jk, jk, jk, jk, jk] [] := by
  unfold s_X10_again at e
  refine aw_aload_n (i := 0) hX rfl rfl d_X10_again_0 ?_
  refine aw_iconst (v := 0) hX (by decide) d_X10_again_1 ?_
  refine ar_putI hX fp_RX10_133 rfl d_X10_again_2 ?_
  refine aw_aload_n (i := 0) hX rfl rfl d_X10_again_5 ?_
  refine aw_iload_n (i := 1) hX rfl rfl d_X10_again_6 ?_
  obtain ⟨q1, f_1372, e_1372⟩ := bd_some e
  clear e
  refine aw_callV (b := 240) (av := [.int a0]) (avr := [.int a0]) hX (k_X10_isEvening (cx_g hX) hF f_1372) mi_X10_isEvening rfl rfl w_807 w_808 w_809 (by decide) rfl (LAY_lt rfl (by decide)) rfl rfl (Nat.le_of_ble_eq_true rfl) (Nat.zero_le _) (Nat.zero_le _) d_X10_again_7 ?_
  refine aw_if_eq (t := 43) hX (by decide) d_X10_again_10 (fun c => ?_) (fun c => ?_)
  · rw [if_pos c] at e_1372
    refine aw_iconst (v := 0) hX (by decide) d_X10_again_43 ?_
    cases e_1372
    exact aw_ireturn hX (Nat.zero_le _) (Nat.zero_le _) d_X10_again_44
  · rw [if_neg c] at e_1372
    refine aw_aload_n (i := 0) hX rfl rfl d_X10_again_13 ?_
    refine aw_iload_n (i := 3) hX rfl rfl d_X10_again_14 ?_
    refine aw_iconst (v := 0) hX (by decide) d_X10_again_15 ?_
    refine aw_iconst (v := 3) hX (by decide) d_X10_again_16 ?_
    obtain ⟨x2, f_1373, e_1373⟩ := bd_some e_1372
    clear e_1372
    refine aw_callS (av := [.int a2, .int 0, .int 3]) (avr := [.int 3, .int 0, .int a2]) hX (k_X10_within (cx_g hX) hF f_1373) mi_X10_within rfl rfl w_800 w_801 rfl (by decide) (Nat.le_of_ble_eq_true rfl) (Nat.zero_le _) (Nat.zero_le _) d_X10_again_17 ?_
    refine aw_iconst (v := 1) hX (by decide) d_X10_again_20 ?_
    obtain ⟨q3, f_1374, e_1374⟩ := bd_some e_1373
    clear e_1373
    refine aw_callV (b := 240) (av := [.int x2, .int 1]) (avr := [.int 1, .int x2]) hX (k_X10_right (cx_g hX) hF f_1374) mi_X10_right rfl rfl w_772 w_773 w_774 (by decide) rfl (LAY_lt rfl (by decide)) rfl rfl (Nat.le_of_ble_eq_true rfl) (Nat.zero_le _) (Nat.zero_le _) d_X10_again_21 ?_
    refine aw_if_eq (t := 43) hX (by decide) d_X10_again_24 (fun c => ?_) (fun c => ?_)
    · rw [if_pos c] at e_1374
      refine aw_iconst (v := 0) hX (by decide) d_X10_again_43 ?_
      cases e_1374
      exact aw_ireturn hX (Nat.zero_le _) (Nat.zero_le _) d_X10_again_44
    · rw [if_neg c] at e_1374
      refine aw_aload_n (i := 0) hX rfl rfl d_X10_again_27 ?_
      refine aw_iload_n (i := 2) hX rfl rfl d_X10_again_28 ?_
      refine aw_iconst (v := 0) hX (by decide) d_X10_again_29 ?_
      refine aw_sipush (v := 999) hX (by decide) d_X10_again_30 ?_
      obtain ⟨x4, f_1375, e_1375⟩ := bd_some e_1374
      clear e_1374
      refine aw_callS (av := [.int a1, .int 0, .int 999]) (avr := [.int 999, .int 0, .int a1]) hX (k_X10_within (cx_g hX) hF f_1375) mi_X10_within rfl rfl w_800 w_801 rfl (by decide) (Nat.le_of_ble_eq_true rfl) (Nat.zero_le _) (Nat.zero_le _) d_X10_again_33 ?_
      refine aw_iconst (v := 2) hX (by decide) d_X10_again_36 ?_
      obtain ⟨q5, f_1376, e_1376⟩ := bd_some e_1375
      clear e_1375
      refine aw_callV (b := 240) (av := [.int x4, .int 2]) (avr := [.int 2, .int x4]) hX (k_X10_right (cx_g hX) hF f_1376) mi_X10_right rfl rfl w_772 w_773 w_774 (by decide) rfl (LAY_lt rfl (by decide)) rfl rfl (Nat.le_of_ble_eq_true rfl) (Nat.zero_le _) (Nat.zero_le _) d_X10_again_37 ?_
      refine aw_if_ne (t := 45) hX (by decide) d_X10_again_40 (fun c => ?_) (fun c => ?_)
      · rw [if_neg c] at e_1376
        refine aw_lconst (v := 0) hX (by decide) d_X10_again_45 ?_
        refine aw_lstore (i := 4) (lv2 := [.ref 240, .int a0, .int a1, .int a2, .long 0, jk, jk, jk, jk, jk, jk, jk, jk, jk, jk, jk, jk, jk]) hX rfl rfl d_X10_again_46 ?_
        refine aw_lconst (v := 0) hX (by decide) d_X10_again_48 ?_
        refine aw_lstore (i := 6) (lv2 := [.ref 240, .int a0, .int a1, .int a2, .long 0, jk, .long 0, jk, jk, jk, jk, jk, jk, jk, jk, jk, jk, jk]) hX rfl rfl d_X10_again_49 ?_
        refine aw_lconst (v := 0) hX (by decide) d_X10_again_51 ?_
        refine aw_lstore (i := 8) (lv2 := [.ref 240, .int a0, .int a1, .int a2, .long 0, jk, .long 0, jk, .long 0, jk, jk, jk, jk, jk, jk, jk, jk, jk]) hX rfl rfl d_X10_again_52 ?_
        refine aw_iconst (v := 0) hX (by decide) d_X10_again_54 ?_
        refine aw_istore (i := 10) (lv2 := [.ref 240, .int a0, .int a1, .int a2, .long 0, jk, .long 0, jk, .long 0, jk, .int 0, jk, jk, jk, jk, jk, jk, jk]) hX rfl rfl d_X10_again_55 ?_
        obtain ⟨y11, f_1377, e_1377⟩ := bd_some e_1376
        clear e_1376
        refine t_X10_again_57 hF hX f_1377 (fun d12_10 d12_11 d12_12 d12_13 d12_14 d12_15 d12_16 d12_17 => ?_)
        refine aw_lload (i := 4) hX rfl d_X10_again_170 ?_
        refine aw_aload_n (i := 0) hX rfl rfl d_X10_again_172 ?_
        refine ar_getI hX fg_RX10_7 rfl d_X10_again_173 ?_
        refine aw_i2l hX d_X10_again_176 ?_
        refine aw_lcmp hX d_X10_again_177 ?_
        refine aw_if_le (t := 185) hX (by decide) d_X10_again_178 (fun c => ?_) (fun c => ?_)
        · replace c := lc_le.mp c
          rw [if_pos c] at e_1377
          refine aw_aload_n (i := 0) hX rfl rfl d_X10_again_185 ?_
          refine ar_getI hX fg_RX10_7 rfl d_X10_again_186 ?_
          refine aw_i2l hX d_X10_again_189 ?_
          refine aw_lload (i := 4) hX rfl d_X10_again_190 ?_
          refine aw_lsub hX d_X10_again_192 ?_
          refine aw_ldc2 hX w_735 d_X10_again_193 ?_
          refine aw_lmul hX d_X10_again_196 ?_
          exact tj_X10_again_197 hF hX e_1377
        · replace c := fun q => c (lc_le.mpr q)
          rw [if_neg c] at e_1377
          refine aw_lconst (v := 0) hX (by decide) d_X10_again_181 ?_
          refine aw_goto (t := 197) hX (by decide) d_X10_again_182 ?_
          exact tj_X10_again_197 hF hX e_1377
      · rw [if_pos c] at e_1376
        refine aw_iconst (v := 0) hX (by decide) d_X10_again_43 ?_
        cases e_1376
        exact aw_ireturn hX (Nat.zero_le _) (Nat.zero_le _) d_X10_again_44
theorem k_X10_again {g : GP} (hg : g.1.stackTraces = false) (hF : gF g = true) {a0 : Int32} {a1 : Int32} {a2 : Int32} {h hz : AH} {z : Int32} (e : s_X10_again a0 a1 a2 h = some (z, hz)) : Ctr g yX10_again (wsY yX10_again cX10_again 18 (some .int)) 4 0 0 [.ref 240, .int a0, .int a1, .int a2] NT false h (some (.int z)) NT false hz := ctr_of (lv0 := [.ref 240, .int a0, .int a1, .int a2, jk, jk, jk, jk, jk, jk, jk, jk, jk, jk, jk, jk, jk, jk]) rfl rfl (by decide) hg trivial (fun X hX hn => t_X10_again hF hX e)
theorem d_X10_pair_0 : decode cX10_pair 0 = .ok (.aload_n 0, 1) := by decide +kernel
theorem d_X10_pair_1 : decode cX10_pair 1 = .ok (.iconst 0, 1) := by decide +kernel
theorem d_X10_pair_2 : decode cX10_pair 2 = .ok (.putfield 133, 3) := by decide +kernel
theorem d_X10_pair_5 : decode cX10_pair 5 = .ok (.aload_n 0, 1) := by decide +kernel
theorem d_X10_pair_6 : decode cX10_pair 6 = .ok (.iload_n 1, 1) := by decide +kernel
theorem d_X10_pair_7 : decode cX10_pair 7 = .ok (.iconst 0, 1) := by decide +kernel
theorem d_X10_pair_8 : decode cX10_pair 8 = .ok (.sipush 9999, 3) := by decide +kernel
theorem d_X10_pair_11 : decode cX10_pair 11 = .ok (.invokestatic 295, 3) := by decide +kernel
theorem d_X10_pair_14 : decode cX10_pair 14 = .ok (.iconst 1, 1) := by decide +kernel
theorem d_X10_pair_15 : decode cX10_pair 15 = .ok (.invokevirtual 253, 3) := by decide +kernel
theorem d_X10_pair_18 : decode cX10_pair 18 = .ok (.ifCond .ne 5, 3) := by decide +kernel
theorem d_X10_pair_21 : decode cX10_pair 21 = .ok (.lconst 0, 1) := by decide +kernel
theorem d_X10_pair_22 : decode cX10_pair 22 = .ok (.lreturn, 1) := by decide +kernel
theorem d_X10_pair_23 : decode cX10_pair 23 = .ok (.aload_n 0, 1) := by decide +kernel
theorem d_X10_pair_24 : decode cX10_pair 24 = .ok (.getfield 262, 3) := by decide +kernel
theorem d_X10_pair_27 : decode cX10_pair 27 = .ok (.iconst 2, 1) := by decide +kernel
theorem d_X10_pair_28 : decode cX10_pair 28 = .ok (.if_icmp .ge 7, 3) := by decide +kernel
theorem d_X10_pair_31 : decode cX10_pair 31 = .ok (.ldc2_w 363, 3) := by decide +kernel
theorem d_X10_pair_34 : decode cX10_pair 34 = .ok (.lreturn, 1) := by decide +kernel
theorem d_X10_pair_35 : decode cX10_pair 35 = .ok (.aload_n 0, 1) := by decide +kernel
theorem d_X10_pair_36 : decode cX10_pair 36 = .ok (.getfield 23, 3) := by decide +kernel
theorem d_X10_pair_39 : decode cX10_pair 39 = .ok (.iconst 3, 1) := by decide +kernel
theorem d_X10_pair_40 : decode cX10_pair 40 = .ok (.iaload, 1) := by decide +kernel
theorem d_X10_pair_41 : decode cX10_pair 41 = .ok (.istore_n 2, 1) := by decide +kernel
theorem d_X10_pair_42 : decode cX10_pair 42 = .ok (.aload_n 0, 1) := by decide +kernel
theorem d_X10_pair_43 : decode cX10_pair 43 = .ok (.getfield 23, 3) := by decide +kernel
theorem d_X10_pair_46 : decode cX10_pair 46 = .ok (.iconst 3, 1) := by decide +kernel
theorem d_X10_pair_47 : decode cX10_pair 47 = .ok (.iload_n 1, 1) := by decide +kernel
theorem d_X10_pair_48 : decode cX10_pair 48 = .ok (.iastore, 1) := by decide +kernel
theorem d_X10_pair_49 : decode cX10_pair 49 = .ok (.iconst 0, 1) := by decide +kernel
theorem d_X10_pair_50 : decode cX10_pair 50 = .ok (.istore_n 3, 1) := by decide +kernel
theorem d_X10_pair_51 : decode cX10_pair 51 = .ok (.iload_n 3, 1) := by decide +kernel
theorem d_X10_pair_52 : decode cX10_pair 52 = .ok (.aload_n 0, 1) := by decide +kernel
theorem d_X10_pair_53 : decode cX10_pair 53 = .ok (.getfield 262, 3) := by decide +kernel
theorem d_X10_pair_56 : decode cX10_pair 56 = .ok (.if_icmp .ge 25, 3) := by decide +kernel
theorem d_X10_pair_59 : decode cX10_pair 59 = .ok (.aload_n 0, 1) := by decide +kernel
theorem d_X10_pair_60 : decode cX10_pair 60 = .ok (.getfield 85, 3) := by decide +kernel
theorem d_X10_pair_63 : decode cX10_pair 63 = .ok (.iload_n 3, 1) := by decide +kernel
theorem d_X10_pair_64 : decode cX10_pair 64 = .ok (.aload_n 0, 1) := by decide +kernel
theorem d_X10_pair_65 : decode cX10_pair 65 = .ok (.getfield 13, 3) := by decide +kernel
theorem d_X10_pair_68 : decode cX10_pair 68 = .ok (.iconst 4, 1) := by decide +kernel
theorem d_X10_pair_69 : decode cX10_pair 69 = .ok (.iload_n 3, 1) := by decide +kernel
theorem d_X10_pair_70 : decode cX10_pair 70 = .ok (.imul, 1) := by decide +kernel
theorem d_X10_pair_71 : decode cX10_pair 71 = .ok (.iconst 3, 1) := by decide +kernel
theorem d_X10_pair_72 : decode cX10_pair 72 = .ok (.iadd, 1) := by decide +kernel
theorem d_X10_pair_73 : decode cX10_pair 73 = .ok (.iaload, 1) := by decide +kernel
theorem d_X10_pair_74 : decode cX10_pair 74 = .ok (.iastore, 1) := by decide +kernel
theorem d_X10_pair_75 : decode cX10_pair 75 = .ok (.iinc 3 1, 3) := by decide +kernel
theorem d_X10_pair_78 : decode cX10_pair 78 = .ok (.goto (-27), 3) := by decide +kernel
theorem d_X10_pair_81 : decode cX10_pair 81 = .ok (.ldc2_w 363, 3) := by decide +kernel
theorem d_X10_pair_84 : decode cX10_pair 84 = .ok (.lstore_n 3, 1) := by decide +kernel
theorem d_X10_pair_85 : decode cX10_pair 85 = .ok (.iconst 0, 1) := by decide +kernel
theorem d_X10_pair_86 : decode cX10_pair 86 = .ok (.istore 5, 2) := by decide +kernel
theorem d_X10_pair_88 : decode cX10_pair 88 = .ok (.iload 5, 2) := by decide +kernel
theorem d_X10_pair_90 : decode cX10_pair 90 = .ok (.aload_n 0, 1) := by decide +kernel
theorem d_X10_pair_91 : decode cX10_pair 91 = .ok (.getfield 262, 3) := by decide +kernel
theorem d_X10_pair_94 : decode cX10_pair 94 = .ok (.if_icmp .ge 134, 3) := by decide +kernel
theorem d_X10_pair_97 : decode cX10_pair 97 = .ok (.iload 5, 2) := by decide +kernel
theorem d_X10_pair_99 : decode cX10_pair 99 = .ok (.iconst 1, 1) := by decide +kernel
theorem d_X10_pair_100 : decode cX10_pair 100 = .ok (.iadd, 1) := by decide +kernel
theorem d_X10_pair_101 : decode cX10_pair 101 = .ok (.istore 6, 2) := by decide +kernel
theorem d_X10_pair_103 : decode cX10_pair 103 = .ok (.iload 6, 2) := by decide +kernel
theorem d_X10_pair_105 : decode cX10_pair 105 = .ok (.aload_n 0, 1) := by decide +kernel
theorem d_X10_pair_106 : decode cX10_pair 106 = .ok (.getfield 262, 3) := by decide +kernel
theorem d_X10_pair_109 : decode cX10_pair 109 = .ok (.if_icmp .ge 113, 3) := by decide +kernel
theorem d_X10_pair_112 : decode cX10_pair 112 = .ok (.iconst 0, 1) := by decide +kernel
theorem d_X10_pair_113 : decode cX10_pair 113 = .ok (.istore 7, 2) := by decide +kernel
theorem d_X10_pair_115 : decode cX10_pair 115 = .ok (.iload 7, 2) := by decide +kernel
theorem d_X10_pair_117 : decode cX10_pair 117 = .ok (.aload_n 0, 1) := by decide +kernel
theorem d_X10_pair_118 : decode cX10_pair 118 = .ok (.getfield 262, 3) := by decide +kernel
theorem d_X10_pair_121 : decode cX10_pair 121 = .ok (.if_icmp .ge 39, 3) := by decide +kernel
theorem d_X10_pair_124 : decode cX10_pair 124 = .ok (.aload_n 0, 1) := by decide +kernel
theorem d_X10_pair_125 : decode cX10_pair 125 = .ok (.getfield 13, 3) := by decide +kernel
theorem d_X10_pair_128 : decode cX10_pair 128 = .ok (.iconst 4, 1) := by decide +kernel
theorem d_X10_pair_129 : decode cX10_pair 129 = .ok (.iload 7, 2) := by decide +kernel
theorem d_X10_pair_131 : decode cX10_pair 131 = .ok (.imul, 1) := by decide +kernel
theorem d_X10_pair_132 : decode cX10_pair 132 = .ok (.iconst 3, 1) := by decide +kernel
theorem d_X10_pair_133 : decode cX10_pair 133 = .ok (.iadd, 1) := by decide +kernel
theorem d_X10_pair_134 : decode cX10_pair 134 = .ok (.iload 7, 2) := by decide +kernel
theorem d_X10_pair_136 : decode cX10_pair 136 = .ok (.iload 5, 2) := by decide +kernel
theorem d_X10_pair_138 : decode cX10_pair 138 = .ok (.if_icmp .eq 10, 3) := by decide +kernel
theorem d_X10_pair_141 : decode cX10_pair 141 = .ok (.iload 7, 2) := by decide +kernel
theorem d_X10_pair_143 : decode cX10_pair 143 = .ok (.iload 6, 2) := by decide +kernel
theorem d_X10_pair_145 : decode cX10_pair 145 = .ok (.if_icmp .ne 7, 3) := by decide +kernel
theorem d_X10_pair_148 : decode cX10_pair 148 = .ok (.iconst 1, 1) := by decide +kernel
theorem d_X10_pair_149 : decode cX10_pair 149 = .ok (.goto 4, 3) := by decide +kernel
theorem d_X10_pair_152 : decode cX10_pair 152 = .ok (.iconst 0, 1) := by decide +kernel
theorem d_X10_pair_153 : decode cX10_pair 153 = .ok (.iastore, 1) := by decide +kernel
theorem d_X10_pair_154 : decode cX10_pair 154 = .ok (.iinc 7 1, 3) := by decide +kernel
theorem d_X10_pair_157 : decode cX10_pair 157 = .ok (.goto (-42), 3) := by decide +kernel
theorem d_X10_pair_160 : decode cX10_pair 160 = .ok (.iconst 0, 1) := by decide +kernel
theorem d_X10_pair_161 : decode cX10_pair 161 = .ok (.istore 7, 2) := by decide +kernel
theorem d_X10_pair_163 : decode cX10_pair 163 = .ok (.iload 7, 2) := by decide +kernel
theorem d_X10_pair_165 : decode cX10_pair 165 = .ok (.aload_n 0, 1) := by decide +kernel
theorem d_X10_pair_166 : decode cX10_pair 166 = .ok (.getfield 265, 3) := by decide +kernel
theorem d_X10_pair_169 : decode cX10_pair 169 = .ok (.if_icmp .ge 16, 3) := by decide +kernel
theorem d_X10_pair_172 : decode cX10_pair 172 = .ok (.aload_n 0, 1) := by decide +kernel
theorem d_X10_pair_173 : decode cX10_pair 173 = .ok (.iload 7, 2) := by decide +kernel
theorem d_X10_pair_175 : decode cX10_pair 175 = .ok (.iconst 3, 1) := by decide +kernel
theorem d_X10_pair_176 : decode cX10_pair 176 = .ok (.invokevirtual 288, 3) := by decide +kernel
theorem d_X10_pair_179 : decode cX10_pair 179 = .ok (.iinc 7 1, 3) := by decide +kernel
theorem d_X10_pair_182 : decode cX10_pair 182 = .ok (.goto (-19), 3) := by decide +kernel
theorem d_X10_pair_185 : decode cX10_pair 185 = .ok (.aload_n 0, 1) := by decide +kernel
theorem d_X10_pair_186 : decode cX10_pair 186 = .ok (.invokevirtual 384, 3) := by decide +kernel
theorem d_X10_pair_189 : decode cX10_pair 189 = .ok (.lstore 7, 2) := by decide +kernel
theorem d_X10_pair_191 : decode cX10_pair 191 = .ok (.lload 7, 2) := by decide +kernel
theorem d_X10_pair_193 : decode cX10_pair 193 = .ok (.lload_n 3, 1) := by decide +kernel
theorem d_X10_pair_194 : decode cX10_pair 194 = .ok (.lcmp, 1) := by decide +kernel
theorem d_X10_pair_195 : decode cX10_pair 195 = .ok (.ifCond .gt 6, 3) := by decide +kernel
theorem d_X10_pair_198 : decode cX10_pair 198 = .ok (.goto 18, 3) := by decide +kernel
theorem d_X10_pair_201 : decode cX10_pair 201 = .ok (.lload 7, 2) := by decide +kernel
theorem d_X10_pair_203 : decode cX10_pair 203 = .ok (.lstore_n 3, 1) := by decide +kernel
theorem d_X10_pair_204 : decode cX10_pair 204 = .ok (.aload_n 0, 1) := by decide +kernel
theorem d_X10_pair_205 : decode cX10_pair 205 = .ok (.iload 5, 2) := by decide +kernel
theorem d_X10_pair_207 : decode cX10_pair 207 = .ok (.putfield 82, 3) := by decide +kernel
theorem d_X10_pair_210 : decode cX10_pair 210 = .ok (.aload_n 0, 1) := by decide +kernel
theorem d_X10_pair_211 : decode cX10_pair 211 = .ok (.iload 6, 2) := by decide +kernel
theorem d_X10_pair_213 : decode cX10_pair 213 = .ok (.putfield 389, 3) := by decide +kernel
theorem d_X10_pair_216 : decode cX10_pair 216 = .ok (.iinc 6 1, 3) := by decide +kernel
theorem d_X10_pair_219 : decode cX10_pair 219 = .ok (.goto (-116), 3) := by decide +kernel
theorem d_X10_pair_222 : decode cX10_pair 222 = .ok (.iinc 5 1, 3) := by decide +kernel
theorem d_X10_pair_225 : decode cX10_pair 225 = .ok (.goto (-137), 3) := by decide +kernel
theorem d_X10_pair_228 : decode cX10_pair 228 = .ok (.aload_n 0, 1) := by decide +kernel
theorem d_X10_pair_229 : decode cX10_pair 229 = .ok (.getfield 23, 3) := by decide +kernel
theorem d_X10_pair_232 : decode cX10_pair 232 = .ok (.iconst 3, 1) := by decide +kernel
theorem d_X10_pair_233 : decode cX10_pair 233 = .ok (.iload_n 2, 1) := by decide +kernel
theorem d_X10_pair_234 : decode cX10_pair 234 = .ok (.iastore, 1) := by decide +kernel
theorem d_X10_pair_235 : decode cX10_pair 235 = .ok (.iconst 0, 1) := by decide +kernel
theorem d_X10_pair_236 : decode cX10_pair 236 = .ok (.istore 5, 2) := by decide +kernel
theorem d_X10_pair_238 : decode cX10_pair 238 = .ok (.iload 5, 2) := by decide +kernel
theorem d_X10_pair_240 : decode cX10_pair 240 = .ok (.aload_n 0, 1) := by decide +kernel
theorem d_X10_pair_241 : decode cX10_pair 241 = .ok (.getfield 262, 3) := by decide +kernel
theorem d_X10_pair_244 : decode cX10_pair 244 = .ok (.if_icmp .ge 27, 3) := by decide +kernel
theorem d_X10_pair_247 : decode cX10_pair 247 = .ok (.aload_n 0, 1) := by decide +kernel
theorem d_X10_pair_248 : decode cX10_pair 248 = .ok (.getfield 13, 3) := by decide +kernel
theorem d_X10_pair_251 : decode cX10_pair 251 = .ok (.iconst 4, 1) := by decide +kernel
theorem d_X10_pair_252 : decode cX10_pair 252 = .ok (.iload 5, 2) := by decide +kernel
theorem d_X10_pair_254 : decode cX10_pair 254 = .ok (.imul, 1) := by decide +kernel
theorem d_X10_pair_255 : decode cX10_pair 255 = .ok (.iconst 3, 1) := by decide +kernel
theorem d_X10_pair_256 : decode cX10_pair 256 = .ok (.iadd, 1) := by decide +kernel
theorem d_X10_pair_257 : decode cX10_pair 257 = .ok (.aload_n 0, 1) := by decide +kernel
theorem d_X10_pair_258 : decode cX10_pair 258 = .ok (.getfield 85, 3) := by decide +kernel
theorem d_X10_pair_261 : decode cX10_pair 261 = .ok (.iload 5, 2) := by decide +kernel
theorem d_X10_pair_263 : decode cX10_pair 263 = .ok (.iaload, 1) := by decide +kernel
theorem d_X10_pair_264 : decode cX10_pair 264 = .ok (.iastore, 1) := by decide +kernel
theorem d_X10_pair_265 : decode cX10_pair 265 = .ok (.iinc 5 1, 3) := by decide +kernel
theorem d_X10_pair_268 : decode cX10_pair 268 = .ok (.goto (-30), 3) := by decide +kernel
theorem d_X10_pair_271 : decode cX10_pair 271 = .ok (.iconst 0, 1) := by decide +kernel
theorem d_X10_pair_272 : decode cX10_pair 272 = .ok (.istore 5, 2) := by decide +kernel
theorem d_X10_pair_274 : decode cX10_pair 274 = .ok (.iload 5, 2) := by decide +kernel
theorem d_X10_pair_276 : decode cX10_pair 276 = .ok (.aload_n 0, 1) := by decide +kernel
theorem d_X10_pair_277 : decode cX10_pair 277 = .ok (.getfield 265, 3) := by decide +kernel
theorem d_X10_pair_280 : decode cX10_pair 280 = .ok (.if_icmp .ge 16, 3) := by decide +kernel
theorem d_X10_pair_283 : decode cX10_pair 283 = .ok (.aload_n 0, 1) := by decide +kernel
theorem d_X10_pair_284 : decode cX10_pair 284 = .ok (.iload 5, 2) := by decide +kernel
theorem d_X10_pair_286 : decode cX10_pair 286 = .ok (.iconst 3, 1) := by decide +kernel
theorem d_X10_pair_287 : decode cX10_pair 287 = .ok (.invokevirtual 288, 3) := by decide +kernel
theorem d_X10_pair_290 : decode cX10_pair 290 = .ok (.iinc 5 1, 3) := by decide +kernel
theorem d_X10_pair_293 : decode cX10_pair 293 = .ok (.goto (-19), 3) := by decide +kernel
theorem d_X10_pair_296 : decode cX10_pair 296 = .ok (.lload_n 3, 1) := by decide +kernel
theorem d_X10_pair_297 : decode cX10_pair 297 = .ok (.lreturn, 1) := by decide +kernel
def l_X10_pair_51 (p2 : Int32) (s : Int32) (h : AH) : Option ((Int32 ⊕ Unit) × AH) := if (gI h 240 3) ≤ s then some (.inr (), h) else bd (ldI h 241 ((4 * s) + 3)) fun x5 => bd (stI h 262 s x5) fun m6 => some (.inl (s + 1), m6)
theorem tb_X10_pair_51 {g : GP} {X : MX} {mcR msR : Nat} (hF : gF g = true) (hX : Cx g RX10 cX10_pair 5 mcR msR (some .long) [] X) {Q : State → Prop} {p2 : Int32} {s : Int32} {d1 : Value} {d4 : Value} {d5 : Value} {d6 : Value} {d7 : Value} {d8 : Value} {h hz : AH} {z : (Int32 ⊕ Unit)} (e : l_X10_pair_51 p2 s h = some (z, hz)) (kI : ∀ (s2 : Int32) (xd1 : Value) (xd4 : Value) (xd5 : Value) (xd6 : Value) (xd7 : Value) (xd8 : Value), z = .inl s2 → AR g X 0 0 Q hz 51 [.ref 240, xd1, .int p2, .int s2, xd4, xd5, xd6, xd7, xd8] []) (kE0 : ∀ (yy : Unit) (y1 : Value) (y3 : Value) (y4 : Value) (y5 : Value) (y6 : Value) (y7 : Value) (y8 : Value), z = .inr yy → AR g X 0 0 Q hz 81 [.ref 240, y1, .int p2, y3, y4, y5, y6, y7, y8] []) : AR g X 0 0 Q h 51 [.ref 240, d1, .int p2, .int s, d4, d5, d6, d7, d8] [] := by
  unfold l_X10_pair_51 at e
  refine aw_iload_n (i := 3) hX rfl rfl d_X10_pair_51 ?_
  refine aw_aload_n (i := 0) hX rfl rfl d_X10_pair_52 ?_
  refine ar_getI hX fg_RX10_262 rfl d_X10_pair_53 ?_
  refine aw_icmp_ge (t := 81) hX (by decide) d_X10_pair_56 (fun c => ?_) (fun c => ?_)
  · rw [if_pos c] at e
    cases e
    exact kE0 () _ _ _ _ _ _ _ rfl
  · rw [if_neg c] at e
    refine aw_aload_n (i := 0) hX rfl rfl d_X10_pair_59 ?_
    refine ar_getF hX hF fg_RX10_85 rfl d_X10_pair_60 ?_
    show AR g X 0 0 _ _ 63 _ [.ref 262]
    refine aw_iload_n (i := 3) hX rfl rfl d_X10_pair_63 ?_
    refine aw_aload_n (i := 0) hX rfl rfl d_X10_pair_64 ?_
    refine ar_getF hX hF fg_RX10_13 rfl d_X10_pair_65 ?_
    show AR g X 0 0 _ _ 68 _ [.ref 241, .int s, .ref 262]
    refine aw_iconst (v := 4) hX (by decide) d_X10_pair_68 ?_
    refine aw_iload_n (i := 3) hX rfl rfl d_X10_pair_69 ?_
    refine aw_imul hX d_X10_pair_70 ?_
    refine aw_iconst (v := 3) hX (by decide) d_X10_pair_71 ?_
    refine aw_iadd hX d_X10_pair_72 ?_
    obtain ⟨x5, f_1378, e_1378⟩ := bd_some e
    clear e
    refine ar_iaload hX f_1378 d_X10_pair_73 ?_
    obtain ⟨m6, f_1379, e_1379⟩ := bd_some e_1378
    clear e_1378
    refine ar_iastore hX f_1379 d_X10_pair_74 ?_
    refine aw_iinc (i := 3) (lv2 := [.ref 240, d1, .int p2, .int (s + 1), d4, d5, d6, d7, d8]) hX rfl rfl rfl rfl d_X10_pair_75 ?_
    refine aw_goto (t := 51) hX (by decide) d_X10_pair_78 ?_
    cases e_1379
    exact kI (s + 1) _ _ _ _ _ _ rfl
theorem ti_X10_pair_51 {g : GP} {X : MX} {mcR msR : Nat} (hF : gF g = true) (hX : Cx g RX10 cX10_pair 5 mcR msR (some .long) [] X) {Q : State → Prop} {p2 : Int32} {y : Unit} {hz : AH} (kE0 : ∀ (y_1 : Value) (y_3 : Value) (y_4 : Value) (y_5 : Value) (y_6 : Value) (y_7 : Value) (y_8 : Value), AR g X 0 0 Q hz 81 [.ref 240, y_1, .int p2, y_3, y_4, y_5, y_6, y_7, y_8] []) (n : Nat) : ∀ (s : Int32) (d1 : Value) (d4 : Value) (d5 : Value) (d6 : Value) (d7 : Value) (d8 : Value) (h : AH), lpH (l_X10_pair_51 p2) n s h = some (y, hz) → AR g X 0 0 Q h 51 [.ref 240, d1, .int p2, .int s, d4, d5, d6, d7, d8] [] := by
  induction n with
  | zero => intro s d1 d4 d5 d6 d7 d8 h e; cases e
  | succ n ih =>
    intro s d1 d4 d5 d6 d7 d8 h e
    obtain ⟨x, h1, e1, e2⟩ := lpH_succ e
    rcases e2 with ⟨s2, rfl, e3⟩ | ⟨rfl, rfl⟩
    · exact tb_X10_pair_51 hF hX e1 (fun s3 x0 x1 x2 x3 x4 x5 hs => by cases hs; exact ih _ _ _ _ _ _ _ _ e3) (fun yy x0 x1 x2 x3 x4 x5 x6 hy => by cases hy)
    · exact tb_X10_pair_51 hF hX e1 (fun s3 x0 x1 x2 x3 x4 x5 hs => by cases hs) (fun yy x0 x1 x2 x3 x4 x5 x6 hy => by cases hy; exact kE0 x0 x1 x2 x3 x4 x5 x6)
theorem t_X10_pair_51 {g : GP} {X : MX} {mcR msR : Nat} (hF : gF g = true) (hX : Cx g RX10 cX10_pair 5 mcR msR (some .long) [] X) {Q : State → Prop} {p2 : Int32} {s : Int32} {d1 : Value} {d4 : Value} {d5 : Value} {d6 : Value} {d7 : Value} {d8 : Value} {h hz : AH} {n : Nat} {y : Unit} (e : lpH (l_X10_pair_51 p2) n s h = some (y, hz)) (kE0 : ∀ (y_1 : Value) (y_3 : Value) (y_4 : Value) (y_5 : Value) (y_6 : Value) (y_7 : Value) (y_8 : Value), AR g X 0 0 Q hz 81 [.ref 240, y_1, .int p2, y_3, y_4, y_5, y_6, y_7, y_8] []) : AR g X 0 0 Q h 51 [.ref 240, d1, .int p2, .int s, d4, d5, d6, d7, d8] [] := ti_X10_pair_51 hF hX kE0 n _ _ _ _ _ _ _ _ e
def j_X10_pair_153_115 (p2 : Int32) (p3 : Int64) (p5 : Int32) (p6 : Int32) (v7 : Int32) (k0 : Int32) (k1 : Int32) (h : AH) : Option ((Int32 ⊕ Unit) × AH) := bd (stI h 241 k1 k0) fun m9 => some (.inl (v7 + 1), m9)
theorem tj_X10_pair_153_115 {g : GP} {X : MX} {mcR msR : Nat} (hF : gF g = true) (hX : Cx g RX10 cX10_pair 5 mcR msR (some .long) [] X) {Q : State → Prop} {p2 : Int32} {p3 : Int64} {p5 : Int32} {p6 : Int32} {v7 : Int32} {k0 : Int32} {k1 : Int32} {d1 : Value} {d8 : Value} {h hz : AH} {z : (Int32 ⊕ Unit)} (e : j_X10_pair_153_115 p2 p3 p5 p6 v7 k0 k1 h = some (z, hz)) (kI : ∀ (s2 : Int32) (xd1 : Value) (xd8 : Value), z = .inl s2 → AR g X 0 0 Q hz 115 [.ref 240, xd1, .int p2, .long p3, jk, .int p5, .int p6, .int s2, xd8] []) (kE0 : ∀ (yy : Unit) (y1 : Value) (y7 : Value) (y8 : Value), z = .inr yy → AR g X 0 0 Q hz 160 [.ref 240, y1, .int p2, .long p3, jk, .int p5, .int p6, y7, y8] []) : AR g X 0 0 Q h 153 [.ref 240, d1, .int p2, .long p3, jk, .int p5, .int p6, .int v7, d8] [.int k0, .int k1, .ref 241] := by
  unfold j_X10_pair_153_115 at e
  obtain ⟨m9, f_1380, e_1380⟩ := bd_some e
  clear e
  refine ar_iastore hX f_1380 d_X10_pair_153 ?_
  refine aw_iinc (i := 7) (lv2 := [.ref 240, d1, .int p2, .long p3, jk, .int p5, .int p6, .int (v7 + 1), d8]) hX rfl rfl rfl rfl d_X10_pair_154 ?_
  refine aw_goto (t := 115) hX (by decide) d_X10_pair_157 ?_
  cases e_1380
  exact kI (v7 + 1) _ _ rfl
def j_X10_pair_148_115 (p2 : Int32) (p3 : Int64) (p5 : Int32) (p6 : Int32) (v7 : Int32) (k0 : Int32) (h : AH) : Option ((Int32 ⊕ Unit) × AH) := j_X10_pair_153_115 p2 p3 p5 p6 v7 1 k0 h
theorem tj_X10_pair_148_115 {g : GP} {X : MX} {mcR msR : Nat} (hF : gF g = true) (hX : Cx g RX10 cX10_pair 5 mcR msR (some .long) [] X) {Q : State → Prop} {p2 : Int32} {p3 : Int64} {p5 : Int32} {p6 : Int32} {v7 : Int32} {k0 : Int32} {d1 : Value} {d8 : Value} {h hz : AH} {z : (Int32 ⊕ Unit)} (e : j_X10_pair_148_115 p2 p3 p5 p6 v7 k0 h = some (z, hz)) (kI : ∀ (s2 : Int32) (xd1 : Value) (xd8 : Value), z = .inl s2 → AR g X 0 0 Q hz 115 [.ref 240, xd1, .int p2, .long p3, jk, .int p5, .int p6, .int s2, xd8] []) (kE0 : ∀ (yy : Unit) (y1 : Value) (y7 : Value) (y8 : Value), z = .inr yy → AR g X 0 0 Q hz 160 [.ref 240, y1, .int p2, .long p3, jk, .int p5, .int p6, y7, y8] []) : AR g X 0 0 Q h 148 [.ref 240, d1, .int p2, .long p3, jk, .int p5, .int p6, .int v7, d8] [.int k0, .ref 241] := by
  unfold j_X10_pair_148_115 at e
  refine aw_iconst (v := 1) hX (by decide) d_X10_pair_148 ?_
  refine aw_goto (t := 153) hX (by decide) d_X10_pair_149 ?_
  exact tj_X10_pair_153_115 hF hX e kI kE0
def l_X10_pair_115 (p2 : Int32) (p3 : Int64) (p5 : Int32) (p6 : Int32) (s : Int32) (h : AH) : Option ((Int32 ⊕ Unit) × AH) := if (gI h 240 3) ≤ s then some (.inr (), h) else if s = p5 then j_X10_pair_148_115 p2 p3 p5 p6 s ((4 * s) + 3) h else if s = p6 then j_X10_pair_148_115 p2 p3 p5 p6 s ((4 * s) + 3) h else j_X10_pair_153_115 p2 p3 p5 p6 s 0 ((4 * s) + 3) h
theorem tb_X10_pair_115 {g : GP} {X : MX} {mcR msR : Nat} (hF : gF g = true) (hX : Cx g RX10 cX10_pair 5 mcR msR (some .long) [] X) {Q : State → Prop} {p2 : Int32} {p3 : Int64} {p5 : Int32} {p6 : Int32} {s : Int32} {d1 : Value} {d8 : Value} {h hz : AH} {z : (Int32 ⊕ Unit)} (e : l_X10_pair_115 p2 p3 p5 p6 s h = some (z, hz)) (kI : ∀ (s2 : Int32) (xd1 : Value) (xd8 : Value), z = .inl s2 → AR g X 0 0 Q hz 115 [.ref 240, xd1, .int p2, .long p3, jk, .int p5, .int p6, .int s2, xd8] []) (kE0 : ∀ (yy : Unit) (y1 : Value) (y7 : Value) (y8 : Value), z = .inr yy → AR g X 0 0 Q hz 160 [.ref 240, y1, .int p2, .long p3, jk, .int p5, .int p6, y7, y8] []) : AR g X 0 0 Q h 115 [.ref 240, d1, .int p2, .long p3, jk, .int p5, .int p6, .int s, d8] [] := by
  unfold l_X10_pair_115 at e
  refine aw_iload (i := 7) hX rfl d_X10_pair_115 ?_
  refine aw_aload_n (i := 0) hX rfl rfl d_X10_pair_117 ?_
  refine ar_getI hX fg_RX10_262 rfl d_X10_pair_118 ?_
  refine aw_icmp_ge (t := 160) hX (by decide) d_X10_pair_121 (fun c => ?_) (fun c => ?_)
  · rw [if_pos c] at e
    cases e
    exact kE0 () _ _ _ rfl
  · rw [if_neg c] at e
    refine aw_aload_n (i := 0) hX rfl rfl d_X10_pair_124 ?_
    refine ar_getF hX hF fg_RX10_13 rfl d_X10_pair_125 ?_
    show AR g X 0 0 _ _ 128 _ [.ref 241]
    refine aw_iconst (v := 4) hX (by decide) d_X10_pair_128 ?_
    refine aw_iload (i := 7) hX rfl d_X10_pair_129 ?_
    refine aw_imul hX d_X10_pair_131 ?_
    refine aw_iconst (v := 3) hX (by decide) d_X10_pair_132 ?_
    refine aw_iadd hX d_X10_pair_133 ?_
    refine aw_iload (i := 7) hX rfl d_X10_pair_134 ?_
    refine aw_iload (i := 5) hX rfl d_X10_pair_136 ?_
    refine aw_icmp_eq (t := 148) hX (by decide) d_X10_pair_138 (fun c => ?_) (fun c => ?_)
    · rw [if_pos c] at e
      exact tj_X10_pair_148_115 hF hX e kI kE0
    · rw [if_neg c] at e
      refine aw_iload (i := 7) hX rfl d_X10_pair_141 ?_
      refine aw_iload (i := 6) hX rfl d_X10_pair_143 ?_
      refine aw_icmp_ne (t := 152) hX (by decide) d_X10_pair_145 (fun c => ?_) (fun c => ?_)
      · rw [if_neg c] at e
        refine aw_iconst (v := 0) hX (by decide) d_X10_pair_152 ?_
        exact tj_X10_pair_153_115 hF hX e kI kE0
      · rw [if_pos c] at e
        exact tj_X10_pair_148_115 hF hX e kI kE0
theorem ti_X10_pair_115 {g : GP} {X : MX} {mcR msR : Nat} (hF : gF g = true) (hX : Cx g RX10 cX10_pair 5 mcR msR (some .long) [] X) {Q : State → Prop} {p2 : Int32} {p3 : Int64} {p5 : Int32} {p6 : Int32} {y : Unit} {hz : AH} (kE0 : ∀ (y_1 : Value) (y_7 : Value) (y_8 : Value), AR g X 0 0 Q hz 160 [.ref 240, y_1, .int p2, .long p3, jk, .int p5, .int p6, y_7, y_8] []) (n : Nat) : ∀ (s : Int32) (d1 : Value) (d8 : Value) (h : AH), lpH (l_X10_pair_115 p2 p3 p5 p6) n s h = some (y, hz) → AR g X 0 0 Q h 115 [.ref 240, d1, .int p2, .long p3, jk, .int p5, .int p6, .int s, d8] [] := by
  induction n with
  | zero => intro s d1 d8 h e; cases e
  | succ n ih =>
    intro s d1 d8 h e
    obtain ⟨x, h1, e1, e2⟩ := lpH_succ e
    rcases e2 with ⟨s2, rfl, e3⟩ | ⟨rfl, rfl⟩
    · exact tb_X10_pair_115 hF hX e1 (fun s3 x0 x1 hs => by cases hs; exact ih _ _ _ _ e3) (fun yy x0 x1 x2 hy => by cases hy)
    · exact tb_X10_pair_115 hF hX e1 (fun s3 x0 x1 hs => by cases hs) (fun yy x0 x1 x2 hy => by cases hy; exact kE0 x0 x1 x2)
theorem t_X10_pair_115 {g : GP} {X : MX} {mcR msR : Nat} (hF : gF g = true) (hX : Cx g RX10 cX10_pair 5 mcR msR (some .long) [] X) {Q : State → Prop} {p2 : Int32} {p3 : Int64} {p5 : Int32} {p6 : Int32} {s : Int32} {d1 : Value} {d8 : Value} {h hz : AH} {n : Nat} {y : Unit} (e : lpH (l_X10_pair_115 p2 p3 p5 p6) n s h = some (y, hz)) (kE0 : ∀ (y_1 : Value) (y_7 : Value) (y_8 : Value), AR g X 0 0 Q hz 160 [.ref 240, y_1, .int p2, .long p3, jk, .int p5, .int p6, y_7, y_8] []) : AR g X 0 0 Q h 115 [.ref 240, d1, .int p2, .long p3, jk, .int p5, .int p6, .int s, d8] [] := ti_X10_pair_115 hF hX kE0 n _ _ _ _ e
def l_X10_pair_163 (p2 : Int32) (p3 : Int64) (p5 : Int32) (p6 : Int32) (s : Int32) (h : AH) : Option ((Int32 ⊕ Unit) × AH) := if (gI h 240 4) ≤ s then some (.inr (), h) else bd (s_X10_works s 3 h) fun q12 => some (.inl (s + 1), q12.2)
theorem tb_X10_pair_163 {g : GP} {X : MX} {mcR msR : Nat} (hF : gF g = true) (hX : Cx g RX10 cX10_pair 5 mcR msR (some .long) [] X) {Q : State → Prop} {p2 : Int32} {p3 : Int64} {p5 : Int32} {p6 : Int32} {s : Int32} {d1 : Value} {d8 : Value} {h hz : AH} {z : (Int32 ⊕ Unit)} (e : l_X10_pair_163 p2 p3 p5 p6 s h = some (z, hz)) (kI : ∀ (s2 : Int32) (xd1 : Value) (xd8 : Value), z = .inl s2 → AR g X 0 0 Q hz 163 [.ref 240, xd1, .int p2, .long p3, jk, .int p5, .int p6, .int s2, xd8] []) (kE0 : ∀ (yy : Unit) (y1 : Value) (y7 : Value) (y8 : Value), z = .inr yy → AR g X 0 0 Q hz 185 [.ref 240, y1, .int p2, .long p3, jk, .int p5, .int p6, y7, y8] []) : AR g X 0 0 Q h 163 [.ref 240, d1, .int p2, .long p3, jk, .int p5, .int p6, .int s, d8] [] := by
  unfold l_X10_pair_163 at e
  refine aw_iload (i := 7) hX rfl d_X10_pair_163 ?_
  refine aw_aload_n (i := 0) hX rfl rfl d_X10_pair_165 ?_
  refine ar_getI hX fg_RX10_265 rfl d_X10_pair_166 ?_
  refine aw_icmp_ge (t := 185) hX (by decide) d_X10_pair_169 (fun c => ?_) (fun c => ?_)
  · rw [if_pos c] at e
    cases e
    exact kE0 () _ _ _ rfl
  · rw [if_neg c] at e
    refine aw_aload_n (i := 0) hX rfl rfl d_X10_pair_172 ?_
    refine aw_iload (i := 7) hX rfl d_X10_pair_173 ?_
    refine aw_iconst (v := 3) hX (by decide) d_X10_pair_175 ?_
    obtain ⟨q12, f_1381, e_1381⟩ := bd_some e
    clear e
    refine aw_callV (b := 240) (av := [.int s, .int 3]) (avr := [.int 3, .int s]) hX (k_X10_works (cx_g hX) hF f_1381) mi_X10_works rfl rfl w_795 w_796 w_797 (by decide) rfl (LAY_lt rfl (by decide)) rfl rfl (Nat.le_of_ble_eq_true rfl) (Nat.zero_le _) (Nat.zero_le _) d_X10_pair_176 ?_
    refine aw_iinc (i := 7) (lv2 := [.ref 240, d1, .int p2, .long p3, jk, .int p5, .int p6, .int (s + 1), d8]) hX rfl rfl rfl rfl d_X10_pair_179 ?_
    refine aw_goto (t := 163) hX (by decide) d_X10_pair_182 ?_
    cases e_1381
    exact kI (s + 1) _ _ rfl
theorem ti_X10_pair_163 {g : GP} {X : MX} {mcR msR : Nat} (hF : gF g = true) (hX : Cx g RX10 cX10_pair 5 mcR msR (some .long) [] X) {Q : State → Prop} {p2 : Int32} {p3 : Int64} {p5 : Int32} {p6 : Int32} {y : Unit} {hz : AH} (kE0 : ∀ (y_1 : Value) (y_7 : Value) (y_8 : Value), AR g X 0 0 Q hz 185 [.ref 240, y_1, .int p2, .long p3, jk, .int p5, .int p6, y_7, y_8] []) (n : Nat) : ∀ (s : Int32) (d1 : Value) (d8 : Value) (h : AH), lpH (l_X10_pair_163 p2 p3 p5 p6) n s h = some (y, hz) → AR g X 0 0 Q h 163 [.ref 240, d1, .int p2, .long p3, jk, .int p5, .int p6, .int s, d8] [] := by
  induction n with
  | zero => intro s d1 d8 h e; cases e
  | succ n ih =>
    intro s d1 d8 h e
    obtain ⟨x, h1, e1, e2⟩ := lpH_succ e
    rcases e2 with ⟨s2, rfl, e3⟩ | ⟨rfl, rfl⟩
    · exact tb_X10_pair_163 hF hX e1 (fun s3 x0 x1 hs => by cases hs; exact ih _ _ _ _ e3) (fun yy x0 x1 x2 hy => by cases hy)
    · exact tb_X10_pair_163 hF hX e1 (fun s3 x0 x1 hs => by cases hs) (fun yy x0 x1 x2 hy => by cases hy; exact kE0 x0 x1 x2)
theorem t_X10_pair_163 {g : GP} {X : MX} {mcR msR : Nat} (hF : gF g = true) (hX : Cx g RX10 cX10_pair 5 mcR msR (some .long) [] X) {Q : State → Prop} {p2 : Int32} {p3 : Int64} {p5 : Int32} {p6 : Int32} {s : Int32} {d1 : Value} {d8 : Value} {h hz : AH} {n : Nat} {y : Unit} (e : lpH (l_X10_pair_163 p2 p3 p5 p6) n s h = some (y, hz)) (kE0 : ∀ (y_1 : Value) (y_7 : Value) (y_8 : Value), AR g X 0 0 Q hz 185 [.ref 240, y_1, .int p2, .long p3, jk, .int p5, .int p6, y_7, y_8] []) : AR g X 0 0 Q h 163 [.ref 240, d1, .int p2, .long p3, jk, .int p5, .int p6, .int s, d8] [] := ti_X10_pair_163 hF hX kE0 n _ _ _ _ e
def j_X10_pair_216_103 (p2 : Int32) (v3 : Int64) (p5 : Int32) (v6 : Int32) (h : AH) : Option (((Int64 × Int32) ⊕ Int64) × AH) := some (.inl (v3, v6 + 1), h)
theorem tj_X10_pair_216_103 {g : GP} {X : MX} {mcR msR : Nat} (hF : gF g = true) (hX : Cx g RX10 cX10_pair 5 mcR msR (some .long) [] X) {Q : State → Prop} {p2 : Int32} {v3 : Int64} {p5 : Int32} {v6 : Int32} {d1 : Value} {d7 : Value} {d8 : Value} {h hz : AH} {z : ((Int64 × Int32) ⊕ Int64)} (e : j_X10_pair_216_103 p2 v3 p5 v6 h = some (z, hz)) (kI : ∀ (s2 : (Int64 × Int32)) (xd1 : Value) (xd7 : Value) (xd8 : Value), z = .inl s2 → AR g X 0 0 Q hz 103 [.ref 240, xd1, .int p2, .long s2.1, jk, .int p5, .int s2.2, xd7, xd8] []) (kE0 : ∀ (yy : Int64) (y1 : Value) (y6 : Value) (y7 : Value) (y8 : Value), z = .inr yy → AR g X 0 0 Q hz 222 [.ref 240, y1, .int p2, .long yy, jk, .int p5, y6, y7, y8] []) : AR g X 0 0 Q h 216 [.ref 240, d1, .int p2, .long v3, jk, .int p5, .int v6, d7, d8] [] := by
  unfold j_X10_pair_216_103 at e
  refine aw_iinc (i := 6) (lv2 := [.ref 240, d1, .int p2, .long v3, jk, .int p5, .int (v6 + 1), d7, d8]) hX rfl rfl rfl rfl d_X10_pair_216 ?_
  refine aw_goto (t := 103) hX (by decide) d_X10_pair_219 ?_
  cases e
  exact kI (v3, v6 + 1) _ _ _ rfl
def l_X10_pair_103 (p2 : Int32) (p5 : Int32) (s : (Int64 × Int32)) (h : AH) : Option (((Int64 × Int32) ⊕ Int64) × AH) := if (gI h 240 3) ≤ s.2 then some (.inr s.1, h) else bd (lpH (l_X10_pair_115 p2 s.1 p5 s.2) FU 0 h) fun y10 => bd (lpH (l_X10_pair_163 p2 s.1 p5 s.2) FU 0 y10.2) fun y13 => bd (s_X10_earnsNow y13.2) fun x15 => if s.1 < x15 then j_X10_pair_216_103 p2 x15 p5 s.2 (sI (sI y13.2 240 48 p5) 240 49 s.2) else j_X10_pair_216_103 p2 s.1 p5 s.2 y13.2
theorem tb_X10_pair_103 {g : GP} {X : MX} {mcR msR : Nat} (hF : gF g = true) (hX : Cx g RX10 cX10_pair 5 mcR msR (some .long) [] X) {Q : State → Prop} {p2 : Int32} {p5 : Int32} {s : (Int64 × Int32)} {d1 : Value} {d7 : Value} {d8 : Value} {h hz : AH} {z : ((Int64 × Int32) ⊕ Int64)} (e : l_X10_pair_103 p2 p5 s h = some (z, hz)) (kI : ∀ (s2 : (Int64 × Int32)) (xd1 : Value) (xd7 : Value) (xd8 : Value), z = .inl s2 → AR g X 0 0 Q hz 103 [.ref 240, xd1, .int p2, .long s2.1, jk, .int p5, .int s2.2, xd7, xd8] []) (kE0 : ∀ (yy : Int64) (y1 : Value) (y6 : Value) (y7 : Value) (y8 : Value), z = .inr yy → AR g X 0 0 Q hz 222 [.ref 240, y1, .int p2, .long yy, jk, .int p5, y6, y7, y8] []) : AR g X 0 0 Q h 103 [.ref 240, d1, .int p2, .long s.1, jk, .int p5, .int s.2, d7, d8] [] := by
  unfold l_X10_pair_103 at e
  refine aw_iload (i := 6) hX rfl d_X10_pair_103 ?_
  refine aw_aload_n (i := 0) hX rfl rfl d_X10_pair_105 ?_
  refine ar_getI hX fg_RX10_262 rfl d_X10_pair_106 ?_
  refine aw_icmp_ge (t := 222) hX (by decide) d_X10_pair_109 (fun c => ?_) (fun c => ?_)
  · rw [if_pos c] at e
    cases e
    exact kE0 s.1 _ _ _ _ rfl
  · rw [if_neg c] at e
    refine aw_iconst (v := 0) hX (by decide) d_X10_pair_112 ?_
    refine aw_istore (i := 7) (lv2 := [.ref 240, d1, .int p2, .long s.1, jk, .int p5, .int s.2, .int 0, d8]) hX rfl rfl d_X10_pair_113 ?_
    obtain ⟨y10, f_1382, e_1382⟩ := bd_some e
    clear e
    refine t_X10_pair_115 hF hX f_1382 (fun d11_1 d11_7 d11_8 => ?_)
    refine aw_iconst (v := 0) hX (by decide) d_X10_pair_160 ?_
    refine aw_istore (i := 7) (lv2 := [.ref 240, d11_1, .int p2, .long s.1, jk, .int p5, .int s.2, .int 0, d11_8]) hX rfl rfl d_X10_pair_161 ?_
    obtain ⟨y13, f_1383, e_1383⟩ := bd_some e_1382
    clear e_1382
    refine t_X10_pair_163 hF hX f_1383 (fun d14_1 d14_7 d14_8 => ?_)
    refine aw_aload_n (i := 0) hX rfl rfl d_X10_pair_185 ?_
    obtain ⟨x15, f_1384, e_1384⟩ := bd_some e_1383
    clear e_1383
    refine aw_callV (b := 240) (av := []) (avr := []) hX (k_X10_earnsNow (cx_g hX) hF f_1384) mi_X10_earnsNow rfl rfl w_861 w_862 w_863 (by decide) rfl (LAY_lt rfl (by decide)) rfl rfl (Nat.le_of_ble_eq_true rfl) (Nat.zero_le _) (Nat.zero_le _) d_X10_pair_186 ?_
    refine aw_lstore (i := 7) (lv2 := [.ref 240, d14_1, .int p2, .long s.1, jk, .int p5, .int s.2, .long x15, jk]) hX rfl rfl d_X10_pair_189 ?_
    refine aw_lload (i := 7) hX rfl d_X10_pair_191 ?_
    refine aw_lload_n (i := 3) hX rfl rfl d_X10_pair_193 ?_
    refine aw_lcmp hX d_X10_pair_194 ?_
    refine aw_if_gt (t := 201) hX (by decide) d_X10_pair_195 (fun c => ?_) (fun c => ?_)
    · replace c := lc_gt.mp c
      rw [if_pos c] at e_1384
      refine aw_lload (i := 7) hX rfl d_X10_pair_201 ?_
      refine aw_lstore_n (i := 3) (lv2 := [.ref 240, d14_1, .int p2, .long x15, jk, .int p5, .int s.2, .long x15, jk]) hX rfl rfl rfl d_X10_pair_203 ?_
      refine aw_aload_n (i := 0) hX rfl rfl d_X10_pair_204 ?_
      refine aw_iload (i := 5) hX rfl d_X10_pair_205 ?_
      refine ar_putI hX fp_RX10_82 rfl d_X10_pair_207 ?_
      refine aw_aload_n (i := 0) hX rfl rfl d_X10_pair_210 ?_
      refine aw_iload (i := 6) hX rfl d_X10_pair_211 ?_
      refine ar_putI hX fp_RX10_389 rfl d_X10_pair_213 ?_
      exact tj_X10_pair_216_103 hF hX e_1384 kI kE0
    · replace c := fun q => c (lc_gt.mpr q)
      rw [if_neg c] at e_1384
      refine aw_goto (t := 216) hX (by decide) d_X10_pair_198 ?_
      exact tj_X10_pair_216_103 hF hX e_1384 kI kE0
theorem ti_X10_pair_103 {g : GP} {X : MX} {mcR msR : Nat} (hF : gF g = true) (hX : Cx g RX10 cX10_pair 5 mcR msR (some .long) [] X) {Q : State → Prop} {p2 : Int32} {p5 : Int32} {y : Int64} {hz : AH} (kE0 : ∀ (y_1 : Value) (y_6 : Value) (y_7 : Value) (y_8 : Value), AR g X 0 0 Q hz 222 [.ref 240, y_1, .int p2, .long y, jk, .int p5, y_6, y_7, y_8] []) (n : Nat) : ∀ (s : (Int64 × Int32)) (d1 : Value) (d7 : Value) (d8 : Value) (h : AH), lpH (l_X10_pair_103 p2 p5) n s h = some (y, hz) → AR g X 0 0 Q h 103 [.ref 240, d1, .int p2, .long s.1, jk, .int p5, .int s.2, d7, d8] [] := by
  induction n with
  | zero => intro s d1 d7 d8 h e; cases e
  | succ n ih =>
    intro s d1 d7 d8 h e
    obtain ⟨x, h1, e1, e2⟩ := lpH_succ e
    rcases e2 with ⟨s2, rfl, e3⟩ | ⟨rfl, rfl⟩
    · exact tb_X10_pair_103 hF hX e1 (fun s3 x0 x1 x2 hs => by cases hs; exact ih _ _ _ _ _ e3) (fun yy x0 x1 x2 x3 hy => by cases hy)
    · exact tb_X10_pair_103 hF hX e1 (fun s3 x0 x1 x2 hs => by cases hs) (fun yy x0 x1 x2 x3 hy => by cases hy; exact kE0 x0 x1 x2 x3)
theorem t_X10_pair_103 {g : GP} {X : MX} {mcR msR : Nat} (hF : gF g = true) (hX : Cx g RX10 cX10_pair 5 mcR msR (some .long) [] X) {Q : State → Prop} {p2 : Int32} {p5 : Int32} {s : (Int64 × Int32)} {d1 : Value} {d7 : Value} {d8 : Value} {h hz : AH} {n : Nat} {y : Int64} (e : lpH (l_X10_pair_103 p2 p5) n s h = some (y, hz)) (kE0 : ∀ (y_1 : Value) (y_6 : Value) (y_7 : Value) (y_8 : Value), AR g X 0 0 Q hz 222 [.ref 240, y_1, .int p2, .long y, jk, .int p5, y_6, y_7, y_8] []) : AR g X 0 0 Q h 103 [.ref 240, d1, .int p2, .long s.1, jk, .int p5, .int s.2, d7, d8] [] := ti_X10_pair_103 hF hX kE0 n _ _ _ _ _ e
def l_X10_pair_88 (p2 : Int32) (s : (Int64 × Int32)) (h : AH) : Option (((Int64 × Int32) ⊕ Int64) × AH) := if (gI h 240 3) ≤ s.2 then some (.inr s.1, h) else bd (lpH (l_X10_pair_103 p2 s.2) FU (s.1, (s.2 + 1)) h) fun y16 => some (.inl (y16.1, s.2 + 1), y16.2)
theorem tb_X10_pair_88 {g : GP} {X : MX} {mcR msR : Nat} (hF : gF g = true) (hX : Cx g RX10 cX10_pair 5 mcR msR (some .long) [] X) {Q : State → Prop} {p2 : Int32} {s : (Int64 × Int32)} {d1 : Value} {d6 : Value} {d7 : Value} {d8 : Value} {h hz : AH} {z : ((Int64 × Int32) ⊕ Int64)} (e : l_X10_pair_88 p2 s h = some (z, hz)) (kI : ∀ (s2 : (Int64 × Int32)) (xd1 : Value) (xd6 : Value) (xd7 : Value) (xd8 : Value), z = .inl s2 → AR g X 0 0 Q hz 88 [.ref 240, xd1, .int p2, .long s2.1, jk, .int s2.2, xd6, xd7, xd8] []) (kE0 : ∀ (yy : Int64) (y1 : Value) (y5 : Value) (y6 : Value) (y7 : Value) (y8 : Value), z = .inr yy → AR g X 0 0 Q hz 228 [.ref 240, y1, .int p2, .long yy, jk, y5, y6, y7, y8] []) : AR g X 0 0 Q h 88 [.ref 240, d1, .int p2, .long s.1, jk, .int s.2, d6, d7, d8] [] := by
  unfold l_X10_pair_88 at e
  refine aw_iload (i := 5) hX rfl d_X10_pair_88 ?_
  refine aw_aload_n (i := 0) hX rfl rfl d_X10_pair_90 ?_
  refine ar_getI hX fg_RX10_262 rfl d_X10_pair_91 ?_
  refine aw_icmp_ge (t := 228) hX (by decide) d_X10_pair_94 (fun c => ?_) (fun c => ?_)
  · rw [if_pos c] at e
    cases e
    exact kE0 s.1 _ _ _ _ _ rfl
  · rw [if_neg c] at e
    refine aw_iload (i := 5) hX rfl d_X10_pair_97 ?_
    refine aw_iconst (v := 1) hX (by decide) d_X10_pair_99 ?_
    refine aw_iadd hX d_X10_pair_100 ?_
    refine aw_istore (i := 6) (lv2 := [.ref 240, d1, .int p2, .long s.1, jk, .int s.2, .int (s.2 + 1), d7, d8]) hX rfl rfl d_X10_pair_101 ?_
    obtain ⟨y16, f_1385, e_1385⟩ := bd_some e
    clear e
    refine t_X10_pair_103 hF hX f_1385 (fun d17_1 d17_6 d17_7 d17_8 => ?_)
    refine aw_iinc (i := 5) (lv2 := [.ref 240, d17_1, .int p2, .long y16.1, jk, .int (s.2 + 1), d17_6, d17_7, d17_8]) hX rfl rfl rfl rfl d_X10_pair_222 ?_
    refine aw_goto (t := 88) hX (by decide) d_X10_pair_225 ?_
    cases e_1385
    exact kI (y16.1, s.2 + 1) _ _ _ _ rfl
theorem ti_X10_pair_88 {g : GP} {X : MX} {mcR msR : Nat} (hF : gF g = true) (hX : Cx g RX10 cX10_pair 5 mcR msR (some .long) [] X) {Q : State → Prop} {p2 : Int32} {y : Int64} {hz : AH} (kE0 : ∀ (y_1 : Value) (y_5 : Value) (y_6 : Value) (y_7 : Value) (y_8 : Value), AR g X 0 0 Q hz 228 [.ref 240, y_1, .int p2, .long y, jk, y_5, y_6, y_7, y_8] []) (n : Nat) : ∀ (s : (Int64 × Int32)) (d1 : Value) (d6 : Value) (d7 : Value) (d8 : Value) (h : AH), lpH (l_X10_pair_88 p2) n s h = some (y, hz) → AR g X 0 0 Q h 88 [.ref 240, d1, .int p2, .long s.1, jk, .int s.2, d6, d7, d8] [] := by
  induction n with
  | zero => intro s d1 d6 d7 d8 h e; cases e
  | succ n ih =>
    intro s d1 d6 d7 d8 h e
    obtain ⟨x, h1, e1, e2⟩ := lpH_succ e
    rcases e2 with ⟨s2, rfl, e3⟩ | ⟨rfl, rfl⟩
    · exact tb_X10_pair_88 hF hX e1 (fun s3 x0 x1 x2 x3 hs => by cases hs; exact ih _ _ _ _ _ _ e3) (fun yy x0 x1 x2 x3 x4 hy => by cases hy)
    · exact tb_X10_pair_88 hF hX e1 (fun s3 x0 x1 x2 x3 hs => by cases hs) (fun yy x0 x1 x2 x3 x4 hy => by cases hy; exact kE0 x0 x1 x2 x3 x4)
theorem t_X10_pair_88 {g : GP} {X : MX} {mcR msR : Nat} (hF : gF g = true) (hX : Cx g RX10 cX10_pair 5 mcR msR (some .long) [] X) {Q : State → Prop} {p2 : Int32} {s : (Int64 × Int32)} {d1 : Value} {d6 : Value} {d7 : Value} {d8 : Value} {h hz : AH} {n : Nat} {y : Int64} (e : lpH (l_X10_pair_88 p2) n s h = some (y, hz)) (kE0 : ∀ (y_1 : Value) (y_5 : Value) (y_6 : Value) (y_7 : Value) (y_8 : Value), AR g X 0 0 Q hz 228 [.ref 240, y_1, .int p2, .long y, jk, y_5, y_6, y_7, y_8] []) : AR g X 0 0 Q h 88 [.ref 240, d1, .int p2, .long s.1, jk, .int s.2, d6, d7, d8] [] := ti_X10_pair_88 hF hX kE0 n _ _ _ _ _ _ e
def l_X10_pair_238 (p3 : Int64) (s : Int32) (h : AH) : Option ((Int32 ⊕ Unit) × AH) := if (gI h 240 3) ≤ s then some (.inr (), h) else bd (ldI h 262 s) fun x21 => bd (stI h 241 ((4 * s) + 3) x21) fun m22 => some (.inl (s + 1), m22)
theorem tb_X10_pair_238 {g : GP} {X : MX} {mcR msR : Nat} (hF : gF g = true) (hX : Cx g RX10 cX10_pair 5 mcR msR (some .long) [] X) {Q : State → Prop} {p3 : Int64} {s : Int32} {d1 : Value} {d2 : Value} {d6 : Value} {d7 : Value} {d8 : Value} {h hz : AH} {z : (Int32 ⊕ Unit)} (e : l_X10_pair_238 p3 s h = some (z, hz)) (kI : ∀ (s2 : Int32) (xd1 : Value) (xd2 : Value) (xd6 : Value) (xd7 : Value) (xd8 : Value), z = .inl s2 → AR g X 0 0 Q hz 238 [.ref 240, xd1, xd2, .long p3, jk, .int s2, xd6, xd7, xd8] []) (kE0 : ∀ (yy : Unit) (y1 : Value) (y2 : Value) (y5 : Value) (y6 : Value) (y7 : Value) (y8 : Value), z = .inr yy → AR g X 0 0 Q hz 271 [.ref 240, y1, y2, .long p3, jk, y5, y6, y7, y8] []) : AR g X 0 0 Q h 238 [.ref 240, d1, d2, .long p3, jk, .int s, d6, d7, d8] [] := by
  unfold l_X10_pair_238 at e
  refine aw_iload (i := 5) hX rfl d_X10_pair_238 ?_
  refine aw_aload_n (i := 0) hX rfl rfl d_X10_pair_240 ?_
  refine ar_getI hX fg_RX10_262 rfl d_X10_pair_241 ?_
  refine aw_icmp_ge (t := 271) hX (by decide) d_X10_pair_244 (fun c => ?_) (fun c => ?_)
  · rw [if_pos c] at e
    cases e
    exact kE0 () _ _ _ _ _ _ rfl
  · rw [if_neg c] at e
    refine aw_aload_n (i := 0) hX rfl rfl d_X10_pair_247 ?_
    refine ar_getF hX hF fg_RX10_13 rfl d_X10_pair_248 ?_
    show AR g X 0 0 _ _ 251 _ [.ref 241]
    refine aw_iconst (v := 4) hX (by decide) d_X10_pair_251 ?_
    refine aw_iload (i := 5) hX rfl d_X10_pair_252 ?_
    refine aw_imul hX d_X10_pair_254 ?_
    refine aw_iconst (v := 3) hX (by decide) d_X10_pair_255 ?_
    refine aw_iadd hX d_X10_pair_256 ?_
    refine aw_aload_n (i := 0) hX rfl rfl d_X10_pair_257 ?_
    refine ar_getF hX hF fg_RX10_85 rfl d_X10_pair_258 ?_
    show AR g X 0 0 _ _ 261 _ [.ref 262, .int ((4 * s) + 3), .ref 241]
    refine aw_iload (i := 5) hX rfl d_X10_pair_261 ?_
    obtain ⟨x21, f_1386, e_1386⟩ := bd_some e
    clear e
    refine ar_iaload hX f_1386 d_X10_pair_263 ?_
    obtain ⟨m22, f_1387, e_1387⟩ := bd_some e_1386
    clear e_1386
    refine ar_iastore hX f_1387 d_X10_pair_264 ?_
    refine aw_iinc (i := 5) (lv2 := [.ref 240, d1, d2, .long p3, jk, .int (s + 1), d6, d7, d8]) hX rfl rfl rfl rfl d_X10_pair_265 ?_
    refine aw_goto (t := 238) hX (by decide) d_X10_pair_268 ?_
    cases e_1387
    exact kI (s + 1) _ _ _ _ _ rfl
theorem ti_X10_pair_238 {g : GP} {X : MX} {mcR msR : Nat} (hF : gF g = true) (hX : Cx g RX10 cX10_pair 5 mcR msR (some .long) [] X) {Q : State → Prop} {p3 : Int64} {y : Unit} {hz : AH} (kE0 : ∀ (y_1 : Value) (y_2 : Value) (y_5 : Value) (y_6 : Value) (y_7 : Value) (y_8 : Value), AR g X 0 0 Q hz 271 [.ref 240, y_1, y_2, .long p3, jk, y_5, y_6, y_7, y_8] []) (n : Nat) : ∀ (s : Int32) (d1 : Value) (d2 : Value) (d6 : Value) (d7 : Value) (d8 : Value) (h : AH), lpH (l_X10_pair_238 p3) n s h = some (y, hz) → AR g X 0 0 Q h 238 [.ref 240, d1, d2, .long p3, jk, .int s, d6, d7, d8] [] := by
  induction n with
  | zero => intro s d1 d2 d6 d7 d8 h e; cases e
  | succ n ih =>
    intro s d1 d2 d6 d7 d8 h e
    obtain ⟨x, h1, e1, e2⟩ := lpH_succ e
    rcases e2 with ⟨s2, rfl, e3⟩ | ⟨rfl, rfl⟩
    · exact tb_X10_pair_238 hF hX e1 (fun s3 x0 x1 x2 x3 x4 hs => by cases hs; exact ih _ _ _ _ _ _ _ e3) (fun yy x0 x1 x2 x3 x4 x5 hy => by cases hy)
    · exact tb_X10_pair_238 hF hX e1 (fun s3 x0 x1 x2 x3 x4 hs => by cases hs) (fun yy x0 x1 x2 x3 x4 x5 hy => by cases hy; exact kE0 x0 x1 x2 x3 x4 x5)
theorem t_X10_pair_238 {g : GP} {X : MX} {mcR msR : Nat} (hF : gF g = true) (hX : Cx g RX10 cX10_pair 5 mcR msR (some .long) [] X) {Q : State → Prop} {p3 : Int64} {s : Int32} {d1 : Value} {d2 : Value} {d6 : Value} {d7 : Value} {d8 : Value} {h hz : AH} {n : Nat} {y : Unit} (e : lpH (l_X10_pair_238 p3) n s h = some (y, hz)) (kE0 : ∀ (y_1 : Value) (y_2 : Value) (y_5 : Value) (y_6 : Value) (y_7 : Value) (y_8 : Value), AR g X 0 0 Q hz 271 [.ref 240, y_1, y_2, .long p3, jk, y_5, y_6, y_7, y_8] []) : AR g X 0 0 Q h 238 [.ref 240, d1, d2, .long p3, jk, .int s, d6, d7, d8] [] := ti_X10_pair_238 hF hX kE0 n _ _ _ _ _ _ _ e
def l_X10_pair_274 (p3 : Int64) (s : Int32) (h : AH) : Option ((Int32 ⊕ Unit) × AH) := if (gI h 240 4) ≤ s then some (.inr (), h) else bd (s_X10_works s 3 h) fun q25 => some (.inl (s + 1), q25.2)
theorem tb_X10_pair_274 {g : GP} {X : MX} {mcR msR : Nat} (hF : gF g = true) (hX : Cx g RX10 cX10_pair 5 mcR msR (some .long) [] X) {Q : State → Prop} {p3 : Int64} {s : Int32} {d1 : Value} {d2 : Value} {d6 : Value} {d7 : Value} {d8 : Value} {h hz : AH} {z : (Int32 ⊕ Unit)} (e : l_X10_pair_274 p3 s h = some (z, hz)) (kI : ∀ (s2 : Int32) (xd1 : Value) (xd2 : Value) (xd6 : Value) (xd7 : Value) (xd8 : Value), z = .inl s2 → AR g X 0 0 Q hz 274 [.ref 240, xd1, xd2, .long p3, jk, .int s2, xd6, xd7, xd8] []) (kE0 : ∀ (yy : Unit) (y0 : Value) (y1 : Value) (y2 : Value) (y5 : Value) (y6 : Value) (y7 : Value) (y8 : Value), z = .inr yy → AR g X 0 0 Q hz 296 [y0, y1, y2, .long p3, jk, y5, y6, y7, y8] []) : AR g X 0 0 Q h 274 [.ref 240, d1, d2, .long p3, jk, .int s, d6, d7, d8] [] := by
  unfold l_X10_pair_274 at e
  refine aw_iload (i := 5) hX rfl d_X10_pair_274 ?_
  refine aw_aload_n (i := 0) hX rfl rfl d_X10_pair_276 ?_
  refine ar_getI hX fg_RX10_265 rfl d_X10_pair_277 ?_
  refine aw_icmp_ge (t := 296) hX (by decide) d_X10_pair_280 (fun c => ?_) (fun c => ?_)
  · rw [if_pos c] at e
    cases e
    exact kE0 () _ _ _ _ _ _ _ rfl
  · rw [if_neg c] at e
    refine aw_aload_n (i := 0) hX rfl rfl d_X10_pair_283 ?_
    refine aw_iload (i := 5) hX rfl d_X10_pair_284 ?_
    refine aw_iconst (v := 3) hX (by decide) d_X10_pair_286 ?_
    obtain ⟨q25, f_1388, e_1388⟩ := bd_some e
    clear e
    refine aw_callV (b := 240) (av := [.int s, .int 3]) (avr := [.int 3, .int s]) hX (k_X10_works (cx_g hX) hF f_1388) mi_X10_works rfl rfl w_795 w_796 w_797 (by decide) rfl (LAY_lt rfl (by decide)) rfl rfl (Nat.le_of_ble_eq_true rfl) (Nat.zero_le _) (Nat.zero_le _) d_X10_pair_287 ?_
    refine aw_iinc (i := 5) (lv2 := [.ref 240, d1, d2, .long p3, jk, .int (s + 1), d6, d7, d8]) hX rfl rfl rfl rfl d_X10_pair_290 ?_
    refine aw_goto (t := 274) hX (by decide) d_X10_pair_293 ?_
    cases e_1388
    exact kI (s + 1) _ _ _ _ _ rfl
theorem ti_X10_pair_274 {g : GP} {X : MX} {mcR msR : Nat} (hF : gF g = true) (hX : Cx g RX10 cX10_pair 5 mcR msR (some .long) [] X) {Q : State → Prop} {p3 : Int64} {y : Unit} {hz : AH} (kE0 : ∀ (y_0 : Value) (y_1 : Value) (y_2 : Value) (y_5 : Value) (y_6 : Value) (y_7 : Value) (y_8 : Value), AR g X 0 0 Q hz 296 [y_0, y_1, y_2, .long p3, jk, y_5, y_6, y_7, y_8] []) (n : Nat) : ∀ (s : Int32) (d1 : Value) (d2 : Value) (d6 : Value) (d7 : Value) (d8 : Value) (h : AH), lpH (l_X10_pair_274 p3) n s h = some (y, hz) → AR g X 0 0 Q h 274 [.ref 240, d1, d2, .long p3, jk, .int s, d6, d7, d8] [] := by
  induction n with
  | zero => intro s d1 d2 d6 d7 d8 h e; cases e
  | succ n ih =>
    intro s d1 d2 d6 d7 d8 h e
    obtain ⟨x, h1, e1, e2⟩ := lpH_succ e
    rcases e2 with ⟨s2, rfl, e3⟩ | ⟨rfl, rfl⟩
    · exact tb_X10_pair_274 hF hX e1 (fun s3 x0 x1 x2 x3 x4 hs => by cases hs; exact ih _ _ _ _ _ _ _ e3) (fun yy x0 x1 x2 x3 x4 x5 x6 hy => by cases hy)
    · exact tb_X10_pair_274 hF hX e1 (fun s3 x0 x1 x2 x3 x4 hs => by cases hs) (fun yy x0 x1 x2 x3 x4 x5 x6 hy => by cases hy; exact kE0 x0 x1 x2 x3 x4 x5 x6)
theorem t_X10_pair_274 {g : GP} {X : MX} {mcR msR : Nat} (hF : gF g = true) (hX : Cx g RX10 cX10_pair 5 mcR msR (some .long) [] X) {Q : State → Prop} {p3 : Int64} {s : Int32} {d1 : Value} {d2 : Value} {d6 : Value} {d7 : Value} {d8 : Value} {h hz : AH} {n : Nat} {y : Unit} (e : lpH (l_X10_pair_274 p3) n s h = some (y, hz)) (kE0 : ∀ (y_0 : Value) (y_1 : Value) (y_2 : Value) (y_5 : Value) (y_6 : Value) (y_7 : Value) (y_8 : Value), AR g X 0 0 Q hz 296 [y_0, y_1, y_2, .long p3, jk, y_5, y_6, y_7, y_8] []) : AR g X 0 0 Q h 274 [.ref 240, d1, d2, .long p3, jk, .int s, d6, d7, d8] [] := ti_X10_pair_274 hF hX kE0 n _ _ _ _ _ _ _ e
def s_X10_pair (a0 : Int32) (h : AH) : Option (Int64 × AH) := bd (s_X10_within a0 0 9999 (sI h 240 0 0)) fun x1 => bd (s_X10_right x1 1 (sI h 240 0 0)) fun q2 => if q2.1 = 0 then some (0, q2.2) else if (2 : Int32) ≤ (gI q2.2 240 3) then bd (ldI q2.2 244 3) fun x3 => bd (stI q2.2 244 3 a0) fun m4 => bd (lpH (l_X10_pair_51 x3) FU 0 m4) fun y7 => bd (lpH (l_X10_pair_88 x3) FU ((-1), 0) y7.2) fun y18 => bd (stI y18.2 244 3 x3) fun m20 => bd (lpH (l_X10_pair_238 y18.1) FU 0 m20) fun y23 => bd (lpH (l_X10_pair_274 y18.1) FU 0 y23.2) fun y26 => some (y18.1, y26.2) else some ((-1), q2.2)
theorem t_X10_pair {g : GP} {X : MX} {mcR msR : Nat} (hF : gF g = true) (hX : Cx g RX10 cX10_pair 5 mcR msR (some .long) [] X) {a0 : Int32} {h hz : AH} {z : Int64} (e : s_X10_pair a0 h = some (z, hz)) : AR g X 0 0 (QQ g X NT false hz (.inl (some (.long z))) 0 0) h 0 [.ref 240, .int a0, jk, jk, jk, jk, jk, jk, jk] [] := by
  unfold s_X10_pair at e
  refine aw_aload_n (i := 0) hX rfl rfl d_X10_pair_0 ?_
  refine aw_iconst (v := 0) hX (by decide) d_X10_pair_1 ?_
  refine ar_putI hX fp_RX10_133 rfl d_X10_pair_2 ?_
  refine aw_aload_n (i := 0) hX rfl rfl d_X10_pair_5 ?_
  refine aw_iload_n (i := 1) hX rfl rfl d_X10_pair_6 ?_
  refine aw_iconst (v := 0) hX (by decide) d_X10_pair_7 ?_
  refine aw_sipush (v := 9999) hX (by decide) d_X10_pair_8 ?_
  obtain ⟨x1, f_1389, e_1389⟩ := bd_some e
  clear e
  refine aw_callS (av := [.int a0, .int 0, .int 9999]) (avr := [.int 9999, .int 0, .int a0]) hX (k_X10_within (cx_g hX) hF f_1389) mi_X10_within rfl rfl w_800 w_801 rfl (by decide) (Nat.le_of_ble_eq_true rfl) (Nat.zero_le _) (Nat.zero_le _) d_X10_pair_11 ?_
  refine aw_iconst (v := 1) hX (by decide) d_X10_pair_14 ?_
  obtain ⟨q2, f_1390, e_1390⟩ := bd_some e_1389
  clear e_1389
  refine aw_callV (b := 240) (av := [.int x1, .int 1]) (avr := [.int 1, .int x1]) hX (k_X10_right (cx_g hX) hF f_1390) mi_X10_right rfl rfl w_772 w_773 w_774 (by decide) rfl (LAY_lt rfl (by decide)) rfl rfl (Nat.le_of_ble_eq_true rfl) (Nat.zero_le _) (Nat.zero_le _) d_X10_pair_15 ?_
  refine aw_if_ne (t := 23) hX (by decide) d_X10_pair_18 (fun c => ?_) (fun c => ?_)
  · rw [if_neg c] at e_1390
    refine aw_aload_n (i := 0) hX rfl rfl d_X10_pair_23 ?_
    refine ar_getI hX fg_RX10_262 rfl d_X10_pair_24 ?_
    refine aw_iconst (v := 2) hX (by decide) d_X10_pair_27 ?_
    refine aw_icmp_ge (t := 35) hX (by decide) d_X10_pair_28 (fun c => ?_) (fun c => ?_)
    · rw [if_pos c] at e_1390
      refine aw_aload_n (i := 0) hX rfl rfl d_X10_pair_35 ?_
      refine ar_getF hX hF fg_RX10_23 rfl d_X10_pair_36 ?_
      show AR g X 0 0 _ _ 39 _ [.ref 244]
      refine aw_iconst (v := 3) hX (by decide) d_X10_pair_39 ?_
      obtain ⟨x3, f_1391, e_1391⟩ := bd_some e_1390
      clear e_1390
      refine ar_iaload hX f_1391 d_X10_pair_40 ?_
      refine aw_istore_n (i := 2) (lv2 := [.ref 240, .int a0, .int x3, jk, jk, jk, jk, jk, jk]) hX rfl rfl rfl d_X10_pair_41 ?_
      refine aw_aload_n (i := 0) hX rfl rfl d_X10_pair_42 ?_
      refine ar_getF hX hF fg_RX10_23 rfl d_X10_pair_43 ?_
      show AR g X 0 0 _ _ 46 _ [.ref 244]
      refine aw_iconst (v := 3) hX (by decide) d_X10_pair_46 ?_
      refine aw_iload_n (i := 1) hX rfl rfl d_X10_pair_47 ?_
      obtain ⟨m4, f_1392, e_1392⟩ := bd_some e_1391
      clear e_1391
      refine ar_iastore hX f_1392 d_X10_pair_48 ?_
      refine aw_iconst (v := 0) hX (by decide) d_X10_pair_49 ?_
      refine aw_istore_n (i := 3) (lv2 := [.ref 240, .int a0, .int x3, .int 0, jk, jk, jk, jk, jk]) hX rfl rfl rfl d_X10_pair_50 ?_
      obtain ⟨y7, f_1393, e_1393⟩ := bd_some e_1392
      clear e_1392
      refine t_X10_pair_51 hF hX f_1393 (fun d8_1 d8_3 d8_4 d8_5 d8_6 d8_7 d8_8 => ?_)
      refine aw_ldc2 hX w_834 d_X10_pair_81 ?_
      refine aw_lstore_n (i := 3) (lv2 := [.ref 240, d8_1, .int x3, .long (-1), jk, d8_5, d8_6, d8_7, d8_8]) hX rfl rfl rfl d_X10_pair_84 ?_
      refine aw_iconst (v := 0) hX (by decide) d_X10_pair_85 ?_
      refine aw_istore (i := 5) (lv2 := [.ref 240, d8_1, .int x3, .long (-1), jk, .int 0, d8_6, d8_7, d8_8]) hX rfl rfl d_X10_pair_86 ?_
      obtain ⟨y18, f_1394, e_1394⟩ := bd_some e_1393
      clear e_1393
      refine t_X10_pair_88 hF hX f_1394 (fun d19_1 d19_5 d19_6 d19_7 d19_8 => ?_)
      refine aw_aload_n (i := 0) hX rfl rfl d_X10_pair_228 ?_
      refine ar_getF hX hF fg_RX10_23 rfl d_X10_pair_229 ?_
      show AR g X 0 0 _ _ 232 _ [.ref 244]
      refine aw_iconst (v := 3) hX (by decide) d_X10_pair_232 ?_
      refine aw_iload_n (i := 2) hX rfl rfl d_X10_pair_233 ?_
      obtain ⟨m20, f_1395, e_1395⟩ := bd_some e_1394
      clear e_1394
      refine ar_iastore hX f_1395 d_X10_pair_234 ?_
      refine aw_iconst (v := 0) hX (by decide) d_X10_pair_235 ?_
      refine aw_istore (i := 5) (lv2 := [.ref 240, d19_1, .int x3, .long y18.1, jk, .int 0, d19_6, d19_7, d19_8]) hX rfl rfl d_X10_pair_236 ?_
      obtain ⟨y23, f_1396, e_1396⟩ := bd_some e_1395
      clear e_1395
      refine t_X10_pair_238 hF hX f_1396 (fun d24_1 d24_2 d24_5 d24_6 d24_7 d24_8 => ?_)
      refine aw_iconst (v := 0) hX (by decide) d_X10_pair_271 ?_
      refine aw_istore (i := 5) (lv2 := [.ref 240, d24_1, d24_2, .long y18.1, jk, .int 0, d24_6, d24_7, d24_8]) hX rfl rfl d_X10_pair_272 ?_
      obtain ⟨y26, f_1397, e_1397⟩ := bd_some e_1396
      clear e_1396
      refine t_X10_pair_274 hF hX f_1397 (fun d27_0 d27_1 d27_2 d27_5 d27_6 d27_7 d27_8 => ?_)
      refine aw_lload_n (i := 3) hX rfl rfl d_X10_pair_296 ?_
      cases e_1397
      exact aw_lreturn hX (Nat.zero_le _) (Nat.zero_le _) d_X10_pair_297
    · rw [if_neg c] at e_1390
      refine aw_ldc2 hX w_834 d_X10_pair_31 ?_
      cases e_1390
      exact aw_lreturn hX (Nat.zero_le _) (Nat.zero_le _) d_X10_pair_34
  · rw [if_pos c] at e_1390
    refine aw_lconst (v := 0) hX (by decide) d_X10_pair_21 ?_
    cases e_1390
    exact aw_lreturn hX (Nat.zero_le _) (Nat.zero_le _) d_X10_pair_22
theorem k_X10_pair {g : GP} (hg : g.1.stackTraces = false) (hF : gF g = true) {a0 : Int32} {h hz : AH} {z : Int64} (e : s_X10_pair a0 h = some (z, hz)) : Ctr g yX10_pair (wsY yX10_pair cX10_pair 9 (some .long)) 5 0 0 [.ref 240, .int a0] NT false h (some (.long z)) NT false hz := ctr_of (lv0 := [.ref 240, .int a0, jk, jk, jk, jk, jk, jk, jk]) rfl rfl (by decide) hg trivial (fun X hX hn => t_X10_pair hF hX e)
theorem d_X10_paired_0 : decode cX10_paired 0 = .ok (.aload_n 0, 1) := by decide +kernel
theorem d_X10_paired_1 : decode cX10_paired 1 = .ok (.iconst 0, 1) := by decide +kernel
theorem d_X10_paired_2 : decode cX10_paired 2 = .ok (.putfield 133, 3) := by decide +kernel
theorem d_X10_paired_5 : decode cX10_paired 5 = .ok (.aload_n 0, 1) := by decide +kernel
theorem d_X10_paired_6 : decode cX10_paired 6 = .ok (.aload_n 0, 1) := by decide +kernel
theorem d_X10_paired_7 : decode cX10_paired 7 = .ok (.getfield 82, 3) := by decide +kernel
theorem d_X10_paired_10 : decode cX10_paired 10 = .ok (.iconst (-1), 1) := by decide +kernel
theorem d_X10_paired_11 : decode cX10_paired 11 = .ok (.if_icmp .eq 16, 3) := by decide +kernel
theorem d_X10_paired_14 : decode cX10_paired 14 = .ok (.iload_n 1, 1) := by decide +kernel
theorem d_X10_paired_15 : decode cX10_paired 15 = .ok (.ifCond .eq 8, 3) := by decide +kernel
theorem d_X10_paired_18 : decode cX10_paired 18 = .ok (.iload_n 1, 1) := by decide +kernel
theorem d_X10_paired_19 : decode cX10_paired 19 = .ok (.iconst 1, 1) := by decide +kernel
theorem d_X10_paired_20 : decode cX10_paired 20 = .ok (.if_icmp .ne 7, 3) := by decide +kernel
theorem d_X10_paired_23 : decode cX10_paired 23 = .ok (.iconst 1, 1) := by decide +kernel
theorem d_X10_paired_24 : decode cX10_paired 24 = .ok (.goto 4, 3) := by decide +kernel
theorem d_X10_paired_27 : decode cX10_paired 27 = .ok (.iconst 0, 1) := by decide +kernel
theorem d_X10_paired_28 : decode cX10_paired 28 = .ok (.iconst 1, 1) := by decide +kernel
theorem d_X10_paired_29 : decode cX10_paired 29 = .ok (.invokevirtual 253, 3) := by decide +kernel
theorem d_X10_paired_32 : decode cX10_paired 32 = .ok (.ifCond .eq 21, 3) := by decide +kernel
theorem d_X10_paired_35 : decode cX10_paired 35 = .ok (.iload_n 1, 1) := by decide +kernel
theorem d_X10_paired_36 : decode cX10_paired 36 = .ok (.ifCond .ne 10, 3) := by decide +kernel
theorem d_X10_paired_39 : decode cX10_paired 39 = .ok (.aload_n 0, 1) := by decide +kernel
theorem d_X10_paired_40 : decode cX10_paired 40 = .ok (.getfield 82, 3) := by decide +kernel
theorem d_X10_paired_43 : decode cX10_paired 43 = .ok (.goto 11, 3) := by decide +kernel
theorem d_X10_paired_46 : decode cX10_paired 46 = .ok (.aload_n 0, 1) := by decide +kernel
theorem d_X10_paired_47 : decode cX10_paired 47 = .ok (.getfield 389, 3) := by decide +kernel
theorem d_X10_paired_50 : decode cX10_paired 50 = .ok (.goto 4, 3) := by decide +kernel
theorem d_X10_paired_53 : decode cX10_paired 53 = .ok (.iconst 0, 1) := by decide +kernel
theorem d_X10_paired_54 : decode cX10_paired 54 = .ok (.ireturn, 1) := by decide +kernel
def j_X10_paired_28 (v1 : Int32) (k0 : Int32) (h : AH) : Option (Int32 × AH) := bd (s_X10_right k0 1 h) fun q1 => if q1.1 = 0 then some (0, q1.2) else if v1 = 0 then some ((gI q1.2 240 48), q1.2) else some ((gI q1.2 240 49), q1.2)
theorem tj_X10_paired_28 {g : GP} {X : MX} {mcR msR : Nat} (hF : gF g = true) (hX : Cx g RX10 cX10_paired 2 mcR msR (some .int) [] X) {v1 : Int32} {k0 : Int32} {h hz : AH} {z : Int32} (e : j_X10_paired_28 v1 k0 h = some (z, hz)) : AR g X 0 0 (QQ g X NT false hz (.inl (some (.int z))) 0 0) h 28 [.ref 240, .int v1] [.int k0, .ref 240] := by
  unfold j_X10_paired_28 at e
  refine aw_iconst (v := 1) hX (by decide) d_X10_paired_28 ?_
  obtain ⟨q1, f_1398, e_1398⟩ := bd_some e
  clear e
  refine aw_callV (b := 240) (av := [.int k0, .int 1]) (avr := [.int 1, .int k0]) hX (k_X10_right (cx_g hX) hF f_1398) mi_X10_right rfl rfl w_772 w_773 w_774 (by decide) rfl (LAY_lt rfl (by decide)) rfl rfl (Nat.le_of_ble_eq_true rfl) (Nat.zero_le _) (Nat.zero_le _) d_X10_paired_29 ?_
  refine aw_if_eq (t := 53) hX (by decide) d_X10_paired_32 (fun c => ?_) (fun c => ?_)
  · rw [if_pos c] at e_1398
    refine aw_iconst (v := 0) hX (by decide) d_X10_paired_53 ?_
    cases e_1398
    exact aw_ireturn hX (Nat.zero_le _) (Nat.zero_le _) d_X10_paired_54
  · rw [if_neg c] at e_1398
    refine aw_iload_n (i := 1) hX rfl rfl d_X10_paired_35 ?_
    refine aw_if_ne (t := 46) hX (by decide) d_X10_paired_36 (fun c => ?_) (fun c => ?_)
    · rw [if_neg c] at e_1398
      refine aw_aload_n (i := 0) hX rfl rfl d_X10_paired_46 ?_
      refine ar_getI hX fg_RX10_389 rfl d_X10_paired_47 ?_
      refine aw_goto (t := 54) hX (by decide) d_X10_paired_50 ?_
      cases e_1398
      exact aw_ireturn hX (Nat.zero_le _) (Nat.zero_le _) d_X10_paired_54
    · rw [if_pos c] at e_1398
      refine aw_aload_n (i := 0) hX rfl rfl d_X10_paired_39 ?_
      refine ar_getI hX fg_RX10_82 rfl d_X10_paired_40 ?_
      refine aw_goto (t := 54) hX (by decide) d_X10_paired_43 ?_
      cases e_1398
      exact aw_ireturn hX (Nat.zero_le _) (Nat.zero_le _) d_X10_paired_54
def j_X10_paired_27 (v1 : Int32) (h : AH) : Option (Int32 × AH) := j_X10_paired_28 v1 0 h
theorem tj_X10_paired_27 {g : GP} {X : MX} {mcR msR : Nat} (hF : gF g = true) (hX : Cx g RX10 cX10_paired 2 mcR msR (some .int) [] X) {v1 : Int32} {h hz : AH} {z : Int32} (e : j_X10_paired_27 v1 h = some (z, hz)) : AR g X 0 0 (QQ g X NT false hz (.inl (some (.int z))) 0 0) h 27 [.ref 240, .int v1] [.ref 240] := by
  unfold j_X10_paired_27 at e
  refine aw_iconst (v := 0) hX (by decide) d_X10_paired_27 ?_
  exact tj_X10_paired_28 hF hX e
def j_X10_paired_23 (v1 : Int32) (h : AH) : Option (Int32 × AH) := j_X10_paired_28 v1 1 h
theorem tj_X10_paired_23 {g : GP} {X : MX} {mcR msR : Nat} (hF : gF g = true) (hX : Cx g RX10 cX10_paired 2 mcR msR (some .int) [] X) {v1 : Int32} {h hz : AH} {z : Int32} (e : j_X10_paired_23 v1 h = some (z, hz)) : AR g X 0 0 (QQ g X NT false hz (.inl (some (.int z))) 0 0) h 23 [.ref 240, .int v1] [.ref 240] := by
  unfold j_X10_paired_23 at e
  refine aw_iconst (v := 1) hX (by decide) d_X10_paired_23 ?_
  refine aw_goto (t := 28) hX (by decide) d_X10_paired_24 ?_
  exact tj_X10_paired_28 hF hX e
def s_X10_paired (a0 : Int32) (h : AH) : Option (Int32 × AH) := if (gI (sI h 240 0 0) 240 48) = (-1) then j_X10_paired_27 a0 (sI h 240 0 0) else if a0 = 0 then j_X10_paired_23 a0 (sI h 240 0 0) else if a0 = 1 then j_X10_paired_23 a0 (sI h 240 0 0) else j_X10_paired_27 a0 (sI h 240 0 0)
theorem t_X10_paired {g : GP} {X : MX} {mcR msR : Nat} (hF : gF g = true) (hX : Cx g RX10 cX10_paired 2 mcR msR (some .int) [] X) {a0 : Int32} {h hz : AH} {z : Int32} (e : s_X10_paired a0 h = some (z, hz)) : AR g X 0 0 (QQ g X NT false hz (.inl (some (.int z))) 0 0) h 0 [.ref 240, .int a0] [] := by
  unfold s_X10_paired at e
  refine aw_aload_n (i := 0) hX rfl rfl d_X10_paired_0 ?_
  refine aw_iconst (v := 0) hX (by decide) d_X10_paired_1 ?_
  refine ar_putI hX fp_RX10_133 rfl d_X10_paired_2 ?_
  refine aw_aload_n (i := 0) hX rfl rfl d_X10_paired_5 ?_
  refine aw_aload_n (i := 0) hX rfl rfl d_X10_paired_6 ?_
  refine ar_getI hX fg_RX10_82 rfl d_X10_paired_7 ?_
  refine aw_iconst (v := (-1)) hX (by decide) d_X10_paired_10 ?_
  refine aw_icmp_eq (t := 27) hX (by decide) d_X10_paired_11 (fun c => ?_) (fun c => ?_)
  · rw [if_pos c] at e
    exact tj_X10_paired_27 hF hX e
  · rw [if_neg c] at e
    refine aw_iload_n (i := 1) hX rfl rfl d_X10_paired_14 ?_
    refine aw_if_eq (t := 23) hX (by decide) d_X10_paired_15 (fun c => ?_) (fun c => ?_)
    · rw [if_pos c] at e
      exact tj_X10_paired_23 hF hX e
    · rw [if_neg c] at e
      refine aw_iload_n (i := 1) hX rfl rfl d_X10_paired_18 ?_
      refine aw_iconst (v := 1) hX (by decide) d_X10_paired_19 ?_
      refine aw_icmp_ne (t := 27) hX (by decide) d_X10_paired_20 (fun c => ?_) (fun c => ?_)
      · rw [if_neg c] at e
        exact tj_X10_paired_27 hF hX e
      · rw [if_pos c] at e
        exact tj_X10_paired_23 hF hX e
theorem k_X10_paired {g : GP} (hg : g.1.stackTraces = false) (hF : gF g = true) {a0 : Int32} {h hz : AH} {z : Int32} (e : s_X10_paired a0 h = some (z, hz)) : Ctr g yX10_paired (wsY yX10_paired cX10_paired 2 (some .int)) 2 0 0 [.ref 240, .int a0] NT false h (some (.int z)) NT false hz := ctr_of (lv0 := [.ref 240, .int a0]) rfl rfl (by decide) hg trivial (fun X hX hn => t_X10_paired hF hX e)
theorem d_X10_years_0 : decode cX10_years 0 = .ok (.aload_n 0, 1) := by decide +kernel
theorem d_X10_years_1 : decode cX10_years 1 = .ok (.iconst 0, 1) := by decide +kernel
theorem d_X10_years_2 : decode cX10_years 2 = .ok (.putfield 133, 3) := by decide +kernel
theorem d_X10_years_5 : decode cX10_years 5 = .ok (.aload_n 0, 1) := by decide +kernel
theorem d_X10_years_6 : decode cX10_years 6 = .ok (.iload_n 3, 1) := by decide +kernel
theorem d_X10_years_7 : decode cX10_years 7 = .ok (.iconst 0, 1) := by decide +kernel
theorem d_X10_years_8 : decode cX10_years 8 = .ok (.iconst 1, 1) := by decide +kernel
theorem d_X10_years_9 : decode cX10_years 9 = .ok (.invokestatic 295, 3) := by decide +kernel
theorem d_X10_years_12 : decode cX10_years 12 = .ok (.ifCond .ne 18, 3) := by decide +kernel
theorem d_X10_years_15 : decode cX10_years 15 = .ok (.iload_n 3, 1) := by decide +kernel
theorem d_X10_years_16 : decode cX10_years 16 = .ok (.iconst 2, 1) := by decide +kernel
theorem d_X10_years_17 : decode cX10_years 17 = .ok (.if_icmp .lt 17, 3) := by decide +kernel
theorem d_X10_years_20 : decode cX10_years 20 = .ok (.iload_n 3, 1) := by decide +kernel
theorem d_X10_years_21 : decode cX10_years 21 = .ok (.iconst 2, 1) := by decide +kernel
theorem d_X10_years_22 : decode cX10_years 22 = .ok (.isub, 1) := by decide +kernel
theorem d_X10_years_23 : decode cX10_years 23 = .ok (.aload_n 0, 1) := by decide +kernel
theorem d_X10_years_24 : decode cX10_years 24 = .ok (.getfield 265, 3) := by decide +kernel
theorem d_X10_years_27 : decode cX10_years 27 = .ok (.if_icmp .ge 7, 3) := by decide +kernel
theorem d_X10_years_30 : decode cX10_years 30 = .ok (.iconst 1, 1) := by decide +kernel
theorem d_X10_years_31 : decode cX10_years 31 = .ok (.goto 4, 3) := by decide +kernel
theorem d_X10_years_34 : decode cX10_years 34 = .ok (.iconst 0, 1) := by decide +kernel
theorem d_X10_years_35 : decode cX10_years 35 = .ok (.iconst 1, 1) := by decide +kernel
theorem d_X10_years_36 : decode cX10_years 36 = .ok (.invokevirtual 253, 3) := by decide +kernel
theorem d_X10_years_39 : decode cX10_years 39 = .ok (.ifCond .eq 37, 3) := by decide +kernel
theorem d_X10_years_42 : decode cX10_years 42 = .ok (.aload_n 0, 1) := by decide +kernel
theorem d_X10_years_43 : decode cX10_years 43 = .ok (.iload_n 1, 1) := by decide +kernel
theorem d_X10_years_44 : decode cX10_years 44 = .ok (.iconst 1, 1) := by decide +kernel
theorem d_X10_years_45 : decode cX10_years 45 = .ok (.bipush 60, 2) := by decide +kernel
theorem d_X10_years_47 : decode cX10_years 47 = .ok (.invokestatic 295, 3) := by decide +kernel
theorem d_X10_years_50 : decode cX10_years 50 = .ok (.ifCond .eq 18, 3) := by decide +kernel
theorem d_X10_years_53 : decode cX10_years 53 = .ok (.iload_n 2, 1) := by decide +kernel
theorem d_X10_years_54 : decode cX10_years 54 = .ok (.iconst 0, 1) := by decide +kernel
theorem d_X10_years_55 : decode cX10_years 55 = .ok (.sipush 1000, 3) := by decide +kernel
theorem d_X10_years_58 : decode cX10_years 58 = .ok (.invokestatic 295, 3) := by decide +kernel
theorem d_X10_years_61 : decode cX10_years 61 = .ok (.ifCond .eq 7, 3) := by decide +kernel
theorem d_X10_years_64 : decode cX10_years 64 = .ok (.iconst 1, 1) := by decide +kernel
theorem d_X10_years_65 : decode cX10_years 65 = .ok (.goto 4, 3) := by decide +kernel
theorem d_X10_years_68 : decode cX10_years 68 = .ok (.iconst 0, 1) := by decide +kernel
theorem d_X10_years_69 : decode cX10_years 69 = .ok (.iconst 2, 1) := by decide +kernel
theorem d_X10_years_70 : decode cX10_years 70 = .ok (.invokevirtual 253, 3) := by decide +kernel
theorem d_X10_years_73 : decode cX10_years 73 = .ok (.ifCond .ne 5, 3) := by decide +kernel
theorem d_X10_years_76 : decode cX10_years 76 = .ok (.lconst 0, 1) := by decide +kernel
theorem d_X10_years_77 : decode cX10_years 77 = .ok (.lreturn, 1) := by decide +kernel
theorem d_X10_years_78 : decode cX10_years 78 = .ok (.iconst 0, 1) := by decide +kernel
theorem d_X10_years_79 : decode cX10_years 79 = .ok (.istore 4, 2) := by decide +kernel
theorem d_X10_years_81 : decode cX10_years 81 = .ok (.iload 4, 2) := by decide +kernel
theorem d_X10_years_83 : decode cX10_years 83 = .ok (.aload_n 0, 1) := by decide +kernel
theorem d_X10_years_84 : decode cX10_years 84 = .ok (.getfield 265, 3) := by decide +kernel
theorem d_X10_years_87 : decode cX10_years 87 = .ok (.if_icmp .ge 23, 3) := by decide +kernel
theorem d_X10_years_90 : decode cX10_years 90 = .ok (.aload_n 0, 1) := by decide +kernel
theorem d_X10_years_91 : decode cX10_years 91 = .ok (.getfield 88, 3) := by decide +kernel
theorem d_X10_years_94 : decode cX10_years 94 = .ok (.iload 4, 2) := by decide +kernel
theorem d_X10_years_96 : decode cX10_years 96 = .ok (.aload_n 0, 1) := by decide +kernel
theorem d_X10_years_97 : decode cX10_years 97 = .ok (.iload 4, 2) := by decide +kernel
theorem d_X10_years_99 : decode cX10_years 99 = .ok (.iconst 0, 1) := by decide +kernel
theorem d_X10_years_100 : decode cX10_years 100 = .ok (.invokevirtual 292, 3) := by decide +kernel
theorem d_X10_years_103 : decode cX10_years 103 = .ok (.iastore, 1) := by decide +kernel
theorem d_X10_years_104 : decode cX10_years 104 = .ok (.iinc 4 1, 3) := by decide +kernel
theorem d_X10_years_107 : decode cX10_years 107 = .ok (.goto (-26), 3) := by decide +kernel
theorem d_X10_years_110 : decode cX10_years 110 = .ok (.lconst 0, 1) := by decide +kernel
theorem d_X10_years_111 : decode cX10_years 111 = .ok (.lstore 4, 2) := by decide +kernel
theorem d_X10_years_113 : decode cX10_years 113 = .ok (.lconst 0, 1) := by decide +kernel
theorem d_X10_years_114 : decode cX10_years 114 = .ok (.lstore 6, 2) := by decide +kernel
theorem d_X10_years_116 : decode cX10_years 116 = .ok (.iconst 0, 1) := by decide +kernel
theorem d_X10_years_117 : decode cX10_years 117 = .ok (.istore 8, 2) := by decide +kernel
theorem d_X10_years_119 : decode cX10_years 119 = .ok (.iload 8, 2) := by decide +kernel
theorem d_X10_years_121 : decode cX10_years 121 = .ok (.iload_n 1, 1) := by decide +kernel
theorem d_X10_years_122 : decode cX10_years 122 = .ok (.if_icmp .ge 179, 3) := by decide +kernel
theorem d_X10_years_125 : decode cX10_years 125 = .ok (.aload_n 0, 1) := by decide +kernel
theorem d_X10_years_126 : decode cX10_years 126 = .ok (.invokevirtual 384, 3) := by decide +kernel
theorem d_X10_years_129 : decode cX10_years 129 = .ok (.lstore 4, 2) := by decide +kernel
theorem d_X10_years_131 : decode cX10_years 131 = .ok (.lload 6, 2) := by decide +kernel
theorem d_X10_years_133 : decode cX10_years 133 = .ok (.lload 4, 2) := by decide +kernel
theorem d_X10_years_135 : decode cX10_years 135 = .ok (.ladd, 1) := by decide +kernel
theorem d_X10_years_136 : decode cX10_years 136 = .ok (.lstore 6, 2) := by decide +kernel
theorem d_X10_years_138 : decode cX10_years 138 = .ok (.iconst 0, 1) := by decide +kernel
theorem d_X10_years_139 : decode cX10_years 139 = .ok (.istore 9, 2) := by decide +kernel
theorem d_X10_years_141 : decode cX10_years 141 = .ok (.iload 9, 2) := by decide +kernel
theorem d_X10_years_143 : decode cX10_years 143 = .ok (.aload_n 0, 1) := by decide +kernel
theorem d_X10_years_144 : decode cX10_years 144 = .ok (.getfield 265, 3) := by decide +kernel
theorem d_X10_years_147 : decode cX10_years 147 = .ok (.if_icmp .ge 45, 3) := by decide +kernel
theorem d_X10_years_150 : decode cX10_years 150 = .ok (.aload_n 0, 1) := by decide +kernel
theorem d_X10_years_151 : decode cX10_years 151 = .ok (.getfield 91, 3) := by decide +kernel
theorem d_X10_years_154 : decode cX10_years 154 = .ok (.iload 9, 2) := by decide +kernel
theorem d_X10_years_156 : decode cX10_years 156 = .ok (.aload_n 0, 1) := by decide +kernel
theorem d_X10_years_157 : decode cX10_years 157 = .ok (.iload 9, 2) := by decide +kernel
theorem d_X10_years_159 : decode cX10_years 159 = .ok (.bipush 10, 2) := by decide +kernel
theorem d_X10_years_161 : decode cX10_years 161 = .ok (.invokevirtual 292, 3) := by decide +kernel
theorem d_X10_years_164 : decode cX10_years 164 = .ok (.iconst 1, 1) := by decide +kernel
theorem d_X10_years_165 : decode cX10_years 165 = .ok (.if_icmp .ne 19, 3) := by decide +kernel
theorem d_X10_years_168 : decode cX10_years 168 = .ok (.aload_n 0, 1) := by decide +kernel
theorem d_X10_years_169 : decode cX10_years 169 = .ok (.iload 9, 2) := by decide +kernel
theorem d_X10_years_171 : decode cX10_years 171 = .ok (.iconst 0, 1) := by decide +kernel
theorem d_X10_years_172 : decode cX10_years 172 = .ok (.invokevirtual 292, 3) := by decide +kernel
theorem d_X10_years_175 : decode cX10_years 175 = .ok (.iload_n 2, 1) := by decide +kernel
theorem d_X10_years_176 : decode cX10_years 176 = .ok (.imul, 1) := by decide +kernel
theorem d_X10_years_177 : decode cX10_years 177 = .ok (.sipush 1000, 3) := by decide +kernel
theorem d_X10_years_180 : decode cX10_years 180 = .ok (.idiv, 1) := by decide +kernel
theorem d_X10_years_181 : decode cX10_years 181 = .ok (.goto 4, 3) := by decide +kernel
theorem d_X10_years_184 : decode cX10_years 184 = .ok (.iconst 0, 1) := by decide +kernel
theorem d_X10_years_185 : decode cX10_years 185 = .ok (.iastore, 1) := by decide +kernel
theorem d_X10_years_186 : decode cX10_years 186 = .ok (.iinc 9 1, 3) := by decide +kernel
theorem d_X10_years_189 : decode cX10_years 189 = .ok (.goto (-48), 3) := by decide +kernel
theorem d_X10_years_192 : decode cX10_years 192 = .ok (.iconst 0, 1) := by decide +kernel
theorem d_X10_years_193 : decode cX10_years 193 = .ok (.istore 9, 2) := by decide +kernel
theorem d_X10_years_195 : decode cX10_years 195 = .ok (.iload 9, 2) := by decide +kernel
theorem d_X10_years_197 : decode cX10_years 197 = .ok (.aload_n 0, 1) := by decide +kernel
theorem d_X10_years_198 : decode cX10_years 198 = .ok (.getfield 265, 3) := by decide +kernel
theorem d_X10_years_201 : decode cX10_years 201 = .ok (.if_icmp .ge 94, 3) := by decide +kernel
theorem d_X10_years_204 : decode cX10_years 204 = .ok (.iload 9, 2) := by decide +kernel
theorem d_X10_years_206 : decode cX10_years 206 = .ok (.iconst 1, 1) := by decide +kernel
theorem d_X10_years_207 : decode cX10_years 207 = .ok (.iadd, 1) := by decide +kernel
theorem d_X10_years_208 : decode cX10_years 208 = .ok (.istore 10, 2) := by decide +kernel
theorem d_X10_years_210 : decode cX10_years 210 = .ok (.iload 10, 2) := by decide +kernel
theorem d_X10_years_212 : decode cX10_years 212 = .ok (.aload_n 0, 1) := by decide +kernel
theorem d_X10_years_213 : decode cX10_years 213 = .ok (.getfield 265, 3) := by decide +kernel
theorem d_X10_years_216 : decode cX10_years 216 = .ok (.if_icmp .ge 21, 3) := by decide +kernel
theorem d_X10_years_219 : decode cX10_years 219 = .ok (.aload_n 0, 1) := by decide +kernel
theorem d_X10_years_220 : decode cX10_years 220 = .ok (.iload 10, 2) := by decide +kernel
theorem d_X10_years_222 : decode cX10_years 222 = .ok (.bipush 10, 2) := by decide +kernel
theorem d_X10_years_224 : decode cX10_years 224 = .ok (.invokevirtual 292, 3) := by decide +kernel
theorem d_X10_years_227 : decode cX10_years 227 = .ok (.iconst 1, 1) := by decide +kernel
theorem d_X10_years_228 : decode cX10_years 228 = .ok (.if_icmp .ne 9, 3) := by decide +kernel
theorem d_X10_years_231 : decode cX10_years 231 = .ok (.iinc 10 1, 3) := by decide +kernel
theorem d_X10_years_234 : decode cX10_years 234 = .ok (.goto (-24), 3) := by decide +kernel
theorem d_X10_years_237 : decode cX10_years 237 = .ok (.iload 10, 2) := by decide +kernel
theorem d_X10_years_239 : decode cX10_years 239 = .ok (.aload_n 0, 1) := by decide +kernel
theorem d_X10_years_240 : decode cX10_years 240 = .ok (.getfield 265, 3) := by decide +kernel
theorem d_X10_years_243 : decode cX10_years 243 = .ok (.if_icmp .lt 6, 3) := by decide +kernel
theorem d_X10_years_246 : decode cX10_years 246 = .ok (.goto 43, 3) := by decide +kernel
theorem d_X10_years_249 : decode cX10_years 249 = .ok (.aload_n 0, 1) := by decide +kernel
theorem d_X10_years_250 : decode cX10_years 250 = .ok (.getfield 17, 3) := by decide +kernel
theorem d_X10_years_253 : decode cX10_years 253 = .ok (.bipush 11, 2) := by decide +kernel
theorem d_X10_years_255 : decode cX10_years 255 = .ok (.iload 9, 2) := by decide +kernel
theorem d_X10_years_257 : decode cX10_years 257 = .ok (.imul, 1) := by decide +kernel
theorem d_X10_years_258 : decode cX10_years 258 = .ok (.dup2, 1) := by decide +kernel
theorem d_X10_years_259 : decode cX10_years 259 = .ok (.iaload, 1) := by decide +kernel
theorem d_X10_years_260 : decode cX10_years 260 = .ok (.aload_n 0, 1) := by decide +kernel
theorem d_X10_years_261 : decode cX10_years 261 = .ok (.getfield 91, 3) := by decide +kernel
theorem d_X10_years_264 : decode cX10_years 264 = .ok (.iload 9, 2) := by decide +kernel
theorem d_X10_years_266 : decode cX10_years 266 = .ok (.iaload, 1) := by decide +kernel
theorem d_X10_years_267 : decode cX10_years 267 = .ok (.isub, 1) := by decide +kernel
theorem d_X10_years_268 : decode cX10_years 268 = .ok (.iastore, 1) := by decide +kernel
theorem d_X10_years_269 : decode cX10_years 269 = .ok (.aload_n 0, 1) := by decide +kernel
theorem d_X10_years_270 : decode cX10_years 270 = .ok (.getfield 17, 3) := by decide +kernel
theorem d_X10_years_273 : decode cX10_years 273 = .ok (.bipush 11, 2) := by decide +kernel
theorem d_X10_years_275 : decode cX10_years 275 = .ok (.iload 10, 2) := by decide +kernel
theorem d_X10_years_277 : decode cX10_years 277 = .ok (.imul, 1) := by decide +kernel
theorem d_X10_years_278 : decode cX10_years 278 = .ok (.dup2, 1) := by decide +kernel
theorem d_X10_years_279 : decode cX10_years 279 = .ok (.iaload, 1) := by decide +kernel
theorem d_X10_years_280 : decode cX10_years 280 = .ok (.aload_n 0, 1) := by decide +kernel
theorem d_X10_years_281 : decode cX10_years 281 = .ok (.getfield 91, 3) := by decide +kernel
theorem d_X10_years_284 : decode cX10_years 284 = .ok (.iload 9, 2) := by decide +kernel
theorem d_X10_years_286 : decode cX10_years 286 = .ok (.iaload, 1) := by decide +kernel
theorem d_X10_years_287 : decode cX10_years 287 = .ok (.iadd, 1) := by decide +kernel
theorem d_X10_years_288 : decode cX10_years 288 = .ok (.iastore, 1) := by decide +kernel
theorem d_X10_years_289 : decode cX10_years 289 = .ok (.iinc 9 1, 3) := by decide +kernel
theorem d_X10_years_292 : decode cX10_years 292 = .ok (.goto (-97), 3) := by decide +kernel
theorem d_X10_years_295 : decode cX10_years 295 = .ok (.iinc 8 1, 3) := by decide +kernel
theorem d_X10_years_298 : decode cX10_years 298 = .ok (.goto (-179), 3) := by decide +kernel
theorem d_X10_years_301 : decode cX10_years 301 = .ok (.iload_n 3, 1) := by decide +kernel
theorem d_X10_years_302 : decode cX10_years 302 = .ok (.ifCond .ne 8, 3) := by decide +kernel
theorem d_X10_years_305 : decode cX10_years 305 = .ok (.lload 4, 2) := by decide +kernel
theorem d_X10_years_307 : decode cX10_years 307 = .ok (.goto 22, 3) := by decide +kernel
theorem d_X10_years_310 : decode cX10_years 310 = .ok (.iload_n 3, 1) := by decide +kernel
theorem d_X10_years_311 : decode cX10_years 311 = .ok (.iconst 1, 1) := by decide +kernel
theorem d_X10_years_312 : decode cX10_years 312 = .ok (.if_icmp .ne 8, 3) := by decide +kernel
theorem d_X10_years_315 : decode cX10_years 315 = .ok (.lload 6, 2) := by decide +kernel
theorem d_X10_years_317 : decode cX10_years 317 = .ok (.goto 12, 3) := by decide +kernel
theorem d_X10_years_320 : decode cX10_years 320 = .ok (.aload_n 0, 1) := by decide +kernel
theorem d_X10_years_321 : decode cX10_years 321 = .ok (.iload_n 3, 1) := by decide +kernel
theorem d_X10_years_322 : decode cX10_years 322 = .ok (.iconst 2, 1) := by decide +kernel
theorem d_X10_years_323 : decode cX10_years 323 = .ok (.isub, 1) := by decide +kernel
theorem d_X10_years_324 : decode cX10_years 324 = .ok (.iconst 0, 1) := by decide +kernel
theorem d_X10_years_325 : decode cX10_years 325 = .ok (.invokevirtual 292, 3) := by decide +kernel
theorem d_X10_years_328 : decode cX10_years 328 = .ok (.i2l, 1) := by decide +kernel
theorem d_X10_years_329 : decode cX10_years 329 = .ok (.lstore 8, 2) := by decide +kernel
theorem d_X10_years_331 : decode cX10_years 331 = .ok (.iconst 0, 1) := by decide +kernel
theorem d_X10_years_332 : decode cX10_years 332 = .ok (.istore 10, 2) := by decide +kernel
theorem d_X10_years_334 : decode cX10_years 334 = .ok (.iload 10, 2) := by decide +kernel
theorem d_X10_years_336 : decode cX10_years 336 = .ok (.aload_n 0, 1) := by decide +kernel
theorem d_X10_years_337 : decode cX10_years 337 = .ok (.getfield 265, 3) := by decide +kernel
theorem d_X10_years_340 : decode cX10_years 340 = .ok (.if_icmp .ge 26, 3) := by decide +kernel
theorem d_X10_years_343 : decode cX10_years 343 = .ok (.aload_n 0, 1) := by decide +kernel
theorem d_X10_years_344 : decode cX10_years 344 = .ok (.getfield 17, 3) := by decide +kernel
theorem d_X10_years_347 : decode cX10_years 347 = .ok (.bipush 11, 2) := by decide +kernel
theorem d_X10_years_349 : decode cX10_years 349 = .ok (.iload 10, 2) := by decide +kernel
theorem d_X10_years_351 : decode cX10_years 351 = .ok (.imul, 1) := by decide +kernel
theorem d_X10_years_352 : decode cX10_years 352 = .ok (.aload_n 0, 1) := by decide +kernel
theorem d_X10_years_353 : decode cX10_years 353 = .ok (.getfield 88, 3) := by decide +kernel
theorem d_X10_years_356 : decode cX10_years 356 = .ok (.iload 10, 2) := by decide +kernel
theorem d_X10_years_358 : decode cX10_years 358 = .ok (.iaload, 1) := by decide +kernel
theorem d_X10_years_359 : decode cX10_years 359 = .ok (.iastore, 1) := by decide +kernel
theorem d_X10_years_360 : decode cX10_years 360 = .ok (.iinc 10 1, 3) := by decide +kernel
theorem d_X10_years_363 : decode cX10_years 363 = .ok (.goto (-29), 3) := by decide +kernel
theorem d_X10_years_366 : decode cX10_years 366 = .ok (.lload 8, 2) := by decide +kernel
theorem d_X10_years_368 : decode cX10_years 368 = .ok (.lreturn, 1) := by decide +kernel
def l_X10_years_81 (p1 : Int32) (p2 : Int32) (p3 : Int32) (s : Int32) (h : AH) : Option ((Int32 ⊕ Unit) × AH) := if (gI h 240 4) ≤ s then some (.inr (), h) else bd (s_X10_of s 0 h) fun x5 => bd (stI h 263 s x5) fun m6 => some (.inl (s + 1), m6)
theorem tb_X10_years_81 {g : GP} {X : MX} {mcR msR : Nat} (hF : gF g = true) (hX : Cx g RX10 cX10_years 5 mcR msR (some .long) [] X) {Q : State → Prop} {p1 : Int32} {p2 : Int32} {p3 : Int32} {s : Int32} {d5 : Value} {d6 : Value} {d7 : Value} {d8 : Value} {d9 : Value} {d10 : Value} {h hz : AH} {z : (Int32 ⊕ Unit)} (e : l_X10_years_81 p1 p2 p3 s h = some (z, hz)) (kI : ∀ (s2 : Int32) (xd5 : Value) (xd6 : Value) (xd7 : Value) (xd8 : Value) (xd9 : Value) (xd10 : Value), z = .inl s2 → AR g X 0 0 Q hz 81 [.ref 240, .int p1, .int p2, .int p3, .int s2, xd5, xd6, xd7, xd8, xd9, xd10] []) (kE0 : ∀ (yy : Unit) (y4 : Value) (y5 : Value) (y6 : Value) (y7 : Value) (y8 : Value) (y9 : Value) (y10 : Value), z = .inr yy → AR g X 0 0 Q hz 110 [.ref 240, .int p1, .int p2, .int p3, y4, y5, y6, y7, y8, y9, y10] []) : AR g X 0 0 Q h 81 [.ref 240, .int p1, .int p2, .int p3, .int s, d5, d6, d7, d8, d9, d10] [] := by
  unfold l_X10_years_81 at e
  refine aw_iload (i := 4) hX rfl d_X10_years_81 ?_
  refine aw_aload_n (i := 0) hX rfl rfl d_X10_years_83 ?_
  refine ar_getI hX fg_RX10_265 rfl d_X10_years_84 ?_
  refine aw_icmp_ge (t := 110) hX (by decide) d_X10_years_87 (fun c => ?_) (fun c => ?_)
  · rw [if_pos c] at e
    cases e
    exact kE0 () _ _ _ _ _ _ _ rfl
  · rw [if_neg c] at e
    refine aw_aload_n (i := 0) hX rfl rfl d_X10_years_90 ?_
    refine ar_getF hX hF fg_RX10_88 rfl d_X10_years_91 ?_
    show AR g X 0 0 _ _ 94 _ [.ref 263]
    refine aw_iload (i := 4) hX rfl d_X10_years_94 ?_
    refine aw_aload_n (i := 0) hX rfl rfl d_X10_years_96 ?_
    refine aw_iload (i := 4) hX rfl d_X10_years_97 ?_
    refine aw_iconst (v := 0) hX (by decide) d_X10_years_99 ?_
    obtain ⟨x5, f_1399, e_1399⟩ := bd_some e
    clear e
    refine aw_callV (b := 240) (av := [.int s, .int 0]) (avr := [.int 0, .int s]) hX (k_X10_of (cx_g hX) hF f_1399) mi_X10_of rfl rfl w_732 w_733 w_734 (by decide) rfl (LAY_lt rfl (by decide)) rfl rfl (Nat.le_of_ble_eq_true rfl) (Nat.zero_le _) (Nat.zero_le _) d_X10_years_100 ?_
    obtain ⟨m6, f_1400, e_1400⟩ := bd_some e_1399
    clear e_1399
    refine ar_iastore hX f_1400 d_X10_years_103 ?_
    refine aw_iinc (i := 4) (lv2 := [.ref 240, .int p1, .int p2, .int p3, .int (s + 1), d5, d6, d7, d8, d9, d10]) hX rfl rfl rfl rfl d_X10_years_104 ?_
    refine aw_goto (t := 81) hX (by decide) d_X10_years_107 ?_
    cases e_1400
    exact kI (s + 1) _ _ _ _ _ _ rfl
theorem ti_X10_years_81 {g : GP} {X : MX} {mcR msR : Nat} (hF : gF g = true) (hX : Cx g RX10 cX10_years 5 mcR msR (some .long) [] X) {Q : State → Prop} {p1 : Int32} {p2 : Int32} {p3 : Int32} {y : Unit} {hz : AH} (kE0 : ∀ (y_4 : Value) (y_5 : Value) (y_6 : Value) (y_7 : Value) (y_8 : Value) (y_9 : Value) (y_10 : Value), AR g X 0 0 Q hz 110 [.ref 240, .int p1, .int p2, .int p3, y_4, y_5, y_6, y_7, y_8, y_9, y_10] []) (n : Nat) : ∀ (s : Int32) (d5 : Value) (d6 : Value) (d7 : Value) (d8 : Value) (d9 : Value) (d10 : Value) (h : AH), lpH (l_X10_years_81 p1 p2 p3) n s h = some (y, hz) → AR g X 0 0 Q h 81 [.ref 240, .int p1, .int p2, .int p3, .int s, d5, d6, d7, d8, d9, d10] [] := by
  induction n with
  | zero => intro s d5 d6 d7 d8 d9 d10 h e; cases e
  | succ n ih =>
    intro s d5 d6 d7 d8 d9 d10 h e
    obtain ⟨x, h1, e1, e2⟩ := lpH_succ e
    rcases e2 with ⟨s2, rfl, e3⟩ | ⟨rfl, rfl⟩
    · exact tb_X10_years_81 hF hX e1 (fun s3 x0 x1 x2 x3 x4 x5 hs => by cases hs; exact ih _ _ _ _ _ _ _ _ e3) (fun yy x0 x1 x2 x3 x4 x5 x6 hy => by cases hy)
    · exact tb_X10_years_81 hF hX e1 (fun s3 x0 x1 x2 x3 x4 x5 hs => by cases hs) (fun yy x0 x1 x2 x3 x4 x5 x6 hy => by cases hy; exact kE0 x0 x1 x2 x3 x4 x5 x6)
theorem t_X10_years_81 {g : GP} {X : MX} {mcR msR : Nat} (hF : gF g = true) (hX : Cx g RX10 cX10_years 5 mcR msR (some .long) [] X) {Q : State → Prop} {p1 : Int32} {p2 : Int32} {p3 : Int32} {s : Int32} {d5 : Value} {d6 : Value} {d7 : Value} {d8 : Value} {d9 : Value} {d10 : Value} {h hz : AH} {n : Nat} {y : Unit} (e : lpH (l_X10_years_81 p1 p2 p3) n s h = some (y, hz)) (kE0 : ∀ (y_4 : Value) (y_5 : Value) (y_6 : Value) (y_7 : Value) (y_8 : Value) (y_9 : Value) (y_10 : Value), AR g X 0 0 Q hz 110 [.ref 240, .int p1, .int p2, .int p3, y_4, y_5, y_6, y_7, y_8, y_9, y_10] []) : AR g X 0 0 Q h 81 [.ref 240, .int p1, .int p2, .int p3, .int s, d5, d6, d7, d8, d9, d10] [] := ti_X10_years_81 hF hX kE0 n _ _ _ _ _ _ _ _ e
def j_X10_years_185_141 (p1 : Int32) (p2 : Int32) (p3 : Int32) (p4 : Int64) (p6 : Int64) (p8 : Int32) (v9 : Int32) (k0 : Int32) (k1 : Int32) (h : AH) : Option ((Int32 ⊕ Unit) × AH) := bd (stI h 264 k1 k0) fun m11 => some (.inl (v9 + 1), m11)
theorem tj_X10_years_185_141 {g : GP} {X : MX} {mcR msR : Nat} (hF : gF g = true) (hX : Cx g RX10 cX10_years 5 mcR msR (some .long) [] X) {Q : State → Prop} {p1 : Int32} {p2 : Int32} {p3 : Int32} {p4 : Int64} {p6 : Int64} {p8 : Int32} {v9 : Int32} {k0 : Int32} {k1 : Int32} {d10 : Value} {h hz : AH} {z : (Int32 ⊕ Unit)} (e : j_X10_years_185_141 p1 p2 p3 p4 p6 p8 v9 k0 k1 h = some (z, hz)) (kI : ∀ (s2 : Int32) (xd10 : Value), z = .inl s2 → AR g X 0 0 Q hz 141 [.ref 240, .int p1, .int p2, .int p3, .long p4, jk, .long p6, jk, .int p8, .int s2, xd10] []) (kE0 : ∀ (yy : Unit) (y9 : Value) (y10 : Value), z = .inr yy → AR g X 0 0 Q hz 192 [.ref 240, .int p1, .int p2, .int p3, .long p4, jk, .long p6, jk, .int p8, y9, y10] []) : AR g X 0 0 Q h 185 [.ref 240, .int p1, .int p2, .int p3, .long p4, jk, .long p6, jk, .int p8, .int v9, d10] [.int k0, .int k1, .ref 264] := by
  unfold j_X10_years_185_141 at e
  obtain ⟨m11, f_1401, e_1401⟩ := bd_some e
  clear e
  refine ar_iastore hX f_1401 d_X10_years_185 ?_
  refine aw_iinc (i := 9) (lv2 := [.ref 240, .int p1, .int p2, .int p3, .long p4, jk, .long p6, jk, .int p8, .int (v9 + 1), d10]) hX rfl rfl rfl rfl d_X10_years_186 ?_
  refine aw_goto (t := 141) hX (by decide) d_X10_years_189 ?_
  cases e_1401
  exact kI (v9 + 1) _ rfl
def l_X10_years_141 (p1 : Int32) (p2 : Int32) (p3 : Int32) (p4 : Int64) (p6 : Int64) (p8 : Int32) (s : Int32) (h : AH) : Option ((Int32 ⊕ Unit) × AH) := if (gI h 240 4) ≤ s then some (.inr (), h) else bd (s_X10_of s 10 h) fun x10 => if x10 = 1 then bd (s_X10_of s 0 h) fun x12 => bd (idivF (x12 * p2) 1000) fun x13 => j_X10_years_185_141 p1 p2 p3 p4 p6 p8 s x13 s h else j_X10_years_185_141 p1 p2 p3 p4 p6 p8 s 0 s h
theorem tb_X10_years_141 {g : GP} {X : MX} {mcR msR : Nat} (hF : gF g = true) (hX : Cx g RX10 cX10_years 5 mcR msR (some .long) [] X) {Q : State → Prop} {p1 : Int32} {p2 : Int32} {p3 : Int32} {p4 : Int64} {p6 : Int64} {p8 : Int32} {s : Int32} {d10 : Value} {h hz : AH} {z : (Int32 ⊕ Unit)} (e : l_X10_years_141 p1 p2 p3 p4 p6 p8 s h = some (z, hz)) (kI : ∀ (s2 : Int32) (xd10 : Value), z = .inl s2 → AR g X 0 0 Q hz 141 [.ref 240, .int p1, .int p2, .int p3, .long p4, jk, .long p6, jk, .int p8, .int s2, xd10] []) (kE0 : ∀ (yy : Unit) (y9 : Value) (y10 : Value), z = .inr yy → AR g X 0 0 Q hz 192 [.ref 240, .int p1, .int p2, .int p3, .long p4, jk, .long p6, jk, .int p8, y9, y10] []) : AR g X 0 0 Q h 141 [.ref 240, .int p1, .int p2, .int p3, .long p4, jk, .long p6, jk, .int p8, .int s, d10] [] := by
  unfold l_X10_years_141 at e
  refine aw_iload (i := 9) hX rfl d_X10_years_141 ?_
  refine aw_aload_n (i := 0) hX rfl rfl d_X10_years_143 ?_
  refine ar_getI hX fg_RX10_265 rfl d_X10_years_144 ?_
  refine aw_icmp_ge (t := 192) hX (by decide) d_X10_years_147 (fun c => ?_) (fun c => ?_)
  · rw [if_pos c] at e
    cases e
    exact kE0 () _ _ rfl
  · rw [if_neg c] at e
    refine aw_aload_n (i := 0) hX rfl rfl d_X10_years_150 ?_
    refine ar_getF hX hF fg_RX10_91 rfl d_X10_years_151 ?_
    show AR g X 0 0 _ _ 154 _ [.ref 264]
    refine aw_iload (i := 9) hX rfl d_X10_years_154 ?_
    refine aw_aload_n (i := 0) hX rfl rfl d_X10_years_156 ?_
    refine aw_iload (i := 9) hX rfl d_X10_years_157 ?_
    refine aw_bipush (v := 10) hX (by decide) d_X10_years_159 ?_
    obtain ⟨x10, f_1402, e_1402⟩ := bd_some e
    clear e
    refine aw_callV (b := 240) (av := [.int s, .int 10]) (avr := [.int 10, .int s]) hX (k_X10_of (cx_g hX) hF f_1402) mi_X10_of rfl rfl w_732 w_733 w_734 (by decide) rfl (LAY_lt rfl (by decide)) rfl rfl (Nat.le_of_ble_eq_true rfl) (Nat.zero_le _) (Nat.zero_le _) d_X10_years_161 ?_
    refine aw_iconst (v := 1) hX (by decide) d_X10_years_164 ?_
    refine aw_icmp_ne (t := 184) hX (by decide) d_X10_years_165 (fun c => ?_) (fun c => ?_)
    · rw [if_neg c] at e_1402
      refine aw_iconst (v := 0) hX (by decide) d_X10_years_184 ?_
      exact tj_X10_years_185_141 hF hX e_1402 kI kE0
    · rw [if_pos c] at e_1402
      refine aw_aload_n (i := 0) hX rfl rfl d_X10_years_168 ?_
      refine aw_iload (i := 9) hX rfl d_X10_years_169 ?_
      refine aw_iconst (v := 0) hX (by decide) d_X10_years_171 ?_
      obtain ⟨x12, f_1403, e_1403⟩ := bd_some e_1402
      clear e_1402
      refine aw_callV (b := 240) (av := [.int s, .int 0]) (avr := [.int 0, .int s]) hX (k_X10_of (cx_g hX) hF f_1403) mi_X10_of rfl rfl w_732 w_733 w_734 (by decide) rfl (LAY_lt rfl (by decide)) rfl rfl (Nat.le_of_ble_eq_true rfl) (Nat.zero_le _) (Nat.zero_le _) d_X10_years_172 ?_
      refine aw_iload_n (i := 2) hX rfl rfl d_X10_years_175 ?_
      refine aw_imul hX d_X10_years_176 ?_
      refine aw_sipush (v := 1000) hX (by decide) d_X10_years_177 ?_
      obtain ⟨x13, f_1404, e_1404⟩ := bd_some e_1403
      clear e_1403
      refine ar_idiv hX f_1404 d_X10_years_180 ?_
      refine aw_goto (t := 185) hX (by decide) d_X10_years_181 ?_
      exact tj_X10_years_185_141 hF hX e_1404 kI kE0
theorem ti_X10_years_141 {g : GP} {X : MX} {mcR msR : Nat} (hF : gF g = true) (hX : Cx g RX10 cX10_years 5 mcR msR (some .long) [] X) {Q : State → Prop} {p1 : Int32} {p2 : Int32} {p3 : Int32} {p4 : Int64} {p6 : Int64} {p8 : Int32} {y : Unit} {hz : AH} (kE0 : ∀ (y_9 : Value) (y_10 : Value), AR g X 0 0 Q hz 192 [.ref 240, .int p1, .int p2, .int p3, .long p4, jk, .long p6, jk, .int p8, y_9, y_10] []) (n : Nat) : ∀ (s : Int32) (d10 : Value) (h : AH), lpH (l_X10_years_141 p1 p2 p3 p4 p6 p8) n s h = some (y, hz) → AR g X 0 0 Q h 141 [.ref 240, .int p1, .int p2, .int p3, .long p4, jk, .long p6, jk, .int p8, .int s, d10] [] := by
  induction n with
  | zero => intro s d10 h e; cases e
  | succ n ih =>
    intro s d10 h e
    obtain ⟨x, h1, e1, e2⟩ := lpH_succ e
    rcases e2 with ⟨s2, rfl, e3⟩ | ⟨rfl, rfl⟩
    · exact tb_X10_years_141 hF hX e1 (fun s3 x0 hs => by cases hs; exact ih _ _ _ e3) (fun yy x0 x1 hy => by cases hy)
    · exact tb_X10_years_141 hF hX e1 (fun s3 x0 hs => by cases hs) (fun yy x0 x1 hy => by cases hy; exact kE0 x0 x1)
theorem t_X10_years_141 {g : GP} {X : MX} {mcR msR : Nat} (hF : gF g = true) (hX : Cx g RX10 cX10_years 5 mcR msR (some .long) [] X) {Q : State → Prop} {p1 : Int32} {p2 : Int32} {p3 : Int32} {p4 : Int64} {p6 : Int64} {p8 : Int32} {s : Int32} {d10 : Value} {h hz : AH} {n : Nat} {y : Unit} (e : lpH (l_X10_years_141 p1 p2 p3 p4 p6 p8) n s h = some (y, hz)) (kE0 : ∀ (y_9 : Value) (y_10 : Value), AR g X 0 0 Q hz 192 [.ref 240, .int p1, .int p2, .int p3, .long p4, jk, .long p6, jk, .int p8, y_9, y_10] []) : AR g X 0 0 Q h 141 [.ref 240, .int p1, .int p2, .int p3, .long p4, jk, .long p6, jk, .int p8, .int s, d10] [] := ti_X10_years_141 hF hX kE0 n _ _ _ e
def l_X10_years_210 (p1 : Int32) (p2 : Int32) (p3 : Int32) (p4 : Int64) (p6 : Int64) (p8 : Int32) (p9 : Int32) (s : Int32) (h : AH) : Option ((Int32 ⊕ Int32) × AH) := if (gI h 240 4) ≤ s then some (.inr s, h) else bd (s_X10_of s 10 h) fun x16 => if x16 = 1 then some (.inl (s + 1), h) else some (.inr s, h)
theorem tb_X10_years_210 {g : GP} {X : MX} {mcR msR : Nat} (hF : gF g = true) (hX : Cx g RX10 cX10_years 5 mcR msR (some .long) [] X) {Q : State → Prop} {p1 : Int32} {p2 : Int32} {p3 : Int32} {p4 : Int64} {p6 : Int64} {p8 : Int32} {p9 : Int32} {s : Int32} {h hz : AH} {z : (Int32 ⊕ Int32)} (e : l_X10_years_210 p1 p2 p3 p4 p6 p8 p9 s h = some (z, hz)) (kI : ∀ (s2 : Int32), z = .inl s2 → AR g X 0 0 Q hz 210 [.ref 240, .int p1, .int p2, .int p3, .long p4, jk, .long p6, jk, .int p8, .int p9, .int s2] []) (kE0 : ∀ (yy : Int32), z = .inr yy → AR g X 0 0 Q hz 237 [.ref 240, .int p1, .int p2, .int p3, .long p4, jk, .long p6, jk, .int p8, .int p9, .int yy] []) : AR g X 0 0 Q h 210 [.ref 240, .int p1, .int p2, .int p3, .long p4, jk, .long p6, jk, .int p8, .int p9, .int s] [] := by
  unfold l_X10_years_210 at e
  refine aw_iload (i := 10) hX rfl d_X10_years_210 ?_
  refine aw_aload_n (i := 0) hX rfl rfl d_X10_years_212 ?_
  refine ar_getI hX fg_RX10_265 rfl d_X10_years_213 ?_
  refine aw_icmp_ge (t := 237) hX (by decide) d_X10_years_216 (fun c => ?_) (fun c => ?_)
  · rw [if_pos c] at e
    cases e
    exact kE0 s  rfl
  · rw [if_neg c] at e
    refine aw_aload_n (i := 0) hX rfl rfl d_X10_years_219 ?_
    refine aw_iload (i := 10) hX rfl d_X10_years_220 ?_
    refine aw_bipush (v := 10) hX (by decide) d_X10_years_222 ?_
    obtain ⟨x16, f_1405, e_1405⟩ := bd_some e
    clear e
    refine aw_callV (b := 240) (av := [.int s, .int 10]) (avr := [.int 10, .int s]) hX (k_X10_of (cx_g hX) hF f_1405) mi_X10_of rfl rfl w_732 w_733 w_734 (by decide) rfl (LAY_lt rfl (by decide)) rfl rfl (Nat.le_of_ble_eq_true rfl) (Nat.zero_le _) (Nat.zero_le _) d_X10_years_224 ?_
    refine aw_iconst (v := 1) hX (by decide) d_X10_years_227 ?_
    refine aw_icmp_ne (t := 237) hX (by decide) d_X10_years_228 (fun c => ?_) (fun c => ?_)
    · rw [if_neg c] at e_1405
      cases e_1405
      exact kE0 s  rfl
    · rw [if_pos c] at e_1405
      refine aw_iinc (i := 10) (lv2 := [.ref 240, .int p1, .int p2, .int p3, .long p4, jk, .long p6, jk, .int p8, .int p9, .int (s + 1)]) hX rfl rfl rfl rfl d_X10_years_231 ?_
      refine aw_goto (t := 210) hX (by decide) d_X10_years_234 ?_
      cases e_1405
      exact kI (s + 1)  rfl
theorem ti_X10_years_210 {g : GP} {X : MX} {mcR msR : Nat} (hF : gF g = true) (hX : Cx g RX10 cX10_years 5 mcR msR (some .long) [] X) {Q : State → Prop} {p1 : Int32} {p2 : Int32} {p3 : Int32} {p4 : Int64} {p6 : Int64} {p8 : Int32} {p9 : Int32} {y : Int32} {hz : AH} (kE0 : AR g X 0 0 Q hz 237 [.ref 240, .int p1, .int p2, .int p3, .long p4, jk, .long p6, jk, .int p8, .int p9, .int y] []) (n : Nat) : ∀ (s : Int32) (h : AH), lpH (l_X10_years_210 p1 p2 p3 p4 p6 p8 p9) n s h = some (y, hz) → AR g X 0 0 Q h 210 [.ref 240, .int p1, .int p2, .int p3, .long p4, jk, .long p6, jk, .int p8, .int p9, .int s] [] := by
  induction n with
  | zero => intro s h e; cases e
  | succ n ih =>
    intro s h e
    obtain ⟨x, h1, e1, e2⟩ := lpH_succ e
    rcases e2 with ⟨s2, rfl, e3⟩ | ⟨rfl, rfl⟩
    · exact tb_X10_years_210 hF hX e1 (fun s3  hs => by cases hs; exact ih _  _ e3) (fun yy  hy => by cases hy)
    · exact tb_X10_years_210 hF hX e1 (fun s3  hs => by cases hs) (fun yy  hy => by cases hy; exact kE0)
theorem t_X10_years_210 {g : GP} {X : MX} {mcR msR : Nat} (hF : gF g = true) (hX : Cx g RX10 cX10_years 5 mcR msR (some .long) [] X) {Q : State → Prop} {p1 : Int32} {p2 : Int32} {p3 : Int32} {p4 : Int64} {p6 : Int64} {p8 : Int32} {p9 : Int32} {s : Int32} {h hz : AH} {n : Nat} {y : Int32} (e : lpH (l_X10_years_210 p1 p2 p3 p4 p6 p8 p9) n s h = some (y, hz)) (kE0 : AR g X 0 0 Q hz 237 [.ref 240, .int p1, .int p2, .int p3, .long p4, jk, .long p6, jk, .int p8, .int p9, .int y] []) : AR g X 0 0 Q h 210 [.ref 240, .int p1, .int p2, .int p3, .long p4, jk, .long p6, jk, .int p8, .int p9, .int s] [] := ti_X10_years_210 hF hX kE0 n _  _ e
def j_X10_years_289_195 (p1 : Int32) (p2 : Int32) (p3 : Int32) (p4 : Int64) (p6 : Int64) (p8 : Int32) (v9 : Int32) (h : AH) : Option ((Int32 ⊕ Unit) × AH) := some (.inl (v9 + 1), h)
theorem tj_X10_years_289_195 {g : GP} {X : MX} {mcR msR : Nat} (hF : gF g = true) (hX : Cx g RX10 cX10_years 5 mcR msR (some .long) [] X) {Q : State → Prop} {p1 : Int32} {p2 : Int32} {p3 : Int32} {p4 : Int64} {p6 : Int64} {p8 : Int32} {v9 : Int32} {d10 : Value} {h hz : AH} {z : (Int32 ⊕ Unit)} (e : j_X10_years_289_195 p1 p2 p3 p4 p6 p8 v9 h = some (z, hz)) (kI : ∀ (s2 : Int32) (xd10 : Value), z = .inl s2 → AR g X 0 0 Q hz 195 [.ref 240, .int p1, .int p2, .int p3, .long p4, jk, .long p6, jk, .int p8, .int s2, xd10] []) (kE0 : ∀ (yy : Unit) (y9 : Value) (y10 : Value), z = .inr yy → AR g X 0 0 Q hz 295 [.ref 240, .int p1, .int p2, .int p3, .long p4, jk, .long p6, jk, .int p8, y9, y10] []) : AR g X 0 0 Q h 289 [.ref 240, .int p1, .int p2, .int p3, .long p4, jk, .long p6, jk, .int p8, .int v9, d10] [] := by
  unfold j_X10_years_289_195 at e
  refine aw_iinc (i := 9) (lv2 := [.ref 240, .int p1, .int p2, .int p3, .long p4, jk, .long p6, jk, .int p8, .int (v9 + 1), d10]) hX rfl rfl rfl rfl d_X10_years_289 ?_
  refine aw_goto (t := 195) hX (by decide) d_X10_years_292 ?_
  cases e
  exact kI (v9 + 1) _ rfl
def j_X10_years_237_195 (p1 : Int32) (p2 : Int32) (p3 : Int32) (p4 : Int64) (p6 : Int64) (p8 : Int32) (v9 : Int32) (v10 : Int32) (h : AH) : Option ((Int32 ⊕ Unit) × AH) := if v10 < (gI h 240 4) then bd (ldI h 242 (11 * v9)) fun x19 => bd (ldI h 264 v9) fun x20 => bd (stI h 242 (11 * v9) (x19 - x20)) fun m21 => bd (ldI m21 242 (11 * v10)) fun x22 => bd (ldI m21 264 v9) fun x23 => bd (stI m21 242 (11 * v10) (x22 + x23)) fun m24 => j_X10_years_289_195 p1 p2 p3 p4 p6 p8 v9 m24 else j_X10_years_289_195 p1 p2 p3 p4 p6 p8 v9 h
theorem tj_X10_years_237_195 {g : GP} {X : MX} {mcR msR : Nat} (hF : gF g = true) (hX : Cx g RX10 cX10_years 5 mcR msR (some .long) [] X) {Q : State → Prop} {p1 : Int32} {p2 : Int32} {p3 : Int32} {p4 : Int64} {p6 : Int64} {p8 : Int32} {v9 : Int32} {v10 : Int32} {h hz : AH} {z : (Int32 ⊕ Unit)} (e : j_X10_years_237_195 p1 p2 p3 p4 p6 p8 v9 v10 h = some (z, hz)) (kI : ∀ (s2 : Int32) (xd10 : Value), z = .inl s2 → AR g X 0 0 Q hz 195 [.ref 240, .int p1, .int p2, .int p3, .long p4, jk, .long p6, jk, .int p8, .int s2, xd10] []) (kE0 : ∀ (yy : Unit) (y9 : Value) (y10 : Value), z = .inr yy → AR g X 0 0 Q hz 295 [.ref 240, .int p1, .int p2, .int p3, .long p4, jk, .long p6, jk, .int p8, y9, y10] []) : AR g X 0 0 Q h 237 [.ref 240, .int p1, .int p2, .int p3, .long p4, jk, .long p6, jk, .int p8, .int v9, .int v10] [] := by
  unfold j_X10_years_237_195 at e
  refine aw_iload (i := 10) hX rfl d_X10_years_237 ?_
  refine aw_aload_n (i := 0) hX rfl rfl d_X10_years_239 ?_
  refine ar_getI hX fg_RX10_265 rfl d_X10_years_240 ?_
  refine aw_icmp_lt (t := 249) hX (by decide) d_X10_years_243 (fun c => ?_) (fun c => ?_)
  · rw [if_pos c] at e
    refine aw_aload_n (i := 0) hX rfl rfl d_X10_years_249 ?_
    refine ar_getF hX hF fg_RX10_17 rfl d_X10_years_250 ?_
    show AR g X 0 0 _ _ 253 _ [.ref 242]
    refine aw_bipush (v := 11) hX (by decide) d_X10_years_253 ?_
    refine aw_iload (i := 9) hX rfl d_X10_years_255 ?_
    refine aw_imul hX d_X10_years_257 ?_
    refine aw_dup2 hX rfl rfl d_X10_years_258 ?_
    obtain ⟨x19, f_1406, e_1406⟩ := bd_some e
    clear e
    refine ar_iaload hX f_1406 d_X10_years_259 ?_
    refine aw_aload_n (i := 0) hX rfl rfl d_X10_years_260 ?_
    refine ar_getF hX hF fg_RX10_91 rfl d_X10_years_261 ?_
    show AR g X 0 0 _ _ 264 _ [.ref 264, .int x19, .int (11 * v9), .ref 242]
    refine aw_iload (i := 9) hX rfl d_X10_years_264 ?_
    obtain ⟨x20, f_1407, e_1407⟩ := bd_some e_1406
    clear e_1406
    refine ar_iaload hX f_1407 d_X10_years_266 ?_
    refine aw_isub hX d_X10_years_267 ?_
    obtain ⟨m21, f_1408, e_1408⟩ := bd_some e_1407
    clear e_1407
    refine ar_iastore hX f_1408 d_X10_years_268 ?_
    refine aw_aload_n (i := 0) hX rfl rfl d_X10_years_269 ?_
    refine ar_getF hX hF fg_RX10_17 rfl d_X10_years_270 ?_
    show AR g X 0 0 _ _ 273 _ [.ref 242]
    refine aw_bipush (v := 11) hX (by decide) d_X10_years_273 ?_
    refine aw_iload (i := 10) hX rfl d_X10_years_275 ?_
    refine aw_imul hX d_X10_years_277 ?_
    refine aw_dup2 hX rfl rfl d_X10_years_278 ?_
    obtain ⟨x22, f_1409, e_1409⟩ := bd_some e_1408
    clear e_1408
    refine ar_iaload hX f_1409 d_X10_years_279 ?_
    refine aw_aload_n (i := 0) hX rfl rfl d_X10_years_280 ?_
    refine ar_getF hX hF fg_RX10_91 rfl d_X10_years_281 ?_
    show AR g X 0 0 _ _ 284 _ [.ref 264, .int x22, .int (11 * v10), .ref 242]
    refine aw_iload (i := 9) hX rfl d_X10_years_284 ?_
    obtain ⟨x23, f_1410, e_1410⟩ := bd_some e_1409
    clear e_1409
    refine ar_iaload hX f_1410 d_X10_years_286 ?_
    refine aw_iadd hX d_X10_years_287 ?_
    obtain ⟨m24, f_1411, e_1411⟩ := bd_some e_1410
    clear e_1410
    refine ar_iastore hX f_1411 d_X10_years_288 ?_
    exact tj_X10_years_289_195 hF hX e_1411 kI kE0
  · rw [if_neg c] at e
    refine aw_goto (t := 289) hX (by decide) d_X10_years_246 ?_
    exact tj_X10_years_289_195 hF hX e kI kE0
def l_X10_years_195 (p1 : Int32) (p2 : Int32) (p3 : Int32) (p4 : Int64) (p6 : Int64) (p8 : Int32) (s : Int32) (h : AH) : Option ((Int32 ⊕ Unit) × AH) := if (gI h 240 4) ≤ s then some (.inr (), h) else bd (lpH (l_X10_years_210 p1 p2 p3 p4 p6 p8 s) FU (s + 1) h) fun y17 => j_X10_years_237_195 p1 p2 p3 p4 p6 p8 s y17.1 y17.2
theorem tb_X10_years_195 {g : GP} {X : MX} {mcR msR : Nat} (hF : gF g = true) (hX : Cx g RX10 cX10_years 5 mcR msR (some .long) [] X) {Q : State → Prop} {p1 : Int32} {p2 : Int32} {p3 : Int32} {p4 : Int64} {p6 : Int64} {p8 : Int32} {s : Int32} {d10 : Value} {h hz : AH} {z : (Int32 ⊕ Unit)} (e : l_X10_years_195 p1 p2 p3 p4 p6 p8 s h = some (z, hz)) (kI : ∀ (s2 : Int32) (xd10 : Value), z = .inl s2 → AR g X 0 0 Q hz 195 [.ref 240, .int p1, .int p2, .int p3, .long p4, jk, .long p6, jk, .int p8, .int s2, xd10] []) (kE0 : ∀ (yy : Unit) (y9 : Value) (y10 : Value), z = .inr yy → AR g X 0 0 Q hz 295 [.ref 240, .int p1, .int p2, .int p3, .long p4, jk, .long p6, jk, .int p8, y9, y10] []) : AR g X 0 0 Q h 195 [.ref 240, .int p1, .int p2, .int p3, .long p4, jk, .long p6, jk, .int p8, .int s, d10] [] := by
  unfold l_X10_years_195 at e
  refine aw_iload (i := 9) hX rfl d_X10_years_195 ?_
  refine aw_aload_n (i := 0) hX rfl rfl d_X10_years_197 ?_
  refine ar_getI hX fg_RX10_265 rfl d_X10_years_198 ?_
  refine aw_icmp_ge (t := 295) hX (by decide) d_X10_years_201 (fun c => ?_) (fun c => ?_)
  · rw [if_pos c] at e
    cases e
    exact kE0 () _ _ rfl
  · rw [if_neg c] at e
    refine aw_iload (i := 9) hX rfl d_X10_years_204 ?_
    refine aw_iconst (v := 1) hX (by decide) d_X10_years_206 ?_
    refine aw_iadd hX d_X10_years_207 ?_
    refine aw_istore (i := 10) (lv2 := [.ref 240, .int p1, .int p2, .int p3, .long p4, jk, .long p6, jk, .int p8, .int s, .int (s + 1)]) hX rfl rfl d_X10_years_208 ?_
    obtain ⟨y17, f_1412, e_1412⟩ := bd_some e
    clear e
    refine t_X10_years_210 hF hX f_1412 ?_
    exact tj_X10_years_237_195 hF hX e_1412 kI kE0
theorem ti_X10_years_195 {g : GP} {X : MX} {mcR msR : Nat} (hF : gF g = true) (hX : Cx g RX10 cX10_years 5 mcR msR (some .long) [] X) {Q : State → Prop} {p1 : Int32} {p2 : Int32} {p3 : Int32} {p4 : Int64} {p6 : Int64} {p8 : Int32} {y : Unit} {hz : AH} (kE0 : ∀ (y_9 : Value) (y_10 : Value), AR g X 0 0 Q hz 295 [.ref 240, .int p1, .int p2, .int p3, .long p4, jk, .long p6, jk, .int p8, y_9, y_10] []) (n : Nat) : ∀ (s : Int32) (d10 : Value) (h : AH), lpH (l_X10_years_195 p1 p2 p3 p4 p6 p8) n s h = some (y, hz) → AR g X 0 0 Q h 195 [.ref 240, .int p1, .int p2, .int p3, .long p4, jk, .long p6, jk, .int p8, .int s, d10] [] := by
  induction n with
  | zero => intro s d10 h e; cases e
  | succ n ih =>
    intro s d10 h e
    obtain ⟨x, h1, e1, e2⟩ := lpH_succ e
    rcases e2 with ⟨s2, rfl, e3⟩ | ⟨rfl, rfl⟩
    · exact tb_X10_years_195 hF hX e1 (fun s3 x0 hs => by cases hs; exact ih _ _ _ e3) (fun yy x0 x1 hy => by cases hy)
    · exact tb_X10_years_195 hF hX e1 (fun s3 x0 hs => by cases hs) (fun yy x0 x1 hy => by cases hy; exact kE0 x0 x1)
theorem t_X10_years_195 {g : GP} {X : MX} {mcR msR : Nat} (hF : gF g = true) (hX : Cx g RX10 cX10_years 5 mcR msR (some .long) [] X) {Q : State → Prop} {p1 : Int32} {p2 : Int32} {p3 : Int32} {p4 : Int64} {p6 : Int64} {p8 : Int32} {s : Int32} {d10 : Value} {h hz : AH} {n : Nat} {y : Unit} (e : lpH (l_X10_years_195 p1 p2 p3 p4 p6 p8) n s h = some (y, hz)) (kE0 : ∀ (y_9 : Value) (y_10 : Value), AR g X 0 0 Q hz 295 [.ref 240, .int p1, .int p2, .int p3, .long p4, jk, .long p6, jk, .int p8, y_9, y_10] []) : AR g X 0 0 Q h 195 [.ref 240, .int p1, .int p2, .int p3, .long p4, jk, .long p6, jk, .int p8, .int s, d10] [] := ti_X10_years_195 hF hX kE0 n _ _ _ e
def l_X10_years_119 (p1 : Int32) (p2 : Int32) (p3 : Int32) (s : (Int64 × Int64 × Int32)) (h : AH) : Option (((Int64 × Int64 × Int32) ⊕ (Int64 × Int64)) × AH) := if p1 ≤ s.2.2 then some (.inr (s.1, s.2.1), h) else bd (s_X10_earnsNow h) fun x9 => bd (lpH (l_X10_years_141 p1 p2 p3 x9 (s.2.1 + x9) s.2.2) FU 0 h) fun y14 => bd (lpH (l_X10_years_195 p1 p2 p3 x9 (s.2.1 + x9) s.2.2) FU 0 y14.2) fun y25 => some (.inl (x9, (s.2.1 + x9), s.2.2 + 1), y25.2)
theorem tb_X10_years_119 {g : GP} {X : MX} {mcR msR : Nat} (hF : gF g = true) (hX : Cx g RX10 cX10_years 5 mcR msR (some .long) [] X) {Q : State → Prop} {p1 : Int32} {p2 : Int32} {p3 : Int32} {s : (Int64 × Int64 × Int32)} {d9 : Value} {d10 : Value} {h hz : AH} {z : ((Int64 × Int64 × Int32) ⊕ (Int64 × Int64))} (e : l_X10_years_119 p1 p2 p3 s h = some (z, hz)) (kI : ∀ (s2 : (Int64 × Int64 × Int32)) (xd9 : Value) (xd10 : Value), z = .inl s2 → AR g X 0 0 Q hz 119 [.ref 240, .int p1, .int p2, .int p3, .long s2.1, jk, .long s2.2.1, jk, .int s2.2.2, xd9, xd10] []) (kE0 : ∀ (yy : (Int64 × Int64)) (y1 : Value) (y2 : Value) (y8 : Value) (y9 : Value) (y10 : Value), z = .inr yy → AR g X 0 0 Q hz 301 [.ref 240, y1, y2, .int p3, .long yy.1, jk, .long yy.2, jk, y8, y9, y10] []) : AR g X 0 0 Q h 119 [.ref 240, .int p1, .int p2, .int p3, .long s.1, jk, .long s.2.1, jk, .int s.2.2, d9, d10] [] := by
  unfold l_X10_years_119 at e
  refine aw_iload (i := 8) hX rfl d_X10_years_119 ?_
  refine aw_iload_n (i := 1) hX rfl rfl d_X10_years_121 ?_
  refine aw_icmp_ge (t := 301) hX (by decide) d_X10_years_122 (fun c => ?_) (fun c => ?_)
  · rw [if_pos c] at e
    cases e
    exact kE0 (s.1, s.2.1) _ _ _ _ _ rfl
  · rw [if_neg c] at e
    refine aw_aload_n (i := 0) hX rfl rfl d_X10_years_125 ?_
    obtain ⟨x9, f_1413, e_1413⟩ := bd_some e
    clear e
    refine aw_callV (b := 240) (av := []) (avr := []) hX (k_X10_earnsNow (cx_g hX) hF f_1413) mi_X10_earnsNow rfl rfl w_861 w_862 w_863 (by decide) rfl (LAY_lt rfl (by decide)) rfl rfl (Nat.le_of_ble_eq_true rfl) (Nat.zero_le _) (Nat.zero_le _) d_X10_years_126 ?_
    refine aw_lstore (i := 4) (lv2 := [.ref 240, .int p1, .int p2, .int p3, .long x9, jk, .long s.2.1, jk, .int s.2.2, d9, d10]) hX rfl rfl d_X10_years_129 ?_
    refine aw_lload (i := 6) hX rfl d_X10_years_131 ?_
    refine aw_lload (i := 4) hX rfl d_X10_years_133 ?_
    refine aw_ladd hX d_X10_years_135 ?_
    refine aw_lstore (i := 6) (lv2 := [.ref 240, .int p1, .int p2, .int p3, .long x9, jk, .long (s.2.1 + x9), jk, .int s.2.2, d9, d10]) hX rfl rfl d_X10_years_136 ?_
    refine aw_iconst (v := 0) hX (by decide) d_X10_years_138 ?_
    refine aw_istore (i := 9) (lv2 := [.ref 240, .int p1, .int p2, .int p3, .long x9, jk, .long (s.2.1 + x9), jk, .int s.2.2, .int 0, d10]) hX rfl rfl d_X10_years_139 ?_
    obtain ⟨y14, f_1414, e_1414⟩ := bd_some e_1413
    clear e_1413
    refine t_X10_years_141 hF hX f_1414 (fun d15_9 d15_10 => ?_)
    refine aw_iconst (v := 0) hX (by decide) d_X10_years_192 ?_
    refine aw_istore (i := 9) (lv2 := [.ref 240, .int p1, .int p2, .int p3, .long x9, jk, .long (s.2.1 + x9), jk, .int s.2.2, .int 0, d15_10]) hX rfl rfl d_X10_years_193 ?_
    obtain ⟨y25, f_1415, e_1415⟩ := bd_some e_1414
    clear e_1414
    refine t_X10_years_195 hF hX f_1415 (fun d26_9 d26_10 => ?_)
    refine aw_iinc (i := 8) (lv2 := [.ref 240, .int p1, .int p2, .int p3, .long x9, jk, .long (s.2.1 + x9), jk, .int (s.2.2 + 1), d26_9, d26_10]) hX rfl rfl rfl rfl d_X10_years_295 ?_
    refine aw_goto (t := 119) hX (by decide) d_X10_years_298 ?_
    cases e_1415
    exact kI (x9, (s.2.1 + x9), s.2.2 + 1) _ _ rfl
theorem ti_X10_years_119 {g : GP} {X : MX} {mcR msR : Nat} (hF : gF g = true) (hX : Cx g RX10 cX10_years 5 mcR msR (some .long) [] X) {Q : State → Prop} {p1 : Int32} {p2 : Int32} {p3 : Int32} {y : (Int64 × Int64)} {hz : AH} (kE0 : ∀ (y_1 : Value) (y_2 : Value) (y_8 : Value) (y_9 : Value) (y_10 : Value), AR g X 0 0 Q hz 301 [.ref 240, y_1, y_2, .int p3, .long y.1, jk, .long y.2, jk, y_8, y_9, y_10] []) (n : Nat) : ∀ (s : (Int64 × Int64 × Int32)) (d9 : Value) (d10 : Value) (h : AH), lpH (l_X10_years_119 p1 p2 p3) n s h = some (y, hz) → AR g X 0 0 Q h 119 [.ref 240, .int p1, .int p2, .int p3, .long s.1, jk, .long s.2.1, jk, .int s.2.2, d9, d10] [] := by
  induction n with
  | zero => intro s d9 d10 h e; cases e
  | succ n ih =>
    intro s d9 d10 h e
    obtain ⟨x, h1, e1, e2⟩ := lpH_succ e
    rcases e2 with ⟨s2, rfl, e3⟩ | ⟨rfl, rfl⟩
    · exact tb_X10_years_119 hF hX e1 (fun s3 x0 x1 hs => by cases hs; exact ih _ _ _ _ e3) (fun yy x0 x1 x2 x3 x4 hy => by cases hy)
    · exact tb_X10_years_119 hF hX e1 (fun s3 x0 x1 hs => by cases hs) (fun yy x0 x1 x2 x3 x4 hy => by cases hy; exact kE0 x0 x1 x2 x3 x4)
theorem t_X10_years_119 {g : GP} {X : MX} {mcR msR : Nat} (hF : gF g = true) (hX : Cx g RX10 cX10_years 5 mcR msR (some .long) [] X) {Q : State → Prop} {p1 : Int32} {p2 : Int32} {p3 : Int32} {s : (Int64 × Int64 × Int32)} {d9 : Value} {d10 : Value} {h hz : AH} {n : Nat} {y : (Int64 × Int64)} (e : lpH (l_X10_years_119 p1 p2 p3) n s h = some (y, hz)) (kE0 : ∀ (y_1 : Value) (y_2 : Value) (y_8 : Value) (y_9 : Value) (y_10 : Value), AR g X 0 0 Q hz 301 [.ref 240, y_1, y_2, .int p3, .long y.1, jk, .long y.2, jk, y_8, y_9, y_10] []) : AR g X 0 0 Q h 119 [.ref 240, .int p1, .int p2, .int p3, .long s.1, jk, .long s.2.1, jk, .int s.2.2, d9, d10] [] := ti_X10_years_119 hF hX kE0 n _ _ _ _ e
def l_X10_years_334 (p8 : Int64) (s : Int32) (h : AH) : Option ((Int32 ⊕ Unit) × AH) := if (gI h 240 4) ≤ s then some (.inr (), h) else bd (ldI h 263 s) fun x30 => bd (stI h 242 (11 * s) x30) fun m31 => some (.inl (s + 1), m31)
theorem tb_X10_years_334 {g : GP} {X : MX} {mcR msR : Nat} (hF : gF g = true) (hX : Cx g RX10 cX10_years 5 mcR msR (some .long) [] X) {Q : State → Prop} {p8 : Int64} {s : Int32} {d1 : Value} {d2 : Value} {d3 : Value} {d4 : Value} {d5 : Value} {d6 : Value} {d7 : Value} {h hz : AH} {z : (Int32 ⊕ Unit)} (e : l_X10_years_334 p8 s h = some (z, hz)) (kI : ∀ (s2 : Int32) (xd1 : Value) (xd2 : Value) (xd3 : Value) (xd4 : Value) (xd5 : Value) (xd6 : Value) (xd7 : Value), z = .inl s2 → AR g X 0 0 Q hz 334 [.ref 240, xd1, xd2, xd3, xd4, xd5, xd6, xd7, .long p8, jk, .int s2] []) (kE0 : ∀ (yy : Unit) (y0 : Value) (y1 : Value) (y2 : Value) (y3 : Value) (y4 : Value) (y5 : Value) (y6 : Value) (y7 : Value) (y10 : Value), z = .inr yy → AR g X 0 0 Q hz 366 [y0, y1, y2, y3, y4, y5, y6, y7, .long p8, jk, y10] []) : AR g X 0 0 Q h 334 [.ref 240, d1, d2, d3, d4, d5, d6, d7, .long p8, jk, .int s] [] := by
  unfold l_X10_years_334 at e
  refine aw_iload (i := 10) hX rfl d_X10_years_334 ?_
  refine aw_aload_n (i := 0) hX rfl rfl d_X10_years_336 ?_
  refine ar_getI hX fg_RX10_265 rfl d_X10_years_337 ?_
  refine aw_icmp_ge (t := 366) hX (by decide) d_X10_years_340 (fun c => ?_) (fun c => ?_)
  · rw [if_pos c] at e
    cases e
    exact kE0 () _ _ _ _ _ _ _ _ _ rfl
  · rw [if_neg c] at e
    refine aw_aload_n (i := 0) hX rfl rfl d_X10_years_343 ?_
    refine ar_getF hX hF fg_RX10_17 rfl d_X10_years_344 ?_
    show AR g X 0 0 _ _ 347 _ [.ref 242]
    refine aw_bipush (v := 11) hX (by decide) d_X10_years_347 ?_
    refine aw_iload (i := 10) hX rfl d_X10_years_349 ?_
    refine aw_imul hX d_X10_years_351 ?_
    refine aw_aload_n (i := 0) hX rfl rfl d_X10_years_352 ?_
    refine ar_getF hX hF fg_RX10_88 rfl d_X10_years_353 ?_
    show AR g X 0 0 _ _ 356 _ [.ref 263, .int (11 * s), .ref 242]
    refine aw_iload (i := 10) hX rfl d_X10_years_356 ?_
    obtain ⟨x30, f_1416, e_1416⟩ := bd_some e
    clear e
    refine ar_iaload hX f_1416 d_X10_years_358 ?_
    obtain ⟨m31, f_1417, e_1417⟩ := bd_some e_1416
    clear e_1416
    refine ar_iastore hX f_1417 d_X10_years_359 ?_
    refine aw_iinc (i := 10) (lv2 := [.ref 240, d1, d2, d3, d4, d5, d6, d7, .long p8, jk, .int (s + 1)]) hX rfl rfl rfl rfl d_X10_years_360 ?_
    refine aw_goto (t := 334) hX (by decide) d_X10_years_363 ?_
    cases e_1417
    exact kI (s + 1) _ _ _ _ _ _ _ rfl
theorem ti_X10_years_334 {g : GP} {X : MX} {mcR msR : Nat} (hF : gF g = true) (hX : Cx g RX10 cX10_years 5 mcR msR (some .long) [] X) {Q : State → Prop} {p8 : Int64} {y : Unit} {hz : AH} (kE0 : ∀ (y_0 : Value) (y_1 : Value) (y_2 : Value) (y_3 : Value) (y_4 : Value) (y_5 : Value) (y_6 : Value) (y_7 : Value) (y_10 : Value), AR g X 0 0 Q hz 366 [y_0, y_1, y_2, y_3, y_4, y_5, y_6, y_7, .long p8, jk, y_10] []) (n : Nat) : ∀ (s : Int32) (d1 : Value) (d2 : Value) (d3 : Value) (d4 : Value) (d5 : Value) (d6 : Value) (d7 : Value) (h : AH), lpH (l_X10_years_334 p8) n s h = some (y, hz) → AR g X 0 0 Q h 334 [.ref 240, d1, d2, d3, d4, d5, d6, d7, .long p8, jk, .int s] [] := by
  induction n with
  | zero => intro s d1 d2 d3 d4 d5 d6 d7 h e; cases e
  | succ n ih =>
    intro s d1 d2 d3 d4 d5 d6 d7 h e
    obtain ⟨x, h1, e1, e2⟩ := lpH_succ e
    rcases e2 with ⟨s2, rfl, e3⟩ | ⟨rfl, rfl⟩
    · exact tb_X10_years_334 hF hX e1 (fun s3 x0 x1 x2 x3 x4 x5 x6 hs => by cases hs; exact ih _ _ _ _ _ _ _ _ _ e3) (fun yy x0 x1 x2 x3 x4 x5 x6 x7 x8 hy => by cases hy)
    · exact tb_X10_years_334 hF hX e1 (fun s3 x0 x1 x2 x3 x4 x5 x6 hs => by cases hs) (fun yy x0 x1 x2 x3 x4 x5 x6 x7 x8 hy => by cases hy; exact kE0 x0 x1 x2 x3 x4 x5 x6 x7 x8)
theorem t_X10_years_334 {g : GP} {X : MX} {mcR msR : Nat} (hF : gF g = true) (hX : Cx g RX10 cX10_years 5 mcR msR (some .long) [] X) {Q : State → Prop} {p8 : Int64} {s : Int32} {d1 : Value} {d2 : Value} {d3 : Value} {d4 : Value} {d5 : Value} {d6 : Value} {d7 : Value} {h hz : AH} {n : Nat} {y : Unit} (e : lpH (l_X10_years_334 p8) n s h = some (y, hz)) (kE0 : ∀ (y_0 : Value) (y_1 : Value) (y_2 : Value) (y_3 : Value) (y_4 : Value) (y_5 : Value) (y_6 : Value) (y_7 : Value) (y_10 : Value), AR g X 0 0 Q hz 366 [y_0, y_1, y_2, y_3, y_4, y_5, y_6, y_7, .long p8, jk, y_10] []) : AR g X 0 0 Q h 334 [.ref 240, d1, d2, d3, d4, d5, d6, d7, .long p8, jk, .int s] [] := ti_X10_years_334 hF hX kE0 n _ _ _ _ _ _ _ _ _ e
def j_X10_years_329 (k0 : Int64) (h : AH) : Option (Int64 × AH) := bd (lpH (l_X10_years_334 k0) FU 0 h) fun y32 => some (k0, y32.2)
theorem tj_X10_years_329 {g : GP} {X : MX} {mcR msR : Nat} (hF : gF g = true) (hX : Cx g RX10 cX10_years 5 mcR msR (some .long) [] X) {k0 : Int64} {d1 : Value} {d2 : Value} {d3 : Value} {d4 : Value} {d5 : Value} {d6 : Value} {d7 : Value} {d8 : Value} {d9 : Value} {d10 : Value} {h hz : AH} {z : Int64} (e : j_X10_years_329 k0 h = some (z, hz)) : AR g X 0 0 (QQ g X NT false hz (.inl (some (.long z))) 0 0) h 329 [.ref 240, d1, d2, d3, d4, d5, d6, d7, d8, d9, d10] [.long k0] := by
  unfold j_X10_years_329 at e
  refine aw_lstore (i := 8) (lv2 := [.ref 240, d1, d2, d3, d4, d5, d6, _, .long k0, jk, d10]) hX rfl rfl d_X10_years_329 ?_
  refine aw_iconst (v := 0) hX (by decide) d_X10_years_331 ?_
  refine aw_istore (i := 10) (lv2 := [.ref 240, d1, d2, d3, d4, d5, d6, _, .long k0, jk, .int 0]) hX rfl rfl d_X10_years_332 ?_
  obtain ⟨y32, f_1418, e_1418⟩ := bd_some e
  clear e
  refine t_X10_years_334 hF hX f_1418 (fun d33_0 d33_1 d33_2 d33_3 d33_4 d33_5 d33_6 d33_7 d33_10 => ?_)
  refine aw_lload (i := 8) hX rfl d_X10_years_366 ?_
  cases e_1418
  exact aw_lreturn hX (Nat.zero_le _) (Nat.zero_le _) d_X10_years_368
def j_X10_years_69 (v1 : Int32) (v2 : Int32) (v3 : Int32) (k0 : Int32) (h : AH) : Option (Int64 × AH) := bd (s_X10_right k0 2 h) fun q4 => if q4.1 = 0 then some (0, q4.2) else bd (lpH (l_X10_years_81 v1 v2 v3) FU 0 q4.2) fun y7 => bd (lpH (l_X10_years_119 v1 v2 v3) FU (0, 0, 0) y7.2) fun y27 => if v3 = 0 then j_X10_years_329 y27.1.1 y27.2 else if v3 = 1 then j_X10_years_329 y27.1.2 y27.2 else bd (s_X10_of (v3 - 2) 0 y27.2) fun x29 => j_X10_years_329 x29.toInt64 y27.2
theorem tj_X10_years_69 {g : GP} {X : MX} {mcR msR : Nat} (hF : gF g = true) (hX : Cx g RX10 cX10_years 5 mcR msR (some .long) [] X) {v1 : Int32} {v2 : Int32} {v3 : Int32} {k0 : Int32} {d4 : Value} {d5 : Value} {d6 : Value} {d7 : Value} {d8 : Value} {d9 : Value} {d10 : Value} {h hz : AH} {z : Int64} (e : j_X10_years_69 v1 v2 v3 k0 h = some (z, hz)) : AR g X 0 0 (QQ g X NT false hz (.inl (some (.long z))) 0 0) h 69 [.ref 240, .int v1, .int v2, .int v3, d4, d5, d6, d7, d8, d9, d10] [.int k0, .ref 240] := by
  unfold j_X10_years_69 at e
  refine aw_iconst (v := 2) hX (by decide) d_X10_years_69 ?_
  obtain ⟨q4, f_1419, e_1419⟩ := bd_some e
  clear e
  refine aw_callV (b := 240) (av := [.int k0, .int 2]) (avr := [.int 2, .int k0]) hX (k_X10_right (cx_g hX) hF f_1419) mi_X10_right rfl rfl w_772 w_773 w_774 (by decide) rfl (LAY_lt rfl (by decide)) rfl rfl (Nat.le_of_ble_eq_true rfl) (Nat.zero_le _) (Nat.zero_le _) d_X10_years_70 ?_
  refine aw_if_ne (t := 78) hX (by decide) d_X10_years_73 (fun c => ?_) (fun c => ?_)
  · rw [if_neg c] at e_1419
    refine aw_iconst (v := 0) hX (by decide) d_X10_years_78 ?_
    refine aw_istore (i := 4) (lv2 := [.ref 240, .int v1, .int v2, .int v3, .int 0, d5, d6, d7, d8, d9, d10]) hX rfl rfl d_X10_years_79 ?_
    obtain ⟨y7, f_1420, e_1420⟩ := bd_some e_1419
    clear e_1419
    refine t_X10_years_81 hF hX f_1420 (fun d8_4 d8_5 d8_6 d8_7 d8_8 d8_9 d8_10 => ?_)
    refine aw_lconst (v := 0) hX (by decide) d_X10_years_110 ?_
    refine aw_lstore (i := 4) (lv2 := [.ref 240, .int v1, .int v2, .int v3, .long 0, jk, d8_6, d8_7, d8_8, d8_9, d8_10]) hX rfl rfl d_X10_years_111 ?_
    refine aw_lconst (v := 0) hX (by decide) d_X10_years_113 ?_
    refine aw_lstore (i := 6) (lv2 := [.ref 240, .int v1, .int v2, .int v3, .long 0, jk, .long 0, jk, d8_8, d8_9, d8_10]) hX rfl rfl d_X10_years_114 ?_
    refine aw_iconst (v := 0) hX (by decide) d_X10_years_116 ?_
    refine aw_istore (i := 8) (lv2 := [.ref 240, .int v1, .int v2, .int v3, .long 0, jk, .long 0, jk, .int 0, d8_9, d8_10]) hX rfl rfl d_X10_years_117 ?_
    obtain ⟨y27, f_1421, e_1421⟩ := bd_some e_1420
    clear e_1420
    refine t_X10_years_119 hF hX f_1421 (fun d28_1 d28_2 d28_8 d28_9 d28_10 => ?_)
    refine aw_iload_n (i := 3) hX rfl rfl d_X10_years_301 ?_
    refine aw_if_ne (t := 310) hX (by decide) d_X10_years_302 (fun c => ?_) (fun c => ?_)
    · rw [if_neg c] at e_1421
      refine aw_iload_n (i := 3) hX rfl rfl d_X10_years_310 ?_
      refine aw_iconst (v := 1) hX (by decide) d_X10_years_311 ?_
      refine aw_icmp_ne (t := 320) hX (by decide) d_X10_years_312 (fun c => ?_) (fun c => ?_)
      · rw [if_neg c] at e_1421
        refine aw_aload_n (i := 0) hX rfl rfl d_X10_years_320 ?_
        refine aw_iload_n (i := 3) hX rfl rfl d_X10_years_321 ?_
        refine aw_iconst (v := 2) hX (by decide) d_X10_years_322 ?_
        refine aw_isub hX d_X10_years_323 ?_
        refine aw_iconst (v := 0) hX (by decide) d_X10_years_324 ?_
        obtain ⟨x29, f_1422, e_1422⟩ := bd_some e_1421
        clear e_1421
        refine aw_callV (b := 240) (av := [.int (v3 - 2), .int 0]) (avr := [.int 0, .int (v3 - 2)]) hX (k_X10_of (cx_g hX) hF f_1422) mi_X10_of rfl rfl w_732 w_733 w_734 (by decide) rfl (LAY_lt rfl (by decide)) rfl rfl (Nat.le_of_ble_eq_true rfl) (Nat.zero_le _) (Nat.zero_le _) d_X10_years_325 ?_
        refine aw_i2l hX d_X10_years_328 ?_
        exact tj_X10_years_329 hF hX e_1422
      · rw [if_pos c] at e_1421
        refine aw_lload (i := 6) hX rfl d_X10_years_315 ?_
        refine aw_goto (t := 329) hX (by decide) d_X10_years_317 ?_
        exact tj_X10_years_329 hF hX e_1421
    · rw [if_pos c] at e_1421
      refine aw_lload (i := 4) hX rfl d_X10_years_305 ?_
      refine aw_goto (t := 329) hX (by decide) d_X10_years_307 ?_
      exact tj_X10_years_329 hF hX e_1421
  · rw [if_pos c] at e_1419
    refine aw_lconst (v := 0) hX (by decide) d_X10_years_76 ?_
    cases e_1419
    exact aw_lreturn hX (Nat.zero_le _) (Nat.zero_le _) d_X10_years_77
def j_X10_years_68 (v1 : Int32) (v2 : Int32) (v3 : Int32) (h : AH) : Option (Int64 × AH) := j_X10_years_69 v1 v2 v3 0 h
theorem tj_X10_years_68 {g : GP} {X : MX} {mcR msR : Nat} (hF : gF g = true) (hX : Cx g RX10 cX10_years 5 mcR msR (some .long) [] X) {v1 : Int32} {v2 : Int32} {v3 : Int32} {d4 : Value} {d5 : Value} {d6 : Value} {d7 : Value} {d8 : Value} {d9 : Value} {d10 : Value} {h hz : AH} {z : Int64} (e : j_X10_years_68 v1 v2 v3 h = some (z, hz)) : AR g X 0 0 (QQ g X NT false hz (.inl (some (.long z))) 0 0) h 68 [.ref 240, .int v1, .int v2, .int v3, d4, d5, d6, d7, d8, d9, d10] [.ref 240] := by
  unfold j_X10_years_68 at e
  refine aw_iconst (v := 0) hX (by decide) d_X10_years_68 ?_
  exact tj_X10_years_69 hF hX e
def j_X10_years_35 (v1 : Int32) (v2 : Int32) (v3 : Int32) (k0 : Int32) (h : AH) : Option (Int64 × AH) := bd (s_X10_right k0 1 h) fun q2 => if q2.1 = 0 then some (0, q2.2) else bd (s_X10_within v1 1 60 q2.2) fun x3 => if x3 = 0 then j_X10_years_68 v1 v2 v3 q2.2 else bd (s_X10_within v2 0 1000 q2.2) fun x34 => if x34 = 0 then j_X10_years_68 v1 v2 v3 q2.2 else j_X10_years_69 v1 v2 v3 1 q2.2
theorem tj_X10_years_35 {g : GP} {X : MX} {mcR msR : Nat} (hF : gF g = true) (hX : Cx g RX10 cX10_years 5 mcR msR (some .long) [] X) {v1 : Int32} {v2 : Int32} {v3 : Int32} {k0 : Int32} {d4 : Value} {d5 : Value} {d6 : Value} {d7 : Value} {d8 : Value} {d9 : Value} {d10 : Value} {h hz : AH} {z : Int64} (e : j_X10_years_35 v1 v2 v3 k0 h = some (z, hz)) : AR g X 0 0 (QQ g X NT false hz (.inl (some (.long z))) 0 0) h 35 [.ref 240, .int v1, .int v2, .int v3, d4, d5, d6, d7, d8, d9, d10] [.int k0, .ref 240] := by
  unfold j_X10_years_35 at e
  refine aw_iconst (v := 1) hX (by decide) d_X10_years_35 ?_
  obtain ⟨q2, f_1423, e_1423⟩ := bd_some e
  clear e
  refine aw_callV (b := 240) (av := [.int k0, .int 1]) (avr := [.int 1, .int k0]) hX (k_X10_right (cx_g hX) hF f_1423) mi_X10_right rfl rfl w_772 w_773 w_774 (by decide) rfl (LAY_lt rfl (by decide)) rfl rfl (Nat.le_of_ble_eq_true rfl) (Nat.zero_le _) (Nat.zero_le _) d_X10_years_36 ?_
  refine aw_if_eq (t := 76) hX (by decide) d_X10_years_39 (fun c => ?_) (fun c => ?_)
  · rw [if_pos c] at e_1423
    refine aw_lconst (v := 0) hX (by decide) d_X10_years_76 ?_
    cases e_1423
    exact aw_lreturn hX (Nat.zero_le _) (Nat.zero_le _) d_X10_years_77
  · rw [if_neg c] at e_1423
    refine aw_aload_n (i := 0) hX rfl rfl d_X10_years_42 ?_
    refine aw_iload_n (i := 1) hX rfl rfl d_X10_years_43 ?_
    refine aw_iconst (v := 1) hX (by decide) d_X10_years_44 ?_
    refine aw_bipush (v := 60) hX (by decide) d_X10_years_45 ?_
    obtain ⟨x3, f_1424, e_1424⟩ := bd_some e_1423
    clear e_1423
    refine aw_callS (av := [.int v1, .int 1, .int 60]) (avr := [.int 60, .int 1, .int v1]) hX (k_X10_within (cx_g hX) hF f_1424) mi_X10_within rfl rfl w_800 w_801 rfl (by decide) (Nat.le_of_ble_eq_true rfl) (Nat.zero_le _) (Nat.zero_le _) d_X10_years_47 ?_
    refine aw_if_eq (t := 68) hX (by decide) d_X10_years_50 (fun c => ?_) (fun c => ?_)
    · rw [if_pos c] at e_1424
      exact tj_X10_years_68 hF hX e_1424
    · rw [if_neg c] at e_1424
      refine aw_iload_n (i := 2) hX rfl rfl d_X10_years_53 ?_
      refine aw_iconst (v := 0) hX (by decide) d_X10_years_54 ?_
      refine aw_sipush (v := 1000) hX (by decide) d_X10_years_55 ?_
      obtain ⟨x34, f_1425, e_1425⟩ := bd_some e_1424
      clear e_1424
      refine aw_callS (av := [.int v2, .int 0, .int 1000]) (avr := [.int 1000, .int 0, .int v2]) hX (k_X10_within (cx_g hX) hF f_1425) mi_X10_within rfl rfl w_800 w_801 rfl (by decide) (Nat.le_of_ble_eq_true rfl) (Nat.zero_le _) (Nat.zero_le _) d_X10_years_58 ?_
      refine aw_if_eq (t := 68) hX (by decide) d_X10_years_61 (fun c => ?_) (fun c => ?_)
      · rw [if_pos c] at e_1425
        exact tj_X10_years_68 hF hX e_1425
      · rw [if_neg c] at e_1425
        refine aw_iconst (v := 1) hX (by decide) d_X10_years_64 ?_
        refine aw_goto (t := 69) hX (by decide) d_X10_years_65 ?_
        exact tj_X10_years_69 hF hX e_1425
def j_X10_years_30 (v1 : Int32) (v2 : Int32) (v3 : Int32) (h : AH) : Option (Int64 × AH) := j_X10_years_35 v1 v2 v3 1 h
theorem tj_X10_years_30 {g : GP} {X : MX} {mcR msR : Nat} (hF : gF g = true) (hX : Cx g RX10 cX10_years 5 mcR msR (some .long) [] X) {v1 : Int32} {v2 : Int32} {v3 : Int32} {d4 : Value} {d5 : Value} {d6 : Value} {d7 : Value} {d8 : Value} {d9 : Value} {d10 : Value} {h hz : AH} {z : Int64} (e : j_X10_years_30 v1 v2 v3 h = some (z, hz)) : AR g X 0 0 (QQ g X NT false hz (.inl (some (.long z))) 0 0) h 30 [.ref 240, .int v1, .int v2, .int v3, d4, d5, d6, d7, d8, d9, d10] [.ref 240] := by
  unfold j_X10_years_30 at e
  refine aw_iconst (v := 1) hX (by decide) d_X10_years_30 ?_
  refine aw_goto (t := 35) hX (by decide) d_X10_years_31 ?_
  exact tj_X10_years_35 hF hX e
def j_X10_years_34 (v1 : Int32) (v2 : Int32) (v3 : Int32) (h : AH) : Option (Int64 × AH) := j_X10_years_35 v1 v2 v3 0 h
theorem tj_X10_years_34 {g : GP} {X : MX} {mcR msR : Nat} (hF : gF g = true) (hX : Cx g RX10 cX10_years 5 mcR msR (some .long) [] X) {v1 : Int32} {v2 : Int32} {v3 : Int32} {d4 : Value} {d5 : Value} {d6 : Value} {d7 : Value} {d8 : Value} {d9 : Value} {d10 : Value} {h hz : AH} {z : Int64} (e : j_X10_years_34 v1 v2 v3 h = some (z, hz)) : AR g X 0 0 (QQ g X NT false hz (.inl (some (.long z))) 0 0) h 34 [.ref 240, .int v1, .int v2, .int v3, d4, d5, d6, d7, d8, d9, d10] [.ref 240] := by
  unfold j_X10_years_34 at e
  refine aw_iconst (v := 0) hX (by decide) d_X10_years_34 ?_
  exact tj_X10_years_35 hF hX e
def s_X10_years (a0 : Int32) (a1 : Int32) (a2 : Int32) (h : AH) : Option (Int64 × AH) := bd (s_X10_within a2 0 1 (sI h 240 0 0)) fun x1 => if x1 = 0 then if a2 < 2 then j_X10_years_34 a0 a1 a2 (sI h 240 0 0) else if (gI (sI h 240 0 0) 240 4) ≤ (a2 - 2) then j_X10_years_34 a0 a1 a2 (sI h 240 0 0) else j_X10_years_30 a0 a1 a2 (sI h 240 0 0) else j_X10_years_30 a0 a1 a2 (sI h 240 0 0)
theorem t_X10_years {g : GP} {X : MX} {mcR msR : Nat} (hF : gF g = true) (hX : Cx g RX10 cX10_years 5 mcR msR (some .long) [] X) {a0 : Int32} {a1 : Int32} {a2 : Int32} {h hz : AH} {z : Int64} (e : s_X10_years a0 a1 a2 h = some (z, hz)) : AR g X 0 0 (QQ g X NT false hz (.inl (some (.long z))) 0 0) h 0 [.ref 240, .int a0, .int a1, .int a2, jk, jk, jk, jk, jk, jk, jk] [] := by
  unfold s_X10_years at e
  refine aw_aload_n (i := 0) hX rfl rfl d_X10_years_0 ?_
  refine aw_iconst (v := 0) hX (by decide) d_X10_years_1 ?_
  refine ar_putI hX fp_RX10_133 rfl d_X10_years_2 ?_
  refine aw_aload_n (i := 0) hX rfl rfl d_X10_years_5 ?_
  refine aw_iload_n (i := 3) hX rfl rfl d_X10_years_6 ?_
  refine aw_iconst (v := 0) hX (by decide) d_X10_years_7 ?_
  refine aw_iconst (v := 1) hX (by decide) d_X10_years_8 ?_
  obtain ⟨x1, f_1426, e_1426⟩ := bd_some e
  clear e
  refine aw_callS (av := [.int a2, .int 0, .int 1]) (avr := [.int 1, .int 0, .int a2]) hX (k_X10_within (cx_g hX) hF f_1426) mi_X10_within rfl rfl w_800 w_801 rfl (by decide) (Nat.le_of_ble_eq_true rfl) (Nat.zero_le _) (Nat.zero_le _) d_X10_years_9 ?_
  refine aw_if_ne (t := 30) hX (by decide) d_X10_years_12 (fun c => ?_) (fun c => ?_)
  · rw [if_neg c] at e_1426
    exact tj_X10_years_30 hF hX e_1426
  · rw [if_pos c] at e_1426
    refine aw_iload_n (i := 3) hX rfl rfl d_X10_years_15 ?_
    refine aw_iconst (v := 2) hX (by decide) d_X10_years_16 ?_
    refine aw_icmp_lt (t := 34) hX (by decide) d_X10_years_17 (fun c => ?_) (fun c => ?_)
    · rw [if_pos c] at e_1426
      exact tj_X10_years_34 hF hX e_1426
    · rw [if_neg c] at e_1426
      refine aw_iload_n (i := 3) hX rfl rfl d_X10_years_20 ?_
      refine aw_iconst (v := 2) hX (by decide) d_X10_years_21 ?_
      refine aw_isub hX d_X10_years_22 ?_
      refine aw_aload_n (i := 0) hX rfl rfl d_X10_years_23 ?_
      refine ar_getI hX fg_RX10_265 rfl d_X10_years_24 ?_
      refine aw_icmp_ge (t := 34) hX (by decide) d_X10_years_27 (fun c => ?_) (fun c => ?_)
      · rw [if_pos c] at e_1426
        exact tj_X10_years_34 hF hX e_1426
      · rw [if_neg c] at e_1426
        exact tj_X10_years_30 hF hX e_1426
theorem k_X10_years {g : GP} (hg : g.1.stackTraces = false) (hF : gF g = true) {a0 : Int32} {a1 : Int32} {a2 : Int32} {h hz : AH} {z : Int64} (e : s_X10_years a0 a1 a2 h = some (z, hz)) : Ctr g yX10_years (wsY yX10_years cX10_years 11 (some .long)) 5 0 0 [.ref 240, .int a0, .int a1, .int a2] NT false h (some (.long z)) NT false hz := ctr_of (lv0 := [.ref 240, .int a0, .int a1, .int a2, jk, jk, jk, jk, jk, jk, jk]) rfl rfl (by decide) hg trivial (fun X hX hn => t_X10_years hF hX e)
theorem d_X10_gained_0 : decode cX10_gained 0 = .ok (.iconst 0, 1) := by decide +kernel
theorem d_X10_gained_1 : decode cX10_gained 1 = .ok (.istore_n 2, 1) := by decide +kernel
theorem d_X10_gained_2 : decode cX10_gained 2 = .ok (.iload_n 2, 1) := by decide +kernel
theorem d_X10_gained_3 : decode cX10_gained 3 = .ok (.aload_n 0, 1) := by decide +kernel
theorem d_X10_gained_4 : decode cX10_gained 4 = .ok (.getfield 268, 3) := by decide +kernel
theorem d_X10_gained_7 : decode cX10_gained 7 = .ok (.if_icmp .ge 23, 3) := by decide +kernel
theorem d_X10_gained_10 : decode cX10_gained 10 = .ok (.aload_n 0, 1) := by decide +kernel
theorem d_X10_gained_11 : decode cX10_gained 11 = .ok (.getfield 106, 3) := by decide +kernel
theorem d_X10_gained_14 : decode cX10_gained 14 = .ok (.iload_n 2, 1) := by decide +kernel
theorem d_X10_gained_15 : decode cX10_gained 15 = .ok (.aload_n 0, 1) := by decide +kernel
theorem d_X10_gained_16 : decode cX10_gained 16 = .ok (.getfield 20, 3) := by decide +kernel
theorem d_X10_gained_19 : decode cX10_gained 19 = .ok (.iconst 2, 1) := by decide +kernel
theorem d_X10_gained_20 : decode cX10_gained 20 = .ok (.iload_n 2, 1) := by decide +kernel
theorem d_X10_gained_21 : decode cX10_gained 21 = .ok (.imul, 1) := by decide +kernel
theorem d_X10_gained_22 : decode cX10_gained 22 = .ok (.iaload, 1) := by decide +kernel
theorem d_X10_gained_23 : decode cX10_gained 23 = .ok (.iastore, 1) := by decide +kernel
theorem d_X10_gained_24 : decode cX10_gained 24 = .ok (.iinc 2 1, 3) := by decide +kernel
theorem d_X10_gained_27 : decode cX10_gained 27 = .ok (.goto (-25), 3) := by decide +kernel
theorem d_X10_gained_30 : decode cX10_gained 30 = .ok (.lconst 0, 1) := by decide +kernel
theorem d_X10_gained_31 : decode cX10_gained 31 = .ok (.lstore_n 2, 1) := by decide +kernel
theorem d_X10_gained_32 : decode cX10_gained 32 = .ok (.iconst 0, 1) := by decide +kernel
theorem d_X10_gained_33 : decode cX10_gained 33 = .ok (.istore 4, 2) := by decide +kernel
theorem d_X10_gained_35 : decode cX10_gained 35 = .ok (.iconst 0, 1) := by decide +kernel
theorem d_X10_gained_36 : decode cX10_gained 36 = .ok (.istore 5, 2) := by decide +kernel
theorem d_X10_gained_38 : decode cX10_gained 38 = .ok (.iload 5, 2) := by decide +kernel
theorem d_X10_gained_40 : decode cX10_gained 40 = .ok (.iload_n 1, 1) := by decide +kernel
theorem d_X10_gained_41 : decode cX10_gained 41 = .ok (.if_icmp .ge 195, 3) := by decide +kernel
theorem d_X10_gained_44 : decode cX10_gained 44 = .ok (.iconst 0, 1) := by decide +kernel
theorem d_X10_gained_45 : decode cX10_gained 45 = .ok (.istore 6, 2) := by decide +kernel
theorem d_X10_gained_47 : decode cX10_gained 47 = .ok (.iload 6, 2) := by decide +kernel
theorem d_X10_gained_49 : decode cX10_gained 49 = .ok (.aload_n 0, 1) := by decide +kernel
theorem d_X10_gained_50 : decode cX10_gained 50 = .ok (.getfield 265, 3) := by decide +kernel
theorem d_X10_gained_53 : decode cX10_gained 53 = .ok (.if_icmp .ge 177, 3) := by decide +kernel
theorem d_X10_gained_56 : decode cX10_gained 56 = .ok (.aload_n 0, 1) := by decide +kernel
theorem d_X10_gained_57 : decode cX10_gained 57 = .ok (.iload 6, 2) := by decide +kernel
theorem d_X10_gained_59 : decode cX10_gained 59 = .ok (.invokevirtual 347, 3) := by decide +kernel
theorem d_X10_gained_62 : decode cX10_gained 62 = .ok (.istore 7, 2) := by decide +kernel
theorem d_X10_gained_64 : decode cX10_gained 64 = .ok (.iload 7, 2) := by decide +kernel
theorem d_X10_gained_66 : decode cX10_gained 66 = .ok (.aload_n 0, 1) := by decide +kernel
theorem d_X10_gained_67 : decode cX10_gained 67 = .ok (.getfield 100, 3) := by decide +kernel
theorem d_X10_gained_70 : decode cX10_gained 70 = .ok (.iload 5, 2) := by decide +kernel
theorem d_X10_gained_72 : decode cX10_gained 72 = .ok (.iaload, 1) := by decide +kernel
theorem d_X10_gained_73 : decode cX10_gained 73 = .ok (.if_icmp .eq 6, 3) := by decide +kernel
theorem d_X10_gained_76 : decode cX10_gained 76 = .ok (.goto 148, 3) := by decide +kernel
theorem d_X10_gained_79 : decode cX10_gained 79 = .ok (.aload_n 0, 1) := by decide +kernel
theorem d_X10_gained_80 : decode cX10_gained 80 = .ok (.iload 6, 2) := by decide +kernel
theorem d_X10_gained_82 : decode cX10_gained 82 = .ok (.iconst 0, 1) := by decide +kernel
theorem d_X10_gained_83 : decode cX10_gained 83 = .ok (.invokevirtual 292, 3) := by decide +kernel
theorem d_X10_gained_86 : decode cX10_gained 86 = .ok (.istore 8, 2) := by decide +kernel
theorem d_X10_gained_88 : decode cX10_gained 88 = .ok (.iload 8, 2) := by decide +kernel
theorem d_X10_gained_90 : decode cX10_gained 90 = .ok (.ifCond .le 134, 3) := by decide +kernel
theorem d_X10_gained_93 : decode cX10_gained 93 = .ok (.iload 4, 2) := by decide +kernel
theorem d_X10_gained_95 : decode cX10_gained 95 = .ok (.aload_n 0, 1) := by decide +kernel
theorem d_X10_gained_96 : decode cX10_gained 96 = .ok (.getfield 268, 3) := by decide +kernel
theorem d_X10_gained_99 : decode cX10_gained 99 = .ok (.if_icmp .ge 125, 3) := by decide +kernel
theorem d_X10_gained_102 : decode cX10_gained 102 = .ok (.iload 8, 2) := by decide +kernel
theorem d_X10_gained_104 : decode cX10_gained 104 = .ok (.aload_n 0, 1) := by decide +kernel
theorem d_X10_gained_105 : decode cX10_gained 105 = .ok (.getfield 106, 3) := by decide +kernel
theorem d_X10_gained_108 : decode cX10_gained 108 = .ok (.aload_n 0, 1) := by decide +kernel
theorem d_X10_gained_109 : decode cX10_gained 109 = .ok (.getfield 103, 3) := by decide +kernel
theorem d_X10_gained_112 : decode cX10_gained 112 = .ok (.iload 4, 2) := by decide +kernel
theorem d_X10_gained_114 : decode cX10_gained 114 = .ok (.iaload, 1) := by decide +kernel
theorem d_X10_gained_115 : decode cX10_gained 115 = .ok (.iaload, 1) := by decide +kernel
theorem d_X10_gained_116 : decode cX10_gained 116 = .ok (.if_icmp .ge 8, 3) := by decide +kernel
theorem d_X10_gained_119 : decode cX10_gained 119 = .ok (.iload 8, 2) := by decide +kernel
theorem d_X10_gained_121 : decode cX10_gained 121 = .ok (.goto 15, 3) := by decide +kernel
theorem d_X10_gained_124 : decode cX10_gained 124 = .ok (.aload_n 0, 1) := by decide +kernel
theorem d_X10_gained_125 : decode cX10_gained 125 = .ok (.getfield 106, 3) := by decide +kernel
theorem d_X10_gained_128 : decode cX10_gained 128 = .ok (.aload_n 0, 1) := by decide +kernel
theorem d_X10_gained_129 : decode cX10_gained 129 = .ok (.getfield 103, 3) := by decide +kernel
theorem d_X10_gained_132 : decode cX10_gained 132 = .ok (.iload 4, 2) := by decide +kernel
theorem d_X10_gained_134 : decode cX10_gained 134 = .ok (.iaload, 1) := by decide +kernel
theorem d_X10_gained_135 : decode cX10_gained 135 = .ok (.iaload, 1) := by decide +kernel
theorem d_X10_gained_136 : decode cX10_gained 136 = .ok (.istore 9, 2) := by decide +kernel
theorem d_X10_gained_138 : decode cX10_gained 138 = .ok (.lload_n 2, 1) := by decide +kernel
theorem d_X10_gained_139 : decode cX10_gained 139 = .ok (.iload 9, 2) := by decide +kernel
theorem d_X10_gained_141 : decode cX10_gained 141 = .ok (.i2l, 1) := by decide +kernel
theorem d_X10_gained_142 : decode cX10_gained 142 = .ok (.aload_n 0, 1) := by decide +kernel
theorem d_X10_gained_143 : decode cX10_gained 143 = .ok (.getfield 20, 3) := by decide +kernel
theorem d_X10_gained_146 : decode cX10_gained 146 = .ok (.iconst 2, 1) := by decide +kernel
theorem d_X10_gained_147 : decode cX10_gained 147 = .ok (.aload_n 0, 1) := by decide +kernel
theorem d_X10_gained_148 : decode cX10_gained 148 = .ok (.getfield 103, 3) := by decide +kernel
theorem d_X10_gained_151 : decode cX10_gained 151 = .ok (.iload 4, 2) := by decide +kernel
theorem d_X10_gained_153 : decode cX10_gained 153 = .ok (.iaload, 1) := by decide +kernel
theorem d_X10_gained_154 : decode cX10_gained 154 = .ok (.imul, 1) := by decide +kernel
theorem d_X10_gained_155 : decode cX10_gained 155 = .ok (.iconst 1, 1) := by decide +kernel
theorem d_X10_gained_156 : decode cX10_gained 156 = .ok (.iadd, 1) := by decide +kernel
theorem d_X10_gained_157 : decode cX10_gained 157 = .ok (.iaload, 1) := by decide +kernel
theorem d_X10_gained_158 : decode cX10_gained 158 = .ok (.i2l, 1) := by decide +kernel
theorem d_X10_gained_159 : decode cX10_gained 159 = .ok (.aload_n 0, 1) := by decide +kernel
theorem d_X10_gained_160 : decode cX10_gained 160 = .ok (.getfield 67, 3) := by decide +kernel
theorem d_X10_gained_163 : decode cX10_gained 163 = .ok (.iconst 5, 1) := by decide +kernel
theorem d_X10_gained_164 : decode cX10_gained 164 = .ok (.iload 6, 2) := by decide +kernel
theorem d_X10_gained_166 : decode cX10_gained 166 = .ok (.imul, 1) := by decide +kernel
theorem d_X10_gained_167 : decode cX10_gained 167 = .ok (.iload 7, 2) := by decide +kernel
theorem d_X10_gained_169 : decode cX10_gained 169 = .ok (.iadd, 1) := by decide +kernel
theorem d_X10_gained_170 : decode cX10_gained 170 = .ok (.laload, 1) := by decide +kernel
theorem d_X10_gained_171 : decode cX10_gained 171 = .ok (.lmul, 1) := by decide +kernel
theorem d_X10_gained_172 : decode cX10_gained 172 = .ok (.ldc2_w 308, 3) := by decide +kernel
theorem d_X10_gained_175 : decode cX10_gained 175 = .ok (.ldiv, 1) := by decide +kernel
theorem d_X10_gained_176 : decode cX10_gained 176 = .ok (.lmul, 1) := by decide +kernel
theorem d_X10_gained_177 : decode cX10_gained 177 = .ok (.ladd, 1) := by decide +kernel
theorem d_X10_gained_178 : decode cX10_gained 178 = .ok (.lstore_n 2, 1) := by decide +kernel
theorem d_X10_gained_179 : decode cX10_gained 179 = .ok (.aload_n 0, 1) := by decide +kernel
theorem d_X10_gained_180 : decode cX10_gained 180 = .ok (.getfield 106, 3) := by decide +kernel
theorem d_X10_gained_183 : decode cX10_gained 183 = .ok (.aload_n 0, 1) := by decide +kernel
theorem d_X10_gained_184 : decode cX10_gained 184 = .ok (.getfield 103, 3) := by decide +kernel
theorem d_X10_gained_187 : decode cX10_gained 187 = .ok (.iload 4, 2) := by decide +kernel
theorem d_X10_gained_189 : decode cX10_gained 189 = .ok (.iaload, 1) := by decide +kernel
theorem d_X10_gained_190 : decode cX10_gained 190 = .ok (.dup2, 1) := by decide +kernel
theorem d_X10_gained_191 : decode cX10_gained 191 = .ok (.iaload, 1) := by decide +kernel
theorem d_X10_gained_192 : decode cX10_gained 192 = .ok (.iload 9, 2) := by decide +kernel
theorem d_X10_gained_194 : decode cX10_gained 194 = .ok (.isub, 1) := by decide +kernel
theorem d_X10_gained_195 : decode cX10_gained 195 = .ok (.iastore, 1) := by decide +kernel
theorem d_X10_gained_196 : decode cX10_gained 196 = .ok (.iload 8, 2) := by decide +kernel
theorem d_X10_gained_198 : decode cX10_gained 198 = .ok (.iload 9, 2) := by decide +kernel
theorem d_X10_gained_200 : decode cX10_gained 200 = .ok (.isub, 1) := by decide +kernel
theorem d_X10_gained_201 : decode cX10_gained 201 = .ok (.istore 8, 2) := by decide +kernel
theorem d_X10_gained_203 : decode cX10_gained 203 = .ok (.aload_n 0, 1) := by decide +kernel
theorem d_X10_gained_204 : decode cX10_gained 204 = .ok (.getfield 106, 3) := by decide +kernel
theorem d_X10_gained_207 : decode cX10_gained 207 = .ok (.aload_n 0, 1) := by decide +kernel
theorem d_X10_gained_208 : decode cX10_gained 208 = .ok (.getfield 103, 3) := by decide +kernel
theorem d_X10_gained_211 : decode cX10_gained 211 = .ok (.iload 4, 2) := by decide +kernel
theorem d_X10_gained_213 : decode cX10_gained 213 = .ok (.iaload, 1) := by decide +kernel
theorem d_X10_gained_214 : decode cX10_gained 214 = .ok (.iaload, 1) := by decide +kernel
theorem d_X10_gained_215 : decode cX10_gained 215 = .ok (.ifCond .ne 6, 3) := by decide +kernel
theorem d_X10_gained_218 : decode cX10_gained 218 = .ok (.iinc 4 1, 3) := by decide +kernel
theorem d_X10_gained_221 : decode cX10_gained 221 = .ok (.goto (-133), 3) := by decide +kernel
theorem d_X10_gained_224 : decode cX10_gained 224 = .ok (.iinc 6 1, 3) := by decide +kernel
theorem d_X10_gained_227 : decode cX10_gained 227 = .ok (.goto (-180), 3) := by decide +kernel
theorem d_X10_gained_230 : decode cX10_gained 230 = .ok (.iinc 5 1, 3) := by decide +kernel
theorem d_X10_gained_233 : decode cX10_gained 233 = .ok (.goto (-195), 3) := by decide +kernel
theorem d_X10_gained_236 : decode cX10_gained 236 = .ok (.lload_n 2, 1) := by decide +kernel
theorem d_X10_gained_237 : decode cX10_gained 237 = .ok (.lreturn, 1) := by decide +kernel
def l_X10_gained_2 (p1 : Int32) (s : Int32) (h : AH) : Option ((Int32 ⊕ Unit) × AH) := if (gI h 240 5) ≤ s then some (.inr (), h) else bd (ldI h 243 (2 * s)) fun x1 => bd (stI h 268 s x1) fun m2 => some (.inl (s + 1), m2)
theorem tb_X10_gained_2 {g : GP} {X : MX} {mcR msR : Nat} (hF : gF g = true) (hX : Cx g RX10 cX10_gained 3 mcR msR (some .long) [] X) {Q : State → Prop} {p1 : Int32} {s : Int32} {d3 : Value} {d4 : Value} {d5 : Value} {d6 : Value} {d7 : Value} {d8 : Value} {d9 : Value} {h hz : AH} {z : (Int32 ⊕ Unit)} (e : l_X10_gained_2 p1 s h = some (z, hz)) (kI : ∀ (s2 : Int32) (xd3 : Value) (xd4 : Value) (xd5 : Value) (xd6 : Value) (xd7 : Value) (xd8 : Value) (xd9 : Value), z = .inl s2 → AR g X 0 0 Q hz 2 [.ref 240, .int p1, .int s2, xd3, xd4, xd5, xd6, xd7, xd8, xd9] []) (kE0 : ∀ (yy : Unit) (y2 : Value) (y3 : Value) (y4 : Value) (y5 : Value) (y6 : Value) (y7 : Value) (y8 : Value) (y9 : Value), z = .inr yy → AR g X 0 0 Q hz 30 [.ref 240, .int p1, y2, y3, y4, y5, y6, y7, y8, y9] []) : AR g X 0 0 Q h 2 [.ref 240, .int p1, .int s, d3, d4, d5, d6, d7, d8, d9] [] := by
  unfold l_X10_gained_2 at e
  refine aw_iload_n (i := 2) hX rfl rfl d_X10_gained_2 ?_
  refine aw_aload_n (i := 0) hX rfl rfl d_X10_gained_3 ?_
  refine ar_getI hX fg_RX10_268 rfl d_X10_gained_4 ?_
  refine aw_icmp_ge (t := 30) hX (by decide) d_X10_gained_7 (fun c => ?_) (fun c => ?_)
  · rw [if_pos c] at e
    cases e
    exact kE0 () _ _ _ _ _ _ _ _ rfl
  · rw [if_neg c] at e
    refine aw_aload_n (i := 0) hX rfl rfl d_X10_gained_10 ?_
    refine ar_getF hX hF fg_RX10_106 rfl d_X10_gained_11 ?_
    show AR g X 0 0 _ _ 14 _ [.ref 268]
    refine aw_iload_n (i := 2) hX rfl rfl d_X10_gained_14 ?_
    refine aw_aload_n (i := 0) hX rfl rfl d_X10_gained_15 ?_
    refine ar_getF hX hF fg_RX10_20 rfl d_X10_gained_16 ?_
    show AR g X 0 0 _ _ 19 _ [.ref 243, .int s, .ref 268]
    refine aw_iconst (v := 2) hX (by decide) d_X10_gained_19 ?_
    refine aw_iload_n (i := 2) hX rfl rfl d_X10_gained_20 ?_
    refine aw_imul hX d_X10_gained_21 ?_
    obtain ⟨x1, f_1427, e_1427⟩ := bd_some e
    clear e
    refine ar_iaload hX f_1427 d_X10_gained_22 ?_
    obtain ⟨m2, f_1428, e_1428⟩ := bd_some e_1427
    clear e_1427
    refine ar_iastore hX f_1428 d_X10_gained_23 ?_
    refine aw_iinc (i := 2) (lv2 := [.ref 240, .int p1, .int (s + 1), d3, d4, d5, d6, d7, d8, d9]) hX rfl rfl rfl rfl d_X10_gained_24 ?_
    refine aw_goto (t := 2) hX (by decide) d_X10_gained_27 ?_
    cases e_1428
    exact kI (s + 1) _ _ _ _ _ _ _ rfl
theorem ti_X10_gained_2 {g : GP} {X : MX} {mcR msR : Nat} (hF : gF g = true) (hX : Cx g RX10 cX10_gained 3 mcR msR (some .long) [] X) {Q : State → Prop} {p1 : Int32} {y : Unit} {hz : AH} (kE0 : ∀ (y_2 : Value) (y_3 : Value) (y_4 : Value) (y_5 : Value) (y_6 : Value) (y_7 : Value) (y_8 : Value) (y_9 : Value), AR g X 0 0 Q hz 30 [.ref 240, .int p1, y_2, y_3, y_4, y_5, y_6, y_7, y_8, y_9] []) (n : Nat) : ∀ (s : Int32) (d3 : Value) (d4 : Value) (d5 : Value) (d6 : Value) (d7 : Value) (d8 : Value) (d9 : Value) (h : AH), lpH (l_X10_gained_2 p1) n s h = some (y, hz) → AR g X 0 0 Q h 2 [.ref 240, .int p1, .int s, d3, d4, d5, d6, d7, d8, d9] [] := by
  induction n with
  | zero => intro s d3 d4 d5 d6 d7 d8 d9 h e; cases e
  | succ n ih =>
    intro s d3 d4 d5 d6 d7 d8 d9 h e
    obtain ⟨x, h1, e1, e2⟩ := lpH_succ e
    rcases e2 with ⟨s2, rfl, e3⟩ | ⟨rfl, rfl⟩
    · exact tb_X10_gained_2 hF hX e1 (fun s3 x0 x1 x2 x3 x4 x5 x6 hs => by cases hs; exact ih _ _ _ _ _ _ _ _ _ e3) (fun yy x0 x1 x2 x3 x4 x5 x6 x7 hy => by cases hy)
    · exact tb_X10_gained_2 hF hX e1 (fun s3 x0 x1 x2 x3 x4 x5 x6 hs => by cases hs) (fun yy x0 x1 x2 x3 x4 x5 x6 x7 hy => by cases hy; exact kE0 x0 x1 x2 x3 x4 x5 x6 x7)
theorem t_X10_gained_2 {g : GP} {X : MX} {mcR msR : Nat} (hF : gF g = true) (hX : Cx g RX10 cX10_gained 3 mcR msR (some .long) [] X) {Q : State → Prop} {p1 : Int32} {s : Int32} {d3 : Value} {d4 : Value} {d5 : Value} {d6 : Value} {d7 : Value} {d8 : Value} {d9 : Value} {h hz : AH} {n : Nat} {y : Unit} (e : lpH (l_X10_gained_2 p1) n s h = some (y, hz)) (kE0 : ∀ (y_2 : Value) (y_3 : Value) (y_4 : Value) (y_5 : Value) (y_6 : Value) (y_7 : Value) (y_8 : Value) (y_9 : Value), AR g X 0 0 Q hz 30 [.ref 240, .int p1, y_2, y_3, y_4, y_5, y_6, y_7, y_8, y_9] []) : AR g X 0 0 Q h 2 [.ref 240, .int p1, .int s, d3, d4, d5, d6, d7, d8, d9] [] := ti_X10_gained_2 hF hX kE0 n _ _ _ _ _ _ _ _ _ e
def j_X10_gained_221_88 (p1 : Int32) (v2 : Int64) (v4 : Int32) (p5 : Int32) (p6 : Int32) (p7 : Int32) (v8 : Int32) (h : AH) : Option (((Int64 × Int32 × Int32) ⊕ (Int64 × Int32)) × AH) := some (.inl (v2, v4, v8), h)
theorem tj_X10_gained_221_88 {g : GP} {X : MX} {mcR msR : Nat} (hF : gF g = true) (hX : Cx g RX10 cX10_gained 3 mcR msR (some .long) [] X) {Q : State → Prop} {p1 : Int32} {v2 : Int64} {v4 : Int32} {p5 : Int32} {p6 : Int32} {p7 : Int32} {v8 : Int32} {d9 : Value} {h hz : AH} {z : ((Int64 × Int32 × Int32) ⊕ (Int64 × Int32))} (e : j_X10_gained_221_88 p1 v2 v4 p5 p6 p7 v8 h = some (z, hz)) (kI : ∀ (s2 : (Int64 × Int32 × Int32)) (xd9 : Value), z = .inl s2 → AR g X 0 0 Q hz 88 [.ref 240, .int p1, .long s2.1, jk, .int s2.2.1, .int p5, .int p6, .int p7, .int s2.2.2, xd9] []) (kE0 : ∀ (yy : (Int64 × Int32)) (y7 : Value) (y8 : Value) (y9 : Value), z = .inr yy → AR g X 0 0 Q hz 224 [.ref 240, .int p1, .long yy.1, jk, .int yy.2, .int p5, .int p6, y7, y8, y9] []) : AR g X 0 0 Q h 221 [.ref 240, .int p1, .long v2, jk, .int v4, .int p5, .int p6, .int p7, .int v8, d9] [] := by
  unfold j_X10_gained_221_88 at e
  refine aw_goto (t := 88) hX (by decide) d_X10_gained_221 ?_
  cases e
  exact kI (v2, v4, v8) _ rfl
def j_X10_gained_136_88 (p1 : Int32) (v2 : Int64) (v4 : Int32) (p5 : Int32) (p6 : Int32) (p7 : Int32) (v8 : Int32) (k0 : Int32) (h : AH) : Option (((Int64 × Int32 × Int32) ⊕ (Int64 × Int32)) × AH) := bd (ldI h 267 v4) fun x12 => bd (ldI h 243 ((2 * x12) + 1)) fun x13 => bd (ldL h 257 ((5 * p6) + p7)) fun x14 => bd (ldivF (x13.toInt64 * x14) 1000000) fun x15 => bd (ldI h 267 v4) fun x16 => bd (ldI h 268 x16) fun x17 => bd (stI h 268 x16 (x17 - k0)) fun m18 => bd (ldI m18 267 v4) fun x19 => bd (ldI m18 268 x19) fun x20 => if x20 = 0 then j_X10_gained_221_88 p1 (v2 + (k0.toInt64 * x15)) (v4 + 1) p5 p6 p7 (v8 - k0) m18 else j_X10_gained_221_88 p1 (v2 + (k0.toInt64 * x15)) v4 p5 p6 p7 (v8 - k0) m18
theorem tj_X10_gained_136_88 {g : GP} {X : MX} {mcR msR : Nat} (hF : gF g = true) (hX : Cx g RX10 cX10_gained 3 mcR msR (some .long) [] X) {Q : State → Prop} {p1 : Int32} {v2 : Int64} {v4 : Int32} {p5 : Int32} {p6 : Int32} {p7 : Int32} {v8 : Int32} {k0 : Int32} {d9 : Value} {h hz : AH} {z : ((Int64 × Int32 × Int32) ⊕ (Int64 × Int32))} (e : j_X10_gained_136_88 p1 v2 v4 p5 p6 p7 v8 k0 h = some (z, hz)) (kI : ∀ (s2 : (Int64 × Int32 × Int32)) (xd9 : Value), z = .inl s2 → AR g X 0 0 Q hz 88 [.ref 240, .int p1, .long s2.1, jk, .int s2.2.1, .int p5, .int p6, .int p7, .int s2.2.2, xd9] []) (kE0 : ∀ (yy : (Int64 × Int32)) (y7 : Value) (y8 : Value) (y9 : Value), z = .inr yy → AR g X 0 0 Q hz 224 [.ref 240, .int p1, .long yy.1, jk, .int yy.2, .int p5, .int p6, y7, y8, y9] []) : AR g X 0 0 Q h 136 [.ref 240, .int p1, .long v2, jk, .int v4, .int p5, .int p6, .int p7, .int v8, d9] [.int k0] := by
  unfold j_X10_gained_136_88 at e
  refine aw_istore (i := 9) (lv2 := [.ref 240, .int p1, .long v2, jk, .int v4, .int p5, .int p6, .int p7, .int v8, .int k0]) hX rfl rfl d_X10_gained_136 ?_
  refine aw_lload_n (i := 2) hX rfl rfl d_X10_gained_138 ?_
  refine aw_iload (i := 9) hX rfl d_X10_gained_139 ?_
  refine aw_i2l hX d_X10_gained_141 ?_
  refine aw_aload_n (i := 0) hX rfl rfl d_X10_gained_142 ?_
  refine ar_getF hX hF fg_RX10_20 rfl d_X10_gained_143 ?_
  show AR g X 0 0 _ _ 146 _ [.ref 243, .long k0.toInt64, .long v2]
  refine aw_iconst (v := 2) hX (by decide) d_X10_gained_146 ?_
  refine aw_aload_n (i := 0) hX rfl rfl d_X10_gained_147 ?_
  refine ar_getF hX hF fg_RX10_103 rfl d_X10_gained_148 ?_
  show AR g X 0 0 _ _ 151 _ [.ref 267, .int 2, .ref 243, .long k0.toInt64, .long v2]
  refine aw_iload (i := 4) hX rfl d_X10_gained_151 ?_
  obtain ⟨x12, f_1429, e_1429⟩ := bd_some e
  clear e
  refine ar_iaload hX f_1429 d_X10_gained_153 ?_
  refine aw_imul hX d_X10_gained_154 ?_
  refine aw_iconst (v := 1) hX (by decide) d_X10_gained_155 ?_
  refine aw_iadd hX d_X10_gained_156 ?_
  obtain ⟨x13, f_1430, e_1430⟩ := bd_some e_1429
  clear e_1429
  refine ar_iaload hX f_1430 d_X10_gained_157 ?_
  refine aw_i2l hX d_X10_gained_158 ?_
  refine aw_aload_n (i := 0) hX rfl rfl d_X10_gained_159 ?_
  refine ar_getF hX hF fg_RX10_67 rfl d_X10_gained_160 ?_
  show AR g X 0 0 _ _ 163 _ [.ref 257, .long x13.toInt64, .long k0.toInt64, .long v2]
  refine aw_iconst (v := 5) hX (by decide) d_X10_gained_163 ?_
  refine aw_iload (i := 6) hX rfl d_X10_gained_164 ?_
  refine aw_imul hX d_X10_gained_166 ?_
  refine aw_iload (i := 7) hX rfl d_X10_gained_167 ?_
  refine aw_iadd hX d_X10_gained_169 ?_
  obtain ⟨x14, f_1431, e_1431⟩ := bd_some e_1430
  clear e_1430
  refine ar_laload hX f_1431 d_X10_gained_170 ?_
  refine aw_lmul hX d_X10_gained_171 ?_
  refine aw_ldc2 hX w_735 d_X10_gained_172 ?_
  obtain ⟨x15, f_1432, e_1432⟩ := bd_some e_1431
  clear e_1431
  refine ar_ldiv hX f_1432 d_X10_gained_175 ?_
  refine aw_lmul hX d_X10_gained_176 ?_
  refine aw_ladd hX d_X10_gained_177 ?_
  refine aw_lstore_n (i := 2) (lv2 := [.ref 240, .int p1, .long (v2 + (k0.toInt64 * x15)), jk, .int v4, .int p5, .int p6, .int p7, .int v8, .int k0]) hX rfl rfl rfl d_X10_gained_178 ?_
  refine aw_aload_n (i := 0) hX rfl rfl d_X10_gained_179 ?_
  refine ar_getF hX hF fg_RX10_106 rfl d_X10_gained_180 ?_
  show AR g X 0 0 _ _ 183 _ [.ref 268]
  refine aw_aload_n (i := 0) hX rfl rfl d_X10_gained_183 ?_
  refine ar_getF hX hF fg_RX10_103 rfl d_X10_gained_184 ?_
  show AR g X 0 0 _ _ 187 _ [.ref 267, .ref 268]
  refine aw_iload (i := 4) hX rfl d_X10_gained_187 ?_
  obtain ⟨x16, f_1433, e_1433⟩ := bd_some e_1432
  clear e_1432
  refine ar_iaload hX f_1433 d_X10_gained_189 ?_
  refine aw_dup2 hX rfl rfl d_X10_gained_190 ?_
  obtain ⟨x17, f_1434, e_1434⟩ := bd_some e_1433
  clear e_1433
  refine ar_iaload hX f_1434 d_X10_gained_191 ?_
  refine aw_iload (i := 9) hX rfl d_X10_gained_192 ?_
  refine aw_isub hX d_X10_gained_194 ?_
  obtain ⟨m18, f_1435, e_1435⟩ := bd_some e_1434
  clear e_1434
  refine ar_iastore hX f_1435 d_X10_gained_195 ?_
  refine aw_iload (i := 8) hX rfl d_X10_gained_196 ?_
  refine aw_iload (i := 9) hX rfl d_X10_gained_198 ?_
  refine aw_isub hX d_X10_gained_200 ?_
  refine aw_istore (i := 8) (lv2 := [.ref 240, .int p1, .long (v2 + (k0.toInt64 * x15)), jk, .int v4, .int p5, .int p6, .int p7, .int (v8 - k0), .int k0]) hX rfl rfl d_X10_gained_201 ?_
  refine aw_aload_n (i := 0) hX rfl rfl d_X10_gained_203 ?_
  refine ar_getF hX hF fg_RX10_106 rfl d_X10_gained_204 ?_
  show AR g X 0 0 _ _ 207 _ [.ref 268]
  refine aw_aload_n (i := 0) hX rfl rfl d_X10_gained_207 ?_
  refine ar_getF hX hF fg_RX10_103 rfl d_X10_gained_208 ?_
  show AR g X 0 0 _ _ 211 _ [.ref 267, .ref 268]
  refine aw_iload (i := 4) hX rfl d_X10_gained_211 ?_
  obtain ⟨x19, f_1436, e_1436⟩ := bd_some e_1435
  clear e_1435
  refine ar_iaload hX f_1436 d_X10_gained_213 ?_
  obtain ⟨x20, f_1437, e_1437⟩ := bd_some e_1436
  clear e_1436
  refine ar_iaload hX f_1437 d_X10_gained_214 ?_
  refine aw_if_ne (t := 221) hX (by decide) d_X10_gained_215 (fun c => ?_) (fun c => ?_)
  · rw [if_neg c] at e_1437
    exact tj_X10_gained_221_88 hF hX e_1437 kI kE0
  · rw [if_pos c] at e_1437
    refine aw_iinc (i := 4) (lv2 := [.ref 240, .int p1, .long (v2 + (k0.toInt64 * x15)), jk, .int (v4 + 1), .int p5, .int p6, .int p7, .int (v8 - k0), .int k0]) hX rfl rfl rfl rfl d_X10_gained_218 ?_
    exact tj_X10_gained_221_88 hF hX e_1437 kI kE0
def l_X10_gained_88 (p1 : Int32) (p5 : Int32) (p6 : Int32) (p7 : Int32) (s : (Int64 × Int32 × Int32)) (h : AH) : Option (((Int64 × Int32 × Int32) ⊕ (Int64 × Int32)) × AH) := if s.2.2 ≤ 0 then some (.inr (s.1, s.2.1), h) else if (gI h 240 5) ≤ s.2.1 then some (.inr (s.1, s.2.1), h) else bd (ldI h 267 s.2.1) fun x8 => bd (ldI h 268 x8) fun x9 => if x9 ≤ s.2.2 then bd (ldI h 267 s.2.1) fun x10 => bd (ldI h 268 x10) fun x11 => j_X10_gained_136_88 p1 s.1 s.2.1 p5 p6 p7 s.2.2 x11 h else j_X10_gained_136_88 p1 s.1 s.2.1 p5 p6 p7 s.2.2 s.2.2 h
theorem tb_X10_gained_88 {g : GP} {X : MX} {mcR msR : Nat} (hF : gF g = true) (hX : Cx g RX10 cX10_gained 3 mcR msR (some .long) [] X) {Q : State → Prop} {p1 : Int32} {p5 : Int32} {p6 : Int32} {p7 : Int32} {s : (Int64 × Int32 × Int32)} {d9 : Value} {h hz : AH} {z : ((Int64 × Int32 × Int32) ⊕ (Int64 × Int32))} (e : l_X10_gained_88 p1 p5 p6 p7 s h = some (z, hz)) (kI : ∀ (s2 : (Int64 × Int32 × Int32)) (xd9 : Value), z = .inl s2 → AR g X 0 0 Q hz 88 [.ref 240, .int p1, .long s2.1, jk, .int s2.2.1, .int p5, .int p6, .int p7, .int s2.2.2, xd9] []) (kE0 : ∀ (yy : (Int64 × Int32)) (y7 : Value) (y8 : Value) (y9 : Value), z = .inr yy → AR g X 0 0 Q hz 224 [.ref 240, .int p1, .long yy.1, jk, .int yy.2, .int p5, .int p6, y7, y8, y9] []) : AR g X 0 0 Q h 88 [.ref 240, .int p1, .long s.1, jk, .int s.2.1, .int p5, .int p6, .int p7, .int s.2.2, d9] [] := by
  unfold l_X10_gained_88 at e
  refine aw_iload (i := 8) hX rfl d_X10_gained_88 ?_
  refine aw_if_le (t := 224) hX (by decide) d_X10_gained_90 (fun c => ?_) (fun c => ?_)
  · rw [if_pos c] at e
    cases e
    exact kE0 (s.1, s.2.1) _ _ _ rfl
  · rw [if_neg c] at e
    refine aw_iload (i := 4) hX rfl d_X10_gained_93 ?_
    refine aw_aload_n (i := 0) hX rfl rfl d_X10_gained_95 ?_
    refine ar_getI hX fg_RX10_268 rfl d_X10_gained_96 ?_
    refine aw_icmp_ge (t := 224) hX (by decide) d_X10_gained_99 (fun c => ?_) (fun c => ?_)
    · rw [if_pos c] at e
      cases e
      exact kE0 (s.1, s.2.1) _ _ _ rfl
    · rw [if_neg c] at e
      refine aw_iload (i := 8) hX rfl d_X10_gained_102 ?_
      refine aw_aload_n (i := 0) hX rfl rfl d_X10_gained_104 ?_
      refine ar_getF hX hF fg_RX10_106 rfl d_X10_gained_105 ?_
      show AR g X 0 0 _ _ 108 _ [.ref 268, .int s.2.2]
      refine aw_aload_n (i := 0) hX rfl rfl d_X10_gained_108 ?_
      refine ar_getF hX hF fg_RX10_103 rfl d_X10_gained_109 ?_
      show AR g X 0 0 _ _ 112 _ [.ref 267, .ref 268, .int s.2.2]
      refine aw_iload (i := 4) hX rfl d_X10_gained_112 ?_
      obtain ⟨x8, f_1438, e_1438⟩ := bd_some e
      clear e
      refine ar_iaload hX f_1438 d_X10_gained_114 ?_
      obtain ⟨x9, f_1439, e_1439⟩ := bd_some e_1438
      clear e_1438
      refine ar_iaload hX f_1439 d_X10_gained_115 ?_
      refine aw_icmp_ge (t := 124) hX (by decide) d_X10_gained_116 (fun c => ?_) (fun c => ?_)
      · rw [if_pos c] at e_1439
        refine aw_aload_n (i := 0) hX rfl rfl d_X10_gained_124 ?_
        refine ar_getF hX hF fg_RX10_106 rfl d_X10_gained_125 ?_
        show AR g X 0 0 _ _ 128 _ [.ref 268]
        refine aw_aload_n (i := 0) hX rfl rfl d_X10_gained_128 ?_
        refine ar_getF hX hF fg_RX10_103 rfl d_X10_gained_129 ?_
        show AR g X 0 0 _ _ 132 _ [.ref 267, .ref 268]
        refine aw_iload (i := 4) hX rfl d_X10_gained_132 ?_
        obtain ⟨x10, f_1440, e_1440⟩ := bd_some e_1439
        clear e_1439
        refine ar_iaload hX f_1440 d_X10_gained_134 ?_
        obtain ⟨x11, f_1441, e_1441⟩ := bd_some e_1440
        clear e_1440
        refine ar_iaload hX f_1441 d_X10_gained_135 ?_
        exact tj_X10_gained_136_88 hF hX e_1441 kI kE0
      · rw [if_neg c] at e_1439
        refine aw_iload (i := 8) hX rfl d_X10_gained_119 ?_
        refine aw_goto (t := 136) hX (by decide) d_X10_gained_121 ?_
        exact tj_X10_gained_136_88 hF hX e_1439 kI kE0
theorem ti_X10_gained_88 {g : GP} {X : MX} {mcR msR : Nat} (hF : gF g = true) (hX : Cx g RX10 cX10_gained 3 mcR msR (some .long) [] X) {Q : State → Prop} {p1 : Int32} {p5 : Int32} {p6 : Int32} {p7 : Int32} {y : (Int64 × Int32)} {hz : AH} (kE0 : ∀ (y_7 : Value) (y_8 : Value) (y_9 : Value), AR g X 0 0 Q hz 224 [.ref 240, .int p1, .long y.1, jk, .int y.2, .int p5, .int p6, y_7, y_8, y_9] []) (n : Nat) : ∀ (s : (Int64 × Int32 × Int32)) (d9 : Value) (h : AH), lpH (l_X10_gained_88 p1 p5 p6 p7) n s h = some (y, hz) → AR g X 0 0 Q h 88 [.ref 240, .int p1, .long s.1, jk, .int s.2.1, .int p5, .int p6, .int p7, .int s.2.2, d9] [] := by
  induction n with
  | zero => intro s d9 h e; cases e
  | succ n ih =>
    intro s d9 h e
    obtain ⟨x, h1, e1, e2⟩ := lpH_succ e
    rcases e2 with ⟨s2, rfl, e3⟩ | ⟨rfl, rfl⟩
    · exact tb_X10_gained_88 hF hX e1 (fun s3 x0 hs => by cases hs; exact ih _ _ _ e3) (fun yy x0 x1 x2 hy => by cases hy)
    · exact tb_X10_gained_88 hF hX e1 (fun s3 x0 hs => by cases hs) (fun yy x0 x1 x2 hy => by cases hy; exact kE0 x0 x1 x2)
theorem t_X10_gained_88 {g : GP} {X : MX} {mcR msR : Nat} (hF : gF g = true) (hX : Cx g RX10 cX10_gained 3 mcR msR (some .long) [] X) {Q : State → Prop} {p1 : Int32} {p5 : Int32} {p6 : Int32} {p7 : Int32} {s : (Int64 × Int32 × Int32)} {d9 : Value} {h hz : AH} {n : Nat} {y : (Int64 × Int32)} (e : lpH (l_X10_gained_88 p1 p5 p6 p7) n s h = some (y, hz)) (kE0 : ∀ (y_7 : Value) (y_8 : Value) (y_9 : Value), AR g X 0 0 Q hz 224 [.ref 240, .int p1, .long y.1, jk, .int y.2, .int p5, .int p6, y_7, y_8, y_9] []) : AR g X 0 0 Q h 88 [.ref 240, .int p1, .long s.1, jk, .int s.2.1, .int p5, .int p6, .int p7, .int s.2.2, d9] [] := ti_X10_gained_88 hF hX kE0 n _ _ _ e
def j_X10_gained_224_47 (p1 : Int32) (v2 : Int64) (v4 : Int32) (p5 : Int32) (v6 : Int32) (h : AH) : Option (((Int64 × Int32 × Int32) ⊕ (Int64 × Int32)) × AH) := some (.inl (v2, v4, v6 + 1), h)
theorem tj_X10_gained_224_47 {g : GP} {X : MX} {mcR msR : Nat} (hF : gF g = true) (hX : Cx g RX10 cX10_gained 3 mcR msR (some .long) [] X) {Q : State → Prop} {p1 : Int32} {v2 : Int64} {v4 : Int32} {p5 : Int32} {v6 : Int32} {d7 : Value} {d8 : Value} {d9 : Value} {h hz : AH} {z : ((Int64 × Int32 × Int32) ⊕ (Int64 × Int32))} (e : j_X10_gained_224_47 p1 v2 v4 p5 v6 h = some (z, hz)) (kI : ∀ (s2 : (Int64 × Int32 × Int32)) (xd7 : Value) (xd8 : Value) (xd9 : Value), z = .inl s2 → AR g X 0 0 Q hz 47 [.ref 240, .int p1, .long s2.1, jk, .int s2.2.1, .int p5, .int s2.2.2, xd7, xd8, xd9] []) (kE0 : ∀ (yy : (Int64 × Int32)) (y6 : Value) (y7 : Value) (y8 : Value) (y9 : Value), z = .inr yy → AR g X 0 0 Q hz 230 [.ref 240, .int p1, .long yy.1, jk, .int yy.2, .int p5, y6, y7, y8, y9] []) : AR g X 0 0 Q h 224 [.ref 240, .int p1, .long v2, jk, .int v4, .int p5, .int v6, d7, d8, d9] [] := by
  unfold j_X10_gained_224_47 at e
  refine aw_iinc (i := 6) (lv2 := [.ref 240, .int p1, .long v2, jk, .int v4, .int p5, .int (v6 + 1), d7, d8, d9]) hX rfl rfl rfl rfl d_X10_gained_224 ?_
  refine aw_goto (t := 47) hX (by decide) d_X10_gained_227 ?_
  cases e
  exact kI (v2, v4, v6 + 1) _ _ _ rfl
def l_X10_gained_47 (p1 : Int32) (p5 : Int32) (s : (Int64 × Int32 × Int32)) (h : AH) : Option (((Int64 × Int32 × Int32) ⊕ (Int64 × Int32)) × AH) := if (gI h 240 4) ≤ s.2.2 then some (.inr (s.1, s.2.1), h) else bd (s_X10_buysOf s.2.2 h) fun x5 => bd (ldI h 266 p5) fun x6 => if x5 = x6 then bd (s_X10_of s.2.2 0 h) fun x7 => bd (lpH (l_X10_gained_88 p1 p5 s.2.2 x5) FU (s.1, s.2.1, x7) h) fun y21 => j_X10_gained_224_47 p1 y21.1.1 y21.1.2 p5 s.2.2 y21.2 else j_X10_gained_224_47 p1 s.1 s.2.1 p5 s.2.2 h
theorem tb_X10_gained_47 {g : GP} {X : MX} {mcR msR : Nat} (hF : gF g = true) (hX : Cx g RX10 cX10_gained 3 mcR msR (some .long) [] X) {Q : State → Prop} {p1 : Int32} {p5 : Int32} {s : (Int64 × Int32 × Int32)} {d7 : Value} {d8 : Value} {d9 : Value} {h hz : AH} {z : ((Int64 × Int32 × Int32) ⊕ (Int64 × Int32))} (e : l_X10_gained_47 p1 p5 s h = some (z, hz)) (kI : ∀ (s2 : (Int64 × Int32 × Int32)) (xd7 : Value) (xd8 : Value) (xd9 : Value), z = .inl s2 → AR g X 0 0 Q hz 47 [.ref 240, .int p1, .long s2.1, jk, .int s2.2.1, .int p5, .int s2.2.2, xd7, xd8, xd9] []) (kE0 : ∀ (yy : (Int64 × Int32)) (y6 : Value) (y7 : Value) (y8 : Value) (y9 : Value), z = .inr yy → AR g X 0 0 Q hz 230 [.ref 240, .int p1, .long yy.1, jk, .int yy.2, .int p5, y6, y7, y8, y9] []) : AR g X 0 0 Q h 47 [.ref 240, .int p1, .long s.1, jk, .int s.2.1, .int p5, .int s.2.2, d7, d8, d9] [] := by
  unfold l_X10_gained_47 at e
  refine aw_iload (i := 6) hX rfl d_X10_gained_47 ?_
  refine aw_aload_n (i := 0) hX rfl rfl d_X10_gained_49 ?_
  refine ar_getI hX fg_RX10_265 rfl d_X10_gained_50 ?_
  refine aw_icmp_ge (t := 230) hX (by decide) d_X10_gained_53 (fun c => ?_) (fun c => ?_)
  · rw [if_pos c] at e
    cases e
    exact kE0 (s.1, s.2.1) _ _ _ _ rfl
  · rw [if_neg c] at e
    refine aw_aload_n (i := 0) hX rfl rfl d_X10_gained_56 ?_
    refine aw_iload (i := 6) hX rfl d_X10_gained_57 ?_
    obtain ⟨x5, f_1442, e_1442⟩ := bd_some e
    clear e
    refine aw_callV (b := 240) (av := [.int s.2.2]) (avr := [.int s.2.2]) hX (k_X10_buysOf (cx_g hX) hF f_1442) mi_X10_buysOf rfl rfl w_819 w_820 w_821 (by decide) rfl (LAY_lt rfl (by decide)) rfl rfl (Nat.le_of_ble_eq_true rfl) (Nat.zero_le _) (Nat.zero_le _) d_X10_gained_59 ?_
    refine aw_istore (i := 7) (lv2 := [.ref 240, .int p1, .long s.1, jk, .int s.2.1, .int p5, .int s.2.2, .int x5, d8, d9]) hX rfl rfl d_X10_gained_62 ?_
    refine aw_iload (i := 7) hX rfl d_X10_gained_64 ?_
    refine aw_aload_n (i := 0) hX rfl rfl d_X10_gained_66 ?_
    refine ar_getF hX hF fg_RX10_100 rfl d_X10_gained_67 ?_
    show AR g X 0 0 _ _ 70 _ [.ref 266, .int x5]
    refine aw_iload (i := 5) hX rfl d_X10_gained_70 ?_
    obtain ⟨x6, f_1443, e_1443⟩ := bd_some e_1442
    clear e_1442
    refine ar_iaload hX f_1443 d_X10_gained_72 ?_
    refine aw_icmp_eq (t := 79) hX (by decide) d_X10_gained_73 (fun c => ?_) (fun c => ?_)
    · rw [if_pos c] at e_1443
      refine aw_aload_n (i := 0) hX rfl rfl d_X10_gained_79 ?_
      refine aw_iload (i := 6) hX rfl d_X10_gained_80 ?_
      refine aw_iconst (v := 0) hX (by decide) d_X10_gained_82 ?_
      obtain ⟨x7, f_1444, e_1444⟩ := bd_some e_1443
      clear e_1443
      refine aw_callV (b := 240) (av := [.int s.2.2, .int 0]) (avr := [.int 0, .int s.2.2]) hX (k_X10_of (cx_g hX) hF f_1444) mi_X10_of rfl rfl w_732 w_733 w_734 (by decide) rfl (LAY_lt rfl (by decide)) rfl rfl (Nat.le_of_ble_eq_true rfl) (Nat.zero_le _) (Nat.zero_le _) d_X10_gained_83 ?_
      refine aw_istore (i := 8) (lv2 := [.ref 240, .int p1, .long s.1, jk, .int s.2.1, .int p5, .int s.2.2, .int x5, .int x7, d9]) hX rfl rfl d_X10_gained_86 ?_
      obtain ⟨y21, f_1445, e_1445⟩ := bd_some e_1444
      clear e_1444
      refine t_X10_gained_88 hF hX f_1445 (fun d22_7 d22_8 d22_9 => ?_)
      exact tj_X10_gained_224_47 hF hX e_1445 kI kE0
    · rw [if_neg c] at e_1443
      refine aw_goto (t := 224) hX (by decide) d_X10_gained_76 ?_
      exact tj_X10_gained_224_47 hF hX e_1443 kI kE0
theorem ti_X10_gained_47 {g : GP} {X : MX} {mcR msR : Nat} (hF : gF g = true) (hX : Cx g RX10 cX10_gained 3 mcR msR (some .long) [] X) {Q : State → Prop} {p1 : Int32} {p5 : Int32} {y : (Int64 × Int32)} {hz : AH} (kE0 : ∀ (y_6 : Value) (y_7 : Value) (y_8 : Value) (y_9 : Value), AR g X 0 0 Q hz 230 [.ref 240, .int p1, .long y.1, jk, .int y.2, .int p5, y_6, y_7, y_8, y_9] []) (n : Nat) : ∀ (s : (Int64 × Int32 × Int32)) (d7 : Value) (d8 : Value) (d9 : Value) (h : AH), lpH (l_X10_gained_47 p1 p5) n s h = some (y, hz) → AR g X 0 0 Q h 47 [.ref 240, .int p1, .long s.1, jk, .int s.2.1, .int p5, .int s.2.2, d7, d8, d9] [] := by
  induction n with
  | zero => intro s d7 d8 d9 h e; cases e
  | succ n ih =>
    intro s d7 d8 d9 h e
    obtain ⟨x, h1, e1, e2⟩ := lpH_succ e
    rcases e2 with ⟨s2, rfl, e3⟩ | ⟨rfl, rfl⟩
    · exact tb_X10_gained_47 hF hX e1 (fun s3 x0 x1 x2 hs => by cases hs; exact ih _ _ _ _ _ e3) (fun yy x0 x1 x2 x3 hy => by cases hy)
    · exact tb_X10_gained_47 hF hX e1 (fun s3 x0 x1 x2 hs => by cases hs) (fun yy x0 x1 x2 x3 hy => by cases hy; exact kE0 x0 x1 x2 x3)
theorem t_X10_gained_47 {g : GP} {X : MX} {mcR msR : Nat} (hF : gF g = true) (hX : Cx g RX10 cX10_gained 3 mcR msR (some .long) [] X) {Q : State → Prop} {p1 : Int32} {p5 : Int32} {s : (Int64 × Int32 × Int32)} {d7 : Value} {d8 : Value} {d9 : Value} {h hz : AH} {n : Nat} {y : (Int64 × Int32)} (e : lpH (l_X10_gained_47 p1 p5) n s h = some (y, hz)) (kE0 : ∀ (y_6 : Value) (y_7 : Value) (y_8 : Value) (y_9 : Value), AR g X 0 0 Q hz 230 [.ref 240, .int p1, .long y.1, jk, .int y.2, .int p5, y_6, y_7, y_8, y_9] []) : AR g X 0 0 Q h 47 [.ref 240, .int p1, .long s.1, jk, .int s.2.1, .int p5, .int s.2.2, d7, d8, d9] [] := ti_X10_gained_47 hF hX kE0 n _ _ _ _ _ e
def l_X10_gained_38 (p1 : Int32) (s : (Int64 × Int32 × Int32)) (h : AH) : Option (((Int64 × Int32 × Int32) ⊕ Int64) × AH) := if p1 ≤ s.2.2 then some (.inr s.1, h) else bd (lpH (l_X10_gained_47 p1 s.2.2) FU (s.1, s.2.1, 0) h) fun y23 => some (.inl (y23.1.1, y23.1.2, s.2.2 + 1), y23.2)
theorem tb_X10_gained_38 {g : GP} {X : MX} {mcR msR : Nat} (hF : gF g = true) (hX : Cx g RX10 cX10_gained 3 mcR msR (some .long) [] X) {Q : State → Prop} {p1 : Int32} {s : (Int64 × Int32 × Int32)} {d6 : Value} {d7 : Value} {d8 : Value} {d9 : Value} {h hz : AH} {z : ((Int64 × Int32 × Int32) ⊕ Int64)} (e : l_X10_gained_38 p1 s h = some (z, hz)) (kI : ∀ (s2 : (Int64 × Int32 × Int32)) (xd6 : Value) (xd7 : Value) (xd8 : Value) (xd9 : Value), z = .inl s2 → AR g X 0 0 Q hz 38 [.ref 240, .int p1, .long s2.1, jk, .int s2.2.1, .int s2.2.2, xd6, xd7, xd8, xd9] []) (kE0 : ∀ (yy : Int64) (y0 : Value) (y1 : Value) (y4 : Value) (y5 : Value) (y6 : Value) (y7 : Value) (y8 : Value) (y9 : Value), z = .inr yy → AR g X 0 0 Q hz 236 [y0, y1, .long yy, jk, y4, y5, y6, y7, y8, y9] []) : AR g X 0 0 Q h 38 [.ref 240, .int p1, .long s.1, jk, .int s.2.1, .int s.2.2, d6, d7, d8, d9] [] := by
  unfold l_X10_gained_38 at e
  refine aw_iload (i := 5) hX rfl d_X10_gained_38 ?_
  refine aw_iload_n (i := 1) hX rfl rfl d_X10_gained_40 ?_
  refine aw_icmp_ge (t := 236) hX (by decide) d_X10_gained_41 (fun c => ?_) (fun c => ?_)
  · rw [if_pos c] at e
    cases e
    exact kE0 s.1 _ _ _ _ _ _ _ _ rfl
  · rw [if_neg c] at e
    refine aw_iconst (v := 0) hX (by decide) d_X10_gained_44 ?_
    refine aw_istore (i := 6) (lv2 := [.ref 240, .int p1, .long s.1, jk, .int s.2.1, .int s.2.2, .int 0, d7, d8, d9]) hX rfl rfl d_X10_gained_45 ?_
    obtain ⟨y23, f_1446, e_1446⟩ := bd_some e
    clear e
    refine t_X10_gained_47 hF hX f_1446 (fun d24_6 d24_7 d24_8 d24_9 => ?_)
    refine aw_iinc (i := 5) (lv2 := [.ref 240, .int p1, .long y23.1.1, jk, .int y23.1.2, .int (s.2.2 + 1), d24_6, d24_7, d24_8, d24_9]) hX rfl rfl rfl rfl d_X10_gained_230 ?_
    refine aw_goto (t := 38) hX (by decide) d_X10_gained_233 ?_
    cases e_1446
    exact kI (y23.1.1, y23.1.2, s.2.2 + 1) _ _ _ _ rfl
theorem ti_X10_gained_38 {g : GP} {X : MX} {mcR msR : Nat} (hF : gF g = true) (hX : Cx g RX10 cX10_gained 3 mcR msR (some .long) [] X) {Q : State → Prop} {p1 : Int32} {y : Int64} {hz : AH} (kE0 : ∀ (y_0 : Value) (y_1 : Value) (y_4 : Value) (y_5 : Value) (y_6 : Value) (y_7 : Value) (y_8 : Value) (y_9 : Value), AR g X 0 0 Q hz 236 [y_0, y_1, .long y, jk, y_4, y_5, y_6, y_7, y_8, y_9] []) (n : Nat) : ∀ (s : (Int64 × Int32 × Int32)) (d6 : Value) (d7 : Value) (d8 : Value) (d9 : Value) (h : AH), lpH (l_X10_gained_38 p1) n s h = some (y, hz) → AR g X 0 0 Q h 38 [.ref 240, .int p1, .long s.1, jk, .int s.2.1, .int s.2.2, d6, d7, d8, d9] [] := by
  induction n with
  | zero => intro s d6 d7 d8 d9 h e; cases e
  | succ n ih =>
    intro s d6 d7 d8 d9 h e
    obtain ⟨x, h1, e1, e2⟩ := lpH_succ e
    rcases e2 with ⟨s2, rfl, e3⟩ | ⟨rfl, rfl⟩
    · exact tb_X10_gained_38 hF hX e1 (fun s3 x0 x1 x2 x3 hs => by cases hs; exact ih _ _ _ _ _ _ e3) (fun yy x0 x1 x2 x3 x4 x5 x6 x7 hy => by cases hy)
    · exact tb_X10_gained_38 hF hX e1 (fun s3 x0 x1 x2 x3 hs => by cases hs) (fun yy x0 x1 x2 x3 x4 x5 x6 x7 hy => by cases hy; exact kE0 x0 x1 x2 x3 x4 x5 x6 x7)
theorem t_X10_gained_38 {g : GP} {X : MX} {mcR msR : Nat} (hF : gF g = true) (hX : Cx g RX10 cX10_gained 3 mcR msR (some .long) [] X) {Q : State → Prop} {p1 : Int32} {s : (Int64 × Int32 × Int32)} {d6 : Value} {d7 : Value} {d8 : Value} {d9 : Value} {h hz : AH} {n : Nat} {y : Int64} (e : lpH (l_X10_gained_38 p1) n s h = some (y, hz)) (kE0 : ∀ (y_0 : Value) (y_1 : Value) (y_4 : Value) (y_5 : Value) (y_6 : Value) (y_7 : Value) (y_8 : Value) (y_9 : Value), AR g X 0 0 Q hz 236 [y_0, y_1, .long y, jk, y_4, y_5, y_6, y_7, y_8, y_9] []) : AR g X 0 0 Q h 38 [.ref 240, .int p1, .long s.1, jk, .int s.2.1, .int s.2.2, d6, d7, d8, d9] [] := ti_X10_gained_38 hF hX kE0 n _ _ _ _ _ _ e
def s_X10_gained (a0 : Int32) (h : AH) : Option (Int64 × AH) := bd (lpH (l_X10_gained_2 a0) FU 0 h) fun y3 => bd (lpH (l_X10_gained_38 a0) FU (0, 0, 0) y3.2) fun y25 => some (y25.1, y25.2)
theorem t_X10_gained {g : GP} {X : MX} {mcR msR : Nat} (hF : gF g = true) (hX : Cx g RX10 cX10_gained 3 mcR msR (some .long) [] X) {a0 : Int32} {h hz : AH} {z : Int64} (e : s_X10_gained a0 h = some (z, hz)) : AR g X 0 0 (QQ g X NT false hz (.inl (some (.long z))) 0 0) h 0 [.ref 240, .int a0, jk, jk, jk, jk, jk, jk, jk, jk] [] := by
  unfold s_X10_gained at e
  refine aw_iconst (v := 0) hX (by decide) d_X10_gained_0 ?_
  refine aw_istore_n (i := 2) (lv2 := [.ref 240, .int a0, .int 0, jk, jk, jk, jk, jk, jk, jk]) hX rfl rfl rfl d_X10_gained_1 ?_
  obtain ⟨y3, f_1447, e_1447⟩ := bd_some e
  clear e
  refine t_X10_gained_2 hF hX f_1447 (fun d4_2 d4_3 d4_4 d4_5 d4_6 d4_7 d4_8 d4_9 => ?_)
  refine aw_lconst (v := 0) hX (by decide) d_X10_gained_30 ?_
  refine aw_lstore_n (i := 2) (lv2 := [.ref 240, .int a0, .long 0, jk, d4_4, d4_5, d4_6, d4_7, d4_8, d4_9]) hX rfl rfl rfl d_X10_gained_31 ?_
  refine aw_iconst (v := 0) hX (by decide) d_X10_gained_32 ?_
  refine aw_istore (i := 4) (lv2 := [.ref 240, .int a0, .long 0, jk, .int 0, d4_5, d4_6, d4_7, d4_8, d4_9]) hX rfl rfl d_X10_gained_33 ?_
  refine aw_iconst (v := 0) hX (by decide) d_X10_gained_35 ?_
  refine aw_istore (i := 5) (lv2 := [.ref 240, .int a0, .long 0, jk, .int 0, .int 0, d4_6, d4_7, d4_8, d4_9]) hX rfl rfl d_X10_gained_36 ?_
  obtain ⟨y25, f_1448, e_1448⟩ := bd_some e_1447
  clear e_1447
  refine t_X10_gained_38 hF hX f_1448 (fun d26_0 d26_1 d26_4 d26_5 d26_6 d26_7 d26_8 d26_9 => ?_)
  refine aw_lload_n (i := 2) hX rfl rfl d_X10_gained_236 ?_
  cases e_1448
  exact aw_lreturn hX (Nat.zero_le _) (Nat.zero_le _) d_X10_gained_237
theorem k_X10_gained {g : GP} (hg : g.1.stackTraces = false) (hF : gF g = true) {a0 : Int32} {h hz : AH} {z : Int64} (e : s_X10_gained a0 h = some (z, hz)) : Ctr g yX10_gained (wsY yX10_gained cX10_gained 10 (some .long)) 3 0 0 [.ref 240, .int a0] NT false h (some (.long z)) NT false hz := ctr_of (lv0 := [.ref 240, .int a0, jk, jk, jk, jk, jk, jk, jk, jk]) rfl rfl (by decide) hg trivial (fun X hX hn => t_X10_gained hF hX e)
theorem d_X10_swaps_0 : decode cX10_swaps 0 = .ok (.aload_n 0, 1) := by decide +kernel
theorem d_X10_swaps_1 : decode cX10_swaps 1 = .ok (.getfield 100, 3) := by decide +kernel
theorem d_X10_swaps_4 : decode cX10_swaps 4 = .ok (.iload_n 1, 1) := by decide +kernel
theorem d_X10_swaps_5 : decode cX10_swaps 5 = .ok (.iaload, 1) := by decide +kernel
theorem d_X10_swaps_6 : decode cX10_swaps 6 = .ok (.istore_n 3, 1) := by decide +kernel
theorem d_X10_swaps_7 : decode cX10_swaps 7 = .ok (.aload_n 0, 1) := by decide +kernel
theorem d_X10_swaps_8 : decode cX10_swaps 8 = .ok (.getfield 100, 3) := by decide +kernel
theorem d_X10_swaps_11 : decode cX10_swaps 11 = .ok (.iload_n 1, 1) := by decide +kernel
theorem d_X10_swaps_12 : decode cX10_swaps 12 = .ok (.aload_n 0, 1) := by decide +kernel
theorem d_X10_swaps_13 : decode cX10_swaps 13 = .ok (.getfield 100, 3) := by decide +kernel
theorem d_X10_swaps_16 : decode cX10_swaps 16 = .ok (.iload_n 2, 1) := by decide +kernel
theorem d_X10_swaps_17 : decode cX10_swaps 17 = .ok (.iaload, 1) := by decide +kernel
theorem d_X10_swaps_18 : decode cX10_swaps 18 = .ok (.iastore, 1) := by decide +kernel
theorem d_X10_swaps_19 : decode cX10_swaps 19 = .ok (.aload_n 0, 1) := by decide +kernel
theorem d_X10_swaps_20 : decode cX10_swaps 20 = .ok (.getfield 100, 3) := by decide +kernel
theorem d_X10_swaps_23 : decode cX10_swaps 23 = .ok (.iload_n 2, 1) := by decide +kernel
theorem d_X10_swaps_24 : decode cX10_swaps 24 = .ok (.iload_n 3, 1) := by decide +kernel
theorem d_X10_swaps_25 : decode cX10_swaps 25 = .ok (.iastore, 1) := by decide +kernel
theorem d_X10_swaps_26 : decode cX10_swaps 26 = .ok (.return_, 1) := by decide +kernel
def s_X10_swaps (a0 : Int32) (a1 : Int32) (h : AH) : Option (Unit × AH) := bd (ldI h 266 a0) fun x1 => bd (ldI h 266 a1) fun x2 => bd (stI h 266 a0 x2) fun m3 => bd (stI m3 266 a1 x1) fun m4 => some ((), m4)
theorem t_X10_swaps {g : GP} {X : MX} {mcR msR : Nat} (hF : gF g = true) (hX : Cx g RX10 cX10_swaps 1 mcR msR none [] X) {a0 : Int32} {a1 : Int32} {h hz : AH} {z : Unit} (e : s_X10_swaps a0 a1 h = some (z, hz)) : AR g X 0 0 (QQ g X NT false hz (.inl none) 0 0) h 0 [.ref 240, .int a0, .int a1, jk] [] := by
  unfold s_X10_swaps at e
  refine aw_aload_n (i := 0) hX rfl rfl d_X10_swaps_0 ?_
  refine ar_getF hX hF fg_RX10_100 rfl d_X10_swaps_1 ?_
  show AR g X 0 0 _ _ 4 _ [.ref 266]
  refine aw_iload_n (i := 1) hX rfl rfl d_X10_swaps_4 ?_
  obtain ⟨x1, f_1449, e_1449⟩ := bd_some e
  clear e
  refine ar_iaload hX f_1449 d_X10_swaps_5 ?_
  refine aw_istore_n (i := 3) (lv2 := [.ref 240, .int a0, .int a1, .int x1]) hX rfl rfl rfl d_X10_swaps_6 ?_
  refine aw_aload_n (i := 0) hX rfl rfl d_X10_swaps_7 ?_
  refine ar_getF hX hF fg_RX10_100 rfl d_X10_swaps_8 ?_
  show AR g X 0 0 _ _ 11 _ [.ref 266]
  refine aw_iload_n (i := 1) hX rfl rfl d_X10_swaps_11 ?_
  refine aw_aload_n (i := 0) hX rfl rfl d_X10_swaps_12 ?_
  refine ar_getF hX hF fg_RX10_100 rfl d_X10_swaps_13 ?_
  show AR g X 0 0 _ _ 16 _ [.ref 266, .int a0, .ref 266]
  refine aw_iload_n (i := 2) hX rfl rfl d_X10_swaps_16 ?_
  obtain ⟨x2, f_1450, e_1450⟩ := bd_some e_1449
  clear e_1449
  refine ar_iaload hX f_1450 d_X10_swaps_17 ?_
  obtain ⟨m3, f_1451, e_1451⟩ := bd_some e_1450
  clear e_1450
  refine ar_iastore hX f_1451 d_X10_swaps_18 ?_
  refine aw_aload_n (i := 0) hX rfl rfl d_X10_swaps_19 ?_
  refine ar_getF hX hF fg_RX10_100 rfl d_X10_swaps_20 ?_
  show AR g X 0 0 _ _ 23 _ [.ref 266]
  refine aw_iload_n (i := 2) hX rfl rfl d_X10_swaps_23 ?_
  refine aw_iload_n (i := 3) hX rfl rfl d_X10_swaps_24 ?_
  obtain ⟨m4, f_1452, e_1452⟩ := bd_some e_1451
  clear e_1451
  refine ar_iastore hX f_1452 d_X10_swaps_25 ?_
  cases e_1452
  exact aw_return hX (Nat.zero_le _) (Nat.zero_le _) d_X10_swaps_26
theorem k_X10_swaps {g : GP} (hg : g.1.stackTraces = false) (hF : gF g = true) {a0 : Int32} {a1 : Int32} {h hz : AH} {z : Unit} (e : s_X10_swaps a0 a1 h = some (z, hz)) : Ctr g yX10_swaps (wsY yX10_swaps cX10_swaps 4 none) 1 0 0 [.ref 240, .int a0, .int a1] NT false h none NT false hz := ctr_of (lv0 := [.ref 240, .int a0, .int a1, jk]) rfl rfl (by decide) hg trivial (fun X hX hn => t_X10_swaps hF hX e)
theorem d_X10_turns_0 : decode cX10_turns 0 = .ok (.iload_n 1, 1) := by decide +kernel
theorem d_X10_turns_1 : decode cX10_turns 1 = .ok (.iconst 2, 1) := by decide +kernel
theorem d_X10_turns_2 : decode cX10_turns 2 = .ok (.isub, 1) := by decide +kernel
theorem d_X10_turns_3 : decode cX10_turns 3 = .ok (.istore_n 2, 1) := by decide +kernel
theorem d_X10_turns_4 : decode cX10_turns 4 = .ok (.iload_n 2, 1) := by decide +kernel
theorem d_X10_turns_5 : decode cX10_turns 5 = .ok (.ifCond .lt 26, 3) := by decide +kernel
theorem d_X10_turns_8 : decode cX10_turns 8 = .ok (.aload_n 0, 1) := by decide +kernel
theorem d_X10_turns_9 : decode cX10_turns 9 = .ok (.getfield 100, 3) := by decide +kernel
theorem d_X10_turns_12 : decode cX10_turns 12 = .ok (.iload_n 2, 1) := by decide +kernel
theorem d_X10_turns_13 : decode cX10_turns 13 = .ok (.iaload, 1) := by decide +kernel
theorem d_X10_turns_14 : decode cX10_turns 14 = .ok (.aload_n 0, 1) := by decide +kernel
theorem d_X10_turns_15 : decode cX10_turns 15 = .ok (.getfield 100, 3) := by decide +kernel
theorem d_X10_turns_18 : decode cX10_turns 18 = .ok (.iload_n 2, 1) := by decide +kernel
theorem d_X10_turns_19 : decode cX10_turns 19 = .ok (.iconst 1, 1) := by decide +kernel
theorem d_X10_turns_20 : decode cX10_turns 20 = .ok (.iadd, 1) := by decide +kernel
theorem d_X10_turns_21 : decode cX10_turns 21 = .ok (.iaload, 1) := by decide +kernel
theorem d_X10_turns_22 : decode cX10_turns 22 = .ok (.if_icmp .le 9, 3) := by decide +kernel
theorem d_X10_turns_25 : decode cX10_turns 25 = .ok (.iinc 2 (-1), 3) := by decide +kernel
theorem d_X10_turns_28 : decode cX10_turns 28 = .ok (.goto (-24), 3) := by decide +kernel
theorem d_X10_turns_31 : decode cX10_turns 31 = .ok (.iload_n 2, 1) := by decide +kernel
theorem d_X10_turns_32 : decode cX10_turns 32 = .ok (.ifCond .ge 5, 3) := by decide +kernel
theorem d_X10_turns_35 : decode cX10_turns 35 = .ok (.iconst 0, 1) := by decide +kernel
theorem d_X10_turns_36 : decode cX10_turns 36 = .ok (.ireturn, 1) := by decide +kernel
theorem d_X10_turns_37 : decode cX10_turns 37 = .ok (.iload_n 1, 1) := by decide +kernel
theorem d_X10_turns_38 : decode cX10_turns 38 = .ok (.iconst 1, 1) := by decide +kernel
theorem d_X10_turns_39 : decode cX10_turns 39 = .ok (.isub, 1) := by decide +kernel
theorem d_X10_turns_40 : decode cX10_turns 40 = .ok (.istore_n 3, 1) := by decide +kernel
theorem d_X10_turns_41 : decode cX10_turns 41 = .ok (.aload_n 0, 1) := by decide +kernel
theorem d_X10_turns_42 : decode cX10_turns 42 = .ok (.getfield 100, 3) := by decide +kernel
theorem d_X10_turns_45 : decode cX10_turns 45 = .ok (.iload_n 3, 1) := by decide +kernel
theorem d_X10_turns_46 : decode cX10_turns 46 = .ok (.iaload, 1) := by decide +kernel
theorem d_X10_turns_47 : decode cX10_turns 47 = .ok (.aload_n 0, 1) := by decide +kernel
theorem d_X10_turns_48 : decode cX10_turns 48 = .ok (.getfield 100, 3) := by decide +kernel
theorem d_X10_turns_51 : decode cX10_turns 51 = .ok (.iload_n 2, 1) := by decide +kernel
theorem d_X10_turns_52 : decode cX10_turns 52 = .ok (.iaload, 1) := by decide +kernel
theorem d_X10_turns_53 : decode cX10_turns 53 = .ok (.if_icmp .ge 9, 3) := by decide +kernel
theorem d_X10_turns_56 : decode cX10_turns 56 = .ok (.iinc 3 (-1), 3) := by decide +kernel
theorem d_X10_turns_59 : decode cX10_turns 59 = .ok (.goto (-18), 3) := by decide +kernel
theorem d_X10_turns_62 : decode cX10_turns 62 = .ok (.aload_n 0, 1) := by decide +kernel
theorem d_X10_turns_63 : decode cX10_turns 63 = .ok (.iload_n 2, 1) := by decide +kernel
theorem d_X10_turns_64 : decode cX10_turns 64 = .ok (.iload_n 3, 1) := by decide +kernel
theorem d_X10_turns_65 : decode cX10_turns 65 = .ok (.invokevirtual 392, 3) := by decide +kernel
theorem d_X10_turns_68 : decode cX10_turns 68 = .ok (.iload_n 2, 1) := by decide +kernel
theorem d_X10_turns_69 : decode cX10_turns 69 = .ok (.iconst 1, 1) := by decide +kernel
theorem d_X10_turns_70 : decode cX10_turns 70 = .ok (.iadd, 1) := by decide +kernel
theorem d_X10_turns_71 : decode cX10_turns 71 = .ok (.istore 4, 2) := by decide +kernel
theorem d_X10_turns_73 : decode cX10_turns 73 = .ok (.iload_n 1, 1) := by decide +kernel
theorem d_X10_turns_74 : decode cX10_turns 74 = .ok (.iconst 1, 1) := by decide +kernel
theorem d_X10_turns_75 : decode cX10_turns 75 = .ok (.isub, 1) := by decide +kernel
theorem d_X10_turns_76 : decode cX10_turns 76 = .ok (.istore 5, 2) := by decide +kernel
theorem d_X10_turns_78 : decode cX10_turns 78 = .ok (.iload 4, 2) := by decide +kernel
theorem d_X10_turns_80 : decode cX10_turns 80 = .ok (.iload 5, 2) := by decide +kernel
theorem d_X10_turns_82 : decode cX10_turns 82 = .ok (.if_icmp .ge 20, 3) := by decide +kernel
theorem d_X10_turns_85 : decode cX10_turns 85 = .ok (.aload_n 0, 1) := by decide +kernel
theorem d_X10_turns_86 : decode cX10_turns 86 = .ok (.iload 4, 2) := by decide +kernel
theorem d_X10_turns_88 : decode cX10_turns 88 = .ok (.iload 5, 2) := by decide +kernel
theorem d_X10_turns_90 : decode cX10_turns 90 = .ok (.invokevirtual 392, 3) := by decide +kernel
theorem d_X10_turns_93 : decode cX10_turns 93 = .ok (.iinc 4 1, 3) := by decide +kernel
theorem d_X10_turns_96 : decode cX10_turns 96 = .ok (.iinc 5 (-1), 3) := by decide +kernel
theorem d_X10_turns_99 : decode cX10_turns 99 = .ok (.goto (-21), 3) := by decide +kernel
theorem d_X10_turns_102 : decode cX10_turns 102 = .ok (.iconst 1, 1) := by decide +kernel
theorem d_X10_turns_103 : decode cX10_turns 103 = .ok (.ireturn, 1) := by decide +kernel
def l_X10_turns_4 (p1 : Int32) (s : Int32) (h : AH) : Option ((Int32 ⊕ Int32) × AH) := if s < 0 then some (.inr s, h) else bd (ldI h 266 s) fun x1 => bd (ldI h 266 (s + 1)) fun x2 => if x1 ≤ x2 then some (.inr s, h) else some (.inl (s + (-1)), h)
theorem tb_X10_turns_4 {g : GP} {X : MX} {mcR msR : Nat} (hF : gF g = true) (hX : Cx g RX10 cX10_turns 2 mcR msR (some .boolean) [] X) {Q : State → Prop} {p1 : Int32} {s : Int32} {d3 : Value} {d4 : Value} {d5 : Value} {h hz : AH} {z : (Int32 ⊕ Int32)} (e : l_X10_turns_4 p1 s h = some (z, hz)) (kI : ∀ (s2 : Int32) (xd3 : Value) (xd4 : Value) (xd5 : Value), z = .inl s2 → AR g X 0 0 Q hz 4 [.ref 240, .int p1, .int s2, xd3, xd4, xd5] []) (kE0 : ∀ (yy : Int32) (y3 : Value) (y4 : Value) (y5 : Value), z = .inr yy → AR g X 0 0 Q hz 31 [.ref 240, .int p1, .int yy, y3, y4, y5] []) : AR g X 0 0 Q h 4 [.ref 240, .int p1, .int s, d3, d4, d5] [] := by
  unfold l_X10_turns_4 at e
  refine aw_iload_n (i := 2) hX rfl rfl d_X10_turns_4 ?_
  refine aw_if_lt (t := 31) hX (by decide) d_X10_turns_5 (fun c => ?_) (fun c => ?_)
  · rw [if_pos c] at e
    cases e
    exact kE0 s _ _ _ rfl
  · rw [if_neg c] at e
    refine aw_aload_n (i := 0) hX rfl rfl d_X10_turns_8 ?_
    refine ar_getF hX hF fg_RX10_100 rfl d_X10_turns_9 ?_
    show AR g X 0 0 _ _ 12 _ [.ref 266]
    refine aw_iload_n (i := 2) hX rfl rfl d_X10_turns_12 ?_
    obtain ⟨x1, f_1453, e_1453⟩ := bd_some e
    clear e
    refine ar_iaload hX f_1453 d_X10_turns_13 ?_
    refine aw_aload_n (i := 0) hX rfl rfl d_X10_turns_14 ?_
    refine ar_getF hX hF fg_RX10_100 rfl d_X10_turns_15 ?_
    show AR g X 0 0 _ _ 18 _ [.ref 266, .int x1]
    refine aw_iload_n (i := 2) hX rfl rfl d_X10_turns_18 ?_
    refine aw_iconst (v := 1) hX (by decide) d_X10_turns_19 ?_
    refine aw_iadd hX d_X10_turns_20 ?_
    obtain ⟨x2, f_1454, e_1454⟩ := bd_some e_1453
    clear e_1453
    refine ar_iaload hX f_1454 d_X10_turns_21 ?_
    refine aw_icmp_le (t := 31) hX (by decide) d_X10_turns_22 (fun c => ?_) (fun c => ?_)
    · rw [if_pos c] at e_1454
      cases e_1454
      exact kE0 s _ _ _ rfl
    · rw [if_neg c] at e_1454
      refine aw_iinc (i := 2) (lv2 := [.ref 240, .int p1, .int (s + (-1)), d3, d4, d5]) hX rfl (iz (b := (-1)) (by decide)) rfl rfl d_X10_turns_25 ?_
      refine aw_goto (t := 4) hX (by decide) d_X10_turns_28 ?_
      cases e_1454
      exact kI (s + (-1)) _ _ _ rfl
theorem ti_X10_turns_4 {g : GP} {X : MX} {mcR msR : Nat} (hF : gF g = true) (hX : Cx g RX10 cX10_turns 2 mcR msR (some .boolean) [] X) {Q : State → Prop} {p1 : Int32} {y : Int32} {hz : AH} (kE0 : ∀ (y_3 : Value) (y_4 : Value) (y_5 : Value), AR g X 0 0 Q hz 31 [.ref 240, .int p1, .int y, y_3, y_4, y_5] []) (n : Nat) : ∀ (s : Int32) (d3 : Value) (d4 : Value) (d5 : Value) (h : AH), lpH (l_X10_turns_4 p1) n s h = some (y, hz) → AR g X 0 0 Q h 4 [.ref 240, .int p1, .int s, d3, d4, d5] [] := by
  induction n with
  | zero => intro s d3 d4 d5 h e; cases e
  | succ n ih =>
    intro s d3 d4 d5 h e
    obtain ⟨x, h1, e1, e2⟩ := lpH_succ e
    rcases e2 with ⟨s2, rfl, e3⟩ | ⟨rfl, rfl⟩
    · exact tb_X10_turns_4 hF hX e1 (fun s3 x0 x1 x2 hs => by cases hs; exact ih _ _ _ _ _ e3) (fun yy x0 x1 x2 hy => by cases hy)
    · exact tb_X10_turns_4 hF hX e1 (fun s3 x0 x1 x2 hs => by cases hs) (fun yy x0 x1 x2 hy => by cases hy; exact kE0 x0 x1 x2)
theorem t_X10_turns_4 {g : GP} {X : MX} {mcR msR : Nat} (hF : gF g = true) (hX : Cx g RX10 cX10_turns 2 mcR msR (some .boolean) [] X) {Q : State → Prop} {p1 : Int32} {s : Int32} {d3 : Value} {d4 : Value} {d5 : Value} {h hz : AH} {n : Nat} {y : Int32} (e : lpH (l_X10_turns_4 p1) n s h = some (y, hz)) (kE0 : ∀ (y_3 : Value) (y_4 : Value) (y_5 : Value), AR g X 0 0 Q hz 31 [.ref 240, .int p1, .int y, y_3, y_4, y_5] []) : AR g X 0 0 Q h 4 [.ref 240, .int p1, .int s, d3, d4, d5] [] := ti_X10_turns_4 hF hX kE0 n _ _ _ _ _ e
def l_X10_turns_41 (p1 : Int32) (p2 : Int32) (s : Int32) (h : AH) : Option ((Int32 ⊕ Int32) × AH) := bd (ldI h 266 s) fun x5 => bd (ldI h 266 p2) fun x6 => if x6 ≤ x5 then some (.inr s, h) else some (.inl (s + (-1)), h)
theorem tb_X10_turns_41 {g : GP} {X : MX} {mcR msR : Nat} (hF : gF g = true) (hX : Cx g RX10 cX10_turns 2 mcR msR (some .boolean) [] X) {Q : State → Prop} {p1 : Int32} {p2 : Int32} {s : Int32} {d4 : Value} {d5 : Value} {h hz : AH} {z : (Int32 ⊕ Int32)} (e : l_X10_turns_41 p1 p2 s h = some (z, hz)) (kI : ∀ (s2 : Int32) (xd4 : Value) (xd5 : Value), z = .inl s2 → AR g X 0 0 Q hz 41 [.ref 240, .int p1, .int p2, .int s2, xd4, xd5] []) (kE0 : ∀ (yy : Int32) (y4 : Value) (y5 : Value), z = .inr yy → AR g X 0 0 Q hz 62 [.ref 240, .int p1, .int p2, .int yy, y4, y5] []) : AR g X 0 0 Q h 41 [.ref 240, .int p1, .int p2, .int s, d4, d5] [] := by
  unfold l_X10_turns_41 at e
  refine aw_aload_n (i := 0) hX rfl rfl d_X10_turns_41 ?_
  refine ar_getF hX hF fg_RX10_100 rfl d_X10_turns_42 ?_
  show AR g X 0 0 _ _ 45 _ [.ref 266]
  refine aw_iload_n (i := 3) hX rfl rfl d_X10_turns_45 ?_
  obtain ⟨x5, f_1455, e_1455⟩ := bd_some e
  clear e
  refine ar_iaload hX f_1455 d_X10_turns_46 ?_
  refine aw_aload_n (i := 0) hX rfl rfl d_X10_turns_47 ?_
  refine ar_getF hX hF fg_RX10_100 rfl d_X10_turns_48 ?_
  show AR g X 0 0 _ _ 51 _ [.ref 266, .int x5]
  refine aw_iload_n (i := 2) hX rfl rfl d_X10_turns_51 ?_
  obtain ⟨x6, f_1456, e_1456⟩ := bd_some e_1455
  clear e_1455
  refine ar_iaload hX f_1456 d_X10_turns_52 ?_
  refine aw_icmp_ge (t := 62) hX (by decide) d_X10_turns_53 (fun c => ?_) (fun c => ?_)
  · rw [if_pos c] at e_1456
    cases e_1456
    exact kE0 s _ _ rfl
  · rw [if_neg c] at e_1456
    refine aw_iinc (i := 3) (lv2 := [.ref 240, .int p1, .int p2, .int (s + (-1)), d4, d5]) hX rfl (iz (b := (-1)) (by decide)) rfl rfl d_X10_turns_56 ?_
    refine aw_goto (t := 41) hX (by decide) d_X10_turns_59 ?_
    cases e_1456
    exact kI (s + (-1)) _ _ rfl
theorem ti_X10_turns_41 {g : GP} {X : MX} {mcR msR : Nat} (hF : gF g = true) (hX : Cx g RX10 cX10_turns 2 mcR msR (some .boolean) [] X) {Q : State → Prop} {p1 : Int32} {p2 : Int32} {y : Int32} {hz : AH} (kE0 : ∀ (y_4 : Value) (y_5 : Value), AR g X 0 0 Q hz 62 [.ref 240, .int p1, .int p2, .int y, y_4, y_5] []) (n : Nat) : ∀ (s : Int32) (d4 : Value) (d5 : Value) (h : AH), lpH (l_X10_turns_41 p1 p2) n s h = some (y, hz) → AR g X 0 0 Q h 41 [.ref 240, .int p1, .int p2, .int s, d4, d5] [] := by
  induction n with
  | zero => intro s d4 d5 h e; cases e
  | succ n ih =>
    intro s d4 d5 h e
    obtain ⟨x, h1, e1, e2⟩ := lpH_succ e
    rcases e2 with ⟨s2, rfl, e3⟩ | ⟨rfl, rfl⟩
    · exact tb_X10_turns_41 hF hX e1 (fun s3 x0 x1 hs => by cases hs; exact ih _ _ _ _ e3) (fun yy x0 x1 hy => by cases hy)
    · exact tb_X10_turns_41 hF hX e1 (fun s3 x0 x1 hs => by cases hs) (fun yy x0 x1 hy => by cases hy; exact kE0 x0 x1)
theorem t_X10_turns_41 {g : GP} {X : MX} {mcR msR : Nat} (hF : gF g = true) (hX : Cx g RX10 cX10_turns 2 mcR msR (some .boolean) [] X) {Q : State → Prop} {p1 : Int32} {p2 : Int32} {s : Int32} {d4 : Value} {d5 : Value} {h hz : AH} {n : Nat} {y : Int32} (e : lpH (l_X10_turns_41 p1 p2) n s h = some (y, hz)) (kE0 : ∀ (y_4 : Value) (y_5 : Value), AR g X 0 0 Q hz 62 [.ref 240, .int p1, .int p2, .int y, y_4, y_5] []) : AR g X 0 0 Q h 41 [.ref 240, .int p1, .int p2, .int s, d4, d5] [] := ti_X10_turns_41 hF hX kE0 n _ _ _ _ e
def l_X10_turns_78 (s : (Int32 × Int32)) (h : AH) : Option (((Int32 × Int32) ⊕ Unit) × AH) := if s.2 ≤ s.1 then some (.inr (), h) else bd (s_X10_swaps s.1 s.2 h) fun q10 => some (.inl (s.1 + 1, s.2 + (-1)), q10.2)
theorem tb_X10_turns_78 {g : GP} {X : MX} {mcR msR : Nat} (hF : gF g = true) (hX : Cx g RX10 cX10_turns 2 mcR msR (some .boolean) [] X) {Q : State → Prop} {s : (Int32 × Int32)} {d1 : Value} {d2 : Value} {d3 : Value} {h hz : AH} {z : ((Int32 × Int32) ⊕ Unit)} (e : l_X10_turns_78 s h = some (z, hz)) (kI : ∀ (s2 : (Int32 × Int32)) (xd1 : Value) (xd2 : Value) (xd3 : Value), z = .inl s2 → AR g X 0 0 Q hz 78 [.ref 240, xd1, xd2, xd3, .int s2.1, .int s2.2] []) (kE0 : ∀ (yy : Unit) (y0 : Value) (y1 : Value) (y2 : Value) (y3 : Value) (y4 : Value) (y5 : Value), z = .inr yy → AR g X 0 0 Q hz 102 [y0, y1, y2, y3, y4, y5] []) : AR g X 0 0 Q h 78 [.ref 240, d1, d2, d3, .int s.1, .int s.2] [] := by
  unfold l_X10_turns_78 at e
  refine aw_iload (i := 4) hX rfl d_X10_turns_78 ?_
  refine aw_iload (i := 5) hX rfl d_X10_turns_80 ?_
  refine aw_icmp_ge (t := 102) hX (by decide) d_X10_turns_82 (fun c => ?_) (fun c => ?_)
  · rw [if_pos c] at e
    cases e
    exact kE0 () _ _ _ _ _ _ rfl
  · rw [if_neg c] at e
    refine aw_aload_n (i := 0) hX rfl rfl d_X10_turns_85 ?_
    refine aw_iload (i := 4) hX rfl d_X10_turns_86 ?_
    refine aw_iload (i := 5) hX rfl d_X10_turns_88 ?_
    obtain ⟨q10, f_1457, e_1457⟩ := bd_some e
    clear e
    refine aw_callV (b := 240) (av := [.int s.1, .int s.2]) (avr := [.int s.2, .int s.1]) hX (k_X10_swaps (cx_g hX) hF f_1457) mi_X10_swaps rfl rfl w_875 w_876 w_877 (by decide) rfl (LAY_lt rfl (by decide)) rfl rfl (Nat.le_of_ble_eq_true rfl) (Nat.zero_le _) (Nat.zero_le _) d_X10_turns_90 ?_
    refine aw_iinc (i := 4) (lv2 := [.ref 240, d1, d2, _, .int (s.1 + 1), .int s.2]) hX rfl rfl rfl rfl d_X10_turns_93 ?_
    refine aw_iinc (i := 5) (lv2 := [.ref 240, d1, d2, _, .int (s.1 + 1), .int (s.2 + (-1))]) hX rfl (iz (b := (-1)) (by decide)) rfl rfl d_X10_turns_96 ?_
    refine aw_goto (t := 78) hX (by decide) d_X10_turns_99 ?_
    cases e_1457
    exact kI (s.1 + 1, s.2 + (-1)) _ _ _ rfl
theorem ti_X10_turns_78 {g : GP} {X : MX} {mcR msR : Nat} (hF : gF g = true) (hX : Cx g RX10 cX10_turns 2 mcR msR (some .boolean) [] X) {Q : State → Prop} {y : Unit} {hz : AH} (kE0 : ∀ (y_0 : Value) (y_1 : Value) (y_2 : Value) (y_3 : Value) (y_4 : Value) (y_5 : Value), AR g X 0 0 Q hz 102 [y_0, y_1, y_2, y_3, y_4, y_5] []) (n : Nat) : ∀ (s : (Int32 × Int32)) (d1 : Value) (d2 : Value) (d3 : Value) (h : AH), lpH (l_X10_turns_78) n s h = some (y, hz) → AR g X 0 0 Q h 78 [.ref 240, d1, d2, d3, .int s.1, .int s.2] [] := by
  induction n with
  | zero => intro s d1 d2 d3 h e; cases e
  | succ n ih =>
    intro s d1 d2 d3 h e
    obtain ⟨x, h1, e1, e2⟩ := lpH_succ e
    rcases e2 with ⟨s2, rfl, e3⟩ | ⟨rfl, rfl⟩
    · exact tb_X10_turns_78 hF hX e1 (fun s3 x0 x1 x2 hs => by cases hs; exact ih _ _ _ _ _ e3) (fun yy x0 x1 x2 x3 x4 x5 hy => by cases hy)
    · exact tb_X10_turns_78 hF hX e1 (fun s3 x0 x1 x2 hs => by cases hs) (fun yy x0 x1 x2 x3 x4 x5 hy => by cases hy; exact kE0 x0 x1 x2 x3 x4 x5)
theorem t_X10_turns_78 {g : GP} {X : MX} {mcR msR : Nat} (hF : gF g = true) (hX : Cx g RX10 cX10_turns 2 mcR msR (some .boolean) [] X) {Q : State → Prop} {s : (Int32 × Int32)} {d1 : Value} {d2 : Value} {d3 : Value} {h hz : AH} {n : Nat} {y : Unit} (e : lpH (l_X10_turns_78) n s h = some (y, hz)) (kE0 : ∀ (y_0 : Value) (y_1 : Value) (y_2 : Value) (y_3 : Value) (y_4 : Value) (y_5 : Value), AR g X 0 0 Q hz 102 [y_0, y_1, y_2, y_3, y_4, y_5] []) : AR g X 0 0 Q h 78 [.ref 240, d1, d2, d3, .int s.1, .int s.2] [] := ti_X10_turns_78 hF hX kE0 n _ _ _ _ _ e
def j_X10_turns_31 (v1 : Int32) (v2 : Int32) (h : AH) : Option (Int32 × AH) := if 0 ≤ v2 then bd (lpH (l_X10_turns_41 v1 v2) FU (v1 - 1) h) fun y7 => bd (s_X10_swaps v2 y7.1 y7.2) fun q9 => bd (lpH (l_X10_turns_78) FU ((v2 + 1), (v1 - 1)) q9.2) fun y11 => some (1, y11.2) else some (0, h)
theorem tj_X10_turns_31 {g : GP} {X : MX} {mcR msR : Nat} (hF : gF g = true) (hX : Cx g RX10 cX10_turns 2 mcR msR (some .boolean) [] X) {v1 : Int32} {v2 : Int32} {d3 : Value} {d4 : Value} {d5 : Value} {h hz : AH} {z : Int32} (e : j_X10_turns_31 v1 v2 h = some (z, hz)) : AR g X 0 0 (QQ g X NT false hz (.inl (some (.int z))) 0 0) h 31 [.ref 240, .int v1, .int v2, d3, d4, d5] [] := by
  unfold j_X10_turns_31 at e
  refine aw_iload_n (i := 2) hX rfl rfl d_X10_turns_31 ?_
  refine aw_if_ge (t := 37) hX (by decide) d_X10_turns_32 (fun c => ?_) (fun c => ?_)
  · rw [if_pos c] at e
    refine aw_iload_n (i := 1) hX rfl rfl d_X10_turns_37 ?_
    refine aw_iconst (v := 1) hX (by decide) d_X10_turns_38 ?_
    refine aw_isub hX d_X10_turns_39 ?_
    refine aw_istore_n (i := 3) (lv2 := [.ref 240, .int v1, .int v2, .int (v1 - 1), d4, d5]) hX rfl rfl rfl d_X10_turns_40 ?_
    obtain ⟨y7, f_1458, e_1458⟩ := bd_some e
    clear e
    refine t_X10_turns_41 hF hX f_1458 (fun d8_4 d8_5 => ?_)
    refine aw_aload_n (i := 0) hX rfl rfl d_X10_turns_62 ?_
    refine aw_iload_n (i := 2) hX rfl rfl d_X10_turns_63 ?_
    refine aw_iload_n (i := 3) hX rfl rfl d_X10_turns_64 ?_
    obtain ⟨q9, f_1459, e_1459⟩ := bd_some e_1458
    clear e_1458
    refine aw_callV (b := 240) (av := [.int v2, .int y7.1]) (avr := [.int y7.1, .int v2]) hX (k_X10_swaps (cx_g hX) hF f_1459) mi_X10_swaps rfl rfl w_875 w_876 w_877 (by decide) rfl (LAY_lt rfl (by decide)) rfl rfl (Nat.le_of_ble_eq_true rfl) (Nat.zero_le _) (Nat.zero_le _) d_X10_turns_65 ?_
    refine aw_iload_n (i := 2) hX rfl rfl d_X10_turns_68 ?_
    refine aw_iconst (v := 1) hX (by decide) d_X10_turns_69 ?_
    refine aw_iadd hX d_X10_turns_70 ?_
    refine aw_istore (i := 4) (lv2 := [.ref 240, .int v1, .int v2, .int y7.1, .int (v2 + 1), d8_5]) hX rfl rfl d_X10_turns_71 ?_
    refine aw_iload_n (i := 1) hX rfl rfl d_X10_turns_73 ?_
    refine aw_iconst (v := 1) hX (by decide) d_X10_turns_74 ?_
    refine aw_isub hX d_X10_turns_75 ?_
    refine aw_istore (i := 5) (lv2 := [.ref 240, .int v1, .int v2, .int y7.1, .int (v2 + 1), .int (v1 - 1)]) hX rfl rfl d_X10_turns_76 ?_
    obtain ⟨y11, f_1460, e_1460⟩ := bd_some e_1459
    clear e_1459
    refine t_X10_turns_78 hF hX f_1460 (fun d12_0 d12_1 d12_2 d12_3 d12_4 d12_5 => ?_)
    refine aw_iconst (v := 1) hX (by decide) d_X10_turns_102 ?_
    cases e_1460
    exact aw_zreturn hX (by decide) (Nat.zero_le _) (Nat.zero_le _) d_X10_turns_103
  · rw [if_neg c] at e
    refine aw_iconst (v := 0) hX (by decide) d_X10_turns_35 ?_
    cases e
    exact aw_zreturn hX (by decide) (Nat.zero_le _) (Nat.zero_le _) d_X10_turns_36
def s_X10_turns (a0 : Int32) (h : AH) : Option (Int32 × AH) := bd (lpH (l_X10_turns_4 a0) FU (a0 - 2) h) fun y3 => j_X10_turns_31 a0 y3.1 y3.2
theorem t_X10_turns {g : GP} {X : MX} {mcR msR : Nat} (hF : gF g = true) (hX : Cx g RX10 cX10_turns 2 mcR msR (some .boolean) [] X) {a0 : Int32} {h hz : AH} {z : Int32} (e : s_X10_turns a0 h = some (z, hz)) : AR g X 0 0 (QQ g X NT false hz (.inl (some (.int z))) 0 0) h 0 [.ref 240, .int a0, jk, jk, jk, jk] [] := by
  unfold s_X10_turns at e
  refine aw_iload_n (i := 1) hX rfl rfl d_X10_turns_0 ?_
  refine aw_iconst (v := 2) hX (by decide) d_X10_turns_1 ?_
  refine aw_isub hX d_X10_turns_2 ?_
  refine aw_istore_n (i := 2) (lv2 := [.ref 240, .int a0, .int (a0 - 2), jk, jk, jk]) hX rfl rfl rfl d_X10_turns_3 ?_
  obtain ⟨y3, f_1461, e_1461⟩ := bd_some e
  clear e
  refine t_X10_turns_4 hF hX f_1461 (fun d4_3 d4_4 d4_5 => ?_)
  exact tj_X10_turns_31 hF hX e_1461
theorem k_X10_turns {g : GP} (hg : g.1.stackTraces = false) (hF : gF g = true) {a0 : Int32} {h hz : AH} {z : Int32} (e : s_X10_turns a0 h = some (z, hz)) : Ctr g yX10_turns (wsY yX10_turns cX10_turns 6 (some .boolean)) 2 0 0 [.ref 240, .int a0] NT false h (some (.int z)) NT false hz := ctr_of (lv0 := [.ref 240, .int a0, jk, jk, jk, jk]) rfl rfl (by decide) hg trivial (fun X hX hn => t_X10_turns hF hX e)
theorem d_X10_order_0 : decode cX10_order 0 = .ok (.aload_n 0, 1) := by decide +kernel
theorem d_X10_order_1 : decode cX10_order 1 = .ok (.iconst 0, 1) := by decide +kernel
theorem d_X10_order_2 : decode cX10_order 2 = .ok (.putfield 133, 3) := by decide +kernel
theorem d_X10_order_5 : decode cX10_order 5 = .ok (.iconst 0, 1) := by decide +kernel
theorem d_X10_order_6 : decode cX10_order 6 = .ok (.istore_n 1, 1) := by decide +kernel
theorem d_X10_order_7 : decode cX10_order 7 = .ok (.iload_n 1, 1) := by decide +kernel
theorem d_X10_order_8 : decode cX10_order 8 = .ok (.aload_n 0, 1) := by decide +kernel
theorem d_X10_order_9 : decode cX10_order 9 = .ok (.getfield 268, 3) := by decide +kernel
theorem d_X10_order_12 : decode cX10_order 12 = .ok (.if_icmp .ge 72, 3) := by decide +kernel
theorem d_X10_order_15 : decode cX10_order 15 = .ok (.iload_n 1, 1) := by decide +kernel
theorem d_X10_order_16 : decode cX10_order 16 = .ok (.istore_n 2, 1) := by decide +kernel
theorem d_X10_order_17 : decode cX10_order 17 = .ok (.iload_n 2, 1) := by decide +kernel
theorem d_X10_order_18 : decode cX10_order 18 = .ok (.ifCond .le 53, 3) := by decide +kernel
theorem d_X10_order_21 : decode cX10_order 21 = .ok (.aload_n 0, 1) := by decide +kernel
theorem d_X10_order_22 : decode cX10_order 22 = .ok (.getfield 20, 3) := by decide +kernel
theorem d_X10_order_25 : decode cX10_order 25 = .ok (.iconst 2, 1) := by decide +kernel
theorem d_X10_order_26 : decode cX10_order 26 = .ok (.aload_n 0, 1) := by decide +kernel
theorem d_X10_order_27 : decode cX10_order 27 = .ok (.getfield 103, 3) := by decide +kernel
theorem d_X10_order_30 : decode cX10_order 30 = .ok (.iload_n 2, 1) := by decide +kernel
theorem d_X10_order_31 : decode cX10_order 31 = .ok (.iconst 1, 1) := by decide +kernel
theorem d_X10_order_32 : decode cX10_order 32 = .ok (.isub, 1) := by decide +kernel
theorem d_X10_order_33 : decode cX10_order 33 = .ok (.iaload, 1) := by decide +kernel
theorem d_X10_order_34 : decode cX10_order 34 = .ok (.imul, 1) := by decide +kernel
theorem d_X10_order_35 : decode cX10_order 35 = .ok (.iconst 1, 1) := by decide +kernel
theorem d_X10_order_36 : decode cX10_order 36 = .ok (.iadd, 1) := by decide +kernel
theorem d_X10_order_37 : decode cX10_order 37 = .ok (.iaload, 1) := by decide +kernel
theorem d_X10_order_38 : decode cX10_order 38 = .ok (.aload_n 0, 1) := by decide +kernel
theorem d_X10_order_39 : decode cX10_order 39 = .ok (.getfield 20, 3) := by decide +kernel
theorem d_X10_order_42 : decode cX10_order 42 = .ok (.iconst 2, 1) := by decide +kernel
theorem d_X10_order_43 : decode cX10_order 43 = .ok (.iload_n 1, 1) := by decide +kernel
theorem d_X10_order_44 : decode cX10_order 44 = .ok (.imul, 1) := by decide +kernel
theorem d_X10_order_45 : decode cX10_order 45 = .ok (.iconst 1, 1) := by decide +kernel
theorem d_X10_order_46 : decode cX10_order 46 = .ok (.iadd, 1) := by decide +kernel
theorem d_X10_order_47 : decode cX10_order 47 = .ok (.iaload, 1) := by decide +kernel
theorem d_X10_order_48 : decode cX10_order 48 = .ok (.if_icmp .ge 23, 3) := by decide +kernel
theorem d_X10_order_51 : decode cX10_order 51 = .ok (.aload_n 0, 1) := by decide +kernel
theorem d_X10_order_52 : decode cX10_order 52 = .ok (.getfield 103, 3) := by decide +kernel
theorem d_X10_order_55 : decode cX10_order 55 = .ok (.iload_n 2, 1) := by decide +kernel
theorem d_X10_order_56 : decode cX10_order 56 = .ok (.aload_n 0, 1) := by decide +kernel
theorem d_X10_order_57 : decode cX10_order 57 = .ok (.getfield 103, 3) := by decide +kernel
theorem d_X10_order_60 : decode cX10_order 60 = .ok (.iload_n 2, 1) := by decide +kernel
theorem d_X10_order_61 : decode cX10_order 61 = .ok (.iconst 1, 1) := by decide +kernel
theorem d_X10_order_62 : decode cX10_order 62 = .ok (.isub, 1) := by decide +kernel
theorem d_X10_order_63 : decode cX10_order 63 = .ok (.iaload, 1) := by decide +kernel
theorem d_X10_order_64 : decode cX10_order 64 = .ok (.iastore, 1) := by decide +kernel
theorem d_X10_order_65 : decode cX10_order 65 = .ok (.iinc 2 (-1), 3) := by decide +kernel
theorem d_X10_order_68 : decode cX10_order 68 = .ok (.goto (-51), 3) := by decide +kernel
theorem d_X10_order_71 : decode cX10_order 71 = .ok (.aload_n 0, 1) := by decide +kernel
theorem d_X10_order_72 : decode cX10_order 72 = .ok (.getfield 103, 3) := by decide +kernel
theorem d_X10_order_75 : decode cX10_order 75 = .ok (.iload_n 2, 1) := by decide +kernel
theorem d_X10_order_76 : decode cX10_order 76 = .ok (.iload_n 1, 1) := by decide +kernel
theorem d_X10_order_77 : decode cX10_order 77 = .ok (.iastore, 1) := by decide +kernel
theorem d_X10_order_78 : decode cX10_order 78 = .ok (.iinc 1 1, 3) := by decide +kernel
theorem d_X10_order_81 : decode cX10_order 81 = .ok (.goto (-74), 3) := by decide +kernel
theorem d_X10_order_84 : decode cX10_order 84 = .ok (.iconst 0, 1) := by decide +kernel
theorem d_X10_order_85 : decode cX10_order 85 = .ok (.istore_n 1, 1) := by decide +kernel
theorem d_X10_order_86 : decode cX10_order 86 = .ok (.iconst 0, 1) := by decide +kernel
theorem d_X10_order_87 : decode cX10_order 87 = .ok (.istore_n 2, 1) := by decide +kernel
theorem d_X10_order_88 : decode cX10_order 88 = .ok (.iload_n 2, 1) := by decide +kernel
theorem d_X10_order_89 : decode cX10_order 89 = .ok (.iconst 5, 1) := by decide +kernel
theorem d_X10_order_90 : decode cX10_order 90 = .ok (.if_icmp .ge 76, 3) := by decide +kernel
theorem d_X10_order_93 : decode cX10_order 93 = .ok (.iconst 0, 1) := by decide +kernel
theorem d_X10_order_94 : decode cX10_order 94 = .ok (.istore_n 3, 1) := by decide +kernel
theorem d_X10_order_95 : decode cX10_order 95 = .ok (.iconst 0, 1) := by decide +kernel
theorem d_X10_order_96 : decode cX10_order 96 = .ok (.istore 4, 2) := by decide +kernel
theorem d_X10_order_98 : decode cX10_order 98 = .ok (.iload 4, 2) := by decide +kernel
theorem d_X10_order_100 : decode cX10_order 100 = .ok (.aload_n 0, 1) := by decide +kernel
theorem d_X10_order_101 : decode cX10_order 101 = .ok (.getfield 265, 3) := by decide +kernel
theorem d_X10_order_104 : decode cX10_order 104 = .ok (.if_icmp .ge 39, 3) := by decide +kernel
theorem d_X10_order_107 : decode cX10_order 107 = .ok (.iload_n 3, 1) := by decide +kernel
theorem d_X10_order_108 : decode cX10_order 108 = .ok (.ifCond .ne 23, 3) := by decide +kernel
theorem d_X10_order_111 : decode cX10_order 111 = .ok (.aload_n 0, 1) := by decide +kernel
theorem d_X10_order_112 : decode cX10_order 112 = .ok (.iload 4, 2) := by decide +kernel
theorem d_X10_order_114 : decode cX10_order 114 = .ok (.iconst 0, 1) := by decide +kernel
theorem d_X10_order_115 : decode cX10_order 115 = .ok (.invokevirtual 292, 3) := by decide +kernel
theorem d_X10_order_118 : decode cX10_order 118 = .ok (.ifCond .le 17, 3) := by decide +kernel
theorem d_X10_order_121 : decode cX10_order 121 = .ok (.aload_n 0, 1) := by decide +kernel
theorem d_X10_order_122 : decode cX10_order 122 = .ok (.iload 4, 2) := by decide +kernel
theorem d_X10_order_124 : decode cX10_order 124 = .ok (.invokevirtual 347, 3) := by decide +kernel
theorem d_X10_order_127 : decode cX10_order 127 = .ok (.iload_n 2, 1) := by decide +kernel
theorem d_X10_order_128 : decode cX10_order 128 = .ok (.if_icmp .ne 7, 3) := by decide +kernel
theorem d_X10_order_131 : decode cX10_order 131 = .ok (.iconst 1, 1) := by decide +kernel
theorem d_X10_order_132 : decode cX10_order 132 = .ok (.goto 4, 3) := by decide +kernel
theorem d_X10_order_135 : decode cX10_order 135 = .ok (.iconst 0, 1) := by decide +kernel
theorem d_X10_order_136 : decode cX10_order 136 = .ok (.istore_n 3, 1) := by decide +kernel
theorem d_X10_order_137 : decode cX10_order 137 = .ok (.iinc 4 1, 3) := by decide +kernel
theorem d_X10_order_140 : decode cX10_order 140 = .ok (.goto (-42), 3) := by decide +kernel
theorem d_X10_order_143 : decode cX10_order 143 = .ok (.iload_n 3, 1) := by decide +kernel
theorem d_X10_order_144 : decode cX10_order 144 = .ok (.ifCond .ne 6, 3) := by decide +kernel
theorem d_X10_order_147 : decode cX10_order 147 = .ok (.goto 13, 3) := by decide +kernel
theorem d_X10_order_150 : decode cX10_order 150 = .ok (.aload_n 0, 1) := by decide +kernel
theorem d_X10_order_151 : decode cX10_order 151 = .ok (.getfield 100, 3) := by decide +kernel
theorem d_X10_order_154 : decode cX10_order 154 = .ok (.iload_n 1, 1) := by decide +kernel
theorem d_X10_order_155 : decode cX10_order 155 = .ok (.iload_n 2, 1) := by decide +kernel
theorem d_X10_order_156 : decode cX10_order 156 = .ok (.iastore, 1) := by decide +kernel
theorem d_X10_order_157 : decode cX10_order 157 = .ok (.iinc 1 1, 3) := by decide +kernel
theorem d_X10_order_160 : decode cX10_order 160 = .ok (.iinc 2 1, 3) := by decide +kernel
theorem d_X10_order_163 : decode cX10_order 163 = .ok (.goto (-75), 3) := by decide +kernel
theorem d_X10_order_166 : decode cX10_order 166 = .ok (.ldc2_w 363, 3) := by decide +kernel
theorem d_X10_order_169 : decode cX10_order 169 = .ok (.lstore_n 2, 1) := by decide +kernel
theorem d_X10_order_170 : decode cX10_order 170 = .ok (.iconst 1, 1) := by decide +kernel
theorem d_X10_order_171 : decode cX10_order 171 = .ok (.istore 4, 2) := by decide +kernel
theorem d_X10_order_173 : decode cX10_order 173 = .ok (.iload 4, 2) := by decide +kernel
theorem d_X10_order_175 : decode cX10_order 175 = .ok (.ifCond .eq 59, 3) := by decide +kernel
theorem d_X10_order_178 : decode cX10_order 178 = .ok (.aload_n 0, 1) := by decide +kernel
theorem d_X10_order_179 : decode cX10_order 179 = .ok (.iload_n 1, 1) := by decide +kernel
theorem d_X10_order_180 : decode cX10_order 180 = .ok (.invokevirtual 395, 3) := by decide +kernel
theorem d_X10_order_183 : decode cX10_order 183 = .ok (.lstore 5, 2) := by decide +kernel
theorem d_X10_order_185 : decode cX10_order 185 = .ok (.lload 5, 2) := by decide +kernel
theorem d_X10_order_187 : decode cX10_order 187 = .ok (.lload_n 2, 1) := by decide +kernel
theorem d_X10_order_188 : decode cX10_order 188 = .ok (.lcmp, 1) := by decide +kernel
theorem d_X10_order_189 : decode cX10_order 189 = .ok (.ifCond .le 35, 3) := by decide +kernel
theorem d_X10_order_192 : decode cX10_order 192 = .ok (.lload 5, 2) := by decide +kernel
theorem d_X10_order_194 : decode cX10_order 194 = .ok (.lstore_n 2, 1) := by decide +kernel
theorem d_X10_order_195 : decode cX10_order 195 = .ok (.iconst 0, 1) := by decide +kernel
theorem d_X10_order_196 : decode cX10_order 196 = .ok (.istore 7, 2) := by decide +kernel
theorem d_X10_order_198 : decode cX10_order 198 = .ok (.iload 7, 2) := by decide +kernel
theorem d_X10_order_200 : decode cX10_order 200 = .ok (.iload_n 1, 1) := by decide +kernel
theorem d_X10_order_201 : decode cX10_order 201 = .ok (.if_icmp .ge 23, 3) := by decide +kernel
theorem d_X10_order_204 : decode cX10_order 204 = .ok (.aload_n 0, 1) := by decide +kernel
theorem d_X10_order_205 : decode cX10_order 205 = .ok (.getfield 97, 3) := by decide +kernel
theorem d_X10_order_208 : decode cX10_order 208 = .ok (.iload 7, 2) := by decide +kernel
theorem d_X10_order_210 : decode cX10_order 210 = .ok (.aload_n 0, 1) := by decide +kernel
theorem d_X10_order_211 : decode cX10_order 211 = .ok (.getfield 100, 3) := by decide +kernel
theorem d_X10_order_214 : decode cX10_order 214 = .ok (.iload 7, 2) := by decide +kernel
theorem d_X10_order_216 : decode cX10_order 216 = .ok (.iaload, 1) := by decide +kernel
theorem d_X10_order_217 : decode cX10_order 217 = .ok (.iastore, 1) := by decide +kernel
theorem d_X10_order_218 : decode cX10_order 218 = .ok (.iinc 7 1, 3) := by decide +kernel
theorem d_X10_order_221 : decode cX10_order 221 = .ok (.goto (-23), 3) := by decide +kernel
theorem d_X10_order_224 : decode cX10_order 224 = .ok (.aload_n 0, 1) := by decide +kernel
theorem d_X10_order_225 : decode cX10_order 225 = .ok (.iload_n 1, 1) := by decide +kernel
theorem d_X10_order_226 : decode cX10_order 226 = .ok (.invokevirtual 398, 3) := by decide +kernel
theorem d_X10_order_229 : decode cX10_order 229 = .ok (.istore 4, 2) := by decide +kernel
theorem d_X10_order_231 : decode cX10_order 231 = .ok (.goto (-58), 3) := by decide +kernel
theorem d_X10_order_234 : decode cX10_order 234 = .ok (.aload_n 0, 1) := by decide +kernel
theorem d_X10_order_235 : decode cX10_order 235 = .ok (.iload_n 1, 1) := by decide +kernel
theorem d_X10_order_236 : decode cX10_order 236 = .ok (.putfield 94, 3) := by decide +kernel
theorem d_X10_order_239 : decode cX10_order 239 = .ok (.lload_n 2, 1) := by decide +kernel
theorem d_X10_order_240 : decode cX10_order 240 = .ok (.lreturn, 1) := by decide +kernel
def l_X10_order_17 (p1 : Int32) (s : Int32) (h : AH) : Option ((Int32 ⊕ Int32) × AH) := if s ≤ 0 then some (.inr s, h) else bd (ldI h 267 (s - 1)) fun x1 => bd (ldI h 243 ((2 * x1) + 1)) fun x2 => bd (ldI h 243 ((2 * p1) + 1)) fun x3 => if x3 ≤ x2 then some (.inr s, h) else bd (ldI h 267 (s - 1)) fun x4 => bd (stI h 267 s x4) fun m5 => some (.inl (s + (-1)), m5)
theorem tb_X10_order_17 {g : GP} {X : MX} {mcR msR : Nat} (hF : gF g = true) (hX : Cx g RX10 cX10_order 4 mcR msR (some .long) [] X) {Q : State → Prop} {p1 : Int32} {s : Int32} {d3 : Value} {d4 : Value} {d5 : Value} {d6 : Value} {d7 : Value} {h hz : AH} {z : (Int32 ⊕ Int32)} (e : l_X10_order_17 p1 s h = some (z, hz)) (kI : ∀ (s2 : Int32) (xd3 : Value) (xd4 : Value) (xd5 : Value) (xd6 : Value) (xd7 : Value), z = .inl s2 → AR g X 0 0 Q hz 17 [.ref 240, .int p1, .int s2, xd3, xd4, xd5, xd6, xd7] []) (kE0 : ∀ (yy : Int32) (y3 : Value) (y4 : Value) (y5 : Value) (y6 : Value) (y7 : Value), z = .inr yy → AR g X 0 0 Q hz 71 [.ref 240, .int p1, .int yy, y3, y4, y5, y6, y7] []) : AR g X 0 0 Q h 17 [.ref 240, .int p1, .int s, d3, d4, d5, d6, d7] [] := by
  unfold l_X10_order_17 at e
  refine aw_iload_n (i := 2) hX rfl rfl d_X10_order_17 ?_
  refine aw_if_le (t := 71) hX (by decide) d_X10_order_18 (fun c => ?_) (fun c => ?_)
  · rw [if_pos c] at e
    cases e
    exact kE0 s _ _ _ _ _ rfl
  · rw [if_neg c] at e
    refine aw_aload_n (i := 0) hX rfl rfl d_X10_order_21 ?_
    refine ar_getF hX hF fg_RX10_20 rfl d_X10_order_22 ?_
    show AR g X 0 0 _ _ 25 _ [.ref 243]
    refine aw_iconst (v := 2) hX (by decide) d_X10_order_25 ?_
    refine aw_aload_n (i := 0) hX rfl rfl d_X10_order_26 ?_
    refine ar_getF hX hF fg_RX10_103 rfl d_X10_order_27 ?_
    show AR g X 0 0 _ _ 30 _ [.ref 267, .int 2, .ref 243]
    refine aw_iload_n (i := 2) hX rfl rfl d_X10_order_30 ?_
    refine aw_iconst (v := 1) hX (by decide) d_X10_order_31 ?_
    refine aw_isub hX d_X10_order_32 ?_
    obtain ⟨x1, f_1462, e_1462⟩ := bd_some e
    clear e
    refine ar_iaload hX f_1462 d_X10_order_33 ?_
    refine aw_imul hX d_X10_order_34 ?_
    refine aw_iconst (v := 1) hX (by decide) d_X10_order_35 ?_
    refine aw_iadd hX d_X10_order_36 ?_
    obtain ⟨x2, f_1463, e_1463⟩ := bd_some e_1462
    clear e_1462
    refine ar_iaload hX f_1463 d_X10_order_37 ?_
    refine aw_aload_n (i := 0) hX rfl rfl d_X10_order_38 ?_
    refine ar_getF hX hF fg_RX10_20 rfl d_X10_order_39 ?_
    show AR g X 0 0 _ _ 42 _ [.ref 243, .int x2]
    refine aw_iconst (v := 2) hX (by decide) d_X10_order_42 ?_
    refine aw_iload_n (i := 1) hX rfl rfl d_X10_order_43 ?_
    refine aw_imul hX d_X10_order_44 ?_
    refine aw_iconst (v := 1) hX (by decide) d_X10_order_45 ?_
    refine aw_iadd hX d_X10_order_46 ?_
    obtain ⟨x3, f_1464, e_1464⟩ := bd_some e_1463
    clear e_1463
    refine ar_iaload hX f_1464 d_X10_order_47 ?_
    refine aw_icmp_ge (t := 71) hX (by decide) d_X10_order_48 (fun c => ?_) (fun c => ?_)
    · rw [if_pos c] at e_1464
      cases e_1464
      exact kE0 s _ _ _ _ _ rfl
    · rw [if_neg c] at e_1464
      refine aw_aload_n (i := 0) hX rfl rfl d_X10_order_51 ?_
      refine ar_getF hX hF fg_RX10_103 rfl d_X10_order_52 ?_
      show AR g X 0 0 _ _ 55 _ [.ref 267]
      refine aw_iload_n (i := 2) hX rfl rfl d_X10_order_55 ?_
      refine aw_aload_n (i := 0) hX rfl rfl d_X10_order_56 ?_
      refine ar_getF hX hF fg_RX10_103 rfl d_X10_order_57 ?_
      show AR g X 0 0 _ _ 60 _ [.ref 267, .int s, .ref 267]
      refine aw_iload_n (i := 2) hX rfl rfl d_X10_order_60 ?_
      refine aw_iconst (v := 1) hX (by decide) d_X10_order_61 ?_
      refine aw_isub hX d_X10_order_62 ?_
      obtain ⟨x4, f_1465, e_1465⟩ := bd_some e_1464
      clear e_1464
      refine ar_iaload hX f_1465 d_X10_order_63 ?_
      obtain ⟨m5, f_1466, e_1466⟩ := bd_some e_1465
      clear e_1465
      refine ar_iastore hX f_1466 d_X10_order_64 ?_
      refine aw_iinc (i := 2) (lv2 := [.ref 240, .int p1, .int (s + (-1)), d3, d4, d5, d6, d7]) hX rfl (iz (b := (-1)) (by decide)) rfl rfl d_X10_order_65 ?_
      refine aw_goto (t := 17) hX (by decide) d_X10_order_68 ?_
      cases e_1466
      exact kI (s + (-1)) _ _ _ _ _ rfl
theorem ti_X10_order_17 {g : GP} {X : MX} {mcR msR : Nat} (hF : gF g = true) (hX : Cx g RX10 cX10_order 4 mcR msR (some .long) [] X) {Q : State → Prop} {p1 : Int32} {y : Int32} {hz : AH} (kE0 : ∀ (y_3 : Value) (y_4 : Value) (y_5 : Value) (y_6 : Value) (y_7 : Value), AR g X 0 0 Q hz 71 [.ref 240, .int p1, .int y, y_3, y_4, y_5, y_6, y_7] []) (n : Nat) : ∀ (s : Int32) (d3 : Value) (d4 : Value) (d5 : Value) (d6 : Value) (d7 : Value) (h : AH), lpH (l_X10_order_17 p1) n s h = some (y, hz) → AR g X 0 0 Q h 17 [.ref 240, .int p1, .int s, d3, d4, d5, d6, d7] [] := by
  induction n with
  | zero => intro s d3 d4 d5 d6 d7 h e; cases e
  | succ n ih =>
    intro s d3 d4 d5 d6 d7 h e
    obtain ⟨x, h1, e1, e2⟩ := lpH_succ e
    rcases e2 with ⟨s2, rfl, e3⟩ | ⟨rfl, rfl⟩
    · exact tb_X10_order_17 hF hX e1 (fun s3 x0 x1 x2 x3 x4 hs => by cases hs; exact ih _ _ _ _ _ _ _ e3) (fun yy x0 x1 x2 x3 x4 hy => by cases hy)
    · exact tb_X10_order_17 hF hX e1 (fun s3 x0 x1 x2 x3 x4 hs => by cases hs) (fun yy x0 x1 x2 x3 x4 hy => by cases hy; exact kE0 x0 x1 x2 x3 x4)
theorem t_X10_order_17 {g : GP} {X : MX} {mcR msR : Nat} (hF : gF g = true) (hX : Cx g RX10 cX10_order 4 mcR msR (some .long) [] X) {Q : State → Prop} {p1 : Int32} {s : Int32} {d3 : Value} {d4 : Value} {d5 : Value} {d6 : Value} {d7 : Value} {h hz : AH} {n : Nat} {y : Int32} (e : lpH (l_X10_order_17 p1) n s h = some (y, hz)) (kE0 : ∀ (y_3 : Value) (y_4 : Value) (y_5 : Value) (y_6 : Value) (y_7 : Value), AR g X 0 0 Q hz 71 [.ref 240, .int p1, .int y, y_3, y_4, y_5, y_6, y_7] []) : AR g X 0 0 Q h 17 [.ref 240, .int p1, .int s, d3, d4, d5, d6, d7] [] := ti_X10_order_17 hF hX kE0 n _ _ _ _ _ _ _ e
def j_X10_order_71_7 (v1 : Int32) (v2 : Int32) (h : AH) : Option ((Int32 ⊕ Unit) × AH) := bd (stI h 267 v2 v1) fun m8 => some (.inl (v1 + 1), m8)
theorem tj_X10_order_71_7 {g : GP} {X : MX} {mcR msR : Nat} (hF : gF g = true) (hX : Cx g RX10 cX10_order 4 mcR msR (some .long) [] X) {Q : State → Prop} {v1 : Int32} {v2 : Int32} {d3 : Value} {d4 : Value} {d5 : Value} {d6 : Value} {d7 : Value} {h hz : AH} {z : (Int32 ⊕ Unit)} (e : j_X10_order_71_7 v1 v2 h = some (z, hz)) (kI : ∀ (s2 : Int32) (xd2 : Value) (xd3 : Value) (xd4 : Value) (xd5 : Value) (xd6 : Value) (xd7 : Value), z = .inl s2 → AR g X 0 0 Q hz 7 [.ref 240, .int s2, xd2, xd3, xd4, xd5, xd6, xd7] []) (kE0 : ∀ (yy : Unit) (y1 : Value) (y2 : Value) (y3 : Value) (y4 : Value) (y5 : Value) (y6 : Value) (y7 : Value), z = .inr yy → AR g X 0 0 Q hz 84 [.ref 240, y1, y2, y3, y4, y5, y6, y7] []) : AR g X 0 0 Q h 71 [.ref 240, .int v1, .int v2, d3, d4, d5, d6, d7] [] := by
  unfold j_X10_order_71_7 at e
  refine aw_aload_n (i := 0) hX rfl rfl d_X10_order_71 ?_
  refine ar_getF hX hF fg_RX10_103 rfl d_X10_order_72 ?_
  show AR g X 0 0 _ _ 75 _ [.ref 267]
  refine aw_iload_n (i := 2) hX rfl rfl d_X10_order_75 ?_
  refine aw_iload_n (i := 1) hX rfl rfl d_X10_order_76 ?_
  obtain ⟨m8, f_1467, e_1467⟩ := bd_some e
  clear e
  refine ar_iastore hX f_1467 d_X10_order_77 ?_
  refine aw_iinc (i := 1) (lv2 := [.ref 240, .int (v1 + 1), .int v2, d3, d4, d5, d6, d7]) hX rfl rfl rfl rfl d_X10_order_78 ?_
  refine aw_goto (t := 7) hX (by decide) d_X10_order_81 ?_
  cases e_1467
  exact kI (v1 + 1) _ _ _ _ _ _ rfl
def l_X10_order_7 (s : Int32) (h : AH) : Option ((Int32 ⊕ Unit) × AH) := if (gI h 240 5) ≤ s then some (.inr (), h) else bd (lpH (l_X10_order_17 s) FU s h) fun y6 => j_X10_order_71_7 s y6.1 y6.2
theorem tb_X10_order_7 {g : GP} {X : MX} {mcR msR : Nat} (hF : gF g = true) (hX : Cx g RX10 cX10_order 4 mcR msR (some .long) [] X) {Q : State → Prop} {s : Int32} {d2 : Value} {d3 : Value} {d4 : Value} {d5 : Value} {d6 : Value} {d7 : Value} {h hz : AH} {z : (Int32 ⊕ Unit)} (e : l_X10_order_7 s h = some (z, hz)) (kI : ∀ (s2 : Int32) (xd2 : Value) (xd3 : Value) (xd4 : Value) (xd5 : Value) (xd6 : Value) (xd7 : Value), z = .inl s2 → AR g X 0 0 Q hz 7 [.ref 240, .int s2, xd2, xd3, xd4, xd5, xd6, xd7] []) (kE0 : ∀ (yy : Unit) (y1 : Value) (y2 : Value) (y3 : Value) (y4 : Value) (y5 : Value) (y6 : Value) (y7 : Value), z = .inr yy → AR g X 0 0 Q hz 84 [.ref 240, y1, y2, y3, y4, y5, y6, y7] []) : AR g X 0 0 Q h 7 [.ref 240, .int s, d2, d3, d4, d5, d6, d7] [] := by
  unfold l_X10_order_7 at e
  refine aw_iload_n (i := 1) hX rfl rfl d_X10_order_7 ?_
  refine aw_aload_n (i := 0) hX rfl rfl d_X10_order_8 ?_
  refine ar_getI hX fg_RX10_268 rfl d_X10_order_9 ?_
  refine aw_icmp_ge (t := 84) hX (by decide) d_X10_order_12 (fun c => ?_) (fun c => ?_)
  · rw [if_pos c] at e
    cases e
    exact kE0 () _ _ _ _ _ _ _ rfl
  · rw [if_neg c] at e
    refine aw_iload_n (i := 1) hX rfl rfl d_X10_order_15 ?_
    refine aw_istore_n (i := 2) (lv2 := [.ref 240, .int s, .int s, d3, d4, d5, d6, d7]) hX rfl rfl rfl d_X10_order_16 ?_
    obtain ⟨y6, f_1468, e_1468⟩ := bd_some e
    clear e
    refine t_X10_order_17 hF hX f_1468 (fun d7_3 d7_4 d7_5 d7_6 d7_7 => ?_)
    exact tj_X10_order_71_7 hF hX e_1468 kI kE0
theorem ti_X10_order_7 {g : GP} {X : MX} {mcR msR : Nat} (hF : gF g = true) (hX : Cx g RX10 cX10_order 4 mcR msR (some .long) [] X) {Q : State → Prop} {y : Unit} {hz : AH} (kE0 : ∀ (y_1 : Value) (y_2 : Value) (y_3 : Value) (y_4 : Value) (y_5 : Value) (y_6 : Value) (y_7 : Value), AR g X 0 0 Q hz 84 [.ref 240, y_1, y_2, y_3, y_4, y_5, y_6, y_7] []) (n : Nat) : ∀ (s : Int32) (d2 : Value) (d3 : Value) (d4 : Value) (d5 : Value) (d6 : Value) (d7 : Value) (h : AH), lpH (l_X10_order_7) n s h = some (y, hz) → AR g X 0 0 Q h 7 [.ref 240, .int s, d2, d3, d4, d5, d6, d7] [] := by
  induction n with
  | zero => intro s d2 d3 d4 d5 d6 d7 h e; cases e
  | succ n ih =>
    intro s d2 d3 d4 d5 d6 d7 h e
    obtain ⟨x, h1, e1, e2⟩ := lpH_succ e
    rcases e2 with ⟨s2, rfl, e3⟩ | ⟨rfl, rfl⟩
    · exact tb_X10_order_7 hF hX e1 (fun s3 x0 x1 x2 x3 x4 x5 hs => by cases hs; exact ih _ _ _ _ _ _ _ _ e3) (fun yy x0 x1 x2 x3 x4 x5 x6 hy => by cases hy)
    · exact tb_X10_order_7 hF hX e1 (fun s3 x0 x1 x2 x3 x4 x5 hs => by cases hs) (fun yy x0 x1 x2 x3 x4 x5 x6 hy => by cases hy; exact kE0 x0 x1 x2 x3 x4 x5 x6)
theorem t_X10_order_7 {g : GP} {X : MX} {mcR msR : Nat} (hF : gF g = true) (hX : Cx g RX10 cX10_order 4 mcR msR (some .long) [] X) {Q : State → Prop} {s : Int32} {d2 : Value} {d3 : Value} {d4 : Value} {d5 : Value} {d6 : Value} {d7 : Value} {h hz : AH} {n : Nat} {y : Unit} (e : lpH (l_X10_order_7) n s h = some (y, hz)) (kE0 : ∀ (y_1 : Value) (y_2 : Value) (y_3 : Value) (y_4 : Value) (y_5 : Value) (y_6 : Value) (y_7 : Value), AR g X 0 0 Q hz 84 [.ref 240, y_1, y_2, y_3, y_4, y_5, y_6, y_7] []) : AR g X 0 0 Q h 7 [.ref 240, .int s, d2, d3, d4, d5, d6, d7] [] := ti_X10_order_7 hF hX kE0 n _ _ _ _ _ _ _ _ e
def j_X10_order_136_98 (p1 : Int32) (p2 : Int32) (v4 : Int32) (k0 : Int32) (h : AH) : Option (((Int32 × Int32) ⊕ Int32) × AH) := some (.inl (k0, v4 + 1), h)
theorem tj_X10_order_136_98 {g : GP} {X : MX} {mcR msR : Nat} (hF : gF g = true) (hX : Cx g RX10 cX10_order 4 mcR msR (some .long) [] X) {Q : State → Prop} {p1 : Int32} {p2 : Int32} {v4 : Int32} {k0 : Int32} {d3 : Value} {d5 : Value} {d6 : Value} {d7 : Value} {h hz : AH} {z : ((Int32 × Int32) ⊕ Int32)} (e : j_X10_order_136_98 p1 p2 v4 k0 h = some (z, hz)) (kI : ∀ (s2 : (Int32 × Int32)) (xd5 : Value) (xd6 : Value) (xd7 : Value), z = .inl s2 → AR g X 0 0 Q hz 98 [.ref 240, .int p1, .int p2, .int s2.1, .int s2.2, xd5, xd6, xd7] []) (kE0 : ∀ (yy : Int32) (y4 : Value) (y5 : Value) (y6 : Value) (y7 : Value), z = .inr yy → AR g X 0 0 Q hz 143 [.ref 240, .int p1, .int p2, .int yy, y4, y5, y6, y7] []) : AR g X 0 0 Q h 136 [.ref 240, .int p1, .int p2, d3, .int v4, d5, d6, d7] [.int k0] := by
  unfold j_X10_order_136_98 at e
  refine aw_istore_n (i := 3) (lv2 := [.ref 240, .int p1, .int p2, .int k0, .int v4, d5, d6, d7]) hX rfl rfl rfl d_X10_order_136 ?_
  refine aw_iinc (i := 4) (lv2 := [.ref 240, .int p1, .int p2, .int k0, .int (v4 + 1), d5, d6, d7]) hX rfl rfl rfl rfl d_X10_order_137 ?_
  refine aw_goto (t := 98) hX (by decide) d_X10_order_140 ?_
  cases e
  exact kI (k0, v4 + 1) _ _ _ rfl
def j_X10_order_131_98 (p1 : Int32) (p2 : Int32) (v4 : Int32) (h : AH) : Option (((Int32 × Int32) ⊕ Int32) × AH) := j_X10_order_136_98 p1 p2 v4 1 h
theorem tj_X10_order_131_98 {g : GP} {X : MX} {mcR msR : Nat} (hF : gF g = true) (hX : Cx g RX10 cX10_order 4 mcR msR (some .long) [] X) {Q : State → Prop} {p1 : Int32} {p2 : Int32} {v4 : Int32} {d3 : Value} {d5 : Value} {d6 : Value} {d7 : Value} {h hz : AH} {z : ((Int32 × Int32) ⊕ Int32)} (e : j_X10_order_131_98 p1 p2 v4 h = some (z, hz)) (kI : ∀ (s2 : (Int32 × Int32)) (xd5 : Value) (xd6 : Value) (xd7 : Value), z = .inl s2 → AR g X 0 0 Q hz 98 [.ref 240, .int p1, .int p2, .int s2.1, .int s2.2, xd5, xd6, xd7] []) (kE0 : ∀ (yy : Int32) (y4 : Value) (y5 : Value) (y6 : Value) (y7 : Value), z = .inr yy → AR g X 0 0 Q hz 143 [.ref 240, .int p1, .int p2, .int yy, y4, y5, y6, y7] []) : AR g X 0 0 Q h 131 [.ref 240, .int p1, .int p2, d3, .int v4, d5, d6, d7] [] := by
  unfold j_X10_order_131_98 at e
  refine aw_iconst (v := 1) hX (by decide) d_X10_order_131 ?_
  refine aw_goto (t := 136) hX (by decide) d_X10_order_132 ?_
  exact tj_X10_order_136_98 hF hX e kI kE0
def j_X10_order_135_98 (p1 : Int32) (p2 : Int32) (v4 : Int32) (h : AH) : Option (((Int32 × Int32) ⊕ Int32) × AH) := j_X10_order_136_98 p1 p2 v4 0 h
theorem tj_X10_order_135_98 {g : GP} {X : MX} {mcR msR : Nat} (hF : gF g = true) (hX : Cx g RX10 cX10_order 4 mcR msR (some .long) [] X) {Q : State → Prop} {p1 : Int32} {p2 : Int32} {v4 : Int32} {d3 : Value} {d5 : Value} {d6 : Value} {d7 : Value} {h hz : AH} {z : ((Int32 × Int32) ⊕ Int32)} (e : j_X10_order_135_98 p1 p2 v4 h = some (z, hz)) (kI : ∀ (s2 : (Int32 × Int32)) (xd5 : Value) (xd6 : Value) (xd7 : Value), z = .inl s2 → AR g X 0 0 Q hz 98 [.ref 240, .int p1, .int p2, .int s2.1, .int s2.2, xd5, xd6, xd7] []) (kE0 : ∀ (yy : Int32) (y4 : Value) (y5 : Value) (y6 : Value) (y7 : Value), z = .inr yy → AR g X 0 0 Q hz 143 [.ref 240, .int p1, .int p2, .int yy, y4, y5, y6, y7] []) : AR g X 0 0 Q h 135 [.ref 240, .int p1, .int p2, d3, .int v4, d5, d6, d7] [] := by
  unfold j_X10_order_135_98 at e
  refine aw_iconst (v := 0) hX (by decide) d_X10_order_135 ?_
  exact tj_X10_order_136_98 hF hX e kI kE0
def l_X10_order_98 (p1 : Int32) (p2 : Int32) (s : (Int32 × Int32)) (h : AH) : Option (((Int32 × Int32) ⊕ Int32) × AH) := if (gI h 240 4) ≤ s.2 then some (.inr s.1, h) else if s.1 = 0 then bd (s_X10_of s.2 0 h) fun x11 => if x11 ≤ 0 then j_X10_order_135_98 p1 p2 s.2 h else bd (s_X10_buysOf s.2 h) fun x12 => if x12 = p2 then j_X10_order_131_98 p1 p2 s.2 h else j_X10_order_135_98 p1 p2 s.2 h else j_X10_order_131_98 p1 p2 s.2 h
theorem tb_X10_order_98 {g : GP} {X : MX} {mcR msR : Nat} (hF : gF g = true) (hX : Cx g RX10 cX10_order 4 mcR msR (some .long) [] X) {Q : State → Prop} {p1 : Int32} {p2 : Int32} {s : (Int32 × Int32)} {d5 : Value} {d6 : Value} {d7 : Value} {h hz : AH} {z : ((Int32 × Int32) ⊕ Int32)} (e : l_X10_order_98 p1 p2 s h = some (z, hz)) (kI : ∀ (s2 : (Int32 × Int32)) (xd5 : Value) (xd6 : Value) (xd7 : Value), z = .inl s2 → AR g X 0 0 Q hz 98 [.ref 240, .int p1, .int p2, .int s2.1, .int s2.2, xd5, xd6, xd7] []) (kE0 : ∀ (yy : Int32) (y4 : Value) (y5 : Value) (y6 : Value) (y7 : Value), z = .inr yy → AR g X 0 0 Q hz 143 [.ref 240, .int p1, .int p2, .int yy, y4, y5, y6, y7] []) : AR g X 0 0 Q h 98 [.ref 240, .int p1, .int p2, .int s.1, .int s.2, d5, d6, d7] [] := by
  unfold l_X10_order_98 at e
  refine aw_iload (i := 4) hX rfl d_X10_order_98 ?_
  refine aw_aload_n (i := 0) hX rfl rfl d_X10_order_100 ?_
  refine ar_getI hX fg_RX10_265 rfl d_X10_order_101 ?_
  refine aw_icmp_ge (t := 143) hX (by decide) d_X10_order_104 (fun c => ?_) (fun c => ?_)
  · rw [if_pos c] at e
    cases e
    exact kE0 s.1 _ _ _ _ rfl
  · rw [if_neg c] at e
    refine aw_iload_n (i := 3) hX rfl rfl d_X10_order_107 ?_
    refine aw_if_ne (t := 131) hX (by decide) d_X10_order_108 (fun c => ?_) (fun c => ?_)
    · rw [if_neg c] at e
      exact tj_X10_order_131_98 hF hX e kI kE0
    · rw [if_pos c] at e
      refine aw_aload_n (i := 0) hX rfl rfl d_X10_order_111 ?_
      refine aw_iload (i := 4) hX rfl d_X10_order_112 ?_
      refine aw_iconst (v := 0) hX (by decide) d_X10_order_114 ?_
      obtain ⟨x11, f_1469, e_1469⟩ := bd_some e
      clear e
      refine aw_callV (b := 240) (av := [.int s.2, .int 0]) (avr := [.int 0, .int s.2]) hX (k_X10_of (cx_g hX) hF f_1469) mi_X10_of rfl rfl w_732 w_733 w_734 (by decide) rfl (LAY_lt rfl (by decide)) rfl rfl (Nat.le_of_ble_eq_true rfl) (Nat.zero_le _) (Nat.zero_le _) d_X10_order_115 ?_
      refine aw_if_le (t := 135) hX (by decide) d_X10_order_118 (fun c => ?_) (fun c => ?_)
      · rw [if_pos c] at e_1469
        exact tj_X10_order_135_98 hF hX e_1469 kI kE0
      · rw [if_neg c] at e_1469
        refine aw_aload_n (i := 0) hX rfl rfl d_X10_order_121 ?_
        refine aw_iload (i := 4) hX rfl d_X10_order_122 ?_
        obtain ⟨x12, f_1470, e_1470⟩ := bd_some e_1469
        clear e_1469
        refine aw_callV (b := 240) (av := [.int s.2]) (avr := [.int s.2]) hX (k_X10_buysOf (cx_g hX) hF f_1470) mi_X10_buysOf rfl rfl w_819 w_820 w_821 (by decide) rfl (LAY_lt rfl (by decide)) rfl rfl (Nat.le_of_ble_eq_true rfl) (Nat.zero_le _) (Nat.zero_le _) d_X10_order_124 ?_
        refine aw_iload_n (i := 2) hX rfl rfl d_X10_order_127 ?_
        refine aw_icmp_ne (t := 135) hX (by decide) d_X10_order_128 (fun c => ?_) (fun c => ?_)
        · rw [if_neg c] at e_1470
          exact tj_X10_order_135_98 hF hX e_1470 kI kE0
        · rw [if_pos c] at e_1470
          exact tj_X10_order_131_98 hF hX e_1470 kI kE0
theorem ti_X10_order_98 {g : GP} {X : MX} {mcR msR : Nat} (hF : gF g = true) (hX : Cx g RX10 cX10_order 4 mcR msR (some .long) [] X) {Q : State → Prop} {p1 : Int32} {p2 : Int32} {y : Int32} {hz : AH} (kE0 : ∀ (y_4 : Value) (y_5 : Value) (y_6 : Value) (y_7 : Value), AR g X 0 0 Q hz 143 [.ref 240, .int p1, .int p2, .int y, y_4, y_5, y_6, y_7] []) (n : Nat) : ∀ (s : (Int32 × Int32)) (d5 : Value) (d6 : Value) (d7 : Value) (h : AH), lpH (l_X10_order_98 p1 p2) n s h = some (y, hz) → AR g X 0 0 Q h 98 [.ref 240, .int p1, .int p2, .int s.1, .int s.2, d5, d6, d7] [] := by
  induction n with
  | zero => intro s d5 d6 d7 h e; cases e
  | succ n ih =>
    intro s d5 d6 d7 h e
    obtain ⟨x, h1, e1, e2⟩ := lpH_succ e
    rcases e2 with ⟨s2, rfl, e3⟩ | ⟨rfl, rfl⟩
    · exact tb_X10_order_98 hF hX e1 (fun s3 x0 x1 x2 hs => by cases hs; exact ih _ _ _ _ _ e3) (fun yy x0 x1 x2 x3 hy => by cases hy)
    · exact tb_X10_order_98 hF hX e1 (fun s3 x0 x1 x2 hs => by cases hs) (fun yy x0 x1 x2 x3 hy => by cases hy; exact kE0 x0 x1 x2 x3)
theorem t_X10_order_98 {g : GP} {X : MX} {mcR msR : Nat} (hF : gF g = true) (hX : Cx g RX10 cX10_order 4 mcR msR (some .long) [] X) {Q : State → Prop} {p1 : Int32} {p2 : Int32} {s : (Int32 × Int32)} {d5 : Value} {d6 : Value} {d7 : Value} {h hz : AH} {n : Nat} {y : Int32} (e : lpH (l_X10_order_98 p1 p2) n s h = some (y, hz)) (kE0 : ∀ (y_4 : Value) (y_5 : Value) (y_6 : Value) (y_7 : Value), AR g X 0 0 Q hz 143 [.ref 240, .int p1, .int p2, .int y, y_4, y_5, y_6, y_7] []) : AR g X 0 0 Q h 98 [.ref 240, .int p1, .int p2, .int s.1, .int s.2, d5, d6, d7] [] := ti_X10_order_98 hF hX kE0 n _ _ _ _ _ e
def j_X10_order_160_88 (v1 : Int32) (v2 : Int32) (h : AH) : Option (((Int32 × Int32) ⊕ Int32) × AH) := some (.inl (v1, v2 + 1), h)
theorem tj_X10_order_160_88 {g : GP} {X : MX} {mcR msR : Nat} (hF : gF g = true) (hX : Cx g RX10 cX10_order 4 mcR msR (some .long) [] X) {Q : State → Prop} {v1 : Int32} {v2 : Int32} {d3 : Value} {d4 : Value} {d5 : Value} {d6 : Value} {d7 : Value} {h hz : AH} {z : ((Int32 × Int32) ⊕ Int32)} (e : j_X10_order_160_88 v1 v2 h = some (z, hz)) (kI : ∀ (s2 : (Int32 × Int32)) (xd3 : Value) (xd4 : Value) (xd5 : Value) (xd6 : Value) (xd7 : Value), z = .inl s2 → AR g X 0 0 Q hz 88 [.ref 240, .int s2.1, .int s2.2, xd3, xd4, xd5, xd6, xd7] []) (kE0 : ∀ (yy : Int32) (y2 : Value) (y3 : Value) (y4 : Value) (y5 : Value) (y6 : Value) (y7 : Value), z = .inr yy → AR g X 0 0 Q hz 166 [.ref 240, .int yy, y2, y3, y4, y5, y6, y7] []) : AR g X 0 0 Q h 160 [.ref 240, .int v1, .int v2, d3, d4, d5, d6, d7] [] := by
  unfold j_X10_order_160_88 at e
  refine aw_iinc (i := 2) (lv2 := [.ref 240, .int v1, .int (v2 + 1), d3, d4, d5, d6, d7]) hX rfl rfl rfl rfl d_X10_order_160 ?_
  refine aw_goto (t := 88) hX (by decide) d_X10_order_163 ?_
  cases e
  exact kI (v1, v2 + 1) _ _ _ _ _ rfl
def l_X10_order_88 (s : (Int32 × Int32)) (h : AH) : Option (((Int32 × Int32) ⊕ Int32) × AH) := if 5 ≤ s.2 then some (.inr s.1, h) else bd (lpH (l_X10_order_98 s.1 s.2) FU (0, 0) h) fun y13 => if y13.1 = 0 then j_X10_order_160_88 s.1 s.2 y13.2 else bd (stI y13.2 266 s.1 s.2) fun m15 => j_X10_order_160_88 (s.1 + 1) s.2 m15
theorem tb_X10_order_88 {g : GP} {X : MX} {mcR msR : Nat} (hF : gF g = true) (hX : Cx g RX10 cX10_order 4 mcR msR (some .long) [] X) {Q : State → Prop} {s : (Int32 × Int32)} {d3 : Value} {d4 : Value} {d5 : Value} {d6 : Value} {d7 : Value} {h hz : AH} {z : ((Int32 × Int32) ⊕ Int32)} (e : l_X10_order_88 s h = some (z, hz)) (kI : ∀ (s2 : (Int32 × Int32)) (xd3 : Value) (xd4 : Value) (xd5 : Value) (xd6 : Value) (xd7 : Value), z = .inl s2 → AR g X 0 0 Q hz 88 [.ref 240, .int s2.1, .int s2.2, xd3, xd4, xd5, xd6, xd7] []) (kE0 : ∀ (yy : Int32) (y2 : Value) (y3 : Value) (y4 : Value) (y5 : Value) (y6 : Value) (y7 : Value), z = .inr yy → AR g X 0 0 Q hz 166 [.ref 240, .int yy, y2, y3, y4, y5, y6, y7] []) : AR g X 0 0 Q h 88 [.ref 240, .int s.1, .int s.2, d3, d4, d5, d6, d7] [] := by
  unfold l_X10_order_88 at e
  refine aw_iload_n (i := 2) hX rfl rfl d_X10_order_88 ?_
  refine aw_iconst (v := 5) hX (by decide) d_X10_order_89 ?_
  refine aw_icmp_ge (t := 166) hX (by decide) d_X10_order_90 (fun c => ?_) (fun c => ?_)
  · rw [if_pos c] at e
    cases e
    exact kE0 s.1 _ _ _ _ _ _ rfl
  · rw [if_neg c] at e
    refine aw_iconst (v := 0) hX (by decide) d_X10_order_93 ?_
    refine aw_istore_n (i := 3) (lv2 := [.ref 240, .int s.1, .int s.2, .int 0, d4, d5, d6, d7]) hX rfl rfl rfl d_X10_order_94 ?_
    refine aw_iconst (v := 0) hX (by decide) d_X10_order_95 ?_
    refine aw_istore (i := 4) (lv2 := [.ref 240, .int s.1, .int s.2, .int 0, .int 0, d5, d6, d7]) hX rfl rfl d_X10_order_96 ?_
    obtain ⟨y13, f_1471, e_1471⟩ := bd_some e
    clear e
    refine t_X10_order_98 hF hX f_1471 (fun d14_4 d14_5 d14_6 d14_7 => ?_)
    refine aw_iload_n (i := 3) hX rfl rfl d_X10_order_143 ?_
    refine aw_if_ne (t := 150) hX (by decide) d_X10_order_144 (fun c => ?_) (fun c => ?_)
    · rw [if_neg c] at e_1471
      refine aw_aload_n (i := 0) hX rfl rfl d_X10_order_150 ?_
      refine ar_getF hX hF fg_RX10_100 rfl d_X10_order_151 ?_
      show AR g X 0 0 _ _ 154 _ [.ref 266]
      refine aw_iload_n (i := 1) hX rfl rfl d_X10_order_154 ?_
      refine aw_iload_n (i := 2) hX rfl rfl d_X10_order_155 ?_
      obtain ⟨m15, f_1472, e_1472⟩ := bd_some e_1471
      clear e_1471
      refine ar_iastore hX f_1472 d_X10_order_156 ?_
      refine aw_iinc (i := 1) (lv2 := [.ref 240, .int (s.1 + 1), .int s.2, .int y13.1, d14_4, d14_5, d14_6, d14_7]) hX rfl rfl rfl rfl d_X10_order_157 ?_
      exact tj_X10_order_160_88 hF hX e_1472 kI kE0
    · rw [if_pos c] at e_1471
      refine aw_goto (t := 160) hX (by decide) d_X10_order_147 ?_
      exact tj_X10_order_160_88 hF hX e_1471 kI kE0
theorem ti_X10_order_88 {g : GP} {X : MX} {mcR msR : Nat} (hF : gF g = true) (hX : Cx g RX10 cX10_order 4 mcR msR (some .long) [] X) {Q : State → Prop} {y : Int32} {hz : AH} (kE0 : ∀ (y_2 : Value) (y_3 : Value) (y_4 : Value) (y_5 : Value) (y_6 : Value) (y_7 : Value), AR g X 0 0 Q hz 166 [.ref 240, .int y, y_2, y_3, y_4, y_5, y_6, y_7] []) (n : Nat) : ∀ (s : (Int32 × Int32)) (d3 : Value) (d4 : Value) (d5 : Value) (d6 : Value) (d7 : Value) (h : AH), lpH (l_X10_order_88) n s h = some (y, hz) → AR g X 0 0 Q h 88 [.ref 240, .int s.1, .int s.2, d3, d4, d5, d6, d7] [] := by
  induction n with
  | zero => intro s d3 d4 d5 d6 d7 h e; cases e
  | succ n ih =>
    intro s d3 d4 d5 d6 d7 h e
    obtain ⟨x, h1, e1, e2⟩ := lpH_succ e
    rcases e2 with ⟨s2, rfl, e3⟩ | ⟨rfl, rfl⟩
    · exact tb_X10_order_88 hF hX e1 (fun s3 x0 x1 x2 x3 x4 hs => by cases hs; exact ih _ _ _ _ _ _ _ e3) (fun yy x0 x1 x2 x3 x4 x5 hy => by cases hy)
    · exact tb_X10_order_88 hF hX e1 (fun s3 x0 x1 x2 x3 x4 hs => by cases hs) (fun yy x0 x1 x2 x3 x4 x5 hy => by cases hy; exact kE0 x0 x1 x2 x3 x4 x5)
theorem t_X10_order_88 {g : GP} {X : MX} {mcR msR : Nat} (hF : gF g = true) (hX : Cx g RX10 cX10_order 4 mcR msR (some .long) [] X) {Q : State → Prop} {s : (Int32 × Int32)} {d3 : Value} {d4 : Value} {d5 : Value} {d6 : Value} {d7 : Value} {h hz : AH} {n : Nat} {y : Int32} (e : lpH (l_X10_order_88) n s h = some (y, hz)) (kE0 : ∀ (y_2 : Value) (y_3 : Value) (y_4 : Value) (y_5 : Value) (y_6 : Value) (y_7 : Value), AR g X 0 0 Q hz 166 [.ref 240, .int y, y_2, y_3, y_4, y_5, y_6, y_7] []) : AR g X 0 0 Q h 88 [.ref 240, .int s.1, .int s.2, d3, d4, d5, d6, d7] [] := ti_X10_order_88 hF hX kE0 n _ _ _ _ _ _ _ e
def j_X10_order_224_173 (p1 : Int32) (v2 : Int64) (h : AH) : Option (((Int64 × Int32) ⊕ Int64) × AH) := bd (s_X10_turns p1 h) fun q19 => some (.inl (v2, q19.1), q19.2)
theorem tj_X10_order_224_173 {g : GP} {X : MX} {mcR msR : Nat} (hF : gF g = true) (hX : Cx g RX10 cX10_order 4 mcR msR (some .long) [] X) {Q : State → Prop} {p1 : Int32} {v2 : Int64} {d4 : Value} {d5 : Value} {d6 : Value} {d7 : Value} {h hz : AH} {z : ((Int64 × Int32) ⊕ Int64)} (e : j_X10_order_224_173 p1 v2 h = some (z, hz)) (kI : ∀ (s2 : (Int64 × Int32)) (xd5 : Value) (xd6 : Value) (xd7 : Value), z = .inl s2 → AR g X 0 0 Q hz 173 [.ref 240, .int p1, .long s2.1, jk, .int s2.2, xd5, xd6, xd7] []) (kE0 : ∀ (yy : Int64) (y4 : Value) (y5 : Value) (y6 : Value) (y7 : Value), z = .inr yy → AR g X 0 0 Q hz 234 [.ref 240, .int p1, .long yy, jk, y4, y5, y6, y7] []) : AR g X 0 0 Q h 224 [.ref 240, .int p1, .long v2, jk, d4, d5, d6, d7] [] := by
  unfold j_X10_order_224_173 at e
  refine aw_aload_n (i := 0) hX rfl rfl d_X10_order_224 ?_
  refine aw_iload_n (i := 1) hX rfl rfl d_X10_order_225 ?_
  obtain ⟨q19, f_1473, e_1473⟩ := bd_some e
  clear e
  refine aw_callV (b := 240) (av := [.int p1]) (avr := [.int p1]) hX (k_X10_turns (cx_g hX) hF f_1473) mi_X10_turns rfl rfl w_883 w_884 w_885 (by decide) rfl (LAY_lt rfl (by decide)) rfl rfl (Nat.le_of_ble_eq_true rfl) (Nat.zero_le _) (Nat.zero_le _) d_X10_order_226 ?_
  refine aw_istore (i := 4) (lv2 := [.ref 240, .int p1, .long v2, jk, .int q19.1, d5, d6, d7]) hX rfl rfl d_X10_order_229 ?_
  refine aw_goto (t := 173) hX (by decide) d_X10_order_231 ?_
  cases e_1473
  exact kI (v2, q19.1) _ _ _ rfl
def l_X10_order_198 (p1 : Int32) (p2 : Int64) (s : Int32) (h : AH) : Option ((Int32 ⊕ Unit) × AH) := if p1 ≤ s then some (.inr (), h) else bd (ldI h 266 s) fun x20 => bd (stI h 265 s x20) fun m21 => some (.inl (s + 1), m21)
theorem tb_X10_order_198 {g : GP} {X : MX} {mcR msR : Nat} (hF : gF g = true) (hX : Cx g RX10 cX10_order 4 mcR msR (some .long) [] X) {Q : State → Prop} {p1 : Int32} {p2 : Int64} {s : Int32} {d4 : Value} {d5 : Value} {d6 : Value} {h hz : AH} {z : (Int32 ⊕ Unit)} (e : l_X10_order_198 p1 p2 s h = some (z, hz)) (kI : ∀ (s2 : Int32) (xd4 : Value) (xd5 : Value) (xd6 : Value), z = .inl s2 → AR g X 0 0 Q hz 198 [.ref 240, .int p1, .long p2, jk, xd4, xd5, xd6, .int s2] []) (kE0 : ∀ (yy : Unit) (y4 : Value) (y5 : Value) (y6 : Value) (y7 : Value), z = .inr yy → AR g X 0 0 Q hz 224 [.ref 240, .int p1, .long p2, jk, y4, y5, y6, y7] []) : AR g X 0 0 Q h 198 [.ref 240, .int p1, .long p2, jk, d4, d5, d6, .int s] [] := by
  unfold l_X10_order_198 at e
  refine aw_iload (i := 7) hX rfl d_X10_order_198 ?_
  refine aw_iload_n (i := 1) hX rfl rfl d_X10_order_200 ?_
  refine aw_icmp_ge (t := 224) hX (by decide) d_X10_order_201 (fun c => ?_) (fun c => ?_)
  · rw [if_pos c] at e
    cases e
    exact kE0 () _ _ _ _ rfl
  · rw [if_neg c] at e
    refine aw_aload_n (i := 0) hX rfl rfl d_X10_order_204 ?_
    refine ar_getF hX hF fg_RX10_97 rfl d_X10_order_205 ?_
    show AR g X 0 0 _ _ 208 _ [.ref 265]
    refine aw_iload (i := 7) hX rfl d_X10_order_208 ?_
    refine aw_aload_n (i := 0) hX rfl rfl d_X10_order_210 ?_
    refine ar_getF hX hF fg_RX10_100 rfl d_X10_order_211 ?_
    show AR g X 0 0 _ _ 214 _ [.ref 266, .int s, .ref 265]
    refine aw_iload (i := 7) hX rfl d_X10_order_214 ?_
    obtain ⟨x20, f_1474, e_1474⟩ := bd_some e
    clear e
    refine ar_iaload hX f_1474 d_X10_order_216 ?_
    obtain ⟨m21, f_1475, e_1475⟩ := bd_some e_1474
    clear e_1474
    refine ar_iastore hX f_1475 d_X10_order_217 ?_
    refine aw_iinc (i := 7) (lv2 := [.ref 240, .int p1, .long p2, jk, d4, d5, _, .int (s + 1)]) hX rfl rfl rfl rfl d_X10_order_218 ?_
    refine aw_goto (t := 198) hX (by decide) d_X10_order_221 ?_
    cases e_1475
    exact kI (s + 1) _ _ _ rfl
theorem ti_X10_order_198 {g : GP} {X : MX} {mcR msR : Nat} (hF : gF g = true) (hX : Cx g RX10 cX10_order 4 mcR msR (some .long) [] X) {Q : State → Prop} {p1 : Int32} {p2 : Int64} {y : Unit} {hz : AH} (kE0 : ∀ (y_4 : Value) (y_5 : Value) (y_6 : Value) (y_7 : Value), AR g X 0 0 Q hz 224 [.ref 240, .int p1, .long p2, jk, y_4, y_5, y_6, y_7] []) (n : Nat) : ∀ (s : Int32) (d4 : Value) (d5 : Value) (d6 : Value) (h : AH), lpH (l_X10_order_198 p1 p2) n s h = some (y, hz) → AR g X 0 0 Q h 198 [.ref 240, .int p1, .long p2, jk, d4, d5, d6, .int s] [] := by
  induction n with
  | zero => intro s d4 d5 d6 h e; cases e
  | succ n ih =>
    intro s d4 d5 d6 h e
    obtain ⟨x, h1, e1, e2⟩ := lpH_succ e
    rcases e2 with ⟨s2, rfl, e3⟩ | ⟨rfl, rfl⟩
    · exact tb_X10_order_198 hF hX e1 (fun s3 x0 x1 x2 hs => by cases hs; exact ih _ _ _ _ _ e3) (fun yy x0 x1 x2 x3 hy => by cases hy)
    · exact tb_X10_order_198 hF hX e1 (fun s3 x0 x1 x2 hs => by cases hs) (fun yy x0 x1 x2 x3 hy => by cases hy; exact kE0 x0 x1 x2 x3)
theorem t_X10_order_198 {g : GP} {X : MX} {mcR msR : Nat} (hF : gF g = true) (hX : Cx g RX10 cX10_order 4 mcR msR (some .long) [] X) {Q : State → Prop} {p1 : Int32} {p2 : Int64} {s : Int32} {d4 : Value} {d5 : Value} {d6 : Value} {h hz : AH} {n : Nat} {y : Unit} (e : lpH (l_X10_order_198 p1 p2) n s h = some (y, hz)) (kE0 : ∀ (y_4 : Value) (y_5 : Value) (y_6 : Value) (y_7 : Value), AR g X 0 0 Q hz 224 [.ref 240, .int p1, .long p2, jk, y_4, y_5, y_6, y_7] []) : AR g X 0 0 Q h 198 [.ref 240, .int p1, .long p2, jk, d4, d5, d6, .int s] [] := ti_X10_order_198 hF hX kE0 n _ _ _ _ _ e
def l_X10_order_173 (p1 : Int32) (s : (Int64 × Int32)) (h : AH) : Option (((Int64 × Int32) ⊕ Int64) × AH) := if s.2 = 0 then some (.inr s.1, h) else bd (s_X10_gained p1 h) fun q18 => if q18.1 ≤ s.1 then j_X10_order_224_173 p1 s.1 q18.2 else bd (lpH (l_X10_order_198 p1 q18.1) FU 0 q18.2) fun y22 => j_X10_order_224_173 p1 q18.1 y22.2
theorem tb_X10_order_173 {g : GP} {X : MX} {mcR msR : Nat} (hF : gF g = true) (hX : Cx g RX10 cX10_order 4 mcR msR (some .long) [] X) {Q : State → Prop} {p1 : Int32} {s : (Int64 × Int32)} {d5 : Value} {d6 : Value} {d7 : Value} {h hz : AH} {z : ((Int64 × Int32) ⊕ Int64)} (e : l_X10_order_173 p1 s h = some (z, hz)) (kI : ∀ (s2 : (Int64 × Int32)) (xd5 : Value) (xd6 : Value) (xd7 : Value), z = .inl s2 → AR g X 0 0 Q hz 173 [.ref 240, .int p1, .long s2.1, jk, .int s2.2, xd5, xd6, xd7] []) (kE0 : ∀ (yy : Int64) (y4 : Value) (y5 : Value) (y6 : Value) (y7 : Value), z = .inr yy → AR g X 0 0 Q hz 234 [.ref 240, .int p1, .long yy, jk, y4, y5, y6, y7] []) : AR g X 0 0 Q h 173 [.ref 240, .int p1, .long s.1, jk, .int s.2, d5, d6, d7] [] := by
  unfold l_X10_order_173 at e
  refine aw_iload (i := 4) hX rfl d_X10_order_173 ?_
  refine aw_if_eq (t := 234) hX (by decide) d_X10_order_175 (fun c => ?_) (fun c => ?_)
  · rw [if_pos c] at e
    cases e
    exact kE0 s.1 _ _ _ _ rfl
  · rw [if_neg c] at e
    refine aw_aload_n (i := 0) hX rfl rfl d_X10_order_178 ?_
    refine aw_iload_n (i := 1) hX rfl rfl d_X10_order_179 ?_
    obtain ⟨q18, f_1476, e_1476⟩ := bd_some e
    clear e
    refine aw_callV (b := 240) (av := [.int p1]) (avr := [.int p1]) hX (k_X10_gained (cx_g hX) hF f_1476) mi_X10_gained rfl rfl w_879 w_880 w_881 (by decide) rfl (LAY_lt rfl (by decide)) rfl rfl (Nat.le_of_ble_eq_true rfl) (Nat.zero_le _) (Nat.zero_le _) d_X10_order_180 ?_
    refine aw_lstore (i := 5) (lv2 := [.ref 240, .int p1, .long s.1, jk, .int s.2, .long q18.1, jk, d7]) hX rfl rfl d_X10_order_183 ?_
    refine aw_lload (i := 5) hX rfl d_X10_order_185 ?_
    refine aw_lload_n (i := 2) hX rfl rfl d_X10_order_187 ?_
    refine aw_lcmp hX d_X10_order_188 ?_
    refine aw_if_le (t := 224) hX (by decide) d_X10_order_189 (fun c => ?_) (fun c => ?_)
    · replace c := lc_le.mp c
      rw [if_pos c] at e_1476
      exact tj_X10_order_224_173 hF hX e_1476 kI kE0
    · replace c := fun q => c (lc_le.mpr q)
      rw [if_neg c] at e_1476
      refine aw_lload (i := 5) hX rfl d_X10_order_192 ?_
      refine aw_lstore_n (i := 2) (lv2 := [.ref 240, .int p1, .long q18.1, jk, .int s.2, .long q18.1, jk, d7]) hX rfl rfl rfl d_X10_order_194 ?_
      refine aw_iconst (v := 0) hX (by decide) d_X10_order_195 ?_
      refine aw_istore (i := 7) (lv2 := [.ref 240, .int p1, .long q18.1, jk, .int s.2, .long q18.1, jk, .int 0]) hX rfl rfl d_X10_order_196 ?_
      obtain ⟨y22, f_1477, e_1477⟩ := bd_some e_1476
      clear e_1476
      refine t_X10_order_198 hF hX f_1477 (fun d23_4 d23_5 d23_6 d23_7 => ?_)
      exact tj_X10_order_224_173 hF hX e_1477 kI kE0
theorem ti_X10_order_173 {g : GP} {X : MX} {mcR msR : Nat} (hF : gF g = true) (hX : Cx g RX10 cX10_order 4 mcR msR (some .long) [] X) {Q : State → Prop} {p1 : Int32} {y : Int64} {hz : AH} (kE0 : ∀ (y_4 : Value) (y_5 : Value) (y_6 : Value) (y_7 : Value), AR g X 0 0 Q hz 234 [.ref 240, .int p1, .long y, jk, y_4, y_5, y_6, y_7] []) (n : Nat) : ∀ (s : (Int64 × Int32)) (d5 : Value) (d6 : Value) (d7 : Value) (h : AH), lpH (l_X10_order_173 p1) n s h = some (y, hz) → AR g X 0 0 Q h 173 [.ref 240, .int p1, .long s.1, jk, .int s.2, d5, d6, d7] [] := by
  induction n with
  | zero => intro s d5 d6 d7 h e; cases e
  | succ n ih =>
    intro s d5 d6 d7 h e
    obtain ⟨x, h1, e1, e2⟩ := lpH_succ e
    rcases e2 with ⟨s2, rfl, e3⟩ | ⟨rfl, rfl⟩
    · exact tb_X10_order_173 hF hX e1 (fun s3 x0 x1 x2 hs => by cases hs; exact ih _ _ _ _ _ e3) (fun yy x0 x1 x2 x3 hy => by cases hy)
    · exact tb_X10_order_173 hF hX e1 (fun s3 x0 x1 x2 hs => by cases hs) (fun yy x0 x1 x2 x3 hy => by cases hy; exact kE0 x0 x1 x2 x3)
theorem t_X10_order_173 {g : GP} {X : MX} {mcR msR : Nat} (hF : gF g = true) (hX : Cx g RX10 cX10_order 4 mcR msR (some .long) [] X) {Q : State → Prop} {p1 : Int32} {s : (Int64 × Int32)} {d5 : Value} {d6 : Value} {d7 : Value} {h hz : AH} {n : Nat} {y : Int64} (e : lpH (l_X10_order_173 p1) n s h = some (y, hz)) (kE0 : ∀ (y_4 : Value) (y_5 : Value) (y_6 : Value) (y_7 : Value), AR g X 0 0 Q hz 234 [.ref 240, .int p1, .long y, jk, y_4, y_5, y_6, y_7] []) : AR g X 0 0 Q h 173 [.ref 240, .int p1, .long s.1, jk, .int s.2, d5, d6, d7] [] := ti_X10_order_173 hF hX kE0 n _ _ _ _ _ e
def s_X10_order (h : AH) : Option (Int64 × AH) := bd (lpH (l_X10_order_7) FU 0 (sI h 240 0 0)) fun y9 => bd (lpH (l_X10_order_88) FU (0, 0) y9.2) fun y16 => bd (lpH (l_X10_order_173 y16.1) FU ((-1), 1) y16.2) fun y24 => some (y24.1, sI y24.2 240 53 y16.1)
theorem t_X10_order {g : GP} {X : MX} {mcR msR : Nat} (hF : gF g = true) (hX : Cx g RX10 cX10_order 4 mcR msR (some .long) [] X) {h hz : AH} {z : Int64} (e : s_X10_order h = some (z, hz)) : AR g X 0 0 (QQ g X NT false hz (.inl (some (.long z))) 0 0) h 0 [.ref 240, jk, jk, jk, jk, jk, jk, jk] [] := by
  unfold s_X10_order at e
  refine aw_aload_n (i := 0) hX rfl rfl d_X10_order_0 ?_
  refine aw_iconst (v := 0) hX (by decide) d_X10_order_1 ?_
  refine ar_putI hX fp_RX10_133 rfl d_X10_order_2 ?_
  refine aw_iconst (v := 0) hX (by decide) d_X10_order_5 ?_
  refine aw_istore_n (i := 1) (lv2 := [.ref 240, .int 0, jk, jk, jk, jk, jk, jk]) hX rfl rfl rfl d_X10_order_6 ?_
  obtain ⟨y9, f_1478, e_1478⟩ := bd_some e
  clear e
  refine t_X10_order_7 hF hX f_1478 (fun d10_1 d10_2 d10_3 d10_4 d10_5 d10_6 d10_7 => ?_)
  refine aw_iconst (v := 0) hX (by decide) d_X10_order_84 ?_
  refine aw_istore_n (i := 1) (lv2 := [.ref 240, .int 0, d10_2, d10_3, d10_4, d10_5, d10_6, d10_7]) hX rfl rfl rfl d_X10_order_85 ?_
  refine aw_iconst (v := 0) hX (by decide) d_X10_order_86 ?_
  refine aw_istore_n (i := 2) (lv2 := [.ref 240, .int 0, .int 0, d10_3, d10_4, d10_5, d10_6, d10_7]) hX rfl rfl rfl d_X10_order_87 ?_
  obtain ⟨y16, f_1479, e_1479⟩ := bd_some e_1478
  clear e_1478
  refine t_X10_order_88 hF hX f_1479 (fun d17_2 d17_3 d17_4 d17_5 d17_6 d17_7 => ?_)
  refine aw_ldc2 hX w_834 d_X10_order_166 ?_
  refine aw_lstore_n (i := 2) (lv2 := [.ref 240, .int y16.1, .long (-1), jk, d17_4, d17_5, d17_6, d17_7]) hX rfl rfl rfl d_X10_order_169 ?_
  refine aw_iconst (v := 1) hX (by decide) d_X10_order_170 ?_
  refine aw_istore (i := 4) (lv2 := [.ref 240, .int y16.1, .long (-1), jk, .int 1, d17_5, d17_6, d17_7]) hX rfl rfl d_X10_order_171 ?_
  obtain ⟨y24, f_1480, e_1480⟩ := bd_some e_1479
  clear e_1479
  refine t_X10_order_173 hF hX f_1480 (fun d25_4 d25_5 d25_6 d25_7 => ?_)
  refine aw_aload_n (i := 0) hX rfl rfl d_X10_order_234 ?_
  refine aw_iload_n (i := 1) hX rfl rfl d_X10_order_235 ?_
  refine ar_putI hX fp_RX10_94 rfl d_X10_order_236 ?_
  refine aw_lload_n (i := 2) hX rfl rfl d_X10_order_239 ?_
  cases e_1480
  exact aw_lreturn hX (Nat.zero_le _) (Nat.zero_le _) d_X10_order_240
theorem k_X10_order {g : GP} (hg : g.1.stackTraces = false) (hF : gF g = true) {h hz : AH} {z : Int64} (e : s_X10_order h = some (z, hz)) : Ctr g yX10_order (wsY yX10_order cX10_order 8 (some .long)) 4 0 0 [.ref 240] NT false h (some (.long z)) NT false hz := ctr_of (lv0 := [.ref 240, jk, jk, jk, jk, jk, jk, jk]) rfl rfl (by decide) hg trivial (fun X hX hn => t_X10_order hF hX e)
theorem d_X10_ordered_0 : decode cX10_ordered 0 = .ok (.aload_n 0, 1) := by decide +kernel
theorem d_X10_ordered_1 : decode cX10_ordered 1 = .ok (.iconst 0, 1) := by decide +kernel
theorem d_X10_ordered_2 : decode cX10_ordered 2 = .ok (.putfield 133, 3) := by decide +kernel
theorem d_X10_ordered_5 : decode cX10_ordered 5 = .ok (.aload_n 0, 1) := by decide +kernel
theorem d_X10_ordered_6 : decode cX10_ordered 6 = .ok (.iload_n 1, 1) := by decide +kernel
theorem d_X10_ordered_7 : decode cX10_ordered 7 = .ok (.ifCond .lt 15, 3) := by decide +kernel
theorem d_X10_ordered_10 : decode cX10_ordered 10 = .ok (.iload_n 1, 1) := by decide +kernel
theorem d_X10_ordered_11 : decode cX10_ordered 11 = .ok (.aload_n 0, 1) := by decide +kernel
theorem d_X10_ordered_12 : decode cX10_ordered 12 = .ok (.getfield 94, 3) := by decide +kernel
theorem d_X10_ordered_15 : decode cX10_ordered 15 = .ok (.if_icmp .ge 7, 3) := by decide +kernel
theorem d_X10_ordered_18 : decode cX10_ordered 18 = .ok (.iconst 1, 1) := by decide +kernel
theorem d_X10_ordered_19 : decode cX10_ordered 19 = .ok (.goto 4, 3) := by decide +kernel
theorem d_X10_ordered_22 : decode cX10_ordered 22 = .ok (.iconst 0, 1) := by decide +kernel
theorem d_X10_ordered_23 : decode cX10_ordered 23 = .ok (.iconst 1, 1) := by decide +kernel
theorem d_X10_ordered_24 : decode cX10_ordered 24 = .ok (.invokevirtual 253, 3) := by decide +kernel
theorem d_X10_ordered_27 : decode cX10_ordered 27 = .ok (.ifCond .eq 12, 3) := by decide +kernel
theorem d_X10_ordered_30 : decode cX10_ordered 30 = .ok (.aload_n 0, 1) := by decide +kernel
theorem d_X10_ordered_31 : decode cX10_ordered 31 = .ok (.getfield 97, 3) := by decide +kernel
theorem d_X10_ordered_34 : decode cX10_ordered 34 = .ok (.iload_n 1, 1) := by decide +kernel
theorem d_X10_ordered_35 : decode cX10_ordered 35 = .ok (.iaload, 1) := by decide +kernel
theorem d_X10_ordered_36 : decode cX10_ordered 36 = .ok (.goto 4, 3) := by decide +kernel
theorem d_X10_ordered_39 : decode cX10_ordered 39 = .ok (.iconst 0, 1) := by decide +kernel
theorem d_X10_ordered_40 : decode cX10_ordered 40 = .ok (.ireturn, 1) := by decide +kernel
def j_X10_ordered_23 (v1 : Int32) (k0 : Int32) (h : AH) : Option (Int32 × AH) := bd (s_X10_right k0 1 h) fun q1 => if q1.1 = 0 then some (0, q1.2) else bd (ldI q1.2 265 v1) fun x2 => some (x2, q1.2)
theorem tj_X10_ordered_23 {g : GP} {X : MX} {mcR msR : Nat} (hF : gF g = true) (hX : Cx g RX10 cX10_ordered 2 mcR msR (some .int) [] X) {v1 : Int32} {k0 : Int32} {h hz : AH} {z : Int32} (e : j_X10_ordered_23 v1 k0 h = some (z, hz)) : AR g X 0 0 (QQ g X NT false hz (.inl (some (.int z))) 0 0) h 23 [.ref 240, .int v1] [.int k0, .ref 240] := by
  unfold j_X10_ordered_23 at e
  refine aw_iconst (v := 1) hX (by decide) d_X10_ordered_23 ?_
  obtain ⟨q1, f_1481, e_1481⟩ := bd_some e
  clear e
  refine aw_callV (b := 240) (av := [.int k0, .int 1]) (avr := [.int 1, .int k0]) hX (k_X10_right (cx_g hX) hF f_1481) mi_X10_right rfl rfl w_772 w_773 w_774 (by decide) rfl (LAY_lt rfl (by decide)) rfl rfl (Nat.le_of_ble_eq_true rfl) (Nat.zero_le _) (Nat.zero_le _) d_X10_ordered_24 ?_
  refine aw_if_eq (t := 39) hX (by decide) d_X10_ordered_27 (fun c => ?_) (fun c => ?_)
  · rw [if_pos c] at e_1481
    refine aw_iconst (v := 0) hX (by decide) d_X10_ordered_39 ?_
    cases e_1481
    exact aw_ireturn hX (Nat.zero_le _) (Nat.zero_le _) d_X10_ordered_40
  · rw [if_neg c] at e_1481
    refine aw_aload_n (i := 0) hX rfl rfl d_X10_ordered_30 ?_
    refine ar_getF hX hF fg_RX10_97 rfl d_X10_ordered_31 ?_
    show AR g X 0 0 _ _ 34 _ [.ref 265]
    refine aw_iload_n (i := 1) hX rfl rfl d_X10_ordered_34 ?_
    obtain ⟨x2, f_1482, e_1482⟩ := bd_some e_1481
    clear e_1481
    refine ar_iaload hX f_1482 d_X10_ordered_35 ?_
    refine aw_goto (t := 40) hX (by decide) d_X10_ordered_36 ?_
    cases e_1482
    exact aw_ireturn hX (Nat.zero_le _) (Nat.zero_le _) d_X10_ordered_40
def j_X10_ordered_22 (v1 : Int32) (h : AH) : Option (Int32 × AH) := j_X10_ordered_23 v1 0 h
theorem tj_X10_ordered_22 {g : GP} {X : MX} {mcR msR : Nat} (hF : gF g = true) (hX : Cx g RX10 cX10_ordered 2 mcR msR (some .int) [] X) {v1 : Int32} {h hz : AH} {z : Int32} (e : j_X10_ordered_22 v1 h = some (z, hz)) : AR g X 0 0 (QQ g X NT false hz (.inl (some (.int z))) 0 0) h 22 [.ref 240, .int v1] [.ref 240] := by
  unfold j_X10_ordered_22 at e
  refine aw_iconst (v := 0) hX (by decide) d_X10_ordered_22 ?_
  exact tj_X10_ordered_23 hF hX e
def s_X10_ordered (a0 : Int32) (h : AH) : Option (Int32 × AH) := if a0 < 0 then j_X10_ordered_22 a0 (sI h 240 0 0) else if (gI (sI h 240 0 0) 240 53) ≤ a0 then j_X10_ordered_22 a0 (sI h 240 0 0) else j_X10_ordered_23 a0 1 (sI h 240 0 0)
theorem t_X10_ordered {g : GP} {X : MX} {mcR msR : Nat} (hF : gF g = true) (hX : Cx g RX10 cX10_ordered 2 mcR msR (some .int) [] X) {a0 : Int32} {h hz : AH} {z : Int32} (e : s_X10_ordered a0 h = some (z, hz)) : AR g X 0 0 (QQ g X NT false hz (.inl (some (.int z))) 0 0) h 0 [.ref 240, .int a0] [] := by
  unfold s_X10_ordered at e
  refine aw_aload_n (i := 0) hX rfl rfl d_X10_ordered_0 ?_
  refine aw_iconst (v := 0) hX (by decide) d_X10_ordered_1 ?_
  refine ar_putI hX fp_RX10_133 rfl d_X10_ordered_2 ?_
  refine aw_aload_n (i := 0) hX rfl rfl d_X10_ordered_5 ?_
  refine aw_iload_n (i := 1) hX rfl rfl d_X10_ordered_6 ?_
  refine aw_if_lt (t := 22) hX (by decide) d_X10_ordered_7 (fun c => ?_) (fun c => ?_)
  · rw [if_pos c] at e
    exact tj_X10_ordered_22 hF hX e
  · rw [if_neg c] at e
    refine aw_iload_n (i := 1) hX rfl rfl d_X10_ordered_10 ?_
    refine aw_aload_n (i := 0) hX rfl rfl d_X10_ordered_11 ?_
    refine ar_getI hX fg_RX10_94 rfl d_X10_ordered_12 ?_
    refine aw_icmp_ge (t := 22) hX (by decide) d_X10_ordered_15 (fun c => ?_) (fun c => ?_)
    · rw [if_pos c] at e
      exact tj_X10_ordered_22 hF hX e
    · rw [if_neg c] at e
      refine aw_iconst (v := 1) hX (by decide) d_X10_ordered_18 ?_
      refine aw_goto (t := 23) hX (by decide) d_X10_ordered_19 ?_
      exact tj_X10_ordered_23 hF hX e
theorem k_X10_ordered {g : GP} (hg : g.1.stackTraces = false) (hF : gF g = true) {a0 : Int32} {h hz : AH} {z : Int32} (e : s_X10_ordered a0 h = some (z, hz)) : Ctr g yX10_ordered (wsY yX10_ordered cX10_ordered 2 (some .int)) 2 0 0 [.ref 240, .int a0] NT false h (some (.int z)) NT false hz := ctr_of (lv0 := [.ref 240, .int a0]) rfl rfl (by decide) hg trivial (fun X hX hn => t_X10_ordered hF hX e)
theorem d_X10_owed_0 : decode cX10_owed 0 = .ok (.aload_n 0, 1) := by decide +kernel
theorem d_X10_owed_1 : decode cX10_owed 1 = .ok (.iconst 0, 1) := by decide +kernel
theorem d_X10_owed_2 : decode cX10_owed 2 = .ok (.putfield 133, 3) := by decide +kernel
theorem d_X10_owed_5 : decode cX10_owed 5 = .ok (.aload_n 0, 1) := by decide +kernel
theorem d_X10_owed_6 : decode cX10_owed 6 = .ok (.iload_n 1, 1) := by decide +kernel
theorem d_X10_owed_7 : decode cX10_owed 7 = .ok (.invokevirtual 305, 3) := by decide +kernel
theorem d_X10_owed_10 : decode cX10_owed 10 = .ok (.ifCond .eq 11, 3) := by decide +kernel
theorem d_X10_owed_13 : decode cX10_owed 13 = .ok (.aload_n 0, 1) := by decide +kernel
theorem d_X10_owed_14 : decode cX10_owed 14 = .ok (.iload_n 2, 1) := by decide +kernel
theorem d_X10_owed_15 : decode cX10_owed 15 = .ok (.invokevirtual 302, 3) := by decide +kernel
theorem d_X10_owed_18 : decode cX10_owed 18 = .ok (.ifCond .ne 5, 3) := by decide +kernel
theorem d_X10_owed_21 : decode cX10_owed 21 = .ok (.iconst 0, 1) := by decide +kernel
theorem d_X10_owed_22 : decode cX10_owed 22 = .ok (.ireturn, 1) := by decide +kernel
theorem d_X10_owed_23 : decode cX10_owed 23 = .ok (.aload_n 0, 1) := by decide +kernel
theorem d_X10_owed_24 : decode cX10_owed 24 = .ok (.iload_n 1, 1) := by decide +kernel
theorem d_X10_owed_25 : decode cX10_owed 25 = .ok (.invokevirtual 347, 3) := by decide +kernel
theorem d_X10_owed_28 : decode cX10_owed 28 = .ok (.istore_n 3, 1) := by decide +kernel
theorem d_X10_owed_29 : decode cX10_owed 29 = .ok (.iload_n 3, 1) := by decide +kernel
theorem d_X10_owed_30 : decode cX10_owed 30 = .ok (.ifCond .ne 5, 3) := by decide +kernel
theorem d_X10_owed_33 : decode cX10_owed 33 = .ok (.iconst 0, 1) := by decide +kernel
theorem d_X10_owed_34 : decode cX10_owed 34 = .ok (.ireturn, 1) := by decide +kernel
theorem d_X10_owed_35 : decode cX10_owed 35 = .ok (.iload_n 3, 1) := by decide +kernel
theorem d_X10_owed_36 : decode cX10_owed 36 = .ok (.iconst 2, 1) := by decide +kernel
theorem d_X10_owed_37 : decode cX10_owed 37 = .ok (.if_icmp .ne 105, 3) := by decide +kernel
theorem d_X10_owed_40 : decode cX10_owed 40 = .ok (.aload_n 0, 1) := by decide +kernel
theorem d_X10_owed_41 : decode cX10_owed 41 = .ok (.iload_n 1, 1) := by decide +kernel
theorem d_X10_owed_42 : decode cX10_owed 42 = .ok (.iload_n 3, 1) := by decide +kernel
theorem d_X10_owed_43 : decode cX10_owed 43 = .ok (.iconst 1, 1) := by decide +kernel
theorem d_X10_owed_44 : decode cX10_owed 44 = .ok (.invokevirtual 333, 3) := by decide +kernel
theorem d_X10_owed_47 : decode cX10_owed 47 = .ok (.aload_n 0, 1) := by decide +kernel
theorem d_X10_owed_48 : decode cX10_owed 48 = .ok (.iload_n 3, 1) := by decide +kernel
theorem d_X10_owed_49 : decode cX10_owed 49 = .ok (.invokevirtual 337, 3) := by decide +kernel
theorem d_X10_owed_52 : decode cX10_owed 52 = .ok (.iconst 0, 1) := by decide +kernel
theorem d_X10_owed_53 : decode cX10_owed 53 = .ok (.istore 4, 2) := by decide +kernel
theorem d_X10_owed_55 : decode cX10_owed 55 = .ok (.iload 4, 2) := by decide +kernel
theorem d_X10_owed_57 : decode cX10_owed 57 = .ok (.iload_n 2, 1) := by decide +kernel
theorem d_X10_owed_58 : decode cX10_owed 58 = .ok (.if_icmp .gt 19, 3) := by decide +kernel
theorem d_X10_owed_61 : decode cX10_owed 61 = .ok (.aload_n 0, 1) := by decide +kernel
theorem d_X10_owed_62 : decode cX10_owed 62 = .ok (.iload_n 1, 1) := by decide +kernel
theorem d_X10_owed_63 : decode cX10_owed 63 = .ok (.iload_n 3, 1) := by decide +kernel
theorem d_X10_owed_64 : decode cX10_owed 64 = .ok (.iload 4, 2) := by decide +kernel
theorem d_X10_owed_66 : decode cX10_owed 66 = .ok (.iconst 0, 1) := by decide +kernel
theorem d_X10_owed_67 : decode cX10_owed 67 = .ok (.iconst 1, 1) := by decide +kernel
theorem d_X10_owed_68 : decode cX10_owed 68 = .ok (.invokevirtual 340, 3) := by decide +kernel
theorem d_X10_owed_71 : decode cX10_owed 71 = .ok (.iinc 4 1, 3) := by decide +kernel
theorem d_X10_owed_74 : decode cX10_owed 74 = .ok (.goto (-19), 3) := by decide +kernel
theorem d_X10_owed_77 : decode cX10_owed 77 = .ok (.lconst 0, 1) := by decide +kernel
theorem d_X10_owed_78 : decode cX10_owed 78 = .ok (.lstore 4, 2) := by decide +kernel
theorem d_X10_owed_80 : decode cX10_owed 80 = .ok (.iconst 0, 1) := by decide +kernel
theorem d_X10_owed_81 : decode cX10_owed 81 = .ok (.istore 6, 2) := by decide +kernel
theorem d_X10_owed_83 : decode cX10_owed 83 = .ok (.iload 6, 2) := by decide +kernel
theorem d_X10_owed_85 : decode cX10_owed 85 = .ok (.sipush 429, 3) := by decide +kernel
theorem d_X10_owed_88 : decode cX10_owed 88 = .ok (.if_icmp .ge 28, 3) := by decide +kernel
theorem d_X10_owed_91 : decode cX10_owed 91 = .ok (.lload 4, 2) := by decide +kernel
theorem d_X10_owed_93 : decode cX10_owed 93 = .ok (.iload 6, 2) := by decide +kernel
theorem d_X10_owed_95 : decode cX10_owed 95 = .ok (.bipush 33, 2) := by decide +kernel
theorem d_X10_owed_97 : decode cX10_owed 97 = .ok (.idiv, 1) := by decide +kernel
theorem d_X10_owed_98 : decode cX10_owed 98 = .ok (.i2l, 1) := by decide +kernel
theorem d_X10_owed_99 : decode cX10_owed 99 = .ok (.aload_n 0, 1) := by decide +kernel
theorem d_X10_owed_100 : decode cX10_owed 100 = .ok (.getfield 54, 3) := by decide +kernel
theorem d_X10_owed_103 : decode cX10_owed 103 = .ok (.iload 6, 2) := by decide +kernel
theorem d_X10_owed_105 : decode cX10_owed 105 = .ok (.laload, 1) := by decide +kernel
theorem d_X10_owed_106 : decode cX10_owed 106 = .ok (.lmul, 1) := by decide +kernel
theorem d_X10_owed_107 : decode cX10_owed 107 = .ok (.ladd, 1) := by decide +kernel
theorem d_X10_owed_108 : decode cX10_owed 108 = .ok (.lstore 4, 2) := by decide +kernel
theorem d_X10_owed_110 : decode cX10_owed 110 = .ok (.iinc 6 1, 3) := by decide +kernel
theorem d_X10_owed_113 : decode cX10_owed 113 = .ok (.goto (-30), 3) := by decide +kernel
theorem d_X10_owed_116 : decode cX10_owed 116 = .ok (.aload_n 0, 1) := by decide +kernel
theorem d_X10_owed_117 : decode cX10_owed 117 = .ok (.getfield 23, 3) := by decide +kernel
theorem d_X10_owed_120 : decode cX10_owed 120 = .ok (.iload_n 3, 1) := by decide +kernel
theorem d_X10_owed_121 : decode cX10_owed 121 = .ok (.iaload, 1) := by decide +kernel
theorem d_X10_owed_122 : decode cX10_owed 122 = .ok (.i2l, 1) := by decide +kernel
theorem d_X10_owed_123 : decode cX10_owed 123 = .ok (.lload 4, 2) := by decide +kernel
theorem d_X10_owed_125 : decode cX10_owed 125 = .ok (.ldc2_w 310, 3) := by decide +kernel
theorem d_X10_owed_128 : decode cX10_owed 128 = .ok (.ldiv, 1) := by decide +kernel
theorem d_X10_owed_129 : decode cX10_owed 129 = .ok (.lmul, 1) := by decide +kernel
theorem d_X10_owed_130 : decode cX10_owed 130 = .ok (.ldc2_w 310, 3) := by decide +kernel
theorem d_X10_owed_133 : decode cX10_owed 133 = .ok (.aload_n 0, 1) := by decide +kernel
theorem d_X10_owed_134 : decode cX10_owed 134 = .ok (.getfield 271, 3) := by decide +kernel
theorem d_X10_owed_137 : decode cX10_owed 137 = .ok (.i2l, 1) := by decide +kernel
theorem d_X10_owed_138 : decode cX10_owed 138 = .ok (.lmul, 1) := by decide +kernel
theorem d_X10_owed_139 : decode cX10_owed 139 = .ok (.ldiv, 1) := by decide +kernel
theorem d_X10_owed_140 : decode cX10_owed 140 = .ok (.l2i, 1) := by decide +kernel
theorem d_X10_owed_141 : decode cX10_owed 141 = .ok (.ireturn, 1) := by decide +kernel
theorem d_X10_owed_142 : decode cX10_owed 142 = .ok (.iconst 0, 1) := by decide +kernel
theorem d_X10_owed_143 : decode cX10_owed 143 = .ok (.istore 4, 2) := by decide +kernel
theorem d_X10_owed_145 : decode cX10_owed 145 = .ok (.iconst 0, 1) := by decide +kernel
theorem d_X10_owed_146 : decode cX10_owed 146 = .ok (.istore 5, 2) := by decide +kernel
theorem d_X10_owed_148 : decode cX10_owed 148 = .ok (.iconst 0, 1) := by decide +kernel
theorem d_X10_owed_149 : decode cX10_owed 149 = .ok (.istore 6, 2) := by decide +kernel
theorem d_X10_owed_151 : decode cX10_owed 151 = .ok (.iload 6, 2) := by decide +kernel
theorem d_X10_owed_153 : decode cX10_owed 153 = .ok (.aload_n 0, 1) := by decide +kernel
theorem d_X10_owed_154 : decode cX10_owed 154 = .ok (.getfield 262, 3) := by decide +kernel
theorem d_X10_owed_157 : decode cX10_owed 157 = .ok (.if_icmp .ge 50, 3) := by decide +kernel
theorem d_X10_owed_160 : decode cX10_owed 160 = .ok (.iload_n 3, 1) := by decide +kernel
theorem d_X10_owed_161 : decode cX10_owed 161 = .ok (.iconst 3, 1) := by decide +kernel
theorem d_X10_owed_162 : decode cX10_owed 162 = .ok (.if_icmp .ne 20, 3) := by decide +kernel
theorem d_X10_owed_165 : decode cX10_owed 165 = .ok (.aload_n 0, 1) := by decide +kernel
theorem d_X10_owed_166 : decode cX10_owed 166 = .ok (.getfield 13, 3) := by decide +kernel
theorem d_X10_owed_169 : decode cX10_owed 169 = .ok (.iconst 4, 1) := by decide +kernel
theorem d_X10_owed_170 : decode cX10_owed 170 = .ok (.iload 6, 2) := by decide +kernel
theorem d_X10_owed_172 : decode cX10_owed 172 = .ok (.imul, 1) := by decide +kernel
theorem d_X10_owed_173 : decode cX10_owed 173 = .ok (.iconst 3, 1) := by decide +kernel
theorem d_X10_owed_174 : decode cX10_owed 174 = .ok (.iadd, 1) := by decide +kernel
theorem d_X10_owed_175 : decode cX10_owed 175 = .ok (.iaload, 1) := by decide +kernel
theorem d_X10_owed_176 : decode cX10_owed 176 = .ok (.ifCond .ne 6, 3) := by decide +kernel
theorem d_X10_owed_179 : decode cX10_owed 179 = .ok (.goto 22, 3) := by decide +kernel
theorem d_X10_owed_182 : decode cX10_owed 182 = .ok (.iinc 4 1, 3) := by decide +kernel
theorem d_X10_owed_185 : decode cX10_owed 185 = .ok (.iload 5, 2) := by decide +kernel
theorem d_X10_owed_187 : decode cX10_owed 187 = .ok (.iload 6, 2) := by decide +kernel
theorem d_X10_owed_189 : decode cX10_owed 189 = .ok (.iload_n 2, 1) := by decide +kernel
theorem d_X10_owed_190 : decode cX10_owed 190 = .ok (.if_icmp .le 7, 3) := by decide +kernel
theorem d_X10_owed_193 : decode cX10_owed 193 = .ok (.iconst 1, 1) := by decide +kernel
theorem d_X10_owed_194 : decode cX10_owed 194 = .ok (.goto 4, 3) := by decide +kernel
theorem d_X10_owed_197 : decode cX10_owed 197 = .ok (.iconst 0, 1) := by decide +kernel
theorem d_X10_owed_198 : decode cX10_owed 198 = .ok (.iadd, 1) := by decide +kernel
theorem d_X10_owed_199 : decode cX10_owed 199 = .ok (.istore 5, 2) := by decide +kernel
theorem d_X10_owed_201 : decode cX10_owed 201 = .ok (.iinc 6 1, 3) := by decide +kernel
theorem d_X10_owed_204 : decode cX10_owed 204 = .ok (.goto (-53), 3) := by decide +kernel
theorem d_X10_owed_207 : decode cX10_owed 207 = .ok (.ldc2_w 310, 3) := by decide +kernel
theorem d_X10_owed_210 : decode cX10_owed 210 = .ok (.aload_n 0, 1) := by decide +kernel
theorem d_X10_owed_211 : decode cX10_owed 211 = .ok (.getfield 23, 3) := by decide +kernel
theorem d_X10_owed_214 : decode cX10_owed 214 = .ok (.iload_n 3, 1) := by decide +kernel
theorem d_X10_owed_215 : decode cX10_owed 215 = .ok (.iaload, 1) := by decide +kernel
theorem d_X10_owed_216 : decode cX10_owed 216 = .ok (.i2l, 1) := by decide +kernel
theorem d_X10_owed_217 : decode cX10_owed 217 = .ok (.lmul, 1) := by decide +kernel
theorem d_X10_owed_218 : decode cX10_owed 218 = .ok (.iload 5, 2) := by decide +kernel
theorem d_X10_owed_220 : decode cX10_owed 220 = .ok (.i2l, 1) := by decide +kernel
theorem d_X10_owed_221 : decode cX10_owed 221 = .ok (.lmul, 1) := by decide +kernel
theorem d_X10_owed_222 : decode cX10_owed 222 = .ok (.iload 4, 2) := by decide +kernel
theorem d_X10_owed_224 : decode cX10_owed 224 = .ok (.i2l, 1) := by decide +kernel
theorem d_X10_owed_225 : decode cX10_owed 225 = .ok (.ldiv, 1) := by decide +kernel
theorem d_X10_owed_226 : decode cX10_owed 226 = .ok (.l2i, 1) := by decide +kernel
theorem d_X10_owed_227 : decode cX10_owed 227 = .ok (.ireturn, 1) := by decide +kernel
def j_X10_owed_201_151 (p2 : Int32) (p3 : Int32) (v4 : Int32) (v5 : Int32) (v6 : Int32) (h : AH) : Option (((Int32 × Int32 × Int32) ⊕ (Int32 × Int32)) × AH) := some (.inl (v4, v5, v6 + 1), h)
theorem tj_X10_owed_201_151 {g : GP} {X : MX} {mcR msR : Nat} (hF : gF g = true) (hX : Cx g RX10 cX10_owed 4 mcR msR (some .int) [] X) {Q : State → Prop} {p2 : Int32} {p3 : Int32} {v4 : Int32} {v5 : Int32} {v6 : Int32} {d1 : Value} {h hz : AH} {z : ((Int32 × Int32 × Int32) ⊕ (Int32 × Int32))} (e : j_X10_owed_201_151 p2 p3 v4 v5 v6 h = some (z, hz)) (kI : ∀ (s2 : (Int32 × Int32 × Int32)) (xd1 : Value), z = .inl s2 → AR g X 0 0 Q hz 151 [.ref 240, xd1, .int p2, .int p3, .int s2.1, .int s2.2.1, .int s2.2.2] []) (kE0 : ∀ (yy : (Int32 × Int32)) (y1 : Value) (y2 : Value) (y6 : Value), z = .inr yy → AR g X 0 0 Q hz 207 [.ref 240, y1, y2, .int p3, .int yy.1, .int yy.2, y6] []) : AR g X 0 0 Q h 201 [.ref 240, d1, .int p2, .int p3, .int v4, .int v5, .int v6] [] := by
  unfold j_X10_owed_201_151 at e
  refine aw_iinc (i := 6) (lv2 := [.ref 240, d1, .int p2, .int p3, .int v4, .int v5, .int (v6 + 1)]) hX rfl rfl rfl rfl d_X10_owed_201 ?_
  refine aw_goto (t := 151) hX (by decide) d_X10_owed_204 ?_
  cases e
  exact kI (v4, v5, v6 + 1) _ rfl
def j_X10_owed_198_151 (p2 : Int32) (p3 : Int32) (v4 : Int32) (v6 : Int32) (k0 : Int32) (k1 : Int32) (h : AH) : Option (((Int32 × Int32 × Int32) ⊕ (Int32 × Int32)) × AH) := j_X10_owed_201_151 p2 p3 v4 (k1 + k0) v6 h
theorem tj_X10_owed_198_151 {g : GP} {X : MX} {mcR msR : Nat} (hF : gF g = true) (hX : Cx g RX10 cX10_owed 4 mcR msR (some .int) [] X) {Q : State → Prop} {p2 : Int32} {p3 : Int32} {v4 : Int32} {v6 : Int32} {k0 : Int32} {k1 : Int32} {d1 : Value} {d5 : Value} {h hz : AH} {z : ((Int32 × Int32 × Int32) ⊕ (Int32 × Int32))} (e : j_X10_owed_198_151 p2 p3 v4 v6 k0 k1 h = some (z, hz)) (kI : ∀ (s2 : (Int32 × Int32 × Int32)) (xd1 : Value), z = .inl s2 → AR g X 0 0 Q hz 151 [.ref 240, xd1, .int p2, .int p3, .int s2.1, .int s2.2.1, .int s2.2.2] []) (kE0 : ∀ (yy : (Int32 × Int32)) (y1 : Value) (y2 : Value) (y6 : Value), z = .inr yy → AR g X 0 0 Q hz 207 [.ref 240, y1, y2, .int p3, .int yy.1, .int yy.2, y6] []) : AR g X 0 0 Q h 198 [.ref 240, d1, .int p2, .int p3, .int v4, d5, .int v6] [.int k0, .int k1] := by
  unfold j_X10_owed_198_151 at e
  refine aw_iadd hX d_X10_owed_198 ?_
  refine aw_istore (i := 5) (lv2 := [.ref 240, d1, .int p2, .int p3, .int v4, .int (k1 + k0), .int v6]) hX rfl rfl d_X10_owed_199 ?_
  exact tj_X10_owed_201_151 hF hX e kI kE0
def j_X10_owed_182_151 (p2 : Int32) (p3 : Int32) (v4 : Int32) (v5 : Int32) (v6 : Int32) (h : AH) : Option (((Int32 × Int32 × Int32) ⊕ (Int32 × Int32)) × AH) := if v6 ≤ p2 then j_X10_owed_198_151 p2 p3 (v4 + 1) v6 0 v5 h else j_X10_owed_198_151 p2 p3 (v4 + 1) v6 1 v5 h
theorem tj_X10_owed_182_151 {g : GP} {X : MX} {mcR msR : Nat} (hF : gF g = true) (hX : Cx g RX10 cX10_owed 4 mcR msR (some .int) [] X) {Q : State → Prop} {p2 : Int32} {p3 : Int32} {v4 : Int32} {v5 : Int32} {v6 : Int32} {d1 : Value} {h hz : AH} {z : ((Int32 × Int32 × Int32) ⊕ (Int32 × Int32))} (e : j_X10_owed_182_151 p2 p3 v4 v5 v6 h = some (z, hz)) (kI : ∀ (s2 : (Int32 × Int32 × Int32)) (xd1 : Value), z = .inl s2 → AR g X 0 0 Q hz 151 [.ref 240, xd1, .int p2, .int p3, .int s2.1, .int s2.2.1, .int s2.2.2] []) (kE0 : ∀ (yy : (Int32 × Int32)) (y1 : Value) (y2 : Value) (y6 : Value), z = .inr yy → AR g X 0 0 Q hz 207 [.ref 240, y1, y2, .int p3, .int yy.1, .int yy.2, y6] []) : AR g X 0 0 Q h 182 [.ref 240, d1, .int p2, .int p3, .int v4, .int v5, .int v6] [] := by
  unfold j_X10_owed_182_151 at e
  refine aw_iinc (i := 4) (lv2 := [.ref 240, d1, .int p2, .int p3, .int (v4 + 1), .int v5, .int v6]) hX rfl rfl rfl rfl d_X10_owed_182 ?_
  refine aw_iload (i := 5) hX rfl d_X10_owed_185 ?_
  refine aw_iload (i := 6) hX rfl d_X10_owed_187 ?_
  refine aw_iload_n (i := 2) hX rfl rfl d_X10_owed_189 ?_
  refine aw_icmp_le (t := 197) hX (by decide) d_X10_owed_190 (fun c => ?_) (fun c => ?_)
  · rw [if_pos c] at e
    refine aw_iconst (v := 0) hX (by decide) d_X10_owed_197 ?_
    exact tj_X10_owed_198_151 hF hX e kI kE0
  · rw [if_neg c] at e
    refine aw_iconst (v := 1) hX (by decide) d_X10_owed_193 ?_
    refine aw_goto (t := 198) hX (by decide) d_X10_owed_194 ?_
    exact tj_X10_owed_198_151 hF hX e kI kE0
def l_X10_owed_151 (p2 : Int32) (p3 : Int32) (s : (Int32 × Int32 × Int32)) (h : AH) : Option (((Int32 × Int32 × Int32) ⊕ (Int32 × Int32)) × AH) := if (gI h 240 3) ≤ s.2.2 then some (.inr (s.1, s.2.1), h) else if p3 = 3 then bd (ldI h 241 ((4 * s.2.2) + 3)) fun x4 => if x4 = 0 then j_X10_owed_201_151 p2 p3 s.1 s.2.1 s.2.2 h else j_X10_owed_182_151 p2 p3 s.1 s.2.1 s.2.2 h else j_X10_owed_182_151 p2 p3 s.1 s.2.1 s.2.2 h
theorem tb_X10_owed_151 {g : GP} {X : MX} {mcR msR : Nat} (hF : gF g = true) (hX : Cx g RX10 cX10_owed 4 mcR msR (some .int) [] X) {Q : State → Prop} {p2 : Int32} {p3 : Int32} {s : (Int32 × Int32 × Int32)} {d1 : Value} {h hz : AH} {z : ((Int32 × Int32 × Int32) ⊕ (Int32 × Int32))} (e : l_X10_owed_151 p2 p3 s h = some (z, hz)) (kI : ∀ (s2 : (Int32 × Int32 × Int32)) (xd1 : Value), z = .inl s2 → AR g X 0 0 Q hz 151 [.ref 240, xd1, .int p2, .int p3, .int s2.1, .int s2.2.1, .int s2.2.2] []) (kE0 : ∀ (yy : (Int32 × Int32)) (y1 : Value) (y2 : Value) (y6 : Value), z = .inr yy → AR g X 0 0 Q hz 207 [.ref 240, y1, y2, .int p3, .int yy.1, .int yy.2, y6] []) : AR g X 0 0 Q h 151 [.ref 240, d1, .int p2, .int p3, .int s.1, .int s.2.1, .int s.2.2] [] := by
  unfold l_X10_owed_151 at e
  refine aw_iload (i := 6) hX rfl d_X10_owed_151 ?_
  refine aw_aload_n (i := 0) hX rfl rfl d_X10_owed_153 ?_
  refine ar_getI hX fg_RX10_262 rfl d_X10_owed_154 ?_
  refine aw_icmp_ge (t := 207) hX (by decide) d_X10_owed_157 (fun c => ?_) (fun c => ?_)
  · rw [if_pos c] at e
    cases e
    exact kE0 (s.1, s.2.1) _ _ _ rfl
  · rw [if_neg c] at e
    refine aw_iload_n (i := 3) hX rfl rfl d_X10_owed_160 ?_
    refine aw_iconst (v := 3) hX (by decide) d_X10_owed_161 ?_
    refine aw_icmp_ne (t := 182) hX (by decide) d_X10_owed_162 (fun c => ?_) (fun c => ?_)
    · rw [if_neg c] at e
      exact tj_X10_owed_182_151 hF hX e kI kE0
    · rw [if_pos c] at e
      refine aw_aload_n (i := 0) hX rfl rfl d_X10_owed_165 ?_
      refine ar_getF hX hF fg_RX10_13 rfl d_X10_owed_166 ?_
      show AR g X 0 0 _ _ 169 _ [.ref 241]
      refine aw_iconst (v := 4) hX (by decide) d_X10_owed_169 ?_
      refine aw_iload (i := 6) hX rfl d_X10_owed_170 ?_
      refine aw_imul hX d_X10_owed_172 ?_
      refine aw_iconst (v := 3) hX (by decide) d_X10_owed_173 ?_
      refine aw_iadd hX d_X10_owed_174 ?_
      obtain ⟨x4, f_1483, e_1483⟩ := bd_some e
      clear e
      refine ar_iaload hX f_1483 d_X10_owed_175 ?_
      refine aw_if_ne (t := 182) hX (by decide) d_X10_owed_176 (fun c => ?_) (fun c => ?_)
      · rw [if_neg c] at e_1483
        exact tj_X10_owed_182_151 hF hX e_1483 kI kE0
      · rw [if_pos c] at e_1483
        refine aw_goto (t := 201) hX (by decide) d_X10_owed_179 ?_
        exact tj_X10_owed_201_151 hF hX e_1483 kI kE0
theorem ti_X10_owed_151 {g : GP} {X : MX} {mcR msR : Nat} (hF : gF g = true) (hX : Cx g RX10 cX10_owed 4 mcR msR (some .int) [] X) {Q : State → Prop} {p2 : Int32} {p3 : Int32} {y : (Int32 × Int32)} {hz : AH} (kE0 : ∀ (y_1 : Value) (y_2 : Value) (y_6 : Value), AR g X 0 0 Q hz 207 [.ref 240, y_1, y_2, .int p3, .int y.1, .int y.2, y_6] []) (n : Nat) : ∀ (s : (Int32 × Int32 × Int32)) (d1 : Value) (h : AH), lpH (l_X10_owed_151 p2 p3) n s h = some (y, hz) → AR g X 0 0 Q h 151 [.ref 240, d1, .int p2, .int p3, .int s.1, .int s.2.1, .int s.2.2] [] := by
  induction n with
  | zero => intro s d1 h e; cases e
  | succ n ih =>
    intro s d1 h e
    obtain ⟨x, h1, e1, e2⟩ := lpH_succ e
    rcases e2 with ⟨s2, rfl, e3⟩ | ⟨rfl, rfl⟩
    · exact tb_X10_owed_151 hF hX e1 (fun s3 x0 hs => by cases hs; exact ih _ _ _ e3) (fun yy x0 x1 x2 hy => by cases hy)
    · exact tb_X10_owed_151 hF hX e1 (fun s3 x0 hs => by cases hs) (fun yy x0 x1 x2 hy => by cases hy; exact kE0 x0 x1 x2)
theorem t_X10_owed_151 {g : GP} {X : MX} {mcR msR : Nat} (hF : gF g = true) (hX : Cx g RX10 cX10_owed 4 mcR msR (some .int) [] X) {Q : State → Prop} {p2 : Int32} {p3 : Int32} {s : (Int32 × Int32 × Int32)} {d1 : Value} {h hz : AH} {n : Nat} {y : (Int32 × Int32)} (e : lpH (l_X10_owed_151 p2 p3) n s h = some (y, hz)) (kE0 : ∀ (y_1 : Value) (y_2 : Value) (y_6 : Value), AR g X 0 0 Q hz 207 [.ref 240, y_1, y_2, .int p3, .int y.1, .int y.2, y_6] []) : AR g X 0 0 Q h 151 [.ref 240, d1, .int p2, .int p3, .int s.1, .int s.2.1, .int s.2.2] [] := ti_X10_owed_151 hF hX kE0 n _ _ _ e
def l_X10_owed_55 (p1 : Int32) (p2 : Int32) (p3 : Int32) (s : Int32) (h : AH) : Option ((Int32 ⊕ Unit) × AH) := if p2 < s then some (.inr (), h) else bd (s_X10_uses p1 p3 s 0 1 h) fun q11 => some (.inl (s + 1), q11.2)
theorem tb_X10_owed_55 {g : GP} {X : MX} {mcR msR : Nat} (hF : gF g = true) (hX : Cx g RX10 cX10_owed 4 mcR msR (some .int) [] X) {Q : State → Prop} {p1 : Int32} {p2 : Int32} {p3 : Int32} {s : Int32} {d5 : Value} {d6 : Value} {h hz : AH} {z : (Int32 ⊕ Unit)} (e : l_X10_owed_55 p1 p2 p3 s h = some (z, hz)) (kI : ∀ (s2 : Int32) (xd5 : Value) (xd6 : Value), z = .inl s2 → AR g X 0 0 Q hz 55 [.ref 240, .int p1, .int p2, .int p3, .int s2, xd5, xd6] []) (kE0 : ∀ (yy : Unit) (y1 : Value) (y2 : Value) (y4 : Value) (y5 : Value) (y6 : Value), z = .inr yy → AR g X 0 0 Q hz 77 [.ref 240, y1, y2, .int p3, y4, y5, y6] []) : AR g X 0 0 Q h 55 [.ref 240, .int p1, .int p2, .int p3, .int s, d5, d6] [] := by
  unfold l_X10_owed_55 at e
  refine aw_iload (i := 4) hX rfl d_X10_owed_55 ?_
  refine aw_iload_n (i := 2) hX rfl rfl d_X10_owed_57 ?_
  refine aw_icmp_gt (t := 77) hX (by decide) d_X10_owed_58 (fun c => ?_) (fun c => ?_)
  · rw [if_pos c] at e
    cases e
    exact kE0 () _ _ _ _ _ rfl
  · rw [if_neg c] at e
    refine aw_aload_n (i := 0) hX rfl rfl d_X10_owed_61 ?_
    refine aw_iload_n (i := 1) hX rfl rfl d_X10_owed_62 ?_
    refine aw_iload_n (i := 3) hX rfl rfl d_X10_owed_63 ?_
    refine aw_iload (i := 4) hX rfl d_X10_owed_64 ?_
    refine aw_iconst (v := 0) hX (by decide) d_X10_owed_66 ?_
    refine aw_iconst (v := 1) hX (by decide) d_X10_owed_67 ?_
    obtain ⟨q11, f_1484, e_1484⟩ := bd_some e
    clear e
    refine aw_callV (b := 240) (av := [.int p1, .int p3, .int s, .int 0, .int 1]) (avr := [.int 1, .int 0, .int s, .int p3, .int p1]) hX (k_X10_uses (cx_g hX) hF f_1484) mi_X10_uses rfl rfl w_767 w_768 w_769 (by decide) rfl (LAY_lt rfl (by decide)) rfl rfl (Nat.le_of_ble_eq_true rfl) (Nat.zero_le _) (Nat.zero_le _) d_X10_owed_68 ?_
    refine aw_iinc (i := 4) (lv2 := [.ref 240, .int p1, .int p2, .int p3, .int (s + 1), d5, d6]) hX rfl rfl rfl rfl d_X10_owed_71 ?_
    refine aw_goto (t := 55) hX (by decide) d_X10_owed_74 ?_
    cases e_1484
    exact kI (s + 1) _ _ rfl
theorem ti_X10_owed_55 {g : GP} {X : MX} {mcR msR : Nat} (hF : gF g = true) (hX : Cx g RX10 cX10_owed 4 mcR msR (some .int) [] X) {Q : State → Prop} {p1 : Int32} {p2 : Int32} {p3 : Int32} {y : Unit} {hz : AH} (kE0 : ∀ (y_1 : Value) (y_2 : Value) (y_4 : Value) (y_5 : Value) (y_6 : Value), AR g X 0 0 Q hz 77 [.ref 240, y_1, y_2, .int p3, y_4, y_5, y_6] []) (n : Nat) : ∀ (s : Int32) (d5 : Value) (d6 : Value) (h : AH), lpH (l_X10_owed_55 p1 p2 p3) n s h = some (y, hz) → AR g X 0 0 Q h 55 [.ref 240, .int p1, .int p2, .int p3, .int s, d5, d6] [] := by
  induction n with
  | zero => intro s d5 d6 h e; cases e
  | succ n ih =>
    intro s d5 d6 h e
    obtain ⟨x, h1, e1, e2⟩ := lpH_succ e
    rcases e2 with ⟨s2, rfl, e3⟩ | ⟨rfl, rfl⟩
    · exact tb_X10_owed_55 hF hX e1 (fun s3 x0 x1 hs => by cases hs; exact ih _ _ _ _ e3) (fun yy x0 x1 x2 x3 x4 hy => by cases hy)
    · exact tb_X10_owed_55 hF hX e1 (fun s3 x0 x1 hs => by cases hs) (fun yy x0 x1 x2 x3 x4 hy => by cases hy; exact kE0 x0 x1 x2 x3 x4)
theorem t_X10_owed_55 {g : GP} {X : MX} {mcR msR : Nat} (hF : gF g = true) (hX : Cx g RX10 cX10_owed 4 mcR msR (some .int) [] X) {Q : State → Prop} {p1 : Int32} {p2 : Int32} {p3 : Int32} {s : Int32} {d5 : Value} {d6 : Value} {h hz : AH} {n : Nat} {y : Unit} (e : lpH (l_X10_owed_55 p1 p2 p3) n s h = some (y, hz)) (kE0 : ∀ (y_1 : Value) (y_2 : Value) (y_4 : Value) (y_5 : Value) (y_6 : Value), AR g X 0 0 Q hz 77 [.ref 240, y_1, y_2, .int p3, y_4, y_5, y_6] []) : AR g X 0 0 Q h 55 [.ref 240, .int p1, .int p2, .int p3, .int s, d5, d6] [] := ti_X10_owed_55 hF hX kE0 n _ _ _ _ e
def l_X10_owed_83 (p3 : Int32) (s : (Int64 × Int32)) (h : AH) : Option (((Int64 × Int32) ⊕ Int64) × AH) := if 429 ≤ s.2 then some (.inr s.1, h) else bd (idivF s.2 33) fun x14 => bd (ldL h 253 s.2) fun x15 => some (.inl ((s.1 + (x14.toInt64 * x15)), s.2 + 1), h)
theorem tb_X10_owed_83 {g : GP} {X : MX} {mcR msR : Nat} (hF : gF g = true) (hX : Cx g RX10 cX10_owed 4 mcR msR (some .int) [] X) {Q : State → Prop} {p3 : Int32} {s : (Int64 × Int32)} {d1 : Value} {d2 : Value} {h hz : AH} {z : ((Int64 × Int32) ⊕ Int64)} (e : l_X10_owed_83 p3 s h = some (z, hz)) (kI : ∀ (s2 : (Int64 × Int32)) (xd1 : Value) (xd2 : Value), z = .inl s2 → AR g X 0 0 Q hz 83 [.ref 240, xd1, xd2, .int p3, .long s2.1, jk, .int s2.2] []) (kE0 : ∀ (yy : Int64) (y1 : Value) (y2 : Value) (y6 : Value), z = .inr yy → AR g X 0 0 Q hz 116 [.ref 240, y1, y2, .int p3, .long yy, jk, y6] []) : AR g X 0 0 Q h 83 [.ref 240, d1, d2, .int p3, .long s.1, jk, .int s.2] [] := by
  unfold l_X10_owed_83 at e
  refine aw_iload (i := 6) hX rfl d_X10_owed_83 ?_
  refine aw_sipush (v := 429) hX (by decide) d_X10_owed_85 ?_
  refine aw_icmp_ge (t := 116) hX (by decide) d_X10_owed_88 (fun c => ?_) (fun c => ?_)
  · rw [if_pos c] at e
    cases e
    exact kE0 s.1 _ _ _ rfl
  · rw [if_neg c] at e
    refine aw_lload (i := 4) hX rfl d_X10_owed_91 ?_
    refine aw_iload (i := 6) hX rfl d_X10_owed_93 ?_
    refine aw_bipush (v := 33) hX (by decide) d_X10_owed_95 ?_
    obtain ⟨x14, f_1485, e_1485⟩ := bd_some e
    clear e
    refine ar_idiv hX f_1485 d_X10_owed_97 ?_
    refine aw_i2l hX d_X10_owed_98 ?_
    refine aw_aload_n (i := 0) hX rfl rfl d_X10_owed_99 ?_
    refine ar_getF hX hF fg_RX10_54 rfl d_X10_owed_100 ?_
    show AR g X 0 0 _ _ 103 _ [.ref 253, .long x14.toInt64, .long s.1]
    refine aw_iload (i := 6) hX rfl d_X10_owed_103 ?_
    obtain ⟨x15, f_1486, e_1486⟩ := bd_some e_1485
    clear e_1485
    refine ar_laload hX f_1486 d_X10_owed_105 ?_
    refine aw_lmul hX d_X10_owed_106 ?_
    refine aw_ladd hX d_X10_owed_107 ?_
    refine aw_lstore (i := 4) (lv2 := [.ref 240, d1, d2, .int p3, .long (s.1 + (x14.toInt64 * x15)), jk, .int s.2]) hX rfl rfl d_X10_owed_108 ?_
    refine aw_iinc (i := 6) (lv2 := [.ref 240, d1, d2, .int p3, .long (s.1 + (x14.toInt64 * x15)), jk, .int (s.2 + 1)]) hX rfl rfl rfl rfl d_X10_owed_110 ?_
    refine aw_goto (t := 83) hX (by decide) d_X10_owed_113 ?_
    cases e_1486
    exact kI ((s.1 + (x14.toInt64 * x15)), s.2 + 1) _ _ rfl
theorem ti_X10_owed_83 {g : GP} {X : MX} {mcR msR : Nat} (hF : gF g = true) (hX : Cx g RX10 cX10_owed 4 mcR msR (some .int) [] X) {Q : State → Prop} {p3 : Int32} {y : Int64} {hz : AH} (kE0 : ∀ (y_1 : Value) (y_2 : Value) (y_6 : Value), AR g X 0 0 Q hz 116 [.ref 240, y_1, y_2, .int p3, .long y, jk, y_6] []) (n : Nat) : ∀ (s : (Int64 × Int32)) (d1 : Value) (d2 : Value) (h : AH), lpH (l_X10_owed_83 p3) n s h = some (y, hz) → AR g X 0 0 Q h 83 [.ref 240, d1, d2, .int p3, .long s.1, jk, .int s.2] [] := by
  induction n with
  | zero => intro s d1 d2 h e; cases e
  | succ n ih =>
    intro s d1 d2 h e
    obtain ⟨x, h1, e1, e2⟩ := lpH_succ e
    rcases e2 with ⟨s2, rfl, e3⟩ | ⟨rfl, rfl⟩
    · exact tb_X10_owed_83 hF hX e1 (fun s3 x0 x1 hs => by cases hs; exact ih _ _ _ _ e3) (fun yy x0 x1 x2 hy => by cases hy)
    · exact tb_X10_owed_83 hF hX e1 (fun s3 x0 x1 hs => by cases hs) (fun yy x0 x1 x2 hy => by cases hy; exact kE0 x0 x1 x2)
theorem t_X10_owed_83 {g : GP} {X : MX} {mcR msR : Nat} (hF : gF g = true) (hX : Cx g RX10 cX10_owed 4 mcR msR (some .int) [] X) {Q : State → Prop} {p3 : Int32} {s : (Int64 × Int32)} {d1 : Value} {d2 : Value} {h hz : AH} {n : Nat} {y : Int64} (e : lpH (l_X10_owed_83 p3) n s h = some (y, hz)) (kE0 : ∀ (y_1 : Value) (y_2 : Value) (y_6 : Value), AR g X 0 0 Q hz 116 [.ref 240, y_1, y_2, .int p3, .long y, jk, y_6] []) : AR g X 0 0 Q h 83 [.ref 240, d1, d2, .int p3, .long s.1, jk, .int s.2] [] := ti_X10_owed_83 hF hX kE0 n _ _ _ _ e
def s_X10_owed (a0 : Int32) (a1 : Int32) (h : AH) : Option (Int32 × AH) := bd (s_X10_isKind a0 (sI h 240 0 0)) fun q1 => if q1.1 = 0 then some (0, q1.2) else bd (s_X10_isEvening a1 q1.2) fun q2 => if q2.1 = 0 then some (0, q2.2) else bd (s_X10_buysOf a0 q2.2) fun x3 => if x3 = 0 then some (0, q2.2) else if x3 = 2 then bd (s_X10_plans a0 x3 1 q2.2) fun q9 => bd (s_X10_begins x3 q9.2) fun q10 => bd (lpH (l_X10_owed_55 a0 a1 x3) FU 0 q10.2) fun y12 => bd (lpH (l_X10_owed_83 x3) FU (0, 0) y12.2) fun y16 => bd (ldI y16.2 244 x3) fun x18 => bd (ldivF y16.1 1000) fun x19 => bd (ldivF (x18.toInt64 * x19) (1000 * ((gI y16.2 240 6).toInt64))) fun x20 => some (x20.toInt32, y16.2) else bd (lpH (l_X10_owed_151 a1 x3) FU (0, 0, 0) q2.2) fun y5 => bd (ldI y5.2 244 x3) fun x7 => bd (ldivF ((1000 * x7.toInt64) * y5.1.2.toInt64) y5.1.1.toInt64) fun x8 => some (x8.toInt32, y5.2)
theorem t_X10_owed {g : GP} {X : MX} {mcR msR : Nat} (hF : gF g = true) (hX : Cx g RX10 cX10_owed 4 mcR msR (some .int) [] X) {a0 : Int32} {a1 : Int32} {h hz : AH} {z : Int32} (e : s_X10_owed a0 a1 h = some (z, hz)) : AR g X 0 0 (QQ g X NT false hz (.inl (some (.int z))) 0 0) h 0 [.ref 240, .int a0, .int a1, jk, jk, jk, jk] [] := by
  unfold s_X10_owed at e
  refine aw_aload_n (i := 0) hX rfl rfl d_X10_owed_0 ?_
  refine aw_iconst (v := 0) hX (by decide) d_X10_owed_1 ?_
  refine ar_putI hX fp_RX10_133 rfl d_X10_owed_2 ?_
  refine aw_aload_n (i := 0) hX rfl rfl d_X10_owed_5 ?_
  refine aw_iload_n (i := 1) hX rfl rfl d_X10_owed_6 ?_
  obtain ⟨q1, f_1487, e_1487⟩ := bd_some e
  clear e
  refine aw_callV (b := 240) (av := [.int a0]) (avr := [.int a0]) hX (k_X10_isKind (cx_g hX) hF f_1487) mi_X10_isKind rfl rfl w_811 w_812 w_813 (by decide) rfl (LAY_lt rfl (by decide)) rfl rfl (Nat.le_of_ble_eq_true rfl) (Nat.zero_le _) (Nat.zero_le _) d_X10_owed_7 ?_
  refine aw_if_eq (t := 21) hX (by decide) d_X10_owed_10 (fun c => ?_) (fun c => ?_)
  · rw [if_pos c] at e_1487
    refine aw_iconst (v := 0) hX (by decide) d_X10_owed_21 ?_
    cases e_1487
    exact aw_ireturn hX (Nat.zero_le _) (Nat.zero_le _) d_X10_owed_22
  · rw [if_neg c] at e_1487
    refine aw_aload_n (i := 0) hX rfl rfl d_X10_owed_13 ?_
    refine aw_iload_n (i := 2) hX rfl rfl d_X10_owed_14 ?_
    obtain ⟨q2, f_1488, e_1488⟩ := bd_some e_1487
    clear e_1487
    refine aw_callV (b := 240) (av := [.int a1]) (avr := [.int a1]) hX (k_X10_isEvening (cx_g hX) hF f_1488) mi_X10_isEvening rfl rfl w_807 w_808 w_809 (by decide) rfl (LAY_lt rfl (by decide)) rfl rfl (Nat.le_of_ble_eq_true rfl) (Nat.zero_le _) (Nat.zero_le _) d_X10_owed_15 ?_
    refine aw_if_ne (t := 23) hX (by decide) d_X10_owed_18 (fun c => ?_) (fun c => ?_)
    · rw [if_neg c] at e_1488
      refine aw_aload_n (i := 0) hX rfl rfl d_X10_owed_23 ?_
      refine aw_iload_n (i := 1) hX rfl rfl d_X10_owed_24 ?_
      obtain ⟨x3, f_1489, e_1489⟩ := bd_some e_1488
      clear e_1488
      refine aw_callV (b := 240) (av := [.int a0]) (avr := [.int a0]) hX (k_X10_buysOf (cx_g hX) hF f_1489) mi_X10_buysOf rfl rfl w_819 w_820 w_821 (by decide) rfl (LAY_lt rfl (by decide)) rfl rfl (Nat.le_of_ble_eq_true rfl) (Nat.zero_le _) (Nat.zero_le _) d_X10_owed_25 ?_
      refine aw_istore_n (i := 3) (lv2 := [.ref 240, .int a0, .int a1, .int x3, jk, jk, jk]) hX rfl rfl rfl d_X10_owed_28 ?_
      refine aw_iload_n (i := 3) hX rfl rfl d_X10_owed_29 ?_
      refine aw_if_ne (t := 35) hX (by decide) d_X10_owed_30 (fun c => ?_) (fun c => ?_)
      · rw [if_neg c] at e_1489
        refine aw_iload_n (i := 3) hX rfl rfl d_X10_owed_35 ?_
        refine aw_iconst (v := 2) hX (by decide) d_X10_owed_36 ?_
        refine aw_icmp_ne (t := 142) hX (by decide) d_X10_owed_37 (fun c => ?_) (fun c => ?_)
        · rw [if_neg c] at e_1489
          refine aw_iconst (v := 0) hX (by decide) d_X10_owed_142 ?_
          refine aw_istore (i := 4) (lv2 := [.ref 240, .int a0, .int a1, .int x3, .int 0, jk, jk]) hX rfl rfl d_X10_owed_143 ?_
          refine aw_iconst (v := 0) hX (by decide) d_X10_owed_145 ?_
          refine aw_istore (i := 5) (lv2 := [.ref 240, .int a0, .int a1, .int x3, .int 0, .int 0, jk]) hX rfl rfl d_X10_owed_146 ?_
          refine aw_iconst (v := 0) hX (by decide) d_X10_owed_148 ?_
          refine aw_istore (i := 6) (lv2 := [.ref 240, .int a0, .int a1, .int x3, .int 0, .int 0, .int 0]) hX rfl rfl d_X10_owed_149 ?_
          obtain ⟨y5, f_1490, e_1490⟩ := bd_some e_1489
          clear e_1489
          refine t_X10_owed_151 hF hX f_1490 (fun d6_1 d6_2 d6_6 => ?_)
          refine aw_ldc2 hX w_737 d_X10_owed_207 ?_
          refine aw_aload_n (i := 0) hX rfl rfl d_X10_owed_210 ?_
          refine ar_getF hX hF fg_RX10_23 rfl d_X10_owed_211 ?_
          show AR g X 0 0 _ _ 214 _ [.ref 244, .long 1000]
          refine aw_iload_n (i := 3) hX rfl rfl d_X10_owed_214 ?_
          obtain ⟨x7, f_1491, e_1491⟩ := bd_some e_1490
          clear e_1490
          refine ar_iaload hX f_1491 d_X10_owed_215 ?_
          refine aw_i2l hX d_X10_owed_216 ?_
          refine aw_lmul hX d_X10_owed_217 ?_
          refine aw_iload (i := 5) hX rfl d_X10_owed_218 ?_
          refine aw_i2l hX d_X10_owed_220 ?_
          refine aw_lmul hX d_X10_owed_221 ?_
          refine aw_iload (i := 4) hX rfl d_X10_owed_222 ?_
          refine aw_i2l hX d_X10_owed_224 ?_
          obtain ⟨x8, f_1492, e_1492⟩ := bd_some e_1491
          clear e_1491
          refine ar_ldiv hX f_1492 d_X10_owed_225 ?_
          refine aw_l2i hX d_X10_owed_226 ?_
          cases e_1492
          exact aw_ireturn hX (Nat.zero_le _) (Nat.zero_le _) d_X10_owed_227
        · rw [if_pos c] at e_1489
          refine aw_aload_n (i := 0) hX rfl rfl d_X10_owed_40 ?_
          refine aw_iload_n (i := 1) hX rfl rfl d_X10_owed_41 ?_
          refine aw_iload_n (i := 3) hX rfl rfl d_X10_owed_42 ?_
          refine aw_iconst (v := 1) hX (by decide) d_X10_owed_43 ?_
          obtain ⟨q9, f_1493, e_1493⟩ := bd_some e_1489
          clear e_1489
          refine aw_callV (b := 240) (av := [.int a0, .int x3, .int 1]) (avr := [.int 1, .int x3, .int a0]) hX (k_X10_plans (cx_g hX) hF f_1493) mi_X10_plans rfl rfl w_756 w_757 w_758 (by decide) rfl (LAY_lt rfl (by decide)) rfl rfl (Nat.le_of_ble_eq_true rfl) (Nat.zero_le _) (Nat.zero_le _) d_X10_owed_44 ?_
          refine aw_aload_n (i := 0) hX rfl rfl d_X10_owed_47 ?_
          refine aw_iload_n (i := 3) hX rfl rfl d_X10_owed_48 ?_
          obtain ⟨q10, f_1494, e_1494⟩ := bd_some e_1493
          clear e_1493
          refine aw_callV (b := 240) (av := [.int x3]) (avr := [.int x3]) hX (k_X10_begins (cx_g hX) hF f_1494) mi_X10_begins rfl rfl w_763 w_764 w_765 (by decide) rfl (LAY_lt rfl (by decide)) rfl rfl (Nat.le_of_ble_eq_true rfl) (Nat.zero_le _) (Nat.zero_le _) d_X10_owed_49 ?_
          refine aw_iconst (v := 0) hX (by decide) d_X10_owed_52 ?_
          refine aw_istore (i := 4) (lv2 := [.ref 240, .int a0, .int a1, .int x3, .int 0, jk, jk]) hX rfl rfl d_X10_owed_53 ?_
          obtain ⟨y12, f_1495, e_1495⟩ := bd_some e_1494
          clear e_1494
          refine t_X10_owed_55 hF hX f_1495 (fun d13_1 d13_2 d13_4 d13_5 d13_6 => ?_)
          refine aw_lconst (v := 0) hX (by decide) d_X10_owed_77 ?_
          refine aw_lstore (i := 4) (lv2 := [.ref 240, d13_1, d13_2, .int x3, .long 0, jk, d13_6]) hX rfl rfl d_X10_owed_78 ?_
          refine aw_iconst (v := 0) hX (by decide) d_X10_owed_80 ?_
          refine aw_istore (i := 6) (lv2 := [.ref 240, d13_1, d13_2, .int x3, .long 0, jk, .int 0]) hX rfl rfl d_X10_owed_81 ?_
          obtain ⟨y16, f_1496, e_1496⟩ := bd_some e_1495
          clear e_1495
          refine t_X10_owed_83 hF hX f_1496 (fun d17_1 d17_2 d17_6 => ?_)
          refine aw_aload_n (i := 0) hX rfl rfl d_X10_owed_116 ?_
          refine ar_getF hX hF fg_RX10_23 rfl d_X10_owed_117 ?_
          show AR g X 0 0 _ _ 120 _ [.ref 244]
          refine aw_iload_n (i := 3) hX rfl rfl d_X10_owed_120 ?_
          obtain ⟨x18, f_1497, e_1497⟩ := bd_some e_1496
          clear e_1496
          refine ar_iaload hX f_1497 d_X10_owed_121 ?_
          refine aw_i2l hX d_X10_owed_122 ?_
          refine aw_lload (i := 4) hX rfl d_X10_owed_123 ?_
          refine aw_ldc2 hX w_737 d_X10_owed_125 ?_
          obtain ⟨x19, f_1498, e_1498⟩ := bd_some e_1497
          clear e_1497
          refine ar_ldiv hX f_1498 d_X10_owed_128 ?_
          refine aw_lmul hX d_X10_owed_129 ?_
          refine aw_ldc2 hX w_737 d_X10_owed_130 ?_
          refine aw_aload_n (i := 0) hX rfl rfl d_X10_owed_133 ?_
          refine ar_getI hX fg_RX10_271 rfl d_X10_owed_134 ?_
          refine aw_i2l hX d_X10_owed_137 ?_
          refine aw_lmul hX d_X10_owed_138 ?_
          obtain ⟨x20, f_1499, e_1499⟩ := bd_some e_1498
          clear e_1498
          refine ar_ldiv hX f_1499 d_X10_owed_139 ?_
          refine aw_l2i hX d_X10_owed_140 ?_
          cases e_1499
          exact aw_ireturn hX (Nat.zero_le _) (Nat.zero_le _) d_X10_owed_141
      · rw [if_pos c] at e_1489
        refine aw_iconst (v := 0) hX (by decide) d_X10_owed_33 ?_
        cases e_1489
        exact aw_ireturn hX (Nat.zero_le _) (Nat.zero_le _) d_X10_owed_34
    · rw [if_pos c] at e_1488
      refine aw_iconst (v := 0) hX (by decide) d_X10_owed_21 ?_
      cases e_1488
      exact aw_ireturn hX (Nat.zero_le _) (Nat.zero_le _) d_X10_owed_22
theorem k_X10_owed {g : GP} (hg : g.1.stackTraces = false) (hF : gF g = true) {a0 : Int32} {a1 : Int32} {h hz : AH} {z : Int32} (e : s_X10_owed a0 a1 h = some (z, hz)) : Ctr g yX10_owed (wsY yX10_owed cX10_owed 7 (some .int)) 4 0 0 [.ref 240, .int a0, .int a1] NT false h (some (.int z)) NT false hz := ctr_of (lv0 := [.ref 240, .int a0, .int a1, jk, jk, jk, jk]) rfl rfl (by decide) hg trivial (fun X hX hn => t_X10_owed hF hX e)
theorem d_X10_begin_0 : decode cX10_begin 0 = .ok (.aload_n 0, 1) := by decide +kernel
theorem d_X10_begin_1 : decode cX10_begin 1 = .ok (.iconst 0, 1) := by decide +kernel
theorem d_X10_begin_2 : decode cX10_begin 2 = .ok (.putfield 133, 3) := by decide +kernel
theorem d_X10_begin_5 : decode cX10_begin 5 = .ok (.aload_n 0, 1) := by decide +kernel
theorem d_X10_begin_6 : decode cX10_begin 6 = .ok (.iconst 1, 1) := by decide +kernel
theorem d_X10_begin_7 : decode cX10_begin 7 = .ok (.putfield 282, 3) := by decide +kernel
theorem d_X10_begin_10 : decode cX10_begin 10 = .ok (.aload_n 0, 1) := by decide +kernel
theorem d_X10_begin_11 : decode cX10_begin 11 = .ok (.getfield 109, 3) := by decide +kernel
theorem d_X10_begin_14 : decode cX10_begin 14 = .ok (.iconst 0, 1) := by decide +kernel
theorem d_X10_begin_15 : decode cX10_begin 15 = .ok (.iconst 0, 1) := by decide +kernel
theorem d_X10_begin_16 : decode cX10_begin 16 = .ok (.iastore, 1) := by decide +kernel
theorem d_X10_begin_17 : decode cX10_begin 17 = .ok (.aload_n 0, 1) := by decide +kernel
theorem d_X10_begin_18 : decode cX10_begin 18 = .ok (.getfield 109, 3) := by decide +kernel
theorem d_X10_begin_21 : decode cX10_begin 21 = .ok (.iconst 1, 1) := by decide +kernel
theorem d_X10_begin_22 : decode cX10_begin 22 = .ok (.iload_n 1, 1) := by decide +kernel
theorem d_X10_begin_23 : decode cX10_begin 23 = .ok (.iastore, 1) := by decide +kernel
theorem d_X10_begin_24 : decode cX10_begin 24 = .ok (.iconst 0, 1) := by decide +kernel
theorem d_X10_begin_25 : decode cX10_begin 25 = .ok (.istore_n 2, 1) := by decide +kernel
theorem d_X10_begin_26 : decode cX10_begin 26 = .ok (.iconst 0, 1) := by decide +kernel
theorem d_X10_begin_27 : decode cX10_begin 27 = .ok (.istore_n 3, 1) := by decide +kernel
theorem d_X10_begin_28 : decode cX10_begin 28 = .ok (.iload_n 3, 1) := by decide +kernel
theorem d_X10_begin_29 : decode cX10_begin 29 = .ok (.aload_n 0, 1) := by decide +kernel
theorem d_X10_begin_30 : decode cX10_begin 30 = .ok (.getfield 265, 3) := by decide +kernel
theorem d_X10_begin_33 : decode cX10_begin 33 = .ok (.if_icmp .ge 54, 3) := by decide +kernel
theorem d_X10_begin_36 : decode cX10_begin 36 = .ok (.iconst 0, 1) := by decide +kernel
theorem d_X10_begin_37 : decode cX10_begin 37 = .ok (.istore 4, 2) := by decide +kernel
theorem d_X10_begin_39 : decode cX10_begin 39 = .ok (.iload 4, 2) := by decide +kernel
theorem d_X10_begin_41 : decode cX10_begin 41 = .ok (.aload_n 0, 1) := by decide +kernel
theorem d_X10_begin_42 : decode cX10_begin 42 = .ok (.iload_n 3, 1) := by decide +kernel
theorem d_X10_begin_43 : decode cX10_begin 43 = .ok (.iconst 0, 1) := by decide +kernel
theorem d_X10_begin_44 : decode cX10_begin 44 = .ok (.invokevirtual 292, 3) := by decide +kernel
theorem d_X10_begin_47 : decode cX10_begin 47 = .ok (.if_icmp .ge 34, 3) := by decide +kernel
theorem d_X10_begin_50 : decode cX10_begin 50 = .ok (.aload_n 0, 1) := by decide +kernel
theorem d_X10_begin_51 : decode cX10_begin 51 = .ok (.getfield 115, 3) := by decide +kernel
theorem d_X10_begin_54 : decode cX10_begin 54 = .ok (.iload_n 2, 1) := by decide +kernel
theorem d_X10_begin_55 : decode cX10_begin 55 = .ok (.aload_n 0, 1) := by decide +kernel
theorem d_X10_begin_56 : decode cX10_begin 56 = .ok (.aload_n 0, 1) := by decide +kernel
theorem d_X10_begin_57 : decode cX10_begin 57 = .ok (.iload_n 3, 1) := by decide +kernel
theorem d_X10_begin_58 : decode cX10_begin 58 = .ok (.invokevirtual 347, 3) := by decide +kernel
theorem d_X10_begin_61 : decode cX10_begin 61 = .ok (.invokevirtual 328, 3) := by decide +kernel
theorem d_X10_begin_64 : decode cX10_begin 64 = .ok (.iastore, 1) := by decide +kernel
theorem d_X10_begin_65 : decode cX10_begin 65 = .ok (.aload_n 0, 1) := by decide +kernel
theorem d_X10_begin_66 : decode cX10_begin 66 = .ok (.getfield 118, 3) := by decide +kernel
theorem d_X10_begin_69 : decode cX10_begin 69 = .ok (.iload_n 2, 1) := by decide +kernel
theorem d_X10_begin_70 : decode cX10_begin 70 = .ok (.iconst 0, 1) := by decide +kernel
theorem d_X10_begin_71 : decode cX10_begin 71 = .ok (.iastore, 1) := by decide +kernel
theorem d_X10_begin_72 : decode cX10_begin 72 = .ok (.iinc 2 1, 3) := by decide +kernel
theorem d_X10_begin_75 : decode cX10_begin 75 = .ok (.iinc 4 1, 3) := by decide +kernel
theorem d_X10_begin_78 : decode cX10_begin 78 = .ok (.goto (-39), 3) := by decide +kernel
theorem d_X10_begin_81 : decode cX10_begin 81 = .ok (.iinc 3 1, 3) := by decide +kernel
theorem d_X10_begin_84 : decode cX10_begin 84 = .ok (.goto (-56), 3) := by decide +kernel
theorem d_X10_begin_87 : decode cX10_begin 87 = .ok (.return_, 1) := by decide +kernel
def l_X10_begin_39 (p3 : Int32) (s : (Int32 × Int32)) (h : AH) : Option (((Int32 × Int32) ⊕ Int32) × AH) := bd (s_X10_of p3 0 h) fun x3 => if x3 ≤ s.2 then some (.inr s.1, h) else bd (s_X10_buysOf p3 h) fun x4 => bd (s_X10_first x4 h) fun x5 => bd (stI h 271 s.1 x5) fun m6 => bd (stI m6 272 s.1 0) fun m7 => some (.inl (s.1 + 1, s.2 + 1), m7)
theorem tb_X10_begin_39 {g : GP} {X : MX} {mcR msR : Nat} (hF : gF g = true) (hX : Cx g RX10 cX10_begin 3 mcR msR none [] X) {Q : State → Prop} {p3 : Int32} {s : (Int32 × Int32)} {d1 : Value} {h hz : AH} {z : ((Int32 × Int32) ⊕ Int32)} (e : l_X10_begin_39 p3 s h = some (z, hz)) (kI : ∀ (s2 : (Int32 × Int32)) (xd1 : Value), z = .inl s2 → AR g X 0 0 Q hz 39 [.ref 240, xd1, .int s2.1, .int p3, .int s2.2] []) (kE0 : ∀ (yy : Int32) (y1 : Value) (y4 : Value), z = .inr yy → AR g X 0 0 Q hz 81 [.ref 240, y1, .int yy, .int p3, y4] []) : AR g X 0 0 Q h 39 [.ref 240, d1, .int s.1, .int p3, .int s.2] [] := by
  unfold l_X10_begin_39 at e
  refine aw_iload (i := 4) hX rfl d_X10_begin_39 ?_
  refine aw_aload_n (i := 0) hX rfl rfl d_X10_begin_41 ?_
  refine aw_iload_n (i := 3) hX rfl rfl d_X10_begin_42 ?_
  refine aw_iconst (v := 0) hX (by decide) d_X10_begin_43 ?_
  obtain ⟨x3, f_1500, e_1500⟩ := bd_some e
  clear e
  refine aw_callV (b := 240) (av := [.int p3, .int 0]) (avr := [.int 0, .int p3]) hX (k_X10_of (cx_g hX) hF f_1500) mi_X10_of rfl rfl w_732 w_733 w_734 (by decide) rfl (LAY_lt rfl (by decide)) rfl rfl (Nat.le_of_ble_eq_true rfl) (Nat.zero_le _) (Nat.zero_le _) d_X10_begin_44 ?_
  refine aw_icmp_ge (t := 81) hX (by decide) d_X10_begin_47 (fun c => ?_) (fun c => ?_)
  · rw [if_pos c] at e_1500
    cases e_1500
    exact kE0 s.1 _ _ rfl
  · rw [if_neg c] at e_1500
    refine aw_aload_n (i := 0) hX rfl rfl d_X10_begin_50 ?_
    refine ar_getF hX hF fg_RX10_115 rfl d_X10_begin_51 ?_
    show AR g X 0 0 _ _ 54 _ [.ref 271]
    refine aw_iload_n (i := 2) hX rfl rfl d_X10_begin_54 ?_
    refine aw_aload_n (i := 0) hX rfl rfl d_X10_begin_55 ?_
    refine aw_aload_n (i := 0) hX rfl rfl d_X10_begin_56 ?_
    refine aw_iload_n (i := 3) hX rfl rfl d_X10_begin_57 ?_
    obtain ⟨x4, f_1501, e_1501⟩ := bd_some e_1500
    clear e_1500
    refine aw_callV (b := 240) (av := [.int p3]) (avr := [.int p3]) hX (k_X10_buysOf (cx_g hX) hF f_1501) mi_X10_buysOf rfl rfl w_819 w_820 w_821 (by decide) rfl (LAY_lt rfl (by decide)) rfl rfl (Nat.le_of_ble_eq_true rfl) (Nat.zero_le _) (Nat.zero_le _) d_X10_begin_58 ?_
    obtain ⟨x5, f_1502, e_1502⟩ := bd_some e_1501
    clear e_1501
    refine aw_callV (b := 240) (av := [.int x4]) (avr := [.int x4]) hX (k_X10_first (cx_g hX) hF f_1502) mi_X10_first rfl rfl w_726 w_727 w_728 (by decide) rfl (LAY_lt rfl (by decide)) rfl rfl (Nat.le_of_ble_eq_true rfl) (Nat.zero_le _) (Nat.zero_le _) d_X10_begin_61 ?_
    obtain ⟨m6, f_1503, e_1503⟩ := bd_some e_1502
    clear e_1502
    refine ar_iastore hX f_1503 d_X10_begin_64 ?_
    refine aw_aload_n (i := 0) hX rfl rfl d_X10_begin_65 ?_
    refine ar_getF hX hF fg_RX10_118 rfl d_X10_begin_66 ?_
    show AR g X 0 0 _ _ 69 _ [.ref 272]
    refine aw_iload_n (i := 2) hX rfl rfl d_X10_begin_69 ?_
    refine aw_iconst (v := 0) hX (by decide) d_X10_begin_70 ?_
    obtain ⟨m7, f_1504, e_1504⟩ := bd_some e_1503
    clear e_1503
    refine ar_iastore hX f_1504 d_X10_begin_71 ?_
    refine aw_iinc (i := 2) (lv2 := [.ref 240, _, .int (s.1 + 1), .int p3, .int s.2]) hX rfl rfl rfl rfl d_X10_begin_72 ?_
    refine aw_iinc (i := 4) (lv2 := [.ref 240, _, .int (s.1 + 1), .int p3, .int (s.2 + 1)]) hX rfl rfl rfl rfl d_X10_begin_75 ?_
    refine aw_goto (t := 39) hX (by decide) d_X10_begin_78 ?_
    cases e_1504
    exact kI (s.1 + 1, s.2 + 1) _ rfl
theorem ti_X10_begin_39 {g : GP} {X : MX} {mcR msR : Nat} (hF : gF g = true) (hX : Cx g RX10 cX10_begin 3 mcR msR none [] X) {Q : State → Prop} {p3 : Int32} {y : Int32} {hz : AH} (kE0 : ∀ (y_1 : Value) (y_4 : Value), AR g X 0 0 Q hz 81 [.ref 240, y_1, .int y, .int p3, y_4] []) (n : Nat) : ∀ (s : (Int32 × Int32)) (d1 : Value) (h : AH), lpH (l_X10_begin_39 p3) n s h = some (y, hz) → AR g X 0 0 Q h 39 [.ref 240, d1, .int s.1, .int p3, .int s.2] [] := by
  induction n with
  | zero => intro s d1 h e; cases e
  | succ n ih =>
    intro s d1 h e
    obtain ⟨x, h1, e1, e2⟩ := lpH_succ e
    rcases e2 with ⟨s2, rfl, e3⟩ | ⟨rfl, rfl⟩
    · exact tb_X10_begin_39 hF hX e1 (fun s3 x0 hs => by cases hs; exact ih _ _ _ e3) (fun yy x0 x1 hy => by cases hy)
    · exact tb_X10_begin_39 hF hX e1 (fun s3 x0 hs => by cases hs) (fun yy x0 x1 hy => by cases hy; exact kE0 x0 x1)
theorem t_X10_begin_39 {g : GP} {X : MX} {mcR msR : Nat} (hF : gF g = true) (hX : Cx g RX10 cX10_begin 3 mcR msR none [] X) {Q : State → Prop} {p3 : Int32} {s : (Int32 × Int32)} {d1 : Value} {h hz : AH} {n : Nat} {y : Int32} (e : lpH (l_X10_begin_39 p3) n s h = some (y, hz)) (kE0 : ∀ (y_1 : Value) (y_4 : Value), AR g X 0 0 Q hz 81 [.ref 240, y_1, .int y, .int p3, y_4] []) : AR g X 0 0 Q h 39 [.ref 240, d1, .int s.1, .int p3, .int s.2] [] := ti_X10_begin_39 hF hX kE0 n _ _ _ e
def l_X10_begin_28 (s : (Int32 × Int32)) (h : AH) : Option (((Int32 × Int32) ⊕ Unit) × AH) := if (gI h 240 4) ≤ s.2 then some (.inr (), h) else bd (lpH (l_X10_begin_39 s.2) FU (s.1, 0) h) fun y8 => some (.inl (y8.1, s.2 + 1), y8.2)
theorem tb_X10_begin_28 {g : GP} {X : MX} {mcR msR : Nat} (hF : gF g = true) (hX : Cx g RX10 cX10_begin 3 mcR msR none [] X) {Q : State → Prop} {s : (Int32 × Int32)} {d1 : Value} {d4 : Value} {h hz : AH} {z : ((Int32 × Int32) ⊕ Unit)} (e : l_X10_begin_28 s h = some (z, hz)) (kI : ∀ (s2 : (Int32 × Int32)) (xd1 : Value) (xd4 : Value), z = .inl s2 → AR g X 0 0 Q hz 28 [.ref 240, xd1, .int s2.1, .int s2.2, xd4] []) (kE0 : ∀ (yy : Unit) (y0 : Value) (y1 : Value) (y2 : Value) (y3 : Value) (y4 : Value), z = .inr yy → AR g X 0 0 Q hz 87 [y0, y1, y2, y3, y4] []) : AR g X 0 0 Q h 28 [.ref 240, d1, .int s.1, .int s.2, d4] [] := by
  unfold l_X10_begin_28 at e
  refine aw_iload_n (i := 3) hX rfl rfl d_X10_begin_28 ?_
  refine aw_aload_n (i := 0) hX rfl rfl d_X10_begin_29 ?_
  refine ar_getI hX fg_RX10_265 rfl d_X10_begin_30 ?_
  refine aw_icmp_ge (t := 87) hX (by decide) d_X10_begin_33 (fun c => ?_) (fun c => ?_)
  · rw [if_pos c] at e
    cases e
    exact kE0 () _ _ _ _ _ rfl
  · rw [if_neg c] at e
    refine aw_iconst (v := 0) hX (by decide) d_X10_begin_36 ?_
    refine aw_istore (i := 4) (lv2 := [.ref 240, d1, .int s.1, .int s.2, .int 0]) hX rfl rfl d_X10_begin_37 ?_
    obtain ⟨y8, f_1505, e_1505⟩ := bd_some e
    clear e
    refine t_X10_begin_39 hF hX f_1505 (fun d9_1 d9_4 => ?_)
    refine aw_iinc (i := 3) (lv2 := [.ref 240, d9_1, .int y8.1, .int (s.2 + 1), d9_4]) hX rfl rfl rfl rfl d_X10_begin_81 ?_
    refine aw_goto (t := 28) hX (by decide) d_X10_begin_84 ?_
    cases e_1505
    exact kI (y8.1, s.2 + 1) _ _ rfl
theorem ti_X10_begin_28 {g : GP} {X : MX} {mcR msR : Nat} (hF : gF g = true) (hX : Cx g RX10 cX10_begin 3 mcR msR none [] X) {Q : State → Prop} {y : Unit} {hz : AH} (kE0 : ∀ (y_0 : Value) (y_1 : Value) (y_2 : Value) (y_3 : Value) (y_4 : Value), AR g X 0 0 Q hz 87 [y_0, y_1, y_2, y_3, y_4] []) (n : Nat) : ∀ (s : (Int32 × Int32)) (d1 : Value) (d4 : Value) (h : AH), lpH (l_X10_begin_28) n s h = some (y, hz) → AR g X 0 0 Q h 28 [.ref 240, d1, .int s.1, .int s.2, d4] [] := by
  induction n with
  | zero => intro s d1 d4 h e; cases e
  | succ n ih =>
    intro s d1 d4 h e
    obtain ⟨x, h1, e1, e2⟩ := lpH_succ e
    rcases e2 with ⟨s2, rfl, e3⟩ | ⟨rfl, rfl⟩
    · exact tb_X10_begin_28 hF hX e1 (fun s3 x0 x1 hs => by cases hs; exact ih _ _ _ _ e3) (fun yy x0 x1 x2 x3 x4 hy => by cases hy)
    · exact tb_X10_begin_28 hF hX e1 (fun s3 x0 x1 hs => by cases hs) (fun yy x0 x1 x2 x3 x4 hy => by cases hy; exact kE0 x0 x1 x2 x3 x4)
theorem t_X10_begin_28 {g : GP} {X : MX} {mcR msR : Nat} (hF : gF g = true) (hX : Cx g RX10 cX10_begin 3 mcR msR none [] X) {Q : State → Prop} {s : (Int32 × Int32)} {d1 : Value} {d4 : Value} {h hz : AH} {n : Nat} {y : Unit} (e : lpH (l_X10_begin_28) n s h = some (y, hz)) (kE0 : ∀ (y_0 : Value) (y_1 : Value) (y_2 : Value) (y_3 : Value) (y_4 : Value), AR g X 0 0 Q hz 87 [y_0, y_1, y_2, y_3, y_4] []) : AR g X 0 0 Q h 28 [.ref 240, d1, .int s.1, .int s.2, d4] [] := ti_X10_begin_28 hF hX kE0 n _ _ _ _ e
def s_X10_begin (a0 : Int32) (h : AH) : Option (Unit × AH) := bd (stI (sI (sI h 240 0 0) 240 58 1) 269 0 0) fun m1 => bd (stI m1 269 1 a0) fun m2 => bd (lpH (l_X10_begin_28) FU (0, 0) m2) fun y10 => some ((), y10.2)
theorem t_X10_begin {g : GP} {X : MX} {mcR msR : Nat} (hF : gF g = true) (hX : Cx g RX10 cX10_begin 3 mcR msR none [] X) {a0 : Int32} {h hz : AH} {z : Unit} (e : s_X10_begin a0 h = some (z, hz)) : AR g X 0 0 (QQ g X NT false hz (.inl none) 0 0) h 0 [.ref 240, .int a0, jk, jk, jk] [] := by
  unfold s_X10_begin at e
  refine aw_aload_n (i := 0) hX rfl rfl d_X10_begin_0 ?_
  refine aw_iconst (v := 0) hX (by decide) d_X10_begin_1 ?_
  refine ar_putI hX fp_RX10_133 rfl d_X10_begin_2 ?_
  refine aw_aload_n (i := 0) hX rfl rfl d_X10_begin_5 ?_
  refine aw_iconst (v := 1) hX (by decide) d_X10_begin_6 ?_
  refine ar_putZ hX fp_RX10_282 rfl (by decide) d_X10_begin_7 ?_
  refine aw_aload_n (i := 0) hX rfl rfl d_X10_begin_10 ?_
  refine ar_getF hX hF fg_RX10_109 rfl d_X10_begin_11 ?_
  show AR g X 0 0 _ _ 14 _ [.ref 269]
  refine aw_iconst (v := 0) hX (by decide) d_X10_begin_14 ?_
  refine aw_iconst (v := 0) hX (by decide) d_X10_begin_15 ?_
  obtain ⟨m1, f_1506, e_1506⟩ := bd_some e
  clear e
  refine ar_iastore hX f_1506 d_X10_begin_16 ?_
  refine aw_aload_n (i := 0) hX rfl rfl d_X10_begin_17 ?_
  refine ar_getF hX hF fg_RX10_109 rfl d_X10_begin_18 ?_
  show AR g X 0 0 _ _ 21 _ [.ref 269]
  refine aw_iconst (v := 1) hX (by decide) d_X10_begin_21 ?_
  refine aw_iload_n (i := 1) hX rfl rfl d_X10_begin_22 ?_
  obtain ⟨m2, f_1507, e_1507⟩ := bd_some e_1506
  clear e_1506
  refine ar_iastore hX f_1507 d_X10_begin_23 ?_
  refine aw_iconst (v := 0) hX (by decide) d_X10_begin_24 ?_
  refine aw_istore_n (i := 2) (lv2 := [.ref 240, .int a0, .int 0, jk, jk]) hX rfl rfl rfl d_X10_begin_25 ?_
  refine aw_iconst (v := 0) hX (by decide) d_X10_begin_26 ?_
  refine aw_istore_n (i := 3) (lv2 := [.ref 240, .int a0, .int 0, .int 0, jk]) hX rfl rfl rfl d_X10_begin_27 ?_
  obtain ⟨y10, f_1508, e_1508⟩ := bd_some e_1507
  clear e_1507
  refine t_X10_begin_28 hF hX f_1508 (fun d11_0 d11_1 d11_2 d11_3 d11_4 => ?_)
  cases e_1508
  exact aw_return hX (Nat.zero_le _) (Nat.zero_le _) d_X10_begin_87
theorem k_X10_begin {g : GP} (hg : g.1.stackTraces = false) (hF : gF g = true) {a0 : Int32} {h hz : AH} {z : Unit} (e : s_X10_begin a0 h = some (z, hz)) : Ctr g yX10_begin (wsY yX10_begin cX10_begin 5 none) 3 0 0 [.ref 240, .int a0] NT false h none NT false hz := ctr_of (lv0 := [.ref 240, .int a0, jk, jk, jk]) rfl rfl (by decide) hg trivial (fun X hX hn => t_X10_begin hF hX e)
theorem d_X10_draw_0 : decode cX10_draw 0 = .ok (.aload_n 0, 1) := by decide +kernel
theorem d_X10_draw_1 : decode cX10_draw 1 = .ok (.getfield 109, 3) := by decide +kernel
theorem d_X10_draw_4 : decode cX10_draw 4 = .ok (.iconst 1, 1) := by decide +kernel
theorem d_X10_draw_5 : decode cX10_draw 5 = .ok (.aload_n 0, 1) := by decide +kernel
theorem d_X10_draw_6 : decode cX10_draw 6 = .ok (.getfield 109, 3) := by decide +kernel
theorem d_X10_draw_9 : decode cX10_draw 9 = .ok (.iconst 1, 1) := by decide +kernel
theorem d_X10_draw_10 : decode cX10_draw 10 = .ok (.iaload, 1) := by decide +kernel
theorem d_X10_draw_11 : decode cX10_draw 11 = .ok (.ldc_w 401, 3) := by decide +kernel
theorem d_X10_draw_14 : decode cX10_draw 14 = .ok (.imul, 1) := by decide +kernel
theorem d_X10_draw_15 : decode cX10_draw 15 = .ok (.sipush 12345, 3) := by decide +kernel
theorem d_X10_draw_18 : decode cX10_draw 18 = .ok (.iadd, 1) := by decide +kernel
theorem d_X10_draw_19 : decode cX10_draw 19 = .ok (.iastore, 1) := by decide +kernel
theorem d_X10_draw_20 : decode cX10_draw 20 = .ok (.aload_n 0, 1) := by decide +kernel
theorem d_X10_draw_21 : decode cX10_draw 21 = .ok (.getfield 109, 3) := by decide +kernel
theorem d_X10_draw_24 : decode cX10_draw 24 = .ok (.iconst 1, 1) := by decide +kernel
theorem d_X10_draw_25 : decode cX10_draw 25 = .ok (.iaload, 1) := by decide +kernel
theorem d_X10_draw_26 : decode cX10_draw 26 = .ok (.bipush 16, 2) := by decide +kernel
theorem d_X10_draw_28 : decode cX10_draw 28 = .ok (.ishr, 1) := by decide +kernel
theorem d_X10_draw_29 : decode cX10_draw 29 = .ok (.sipush 32767, 3) := by decide +kernel
theorem d_X10_draw_32 : decode cX10_draw 32 = .ok (.iand, 1) := by decide +kernel
theorem d_X10_draw_33 : decode cX10_draw 33 = .ok (.iload_n 1, 1) := by decide +kernel
theorem d_X10_draw_34 : decode cX10_draw 34 = .ok (.irem, 1) := by decide +kernel
theorem d_X10_draw_35 : decode cX10_draw 35 = .ok (.ireturn, 1) := by decide +kernel
def s_X10_draw (a0 : Int32) (h : AH) : Option (Int32 × AH) := bd (ldI h 269 1) fun x1 => bd (stI h 269 1 ((x1 * 1103515245) + 12345)) fun m2 => bd (ldI m2 269 1) fun x3 => bd (iremF ((x3 >>> (16 &&& 31)) &&& 32767) a0) fun x4 => some (x4, m2)
theorem t_X10_draw {g : GP} {X : MX} {mcR msR : Nat} (hF : gF g = true) (hX : Cx g RX10 cX10_draw 1 mcR msR (some .int) [] X) {a0 : Int32} {h hz : AH} {z : Int32} (e : s_X10_draw a0 h = some (z, hz)) : AR g X 0 0 (QQ g X NT false hz (.inl (some (.int z))) 0 0) h 0 [.ref 240, .int a0] [] := by
  unfold s_X10_draw at e
  refine aw_aload_n (i := 0) hX rfl rfl d_X10_draw_0 ?_
  refine ar_getF hX hF fg_RX10_109 rfl d_X10_draw_1 ?_
  show AR g X 0 0 _ _ 4 _ [.ref 269]
  refine aw_iconst (v := 1) hX (by decide) d_X10_draw_4 ?_
  refine aw_aload_n (i := 0) hX rfl rfl d_X10_draw_5 ?_
  refine ar_getF hX hF fg_RX10_109 rfl d_X10_draw_6 ?_
  show AR g X 0 0 _ _ 9 _ [.ref 269, .int 1, .ref 269]
  refine aw_iconst (v := 1) hX (by decide) d_X10_draw_9 ?_
  obtain ⟨x1, f_1509, e_1509⟩ := bd_some e
  clear e
  refine ar_iaload hX f_1509 d_X10_draw_10 ?_
  refine aw_ldc_w hX w_890 d_X10_draw_11 ?_
  refine aw_imul hX d_X10_draw_14 ?_
  refine aw_sipush (v := 12345) hX (by decide) d_X10_draw_15 ?_
  refine aw_iadd hX d_X10_draw_18 ?_
  obtain ⟨m2, f_1510, e_1510⟩ := bd_some e_1509
  clear e_1509
  refine ar_iastore hX f_1510 d_X10_draw_19 ?_
  refine aw_aload_n (i := 0) hX rfl rfl d_X10_draw_20 ?_
  refine ar_getF hX hF fg_RX10_109 rfl d_X10_draw_21 ?_
  show AR g X 0 0 _ _ 24 _ [.ref 269]
  refine aw_iconst (v := 1) hX (by decide) d_X10_draw_24 ?_
  obtain ⟨x3, f_1511, e_1511⟩ := bd_some e_1510
  clear e_1510
  refine ar_iaload hX f_1511 d_X10_draw_25 ?_
  refine aw_bipush (v := 16) hX (by decide) d_X10_draw_26 ?_
  refine aw_ishr hX d_X10_draw_28 ?_
  refine aw_sipush (v := 32767) hX (by decide) d_X10_draw_29 ?_
  refine aw_iand hX d_X10_draw_32 ?_
  refine aw_iload_n (i := 1) hX rfl rfl d_X10_draw_33 ?_
  obtain ⟨x4, f_1512, e_1512⟩ := bd_some e_1511
  clear e_1511
  refine ar_irem hX f_1512 d_X10_draw_34 ?_
  cases e_1512
  exact aw_ireturn hX (Nat.zero_le _) (Nat.zero_le _) d_X10_draw_35
theorem k_X10_draw {g : GP} (hg : g.1.stackTraces = false) (hF : gF g = true) {a0 : Int32} {h hz : AH} {z : Int32} (e : s_X10_draw a0 h = some (z, hz)) : Ctr g yX10_draw (wsY yX10_draw cX10_draw 2 (some .int)) 1 0 0 [.ref 240, .int a0] NT false h (some (.int z)) NT false hz := ctr_of (lv0 := [.ref 240, .int a0]) rfl rfl (by decide) hg trivial (fun X hX hn => t_X10_draw hF hX e)
theorem d_X10_oneEvening_0 : decode cX10_oneEvening 0 = .ok (.iconst 0, 1) := by decide +kernel
theorem d_X10_oneEvening_1 : decode cX10_oneEvening 1 = .ok (.istore_n 2, 1) := by decide +kernel
theorem d_X10_oneEvening_2 : decode cX10_oneEvening 2 = .ok (.iload_n 2, 1) := by decide +kernel
theorem d_X10_oneEvening_3 : decode cX10_oneEvening 3 = .ok (.bipush 10, 2) := by decide +kernel
theorem d_X10_oneEvening_5 : decode cX10_oneEvening 5 = .ok (.if_icmp .ge 21, 3) := by decide +kernel
theorem d_X10_oneEvening_8 : decode cX10_oneEvening 8 = .ok (.aload_n 0, 1) := by decide +kernel
theorem d_X10_oneEvening_9 : decode cX10_oneEvening 9 = .ok (.getfield 127, 3) := by decide +kernel
theorem d_X10_oneEvening_12 : decode cX10_oneEvening 12 = .ok (.bipush 10, 2) := by decide +kernel
theorem d_X10_oneEvening_14 : decode cX10_oneEvening 14 = .ok (.iload_n 1, 1) := by decide +kernel
theorem d_X10_oneEvening_15 : decode cX10_oneEvening 15 = .ok (.imul, 1) := by decide +kernel
theorem d_X10_oneEvening_16 : decode cX10_oneEvening 16 = .ok (.iload_n 2, 1) := by decide +kernel
theorem d_X10_oneEvening_17 : decode cX10_oneEvening 17 = .ok (.iadd, 1) := by decide +kernel
theorem d_X10_oneEvening_18 : decode cX10_oneEvening 18 = .ok (.iconst 0, 1) := by decide +kernel
theorem d_X10_oneEvening_19 : decode cX10_oneEvening 19 = .ok (.iastore, 1) := by decide +kernel
theorem d_X10_oneEvening_20 : decode cX10_oneEvening 20 = .ok (.iinc 2 1, 3) := by decide +kernel
theorem d_X10_oneEvening_23 : decode cX10_oneEvening 23 = .ok (.goto (-21), 3) := by decide +kernel
theorem d_X10_oneEvening_26 : decode cX10_oneEvening 26 = .ok (.aload_n 0, 1) := by decide +kernel
theorem d_X10_oneEvening_27 : decode cX10_oneEvening 27 = .ok (.sipush 1000, 3) := by decide +kernel
theorem d_X10_oneEvening_30 : decode cX10_oneEvening 30 = .ok (.invokevirtual 402, 3) := by decide +kernel
theorem d_X10_oneEvening_33 : decode cX10_oneEvening 33 = .ok (.aload_n 0, 1) := by decide +kernel
theorem d_X10_oneEvening_34 : decode cX10_oneEvening 34 = .ok (.getfield 13, 3) := by decide +kernel
theorem d_X10_oneEvening_37 : decode cX10_oneEvening 37 = .ok (.iconst 4, 1) := by decide +kernel
theorem d_X10_oneEvening_38 : decode cX10_oneEvening 38 = .ok (.iload_n 1, 1) := by decide +kernel
theorem d_X10_oneEvening_39 : decode cX10_oneEvening 39 = .ok (.imul, 1) := by decide +kernel
theorem d_X10_oneEvening_40 : decode cX10_oneEvening 40 = .ok (.iconst 2, 1) := by decide +kernel
theorem d_X10_oneEvening_41 : decode cX10_oneEvening 41 = .ok (.iadd, 1) := by decide +kernel
theorem d_X10_oneEvening_42 : decode cX10_oneEvening 42 = .ok (.iaload, 1) := by decide +kernel
theorem d_X10_oneEvening_43 : decode cX10_oneEvening 43 = .ok (.if_icmp .ge 7, 3) := by decide +kernel
theorem d_X10_oneEvening_46 : decode cX10_oneEvening 46 = .ok (.iconst 1, 1) := by decide +kernel
theorem d_X10_oneEvening_47 : decode cX10_oneEvening 47 = .ok (.goto 4, 3) := by decide +kernel
theorem d_X10_oneEvening_50 : decode cX10_oneEvening 50 = .ok (.iconst 0, 1) := by decide +kernel
theorem d_X10_oneEvening_51 : decode cX10_oneEvening 51 = .ok (.istore_n 2, 1) := by decide +kernel
theorem d_X10_oneEvening_52 : decode cX10_oneEvening 52 = .ok (.iconst 0, 1) := by decide +kernel
theorem d_X10_oneEvening_53 : decode cX10_oneEvening 53 = .ok (.istore_n 3, 1) := by decide +kernel
theorem d_X10_oneEvening_54 : decode cX10_oneEvening 54 = .ok (.iconst 0, 1) := by decide +kernel
theorem d_X10_oneEvening_55 : decode cX10_oneEvening 55 = .ok (.istore 4, 2) := by decide +kernel
theorem d_X10_oneEvening_57 : decode cX10_oneEvening 57 = .ok (.iload 4, 2) := by decide +kernel
theorem d_X10_oneEvening_59 : decode cX10_oneEvening 59 = .ok (.aload_n 0, 1) := by decide +kernel
theorem d_X10_oneEvening_60 : decode cX10_oneEvening 60 = .ok (.getfield 265, 3) := by decide +kernel
theorem d_X10_oneEvening_63 : decode cX10_oneEvening 63 = .ok (.if_icmp .ge 281, 3) := by decide +kernel
theorem d_X10_oneEvening_66 : decode cX10_oneEvening 66 = .ok (.aload_n 0, 1) := by decide +kernel
theorem d_X10_oneEvening_67 : decode cX10_oneEvening 67 = .ok (.iload 4, 2) := by decide +kernel
theorem d_X10_oneEvening_69 : decode cX10_oneEvening 69 = .ok (.invokevirtual 347, 3) := by decide +kernel
theorem d_X10_oneEvening_72 : decode cX10_oneEvening 72 = .ok (.istore 5, 2) := by decide +kernel
theorem d_X10_oneEvening_74 : decode cX10_oneEvening 74 = .ok (.aload_n 0, 1) := by decide +kernel
theorem d_X10_oneEvening_75 : decode cX10_oneEvening 75 = .ok (.iload 4, 2) := by decide +kernel
theorem d_X10_oneEvening_77 : decode cX10_oneEvening 77 = .ok (.iload 5, 2) := by decide +kernel
theorem d_X10_oneEvening_79 : decode cX10_oneEvening 79 = .ok (.iconst 1, 1) := by decide +kernel
theorem d_X10_oneEvening_80 : decode cX10_oneEvening 80 = .ok (.invokevirtual 333, 3) := by decide +kernel
theorem d_X10_oneEvening_83 : decode cX10_oneEvening 83 = .ok (.iload_n 2, 1) := by decide +kernel
theorem d_X10_oneEvening_84 : decode cX10_oneEvening 84 = .ok (.ifCond .eq 29, 3) := by decide +kernel
theorem d_X10_oneEvening_87 : decode cX10_oneEvening 87 = .ok (.aload_n 0, 1) := by decide +kernel
theorem d_X10_oneEvening_88 : decode cX10_oneEvening 88 = .ok (.iload 4, 2) := by decide +kernel
theorem d_X10_oneEvening_90 : decode cX10_oneEvening 90 = .ok (.iconst 1, 1) := by decide +kernel
theorem d_X10_oneEvening_91 : decode cX10_oneEvening 91 = .ok (.invokevirtual 292, 3) := by decide +kernel
theorem d_X10_oneEvening_94 : decode cX10_oneEvening 94 = .ok (.sipush 1000, 3) := by decide +kernel
theorem d_X10_oneEvening_97 : decode cX10_oneEvening 97 = .ok (.aload_n 0, 1) := by decide +kernel
theorem d_X10_oneEvening_98 : decode cX10_oneEvening 98 = .ok (.iload 4, 2) := by decide +kernel
theorem d_X10_oneEvening_100 : decode cX10_oneEvening 100 = .ok (.iconst 3, 1) := by decide +kernel
theorem d_X10_oneEvening_101 : decode cX10_oneEvening 101 = .ok (.invokevirtual 292, 3) := by decide +kernel
theorem d_X10_oneEvening_104 : decode cX10_oneEvening 104 = .ok (.isub, 1) := by decide +kernel
theorem d_X10_oneEvening_105 : decode cX10_oneEvening 105 = .ok (.imul, 1) := by decide +kernel
theorem d_X10_oneEvening_106 : decode cX10_oneEvening 106 = .ok (.sipush 1000, 3) := by decide +kernel
theorem d_X10_oneEvening_109 : decode cX10_oneEvening 109 = .ok (.idiv, 1) := by decide +kernel
theorem d_X10_oneEvening_110 : decode cX10_oneEvening 110 = .ok (.goto 10, 3) := by decide +kernel
theorem d_X10_oneEvening_113 : decode cX10_oneEvening 113 = .ok (.aload_n 0, 1) := by decide +kernel
theorem d_X10_oneEvening_114 : decode cX10_oneEvening 114 = .ok (.iload 4, 2) := by decide +kernel
theorem d_X10_oneEvening_116 : decode cX10_oneEvening 116 = .ok (.iconst 1, 1) := by decide +kernel
theorem d_X10_oneEvening_117 : decode cX10_oneEvening 117 = .ok (.invokevirtual 292, 3) := by decide +kernel
theorem d_X10_oneEvening_120 : decode cX10_oneEvening 120 = .ok (.istore 6, 2) := by decide +kernel
theorem d_X10_oneEvening_122 : decode cX10_oneEvening 122 = .ok (.iconst 0, 1) := by decide +kernel
theorem d_X10_oneEvening_123 : decode cX10_oneEvening 123 = .ok (.istore 7, 2) := by decide +kernel
theorem d_X10_oneEvening_125 : decode cX10_oneEvening 125 = .ok (.iload 7, 2) := by decide +kernel
theorem d_X10_oneEvening_127 : decode cX10_oneEvening 127 = .ok (.aload_n 0, 1) := by decide +kernel
theorem d_X10_oneEvening_128 : decode cX10_oneEvening 128 = .ok (.iload 4, 2) := by decide +kernel
theorem d_X10_oneEvening_130 : decode cX10_oneEvening 130 = .ok (.iconst 0, 1) := by decide +kernel
theorem d_X10_oneEvening_131 : decode cX10_oneEvening 131 = .ok (.invokevirtual 292, 3) := by decide +kernel
theorem d_X10_oneEvening_134 : decode cX10_oneEvening 134 = .ok (.if_icmp .ge 204, 3) := by decide +kernel
theorem d_X10_oneEvening_137 : decode cX10_oneEvening 137 = .ok (.aload_n 0, 1) := by decide +kernel
theorem d_X10_oneEvening_138 : decode cX10_oneEvening 138 = .ok (.sipush 1000, 3) := by decide +kernel
theorem d_X10_oneEvening_141 : decode cX10_oneEvening 141 = .ok (.invokevirtual 402, 3) := by decide +kernel
theorem d_X10_oneEvening_144 : decode cX10_oneEvening 144 = .ok (.iload 6, 2) := by decide +kernel
theorem d_X10_oneEvening_146 : decode cX10_oneEvening 146 = .ok (.if_icmp .ge 7, 3) := by decide +kernel
theorem d_X10_oneEvening_149 : decode cX10_oneEvening 149 = .ok (.iconst 1, 1) := by decide +kernel
theorem d_X10_oneEvening_150 : decode cX10_oneEvening 150 = .ok (.goto 4, 3) := by decide +kernel
theorem d_X10_oneEvening_153 : decode cX10_oneEvening 153 = .ok (.iconst 0, 1) := by decide +kernel
theorem d_X10_oneEvening_154 : decode cX10_oneEvening 154 = .ok (.istore 8, 2) := by decide +kernel
theorem d_X10_oneEvening_156 : decode cX10_oneEvening 156 = .ok (.aload_n 0, 1) := by decide +kernel
theorem d_X10_oneEvening_157 : decode cX10_oneEvening 157 = .ok (.getfield 50, 3) := by decide +kernel
theorem d_X10_oneEvening_160 : decode cX10_oneEvening 160 = .ok (.iload_n 1, 1) := by decide +kernel
theorem d_X10_oneEvening_161 : decode cX10_oneEvening 161 = .ok (.aload_n 0, 1) := by decide +kernel
theorem d_X10_oneEvening_162 : decode cX10_oneEvening 162 = .ok (.getfield 115, 3) := by decide +kernel
theorem d_X10_oneEvening_165 : decode cX10_oneEvening 165 = .ok (.iload_n 3, 1) := by decide +kernel
theorem d_X10_oneEvening_166 : decode cX10_oneEvening 166 = .ok (.iaload, 1) := by decide +kernel
theorem d_X10_oneEvening_167 : decode cX10_oneEvening 167 = .ok (.aload_n 0, 1) := by decide +kernel
theorem d_X10_oneEvening_168 : decode cX10_oneEvening 168 = .ok (.getfield 118, 3) := by decide +kernel
theorem d_X10_oneEvening_171 : decode cX10_oneEvening 171 = .ok (.iload_n 3, 1) := by decide +kernel
theorem d_X10_oneEvening_172 : decode cX10_oneEvening 172 = .ok (.iaload, 1) := by decide +kernel
theorem d_X10_oneEvening_173 : decode cX10_oneEvening 173 = .ok (.invokestatic 316, 3) := by decide +kernel
theorem d_X10_oneEvening_176 : decode cX10_oneEvening 176 = .ok (.baload, 1) := by decide +kernel
theorem d_X10_oneEvening_177 : decode cX10_oneEvening 177 = .ok (.istore 9, 2) := by decide +kernel
theorem d_X10_oneEvening_179 : decode cX10_oneEvening 179 = .ok (.iload 8, 2) := by decide +kernel
theorem d_X10_oneEvening_181 : decode cX10_oneEvening 181 = .ok (.ifCond .eq 44, 3) := by decide +kernel
theorem d_X10_oneEvening_184 : decode cX10_oneEvening 184 = .ok (.iload 9, 2) := by decide +kernel
theorem d_X10_oneEvening_186 : decode cX10_oneEvening 186 = .ok (.ifCond .ne 39, 3) := by decide +kernel
theorem d_X10_oneEvening_189 : decode cX10_oneEvening 189 = .ok (.iload 5, 2) := by decide +kernel
theorem d_X10_oneEvening_191 : decode cX10_oneEvening 191 = .ok (.iconst 1, 1) := by decide +kernel
theorem d_X10_oneEvening_192 : decode cX10_oneEvening 192 = .ok (.if_icmp .eq 9, 3) := by decide +kernel
theorem d_X10_oneEvening_195 : decode cX10_oneEvening 195 = .ok (.iload 5, 2) := by decide +kernel
theorem d_X10_oneEvening_197 : decode cX10_oneEvening 197 = .ok (.iconst 4, 1) := by decide +kernel
theorem d_X10_oneEvening_198 : decode cX10_oneEvening 198 = .ok (.if_icmp .ne 24, 3) := by decide +kernel
theorem d_X10_oneEvening_201 : decode cX10_oneEvening 201 = .ok (.aload_n 0, 1) := by decide +kernel
theorem d_X10_oneEvening_202 : decode cX10_oneEvening 202 = .ok (.sipush 1000, 3) := by decide +kernel
theorem d_X10_oneEvening_205 : decode cX10_oneEvening 205 = .ok (.invokevirtual 402, 3) := by decide +kernel
theorem d_X10_oneEvening_208 : decode cX10_oneEvening 208 = .ok (.aload_n 0, 1) := by decide +kernel
theorem d_X10_oneEvening_209 : decode cX10_oneEvening 209 = .ok (.iload 4, 2) := by decide +kernel
theorem d_X10_oneEvening_211 : decode cX10_oneEvening 211 = .ok (.iconst 4, 1) := by decide +kernel
theorem d_X10_oneEvening_212 : decode cX10_oneEvening 212 = .ok (.invokevirtual 292, 3) := by decide +kernel
theorem d_X10_oneEvening_215 : decode cX10_oneEvening 215 = .ok (.if_icmp .ge 7, 3) := by decide +kernel
theorem d_X10_oneEvening_218 : decode cX10_oneEvening 218 = .ok (.iconst 1, 1) := by decide +kernel
theorem d_X10_oneEvening_219 : decode cX10_oneEvening 219 = .ok (.goto 4, 3) := by decide +kernel
theorem d_X10_oneEvening_222 : decode cX10_oneEvening 222 = .ok (.iconst 0, 1) := by decide +kernel
theorem d_X10_oneEvening_223 : decode cX10_oneEvening 223 = .ok (.istore 8, 2) := by decide +kernel
theorem d_X10_oneEvening_225 : decode cX10_oneEvening 225 = .ok (.iload 8, 2) := by decide +kernel
theorem d_X10_oneEvening_227 : decode cX10_oneEvening 227 = .ok (.ifCond .eq 102, 3) := by decide +kernel
theorem d_X10_oneEvening_230 : decode cX10_oneEvening 230 = .ok (.aload_n 0, 1) := by decide +kernel
theorem d_X10_oneEvening_231 : decode cX10_oneEvening 231 = .ok (.getfield 118, 3) := by decide +kernel
theorem d_X10_oneEvening_234 : decode cX10_oneEvening 234 = .ok (.iload_n 3, 1) := by decide +kernel
theorem d_X10_oneEvening_235 : decode cX10_oneEvening 235 = .ok (.dup2, 1) := by decide +kernel
theorem d_X10_oneEvening_236 : decode cX10_oneEvening 236 = .ok (.iaload, 1) := by decide +kernel
theorem d_X10_oneEvening_237 : decode cX10_oneEvening 237 = .ok (.iconst 1, 1) := by decide +kernel
theorem d_X10_oneEvening_238 : decode cX10_oneEvening 238 = .ok (.iadd, 1) := by decide +kernel
theorem d_X10_oneEvening_239 : decode cX10_oneEvening 239 = .ok (.iastore, 1) := by decide +kernel
theorem d_X10_oneEvening_240 : decode cX10_oneEvening 240 = .ok (.aload_n 0, 1) := by decide +kernel
theorem d_X10_oneEvening_241 : decode cX10_oneEvening 241 = .ok (.getfield 115, 3) := by decide +kernel
theorem d_X10_oneEvening_244 : decode cX10_oneEvening 244 = .ok (.iload_n 3, 1) := by decide +kernel
theorem d_X10_oneEvening_245 : decode cX10_oneEvening 245 = .ok (.dup2, 1) := by decide +kernel
theorem d_X10_oneEvening_246 : decode cX10_oneEvening 246 = .ok (.iaload, 1) := by decide +kernel
theorem d_X10_oneEvening_247 : decode cX10_oneEvening 247 = .ok (.iload 9, 2) := by decide +kernel
theorem d_X10_oneEvening_249 : decode cX10_oneEvening 249 = .ok (.ifCond .eq 13, 3) := by decide +kernel
theorem d_X10_oneEvening_252 : decode cX10_oneEvening 252 = .ok (.iload 5, 2) := by decide +kernel
theorem d_X10_oneEvening_254 : decode cX10_oneEvening 254 = .ok (.iconst 2, 1) := by decide +kernel
theorem d_X10_oneEvening_255 : decode cX10_oneEvening 255 = .ok (.if_icmp .ne 7, 3) := by decide +kernel
theorem d_X10_oneEvening_258 : decode cX10_oneEvening 258 = .ok (.iconst 1, 1) := by decide +kernel
theorem d_X10_oneEvening_259 : decode cX10_oneEvening 259 = .ok (.goto 4, 3) := by decide +kernel
theorem d_X10_oneEvening_262 : decode cX10_oneEvening 262 = .ok (.iconst 0, 1) := by decide +kernel
theorem d_X10_oneEvening_263 : decode cX10_oneEvening 263 = .ok (.isub, 1) := by decide +kernel
theorem d_X10_oneEvening_264 : decode cX10_oneEvening 264 = .ok (.iastore, 1) := by decide +kernel
theorem d_X10_oneEvening_265 : decode cX10_oneEvening 265 = .ok (.aload_n 0, 1) := by decide +kernel
theorem d_X10_oneEvening_266 : decode cX10_oneEvening 266 = .ok (.getfield 127, 3) := by decide +kernel
theorem d_X10_oneEvening_269 : decode cX10_oneEvening 269 = .ok (.bipush 10, 2) := by decide +kernel
theorem d_X10_oneEvening_271 : decode cX10_oneEvening 271 = .ok (.iload_n 1, 1) := by decide +kernel
theorem d_X10_oneEvening_272 : decode cX10_oneEvening 272 = .ok (.imul, 1) := by decide +kernel
theorem d_X10_oneEvening_273 : decode cX10_oneEvening 273 = .ok (.dup2, 1) := by decide +kernel
theorem d_X10_oneEvening_274 : decode cX10_oneEvening 274 = .ok (.iaload, 1) := by decide +kernel
theorem d_X10_oneEvening_275 : decode cX10_oneEvening 275 = .ok (.iconst 1, 1) := by decide +kernel
theorem d_X10_oneEvening_276 : decode cX10_oneEvening 276 = .ok (.iadd, 1) := by decide +kernel
theorem d_X10_oneEvening_277 : decode cX10_oneEvening 277 = .ok (.iastore, 1) := by decide +kernel
theorem d_X10_oneEvening_278 : decode cX10_oneEvening 278 = .ok (.aload_n 0, 1) := by decide +kernel
theorem d_X10_oneEvening_279 : decode cX10_oneEvening 279 = .ok (.getfield 127, 3) := by decide +kernel
theorem d_X10_oneEvening_282 : decode cX10_oneEvening 282 = .ok (.bipush 10, 2) := by decide +kernel
theorem d_X10_oneEvening_284 : decode cX10_oneEvening 284 = .ok (.iload_n 1, 1) := by decide +kernel
theorem d_X10_oneEvening_285 : decode cX10_oneEvening 285 = .ok (.imul, 1) := by decide +kernel
theorem d_X10_oneEvening_286 : decode cX10_oneEvening 286 = .ok (.iconst 2, 1) := by decide +kernel
theorem d_X10_oneEvening_287 : decode cX10_oneEvening 287 = .ok (.iadd, 1) := by decide +kernel
theorem d_X10_oneEvening_288 : decode cX10_oneEvening 288 = .ok (.dup2, 1) := by decide +kernel
theorem d_X10_oneEvening_289 : decode cX10_oneEvening 289 = .ok (.iaload, 1) := by decide +kernel
theorem d_X10_oneEvening_290 : decode cX10_oneEvening 290 = .ok (.iload 5, 2) := by decide +kernel
theorem d_X10_oneEvening_292 : decode cX10_oneEvening 292 = .ok (.ifCond .ne 16, 3) := by decide +kernel
theorem d_X10_oneEvening_295 : decode cX10_oneEvening 295 = .ok (.aload_n 0, 1) := by decide +kernel
theorem d_X10_oneEvening_296 : decode cX10_oneEvening 296 = .ok (.getfield 13, 3) := by decide +kernel
theorem d_X10_oneEvening_299 : decode cX10_oneEvening 299 = .ok (.iconst 4, 1) := by decide +kernel
theorem d_X10_oneEvening_300 : decode cX10_oneEvening 300 = .ok (.iload_n 1, 1) := by decide +kernel
theorem d_X10_oneEvening_301 : decode cX10_oneEvening 301 = .ok (.imul, 1) := by decide +kernel
theorem d_X10_oneEvening_302 : decode cX10_oneEvening 302 = .ok (.iconst 1, 1) := by decide +kernel
theorem d_X10_oneEvening_303 : decode cX10_oneEvening 303 = .ok (.iadd, 1) := by decide +kernel
theorem d_X10_oneEvening_304 : decode cX10_oneEvening 304 = .ok (.iaload, 1) := by decide +kernel
theorem d_X10_oneEvening_305 : decode cX10_oneEvening 305 = .ok (.goto 4, 3) := by decide +kernel
theorem d_X10_oneEvening_308 : decode cX10_oneEvening 308 = .ok (.iconst 0, 1) := by decide +kernel
theorem d_X10_oneEvening_309 : decode cX10_oneEvening 309 = .ok (.iadd, 1) := by decide +kernel
theorem d_X10_oneEvening_310 : decode cX10_oneEvening 310 = .ok (.iastore, 1) := by decide +kernel
theorem d_X10_oneEvening_311 : decode cX10_oneEvening 311 = .ok (.aload_n 0, 1) := by decide +kernel
theorem d_X10_oneEvening_312 : decode cX10_oneEvening 312 = .ok (.getfield 127, 3) := by decide +kernel
theorem d_X10_oneEvening_315 : decode cX10_oneEvening 315 = .ok (.bipush 10, 2) := by decide +kernel
theorem d_X10_oneEvening_317 : decode cX10_oneEvening 317 = .ok (.iload_n 1, 1) := by decide +kernel
theorem d_X10_oneEvening_318 : decode cX10_oneEvening 318 = .ok (.imul, 1) := by decide +kernel
theorem d_X10_oneEvening_319 : decode cX10_oneEvening 319 = .ok (.iconst 4, 1) := by decide +kernel
theorem d_X10_oneEvening_320 : decode cX10_oneEvening 320 = .ok (.iadd, 1) := by decide +kernel
theorem d_X10_oneEvening_321 : decode cX10_oneEvening 321 = .ok (.iload 4, 2) := by decide +kernel
theorem d_X10_oneEvening_323 : decode cX10_oneEvening 323 = .ok (.iadd, 1) := by decide +kernel
theorem d_X10_oneEvening_324 : decode cX10_oneEvening 324 = .ok (.dup2, 1) := by decide +kernel
theorem d_X10_oneEvening_325 : decode cX10_oneEvening 325 = .ok (.iaload, 1) := by decide +kernel
theorem d_X10_oneEvening_326 : decode cX10_oneEvening 326 = .ok (.iconst 1, 1) := by decide +kernel
theorem d_X10_oneEvening_327 : decode cX10_oneEvening 327 = .ok (.iadd, 1) := by decide +kernel
theorem d_X10_oneEvening_328 : decode cX10_oneEvening 328 = .ok (.iastore, 1) := by decide +kernel
theorem d_X10_oneEvening_329 : decode cX10_oneEvening 329 = .ok (.iinc 3 1, 3) := by decide +kernel
theorem d_X10_oneEvening_332 : decode cX10_oneEvening 332 = .ok (.iinc 7 1, 3) := by decide +kernel
theorem d_X10_oneEvening_335 : decode cX10_oneEvening 335 = .ok (.goto (-210), 3) := by decide +kernel
theorem d_X10_oneEvening_338 : decode cX10_oneEvening 338 = .ok (.iinc 4 1, 3) := by decide +kernel
theorem d_X10_oneEvening_341 : decode cX10_oneEvening 341 = .ok (.goto (-284), 3) := by decide +kernel
theorem d_X10_oneEvening_344 : decode cX10_oneEvening 344 = .ok (.aload_n 0, 1) := by decide +kernel
theorem d_X10_oneEvening_345 : decode cX10_oneEvening 345 = .ok (.getfield 127, 3) := by decide +kernel
theorem d_X10_oneEvening_348 : decode cX10_oneEvening 348 = .ok (.bipush 10, 2) := by decide +kernel
theorem d_X10_oneEvening_350 : decode cX10_oneEvening 350 = .ok (.iload_n 1, 1) := by decide +kernel
theorem d_X10_oneEvening_351 : decode cX10_oneEvening 351 = .ok (.imul, 1) := by decide +kernel
theorem d_X10_oneEvening_352 : decode cX10_oneEvening 352 = .ok (.iconst 1, 1) := by decide +kernel
theorem d_X10_oneEvening_353 : decode cX10_oneEvening 353 = .ok (.iadd, 1) := by decide +kernel
theorem d_X10_oneEvening_354 : decode cX10_oneEvening 354 = .ok (.aload_n 0, 1) := by decide +kernel
theorem d_X10_oneEvening_355 : decode cX10_oneEvening 355 = .ok (.getfield 127, 3) := by decide +kernel
theorem d_X10_oneEvening_358 : decode cX10_oneEvening 358 = .ok (.bipush 10, 2) := by decide +kernel
theorem d_X10_oneEvening_360 : decode cX10_oneEvening 360 = .ok (.iload_n 1, 1) := by decide +kernel
theorem d_X10_oneEvening_361 : decode cX10_oneEvening 361 = .ok (.imul, 1) := by decide +kernel
theorem d_X10_oneEvening_362 : decode cX10_oneEvening 362 = .ok (.iaload, 1) := by decide +kernel
theorem d_X10_oneEvening_363 : decode cX10_oneEvening 363 = .ok (.aload_n 0, 1) := by decide +kernel
theorem d_X10_oneEvening_364 : decode cX10_oneEvening 364 = .ok (.getfield 7, 3) := by decide +kernel
theorem d_X10_oneEvening_367 : decode cX10_oneEvening 367 = .ok (.if_icmp .le 20, 3) := by decide +kernel
theorem d_X10_oneEvening_370 : decode cX10_oneEvening 370 = .ok (.aload_n 0, 1) := by decide +kernel
theorem d_X10_oneEvening_371 : decode cX10_oneEvening 371 = .ok (.getfield 127, 3) := by decide +kernel
theorem d_X10_oneEvening_374 : decode cX10_oneEvening 374 = .ok (.bipush 10, 2) := by decide +kernel
theorem d_X10_oneEvening_376 : decode cX10_oneEvening 376 = .ok (.iload_n 1, 1) := by decide +kernel
theorem d_X10_oneEvening_377 : decode cX10_oneEvening 377 = .ok (.imul, 1) := by decide +kernel
theorem d_X10_oneEvening_378 : decode cX10_oneEvening 378 = .ok (.iaload, 1) := by decide +kernel
theorem d_X10_oneEvening_379 : decode cX10_oneEvening 379 = .ok (.aload_n 0, 1) := by decide +kernel
theorem d_X10_oneEvening_380 : decode cX10_oneEvening 380 = .ok (.getfield 7, 3) := by decide +kernel
theorem d_X10_oneEvening_383 : decode cX10_oneEvening 383 = .ok (.isub, 1) := by decide +kernel
theorem d_X10_oneEvening_384 : decode cX10_oneEvening 384 = .ok (.goto 4, 3) := by decide +kernel
theorem d_X10_oneEvening_387 : decode cX10_oneEvening 387 = .ok (.iconst 0, 1) := by decide +kernel
theorem d_X10_oneEvening_388 : decode cX10_oneEvening 388 = .ok (.iastore, 1) := by decide +kernel
theorem d_X10_oneEvening_389 : decode cX10_oneEvening 389 = .ok (.aload_n 0, 1) := by decide +kernel
theorem d_X10_oneEvening_390 : decode cX10_oneEvening 390 = .ok (.getfield 127, 3) := by decide +kernel
theorem d_X10_oneEvening_393 : decode cX10_oneEvening 393 = .ok (.bipush 10, 2) := by decide +kernel
theorem d_X10_oneEvening_395 : decode cX10_oneEvening 395 = .ok (.iload_n 1, 1) := by decide +kernel
theorem d_X10_oneEvening_396 : decode cX10_oneEvening 396 = .ok (.imul, 1) := by decide +kernel
theorem d_X10_oneEvening_397 : decode cX10_oneEvening 397 = .ok (.iconst 3, 1) := by decide +kernel
theorem d_X10_oneEvening_398 : decode cX10_oneEvening 398 = .ok (.iadd, 1) := by decide +kernel
theorem d_X10_oneEvening_399 : decode cX10_oneEvening 399 = .ok (.iload_n 2, 1) := by decide +kernel
theorem d_X10_oneEvening_400 : decode cX10_oneEvening 400 = .ok (.ifCond .eq 7, 3) := by decide +kernel
theorem d_X10_oneEvening_403 : decode cX10_oneEvening 403 = .ok (.iconst 1, 1) := by decide +kernel
theorem d_X10_oneEvening_404 : decode cX10_oneEvening 404 = .ok (.goto 4, 3) := by decide +kernel
theorem d_X10_oneEvening_407 : decode cX10_oneEvening 407 = .ok (.iconst 0, 1) := by decide +kernel
theorem d_X10_oneEvening_408 : decode cX10_oneEvening 408 = .ok (.iastore, 1) := by decide +kernel
theorem d_X10_oneEvening_409 : decode cX10_oneEvening 409 = .ok (.return_, 1) := by decide +kernel
def l_X10_oneEvening_2 (p1 : Int32) (s : Int32) (h : AH) : Option ((Int32 ⊕ Unit) × AH) := if 10 ≤ s then some (.inr (), h) else bd (stI h 275 ((10 * p1) + s) 0) fun m1 => some (.inl (s + 1), m1)
theorem tb_X10_oneEvening_2 {g : GP} {X : MX} {mcR msR : Nat} (hF : gF g = true) (hX : Cx g RX10 cX10_oneEvening 4 mcR msR none [] X) {Q : State → Prop} {p1 : Int32} {s : Int32} {d3 : Value} {d4 : Value} {d5 : Value} {d6 : Value} {d7 : Value} {d8 : Value} {d9 : Value} {h hz : AH} {z : (Int32 ⊕ Unit)} (e : l_X10_oneEvening_2 p1 s h = some (z, hz)) (kI : ∀ (s2 : Int32) (xd3 : Value) (xd4 : Value) (xd5 : Value) (xd6 : Value) (xd7 : Value) (xd8 : Value) (xd9 : Value), z = .inl s2 → AR g X 0 0 Q hz 2 [.ref 240, .int p1, .int s2, xd3, xd4, xd5, xd6, xd7, xd8, xd9] []) (kE0 : ∀ (yy : Unit) (y2 : Value) (y3 : Value) (y4 : Value) (y5 : Value) (y6 : Value) (y7 : Value) (y8 : Value) (y9 : Value), z = .inr yy → AR g X 0 0 Q hz 26 [.ref 240, .int p1, y2, y3, y4, y5, y6, y7, y8, y9] []) : AR g X 0 0 Q h 2 [.ref 240, .int p1, .int s, d3, d4, d5, d6, d7, d8, d9] [] := by
  unfold l_X10_oneEvening_2 at e
  refine aw_iload_n (i := 2) hX rfl rfl d_X10_oneEvening_2 ?_
  refine aw_bipush (v := 10) hX (by decide) d_X10_oneEvening_3 ?_
  refine aw_icmp_ge (t := 26) hX (by decide) d_X10_oneEvening_5 (fun c => ?_) (fun c => ?_)
  · rw [if_pos c] at e
    cases e
    exact kE0 () _ _ _ _ _ _ _ _ rfl
  · rw [if_neg c] at e
    refine aw_aload_n (i := 0) hX rfl rfl d_X10_oneEvening_8 ?_
    refine ar_getF hX hF fg_RX10_127 rfl d_X10_oneEvening_9 ?_
    show AR g X 0 0 _ _ 12 _ [.ref 275]
    refine aw_bipush (v := 10) hX (by decide) d_X10_oneEvening_12 ?_
    refine aw_iload_n (i := 1) hX rfl rfl d_X10_oneEvening_14 ?_
    refine aw_imul hX d_X10_oneEvening_15 ?_
    refine aw_iload_n (i := 2) hX rfl rfl d_X10_oneEvening_16 ?_
    refine aw_iadd hX d_X10_oneEvening_17 ?_
    refine aw_iconst (v := 0) hX (by decide) d_X10_oneEvening_18 ?_
    obtain ⟨m1, f_1513, e_1513⟩ := bd_some e
    clear e
    refine ar_iastore hX f_1513 d_X10_oneEvening_19 ?_
    refine aw_iinc (i := 2) (lv2 := [.ref 240, .int p1, .int (s + 1), d3, d4, d5, d6, d7, d8, d9]) hX rfl rfl rfl rfl d_X10_oneEvening_20 ?_
    refine aw_goto (t := 2) hX (by decide) d_X10_oneEvening_23 ?_
    cases e_1513
    exact kI (s + 1) _ _ _ _ _ _ _ rfl
theorem ti_X10_oneEvening_2 {g : GP} {X : MX} {mcR msR : Nat} (hF : gF g = true) (hX : Cx g RX10 cX10_oneEvening 4 mcR msR none [] X) {Q : State → Prop} {p1 : Int32} {y : Unit} {hz : AH} (kE0 : ∀ (y_2 : Value) (y_3 : Value) (y_4 : Value) (y_5 : Value) (y_6 : Value) (y_7 : Value) (y_8 : Value) (y_9 : Value), AR g X 0 0 Q hz 26 [.ref 240, .int p1, y_2, y_3, y_4, y_5, y_6, y_7, y_8, y_9] []) (n : Nat) : ∀ (s : Int32) (d3 : Value) (d4 : Value) (d5 : Value) (d6 : Value) (d7 : Value) (d8 : Value) (d9 : Value) (h : AH), lpH (l_X10_oneEvening_2 p1) n s h = some (y, hz) → AR g X 0 0 Q h 2 [.ref 240, .int p1, .int s, d3, d4, d5, d6, d7, d8, d9] [] := by
  induction n with
  | zero => intro s d3 d4 d5 d6 d7 d8 d9 h e; cases e
  | succ n ih =>
    intro s d3 d4 d5 d6 d7 d8 d9 h e
    obtain ⟨x, h1, e1, e2⟩ := lpH_succ e
    rcases e2 with ⟨s2, rfl, e3⟩ | ⟨rfl, rfl⟩
    · exact tb_X10_oneEvening_2 hF hX e1 (fun s3 x0 x1 x2 x3 x4 x5 x6 hs => by cases hs; exact ih _ _ _ _ _ _ _ _ _ e3) (fun yy x0 x1 x2 x3 x4 x5 x6 x7 hy => by cases hy)
    · exact tb_X10_oneEvening_2 hF hX e1 (fun s3 x0 x1 x2 x3 x4 x5 x6 hs => by cases hs) (fun yy x0 x1 x2 x3 x4 x5 x6 x7 hy => by cases hy; exact kE0 x0 x1 x2 x3 x4 x5 x6 x7)
theorem t_X10_oneEvening_2 {g : GP} {X : MX} {mcR msR : Nat} (hF : gF g = true) (hX : Cx g RX10 cX10_oneEvening 4 mcR msR none [] X) {Q : State → Prop} {p1 : Int32} {s : Int32} {d3 : Value} {d4 : Value} {d5 : Value} {d6 : Value} {d7 : Value} {d8 : Value} {d9 : Value} {h hz : AH} {n : Nat} {y : Unit} (e : lpH (l_X10_oneEvening_2 p1) n s h = some (y, hz)) (kE0 : ∀ (y_2 : Value) (y_3 : Value) (y_4 : Value) (y_5 : Value) (y_6 : Value) (y_7 : Value) (y_8 : Value) (y_9 : Value), AR g X 0 0 Q hz 26 [.ref 240, .int p1, y_2, y_3, y_4, y_5, y_6, y_7, y_8, y_9] []) : AR g X 0 0 Q h 2 [.ref 240, .int p1, .int s, d3, d4, d5, d6, d7, d8, d9] [] := ti_X10_oneEvening_2 hF hX kE0 n _ _ _ _ _ _ _ _ _ e
def j_X10_oneEvening_329_125 (p1 : Int32) (p2 : Int32) (v3 : Int32) (p4 : Int32) (p5 : Int32) (p6 : Int32) (v7 : Int32) (h : AH) : Option (((Int32 × Int32) ⊕ Int32) × AH) := some (.inl (v3 + 1, v7 + 1), h)
theorem tj_X10_oneEvening_329_125 {g : GP} {X : MX} {mcR msR : Nat} (hF : gF g = true) (hX : Cx g RX10 cX10_oneEvening 4 mcR msR none [] X) {Q : State → Prop} {p1 : Int32} {p2 : Int32} {v3 : Int32} {p4 : Int32} {p5 : Int32} {p6 : Int32} {v7 : Int32} {d8 : Value} {d9 : Value} {h hz : AH} {z : ((Int32 × Int32) ⊕ Int32)} (e : j_X10_oneEvening_329_125 p1 p2 v3 p4 p5 p6 v7 h = some (z, hz)) (kI : ∀ (s2 : (Int32 × Int32)) (xd8 : Value) (xd9 : Value), z = .inl s2 → AR g X 0 0 Q hz 125 [.ref 240, .int p1, .int p2, .int s2.1, .int p4, .int p5, .int p6, .int s2.2, xd8, xd9] []) (kE0 : ∀ (yy : Int32) (y5 : Value) (y6 : Value) (y7 : Value) (y8 : Value) (y9 : Value), z = .inr yy → AR g X 0 0 Q hz 338 [.ref 240, .int p1, .int p2, .int yy, .int p4, y5, y6, y7, y8, y9] []) : AR g X 0 0 Q h 329 [.ref 240, .int p1, .int p2, .int v3, .int p4, .int p5, .int p6, .int v7, d8, d9] [] := by
  unfold j_X10_oneEvening_329_125 at e
  refine aw_iinc (i := 3) (lv2 := [.ref 240, .int p1, .int p2, .int (v3 + 1), .int p4, .int p5, .int p6, .int v7, d8, d9]) hX rfl rfl rfl rfl d_X10_oneEvening_329 ?_
  refine aw_iinc (i := 7) (lv2 := [.ref 240, .int p1, .int p2, .int (v3 + 1), .int p4, .int p5, .int p6, .int (v7 + 1), d8, d9]) hX rfl rfl rfl rfl d_X10_oneEvening_332 ?_
  refine aw_goto (t := 125) hX (by decide) d_X10_oneEvening_335 ?_
  cases e
  exact kI (v3 + 1, v7 + 1) _ _ rfl
def j_X10_oneEvening_309_125 (p1 : Int32) (p2 : Int32) (v3 : Int32) (p4 : Int32) (p5 : Int32) (p6 : Int32) (v7 : Int32) (k0 : Int32) (k1 : Int32) (k2 : Int32) (h : AH) : Option (((Int32 × Int32) ⊕ Int32) × AH) := bd (stI h 275 k2 (k1 + k0)) fun m22 => bd (ldI m22 275 (((10 * p1) + 4) + p4)) fun x23 => bd (stI m22 275 (((10 * p1) + 4) + p4) (x23 + 1)) fun m24 => j_X10_oneEvening_329_125 p1 p2 v3 p4 p5 p6 v7 m24
theorem tj_X10_oneEvening_309_125 {g : GP} {X : MX} {mcR msR : Nat} (hF : gF g = true) (hX : Cx g RX10 cX10_oneEvening 4 mcR msR none [] X) {Q : State → Prop} {p1 : Int32} {p2 : Int32} {v3 : Int32} {p4 : Int32} {p5 : Int32} {p6 : Int32} {v7 : Int32} {k0 : Int32} {k1 : Int32} {k2 : Int32} {d8 : Value} {d9 : Value} {h hz : AH} {z : ((Int32 × Int32) ⊕ Int32)} (e : j_X10_oneEvening_309_125 p1 p2 v3 p4 p5 p6 v7 k0 k1 k2 h = some (z, hz)) (kI : ∀ (s2 : (Int32 × Int32)) (xd8 : Value) (xd9 : Value), z = .inl s2 → AR g X 0 0 Q hz 125 [.ref 240, .int p1, .int p2, .int s2.1, .int p4, .int p5, .int p6, .int s2.2, xd8, xd9] []) (kE0 : ∀ (yy : Int32) (y5 : Value) (y6 : Value) (y7 : Value) (y8 : Value) (y9 : Value), z = .inr yy → AR g X 0 0 Q hz 338 [.ref 240, .int p1, .int p2, .int yy, .int p4, y5, y6, y7, y8, y9] []) : AR g X 0 0 Q h 309 [.ref 240, .int p1, .int p2, .int v3, .int p4, .int p5, .int p6, .int v7, d8, d9] [.int k0, .int k1, .int k2, .ref 275] := by
  unfold j_X10_oneEvening_309_125 at e
  refine aw_iadd hX d_X10_oneEvening_309 ?_
  obtain ⟨m22, f_1514, e_1514⟩ := bd_some e
  clear e
  refine ar_iastore hX f_1514 d_X10_oneEvening_310 ?_
  refine aw_aload_n (i := 0) hX rfl rfl d_X10_oneEvening_311 ?_
  refine ar_getF hX hF fg_RX10_127 rfl d_X10_oneEvening_312 ?_
  show AR g X 0 0 _ _ 315 _ [.ref 275]
  refine aw_bipush (v := 10) hX (by decide) d_X10_oneEvening_315 ?_
  refine aw_iload_n (i := 1) hX rfl rfl d_X10_oneEvening_317 ?_
  refine aw_imul hX d_X10_oneEvening_318 ?_
  refine aw_iconst (v := 4) hX (by decide) d_X10_oneEvening_319 ?_
  refine aw_iadd hX d_X10_oneEvening_320 ?_
  refine aw_iload (i := 4) hX rfl d_X10_oneEvening_321 ?_
  refine aw_iadd hX d_X10_oneEvening_323 ?_
  refine aw_dup2 hX rfl rfl d_X10_oneEvening_324 ?_
  obtain ⟨x23, f_1515, e_1515⟩ := bd_some e_1514
  clear e_1514
  refine ar_iaload hX f_1515 d_X10_oneEvening_325 ?_
  refine aw_iconst (v := 1) hX (by decide) d_X10_oneEvening_326 ?_
  refine aw_iadd hX d_X10_oneEvening_327 ?_
  obtain ⟨m24, f_1516, e_1516⟩ := bd_some e_1515
  clear e_1515
  refine ar_iastore hX f_1516 d_X10_oneEvening_328 ?_
  exact tj_X10_oneEvening_329_125 hF hX e_1516 kI kE0
def j_X10_oneEvening_263_125 (p1 : Int32) (p2 : Int32) (v3 : Int32) (p4 : Int32) (p5 : Int32) (p6 : Int32) (v7 : Int32) (k0 : Int32) (k1 : Int32) (k2 : Int32) (h : AH) : Option (((Int32 × Int32) ⊕ Int32) × AH) := bd (stI h 271 k2 (k1 - k0)) fun m18 => bd (ldI m18 275 (10 * p1)) fun x19 => bd (stI m18 275 (10 * p1) (x19 + 1)) fun m20 => bd (ldI m20 275 ((10 * p1) + 2)) fun x21 => if p5 = 0 then bd (ldI m20 241 ((4 * p1) + 1)) fun x25 => j_X10_oneEvening_309_125 p1 p2 v3 p4 p5 p6 v7 x25 x21 ((10 * p1) + 2) m20 else j_X10_oneEvening_309_125 p1 p2 v3 p4 p5 p6 v7 0 x21 ((10 * p1) + 2) m20
theorem tj_X10_oneEvening_263_125 {g : GP} {X : MX} {mcR msR : Nat} (hF : gF g = true) (hX : Cx g RX10 cX10_oneEvening 4 mcR msR none [] X) {Q : State → Prop} {p1 : Int32} {p2 : Int32} {v3 : Int32} {p4 : Int32} {p5 : Int32} {p6 : Int32} {v7 : Int32} {k0 : Int32} {k1 : Int32} {k2 : Int32} {d8 : Value} {d9 : Value} {h hz : AH} {z : ((Int32 × Int32) ⊕ Int32)} (e : j_X10_oneEvening_263_125 p1 p2 v3 p4 p5 p6 v7 k0 k1 k2 h = some (z, hz)) (kI : ∀ (s2 : (Int32 × Int32)) (xd8 : Value) (xd9 : Value), z = .inl s2 → AR g X 0 0 Q hz 125 [.ref 240, .int p1, .int p2, .int s2.1, .int p4, .int p5, .int p6, .int s2.2, xd8, xd9] []) (kE0 : ∀ (yy : Int32) (y5 : Value) (y6 : Value) (y7 : Value) (y8 : Value) (y9 : Value), z = .inr yy → AR g X 0 0 Q hz 338 [.ref 240, .int p1, .int p2, .int yy, .int p4, y5, y6, y7, y8, y9] []) : AR g X 0 0 Q h 263 [.ref 240, .int p1, .int p2, .int v3, .int p4, .int p5, .int p6, .int v7, d8, d9] [.int k0, .int k1, .int k2, .ref 271] := by
  unfold j_X10_oneEvening_263_125 at e
  refine aw_isub hX d_X10_oneEvening_263 ?_
  obtain ⟨m18, f_1517, e_1517⟩ := bd_some e
  clear e
  refine ar_iastore hX f_1517 d_X10_oneEvening_264 ?_
  refine aw_aload_n (i := 0) hX rfl rfl d_X10_oneEvening_265 ?_
  refine ar_getF hX hF fg_RX10_127 rfl d_X10_oneEvening_266 ?_
  show AR g X 0 0 _ _ 269 _ [.ref 275]
  refine aw_bipush (v := 10) hX (by decide) d_X10_oneEvening_269 ?_
  refine aw_iload_n (i := 1) hX rfl rfl d_X10_oneEvening_271 ?_
  refine aw_imul hX d_X10_oneEvening_272 ?_
  refine aw_dup2 hX rfl rfl d_X10_oneEvening_273 ?_
  obtain ⟨x19, f_1518, e_1518⟩ := bd_some e_1517
  clear e_1517
  refine ar_iaload hX f_1518 d_X10_oneEvening_274 ?_
  refine aw_iconst (v := 1) hX (by decide) d_X10_oneEvening_275 ?_
  refine aw_iadd hX d_X10_oneEvening_276 ?_
  obtain ⟨m20, f_1519, e_1519⟩ := bd_some e_1518
  clear e_1518
  refine ar_iastore hX f_1519 d_X10_oneEvening_277 ?_
  refine aw_aload_n (i := 0) hX rfl rfl d_X10_oneEvening_278 ?_
  refine ar_getF hX hF fg_RX10_127 rfl d_X10_oneEvening_279 ?_
  show AR g X 0 0 _ _ 282 _ [.ref 275]
  refine aw_bipush (v := 10) hX (by decide) d_X10_oneEvening_282 ?_
  refine aw_iload_n (i := 1) hX rfl rfl d_X10_oneEvening_284 ?_
  refine aw_imul hX d_X10_oneEvening_285 ?_
  refine aw_iconst (v := 2) hX (by decide) d_X10_oneEvening_286 ?_
  refine aw_iadd hX d_X10_oneEvening_287 ?_
  refine aw_dup2 hX rfl rfl d_X10_oneEvening_288 ?_
  obtain ⟨x21, f_1520, e_1520⟩ := bd_some e_1519
  clear e_1519
  refine ar_iaload hX f_1520 d_X10_oneEvening_289 ?_
  refine aw_iload (i := 5) hX rfl d_X10_oneEvening_290 ?_
  refine aw_if_ne (t := 308) hX (by decide) d_X10_oneEvening_292 (fun c => ?_) (fun c => ?_)
  · rw [if_neg c] at e_1520
    refine aw_iconst (v := 0) hX (by decide) d_X10_oneEvening_308 ?_
    exact tj_X10_oneEvening_309_125 hF hX e_1520 kI kE0
  · rw [if_pos c] at e_1520
    refine aw_aload_n (i := 0) hX rfl rfl d_X10_oneEvening_295 ?_
    refine ar_getF hX hF fg_RX10_13 rfl d_X10_oneEvening_296 ?_
    show AR g X 0 0 _ _ 299 _ [.ref 241, .int x21, .int ((10 * p1) + 2), .ref 275]
    refine aw_iconst (v := 4) hX (by decide) d_X10_oneEvening_299 ?_
    refine aw_iload_n (i := 1) hX rfl rfl d_X10_oneEvening_300 ?_
    refine aw_imul hX d_X10_oneEvening_301 ?_
    refine aw_iconst (v := 1) hX (by decide) d_X10_oneEvening_302 ?_
    refine aw_iadd hX d_X10_oneEvening_303 ?_
    obtain ⟨x25, f_1521, e_1521⟩ := bd_some e_1520
    clear e_1520
    refine ar_iaload hX f_1521 d_X10_oneEvening_304 ?_
    refine aw_goto (t := 309) hX (by decide) d_X10_oneEvening_305 ?_
    exact tj_X10_oneEvening_309_125 hF hX e_1521 kI kE0
def j_X10_oneEvening_262_125 (p1 : Int32) (p2 : Int32) (v3 : Int32) (p4 : Int32) (p5 : Int32) (p6 : Int32) (v7 : Int32) (k0 : Int32) (k1 : Int32) (h : AH) : Option (((Int32 × Int32) ⊕ Int32) × AH) := j_X10_oneEvening_263_125 p1 p2 v3 p4 p5 p6 v7 0 k0 k1 h
theorem tj_X10_oneEvening_262_125 {g : GP} {X : MX} {mcR msR : Nat} (hF : gF g = true) (hX : Cx g RX10 cX10_oneEvening 4 mcR msR none [] X) {Q : State → Prop} {p1 : Int32} {p2 : Int32} {v3 : Int32} {p4 : Int32} {p5 : Int32} {p6 : Int32} {v7 : Int32} {k0 : Int32} {k1 : Int32} {d8 : Value} {d9 : Value} {h hz : AH} {z : ((Int32 × Int32) ⊕ Int32)} (e : j_X10_oneEvening_262_125 p1 p2 v3 p4 p5 p6 v7 k0 k1 h = some (z, hz)) (kI : ∀ (s2 : (Int32 × Int32)) (xd8 : Value) (xd9 : Value), z = .inl s2 → AR g X 0 0 Q hz 125 [.ref 240, .int p1, .int p2, .int s2.1, .int p4, .int p5, .int p6, .int s2.2, xd8, xd9] []) (kE0 : ∀ (yy : Int32) (y5 : Value) (y6 : Value) (y7 : Value) (y8 : Value) (y9 : Value), z = .inr yy → AR g X 0 0 Q hz 338 [.ref 240, .int p1, .int p2, .int yy, .int p4, y5, y6, y7, y8, y9] []) : AR g X 0 0 Q h 262 [.ref 240, .int p1, .int p2, .int v3, .int p4, .int p5, .int p6, .int v7, d8, d9] [.int k0, .int k1, .ref 271] := by
  unfold j_X10_oneEvening_262_125 at e
  refine aw_iconst (v := 0) hX (by decide) d_X10_oneEvening_262 ?_
  exact tj_X10_oneEvening_263_125 hF hX e kI kE0
def j_X10_oneEvening_225_125 (p1 : Int32) (p2 : Int32) (v3 : Int32) (p4 : Int32) (p5 : Int32) (p6 : Int32) (v7 : Int32) (v8 : Int32) (v9 : Int32) (h : AH) : Option (((Int32 × Int32) ⊕ Int32) × AH) := if v8 = 0 then j_X10_oneEvening_329_125 p1 p2 v3 p4 p5 p6 v7 h else bd (ldI h 272 v3) fun x15 => bd (stI h 272 v3 (x15 + 1)) fun m16 => bd (ldI m16 271 v3) fun x17 => if v9 = 0 then j_X10_oneEvening_262_125 p1 p2 v3 p4 p5 p6 v7 x17 v3 m16 else if p5 = 2 then j_X10_oneEvening_263_125 p1 p2 v3 p4 p5 p6 v7 1 x17 v3 m16 else j_X10_oneEvening_262_125 p1 p2 v3 p4 p5 p6 v7 x17 v3 m16
theorem tj_X10_oneEvening_225_125 {g : GP} {X : MX} {mcR msR : Nat} (hF : gF g = true) (hX : Cx g RX10 cX10_oneEvening 4 mcR msR none [] X) {Q : State → Prop} {p1 : Int32} {p2 : Int32} {v3 : Int32} {p4 : Int32} {p5 : Int32} {p6 : Int32} {v7 : Int32} {v8 : Int32} {v9 : Int32} {h hz : AH} {z : ((Int32 × Int32) ⊕ Int32)} (e : j_X10_oneEvening_225_125 p1 p2 v3 p4 p5 p6 v7 v8 v9 h = some (z, hz)) (kI : ∀ (s2 : (Int32 × Int32)) (xd8 : Value) (xd9 : Value), z = .inl s2 → AR g X 0 0 Q hz 125 [.ref 240, .int p1, .int p2, .int s2.1, .int p4, .int p5, .int p6, .int s2.2, xd8, xd9] []) (kE0 : ∀ (yy : Int32) (y5 : Value) (y6 : Value) (y7 : Value) (y8 : Value) (y9 : Value), z = .inr yy → AR g X 0 0 Q hz 338 [.ref 240, .int p1, .int p2, .int yy, .int p4, y5, y6, y7, y8, y9] []) : AR g X 0 0 Q h 225 [.ref 240, .int p1, .int p2, .int v3, .int p4, .int p5, .int p6, .int v7, .int v8, .int v9] [] := by
  unfold j_X10_oneEvening_225_125 at e
  refine aw_iload (i := 8) hX rfl d_X10_oneEvening_225 ?_
  refine aw_if_eq (t := 329) hX (by decide) d_X10_oneEvening_227 (fun c => ?_) (fun c => ?_)
  · rw [if_pos c] at e
    exact tj_X10_oneEvening_329_125 hF hX e kI kE0
  · rw [if_neg c] at e
    refine aw_aload_n (i := 0) hX rfl rfl d_X10_oneEvening_230 ?_
    refine ar_getF hX hF fg_RX10_118 rfl d_X10_oneEvening_231 ?_
    show AR g X 0 0 _ _ 234 _ [.ref 272]
    refine aw_iload_n (i := 3) hX rfl rfl d_X10_oneEvening_234 ?_
    refine aw_dup2 hX rfl rfl d_X10_oneEvening_235 ?_
    obtain ⟨x15, f_1522, e_1522⟩ := bd_some e
    clear e
    refine ar_iaload hX f_1522 d_X10_oneEvening_236 ?_
    refine aw_iconst (v := 1) hX (by decide) d_X10_oneEvening_237 ?_
    refine aw_iadd hX d_X10_oneEvening_238 ?_
    obtain ⟨m16, f_1523, e_1523⟩ := bd_some e_1522
    clear e_1522
    refine ar_iastore hX f_1523 d_X10_oneEvening_239 ?_
    refine aw_aload_n (i := 0) hX rfl rfl d_X10_oneEvening_240 ?_
    refine ar_getF hX hF fg_RX10_115 rfl d_X10_oneEvening_241 ?_
    show AR g X 0 0 _ _ 244 _ [.ref 271]
    refine aw_iload_n (i := 3) hX rfl rfl d_X10_oneEvening_244 ?_
    refine aw_dup2 hX rfl rfl d_X10_oneEvening_245 ?_
    obtain ⟨x17, f_1524, e_1524⟩ := bd_some e_1523
    clear e_1523
    refine ar_iaload hX f_1524 d_X10_oneEvening_246 ?_
    refine aw_iload (i := 9) hX rfl d_X10_oneEvening_247 ?_
    refine aw_if_eq (t := 262) hX (by decide) d_X10_oneEvening_249 (fun c => ?_) (fun c => ?_)
    · rw [if_pos c] at e_1524
      exact tj_X10_oneEvening_262_125 hF hX e_1524 kI kE0
    · rw [if_neg c] at e_1524
      refine aw_iload (i := 5) hX rfl d_X10_oneEvening_252 ?_
      refine aw_iconst (v := 2) hX (by decide) d_X10_oneEvening_254 ?_
      refine aw_icmp_ne (t := 262) hX (by decide) d_X10_oneEvening_255 (fun c => ?_) (fun c => ?_)
      · rw [if_neg c] at e_1524
        exact tj_X10_oneEvening_262_125 hF hX e_1524 kI kE0
      · rw [if_pos c] at e_1524
        refine aw_iconst (v := 1) hX (by decide) d_X10_oneEvening_258 ?_
        refine aw_goto (t := 263) hX (by decide) d_X10_oneEvening_259 ?_
        exact tj_X10_oneEvening_263_125 hF hX e_1524 kI kE0
def j_X10_oneEvening_223_125 (p1 : Int32) (p2 : Int32) (v3 : Int32) (p4 : Int32) (p5 : Int32) (p6 : Int32) (v7 : Int32) (v9 : Int32) (k0 : Int32) (h : AH) : Option (((Int32 × Int32) ⊕ Int32) × AH) := j_X10_oneEvening_225_125 p1 p2 v3 p4 p5 p6 v7 k0 v9 h
theorem tj_X10_oneEvening_223_125 {g : GP} {X : MX} {mcR msR : Nat} (hF : gF g = true) (hX : Cx g RX10 cX10_oneEvening 4 mcR msR none [] X) {Q : State → Prop} {p1 : Int32} {p2 : Int32} {v3 : Int32} {p4 : Int32} {p5 : Int32} {p6 : Int32} {v7 : Int32} {v9 : Int32} {k0 : Int32} {d8 : Value} {h hz : AH} {z : ((Int32 × Int32) ⊕ Int32)} (e : j_X10_oneEvening_223_125 p1 p2 v3 p4 p5 p6 v7 v9 k0 h = some (z, hz)) (kI : ∀ (s2 : (Int32 × Int32)) (xd8 : Value) (xd9 : Value), z = .inl s2 → AR g X 0 0 Q hz 125 [.ref 240, .int p1, .int p2, .int s2.1, .int p4, .int p5, .int p6, .int s2.2, xd8, xd9] []) (kE0 : ∀ (yy : Int32) (y5 : Value) (y6 : Value) (y7 : Value) (y8 : Value) (y9 : Value), z = .inr yy → AR g X 0 0 Q hz 338 [.ref 240, .int p1, .int p2, .int yy, .int p4, y5, y6, y7, y8, y9] []) : AR g X 0 0 Q h 223 [.ref 240, .int p1, .int p2, .int v3, .int p4, .int p5, .int p6, .int v7, d8, .int v9] [.int k0] := by
  unfold j_X10_oneEvening_223_125 at e
  refine aw_istore (i := 8) (lv2 := [.ref 240, .int p1, .int p2, .int v3, .int p4, .int p5, .int p6, .int v7, .int k0, .int v9]) hX rfl rfl d_X10_oneEvening_223 ?_
  exact tj_X10_oneEvening_225_125 hF hX e kI kE0
def j_X10_oneEvening_222_125 (p1 : Int32) (p2 : Int32) (v3 : Int32) (p4 : Int32) (p5 : Int32) (p6 : Int32) (v7 : Int32) (v9 : Int32) (h : AH) : Option (((Int32 × Int32) ⊕ Int32) × AH) := j_X10_oneEvening_223_125 p1 p2 v3 p4 p5 p6 v7 v9 0 h
theorem tj_X10_oneEvening_222_125 {g : GP} {X : MX} {mcR msR : Nat} (hF : gF g = true) (hX : Cx g RX10 cX10_oneEvening 4 mcR msR none [] X) {Q : State → Prop} {p1 : Int32} {p2 : Int32} {v3 : Int32} {p4 : Int32} {p5 : Int32} {p6 : Int32} {v7 : Int32} {v9 : Int32} {d8 : Value} {h hz : AH} {z : ((Int32 × Int32) ⊕ Int32)} (e : j_X10_oneEvening_222_125 p1 p2 v3 p4 p5 p6 v7 v9 h = some (z, hz)) (kI : ∀ (s2 : (Int32 × Int32)) (xd8 : Value) (xd9 : Value), z = .inl s2 → AR g X 0 0 Q hz 125 [.ref 240, .int p1, .int p2, .int s2.1, .int p4, .int p5, .int p6, .int s2.2, xd8, xd9] []) (kE0 : ∀ (yy : Int32) (y5 : Value) (y6 : Value) (y7 : Value) (y8 : Value) (y9 : Value), z = .inr yy → AR g X 0 0 Q hz 338 [.ref 240, .int p1, .int p2, .int yy, .int p4, y5, y6, y7, y8, y9] []) : AR g X 0 0 Q h 222 [.ref 240, .int p1, .int p2, .int v3, .int p4, .int p5, .int p6, .int v7, d8, .int v9] [] := by
  unfold j_X10_oneEvening_222_125 at e
  refine aw_iconst (v := 0) hX (by decide) d_X10_oneEvening_222 ?_
  exact tj_X10_oneEvening_223_125 hF hX e kI kE0
def j_X10_oneEvening_201_125 (p1 : Int32) (p2 : Int32) (v3 : Int32) (p4 : Int32) (p5 : Int32) (p6 : Int32) (v7 : Int32) (v9 : Int32) (h : AH) : Option (((Int32 × Int32) ⊕ Int32) × AH) := bd (s_X10_draw 1000 h) fun q26 => bd (s_X10_of p4 4 q26.2) fun x27 => if x27 ≤ q26.1 then j_X10_oneEvening_222_125 p1 p2 v3 p4 p5 p6 v7 v9 q26.2 else j_X10_oneEvening_223_125 p1 p2 v3 p4 p5 p6 v7 v9 1 q26.2
theorem tj_X10_oneEvening_201_125 {g : GP} {X : MX} {mcR msR : Nat} (hF : gF g = true) (hX : Cx g RX10 cX10_oneEvening 4 mcR msR none [] X) {Q : State → Prop} {p1 : Int32} {p2 : Int32} {v3 : Int32} {p4 : Int32} {p5 : Int32} {p6 : Int32} {v7 : Int32} {v9 : Int32} {d8 : Value} {h hz : AH} {z : ((Int32 × Int32) ⊕ Int32)} (e : j_X10_oneEvening_201_125 p1 p2 v3 p4 p5 p6 v7 v9 h = some (z, hz)) (kI : ∀ (s2 : (Int32 × Int32)) (xd8 : Value) (xd9 : Value), z = .inl s2 → AR g X 0 0 Q hz 125 [.ref 240, .int p1, .int p2, .int s2.1, .int p4, .int p5, .int p6, .int s2.2, xd8, xd9] []) (kE0 : ∀ (yy : Int32) (y5 : Value) (y6 : Value) (y7 : Value) (y8 : Value) (y9 : Value), z = .inr yy → AR g X 0 0 Q hz 338 [.ref 240, .int p1, .int p2, .int yy, .int p4, y5, y6, y7, y8, y9] []) : AR g X 0 0 Q h 201 [.ref 240, .int p1, .int p2, .int v3, .int p4, .int p5, .int p6, .int v7, d8, .int v9] [] := by
  unfold j_X10_oneEvening_201_125 at e
  refine aw_aload_n (i := 0) hX rfl rfl d_X10_oneEvening_201 ?_
  refine aw_sipush (v := 1000) hX (by decide) d_X10_oneEvening_202 ?_
  obtain ⟨q26, f_1525, e_1525⟩ := bd_some e
  clear e
  refine aw_callV (b := 240) (av := [.int 1000]) (avr := [.int 1000]) hX (k_X10_draw (cx_g hX) hF f_1525) mi_X10_draw rfl rfl w_893 w_894 w_895 (by decide) rfl (LAY_lt rfl (by decide)) rfl rfl (Nat.le_of_ble_eq_true rfl) (Nat.zero_le _) (Nat.zero_le _) d_X10_oneEvening_205 ?_
  refine aw_aload_n (i := 0) hX rfl rfl d_X10_oneEvening_208 ?_
  refine aw_iload (i := 4) hX rfl d_X10_oneEvening_209 ?_
  refine aw_iconst (v := 4) hX (by decide) d_X10_oneEvening_211 ?_
  obtain ⟨x27, f_1526, e_1526⟩ := bd_some e_1525
  clear e_1525
  refine aw_callV (b := 240) (av := [.int p4, .int 4]) (avr := [.int 4, .int p4]) hX (k_X10_of (cx_g hX) hF f_1526) mi_X10_of rfl rfl w_732 w_733 w_734 (by decide) rfl (LAY_lt rfl (by decide)) rfl rfl (Nat.le_of_ble_eq_true rfl) (Nat.zero_le _) (Nat.zero_le _) d_X10_oneEvening_212 ?_
  refine aw_icmp_ge (t := 222) hX (by decide) d_X10_oneEvening_215 (fun c => ?_) (fun c => ?_)
  · rw [if_pos c] at e_1526
    exact tj_X10_oneEvening_222_125 hF hX e_1526 kI kE0
  · rw [if_neg c] at e_1526
    refine aw_iconst (v := 1) hX (by decide) d_X10_oneEvening_218 ?_
    refine aw_goto (t := 223) hX (by decide) d_X10_oneEvening_219 ?_
    exact tj_X10_oneEvening_223_125 hF hX e_1526 kI kE0
def j_X10_oneEvening_154_125 (p1 : Int32) (p2 : Int32) (v3 : Int32) (p4 : Int32) (p5 : Int32) (p6 : Int32) (v7 : Int32) (k0 : Int32) (h : AH) : Option (((Int32 × Int32) ⊕ Int32) × AH) := bd (ldI h 271 v3) fun x11 => bd (ldI h 272 v3) fun x12 => bd (s_X10_at p1 x11 x12 h) fun x13 => bd (ldZ h 252 x13) fun x14 => if k0 = 0 then j_X10_oneEvening_225_125 p1 p2 v3 p4 p5 p6 v7 k0 x14 h else if x14 = 0 then if p5 = 1 then j_X10_oneEvening_201_125 p1 p2 v3 p4 p5 p6 v7 x14 h else if p5 = 4 then j_X10_oneEvening_201_125 p1 p2 v3 p4 p5 p6 v7 x14 h else j_X10_oneEvening_222_125 p1 p2 v3 p4 p5 p6 v7 x14 h else j_X10_oneEvening_225_125 p1 p2 v3 p4 p5 p6 v7 k0 x14 h
theorem tj_X10_oneEvening_154_125 {g : GP} {X : MX} {mcR msR : Nat} (hF : gF g = true) (hX : Cx g RX10 cX10_oneEvening 4 mcR msR none [] X) {Q : State → Prop} {p1 : Int32} {p2 : Int32} {v3 : Int32} {p4 : Int32} {p5 : Int32} {p6 : Int32} {v7 : Int32} {k0 : Int32} {d8 : Value} {d9 : Value} {h hz : AH} {z : ((Int32 × Int32) ⊕ Int32)} (e : j_X10_oneEvening_154_125 p1 p2 v3 p4 p5 p6 v7 k0 h = some (z, hz)) (kI : ∀ (s2 : (Int32 × Int32)) (xd8 : Value) (xd9 : Value), z = .inl s2 → AR g X 0 0 Q hz 125 [.ref 240, .int p1, .int p2, .int s2.1, .int p4, .int p5, .int p6, .int s2.2, xd8, xd9] []) (kE0 : ∀ (yy : Int32) (y5 : Value) (y6 : Value) (y7 : Value) (y8 : Value) (y9 : Value), z = .inr yy → AR g X 0 0 Q hz 338 [.ref 240, .int p1, .int p2, .int yy, .int p4, y5, y6, y7, y8, y9] []) : AR g X 0 0 Q h 154 [.ref 240, .int p1, .int p2, .int v3, .int p4, .int p5, .int p6, .int v7, d8, d9] [.int k0] := by
  unfold j_X10_oneEvening_154_125 at e
  refine aw_istore (i := 8) (lv2 := [.ref 240, .int p1, .int p2, .int v3, .int p4, .int p5, .int p6, .int v7, .int k0, d9]) hX rfl rfl d_X10_oneEvening_154 ?_
  refine aw_aload_n (i := 0) hX rfl rfl d_X10_oneEvening_156 ?_
  refine ar_getF hX hF fg_RX10_50 rfl d_X10_oneEvening_157 ?_
  show AR g X 0 0 _ _ 160 _ [.ref 252]
  refine aw_iload_n (i := 1) hX rfl rfl d_X10_oneEvening_160 ?_
  refine aw_aload_n (i := 0) hX rfl rfl d_X10_oneEvening_161 ?_
  refine ar_getF hX hF fg_RX10_115 rfl d_X10_oneEvening_162 ?_
  show AR g X 0 0 _ _ 165 _ [.ref 271, .int p1, .ref 252]
  refine aw_iload_n (i := 3) hX rfl rfl d_X10_oneEvening_165 ?_
  obtain ⟨x11, f_1527, e_1527⟩ := bd_some e
  clear e
  refine ar_iaload hX f_1527 d_X10_oneEvening_166 ?_
  refine aw_aload_n (i := 0) hX rfl rfl d_X10_oneEvening_167 ?_
  refine ar_getF hX hF fg_RX10_118 rfl d_X10_oneEvening_168 ?_
  show AR g X 0 0 _ _ 171 _ [.ref 272, .int x11, .int p1, .ref 252]
  refine aw_iload_n (i := 3) hX rfl rfl d_X10_oneEvening_171 ?_
  obtain ⟨x12, f_1528, e_1528⟩ := bd_some e_1527
  clear e_1527
  refine ar_iaload hX f_1528 d_X10_oneEvening_172 ?_
  obtain ⟨x13, f_1529, e_1529⟩ := bd_some e_1528
  clear e_1528
  refine aw_callS (av := [.int p1, .int x11, .int x12]) (avr := [.int x12, .int x11, .int p1]) hX (k_X10_at (cx_g hX) hF f_1529) mi_X10_at rfl rfl w_745 w_746 rfl (by decide) (Nat.le_of_ble_eq_true rfl) (Nat.zero_le _) (Nat.zero_le _) d_X10_oneEvening_173 ?_
  obtain ⟨x14, f_1530, e_1530⟩ := bd_some e_1529
  clear e_1529
  refine ar_baload hX f_1530 d_X10_oneEvening_176 ?_
  refine aw_istore (i := 9) (lv2 := [.ref 240, .int p1, .int p2, .int v3, .int p4, .int p5, .int p6, .int v7, .int k0, .int x14]) hX rfl rfl d_X10_oneEvening_177 ?_
  refine aw_iload (i := 8) hX rfl d_X10_oneEvening_179 ?_
  refine aw_if_eq (t := 225) hX (by decide) d_X10_oneEvening_181 (fun c => ?_) (fun c => ?_)
  · rw [if_pos c] at e_1530
    exact tj_X10_oneEvening_225_125 hF hX e_1530 kI kE0
  · rw [if_neg c] at e_1530
    refine aw_iload (i := 9) hX rfl d_X10_oneEvening_184 ?_
    refine aw_if_ne (t := 225) hX (by decide) d_X10_oneEvening_186 (fun c => ?_) (fun c => ?_)
    · rw [if_neg c] at e_1530
      exact tj_X10_oneEvening_225_125 hF hX e_1530 kI kE0
    · rw [if_pos c] at e_1530
      refine aw_iload (i := 5) hX rfl d_X10_oneEvening_189 ?_
      refine aw_iconst (v := 1) hX (by decide) d_X10_oneEvening_191 ?_
      refine aw_icmp_eq (t := 201) hX (by decide) d_X10_oneEvening_192 (fun c => ?_) (fun c => ?_)
      · rw [if_pos c] at e_1530
        exact tj_X10_oneEvening_201_125 hF hX e_1530 kI kE0
      · rw [if_neg c] at e_1530
        refine aw_iload (i := 5) hX rfl d_X10_oneEvening_195 ?_
        refine aw_iconst (v := 4) hX (by decide) d_X10_oneEvening_197 ?_
        refine aw_icmp_ne (t := 222) hX (by decide) d_X10_oneEvening_198 (fun c => ?_) (fun c => ?_)
        · rw [if_neg c] at e_1530
          exact tj_X10_oneEvening_222_125 hF hX e_1530 kI kE0
        · rw [if_pos c] at e_1530
          exact tj_X10_oneEvening_201_125 hF hX e_1530 kI kE0
def l_X10_oneEvening_125 (p1 : Int32) (p2 : Int32) (p4 : Int32) (p5 : Int32) (p6 : Int32) (s : (Int32 × Int32)) (h : AH) : Option (((Int32 × Int32) ⊕ Int32) × AH) := bd (s_X10_of p4 0 h) fun x9 => if x9 ≤ s.2 then some (.inr s.1, h) else bd (s_X10_draw 1000 h) fun q10 => if p6 ≤ q10.1 then j_X10_oneEvening_154_125 p1 p2 s.1 p4 p5 p6 s.2 0 q10.2 else j_X10_oneEvening_154_125 p1 p2 s.1 p4 p5 p6 s.2 1 q10.2
theorem tb_X10_oneEvening_125 {g : GP} {X : MX} {mcR msR : Nat} (hF : gF g = true) (hX : Cx g RX10 cX10_oneEvening 4 mcR msR none [] X) {Q : State → Prop} {p1 : Int32} {p2 : Int32} {p4 : Int32} {p5 : Int32} {p6 : Int32} {s : (Int32 × Int32)} {d8 : Value} {d9 : Value} {h hz : AH} {z : ((Int32 × Int32) ⊕ Int32)} (e : l_X10_oneEvening_125 p1 p2 p4 p5 p6 s h = some (z, hz)) (kI : ∀ (s2 : (Int32 × Int32)) (xd8 : Value) (xd9 : Value), z = .inl s2 → AR g X 0 0 Q hz 125 [.ref 240, .int p1, .int p2, .int s2.1, .int p4, .int p5, .int p6, .int s2.2, xd8, xd9] []) (kE0 : ∀ (yy : Int32) (y5 : Value) (y6 : Value) (y7 : Value) (y8 : Value) (y9 : Value), z = .inr yy → AR g X 0 0 Q hz 338 [.ref 240, .int p1, .int p2, .int yy, .int p4, y5, y6, y7, y8, y9] []) : AR g X 0 0 Q h 125 [.ref 240, .int p1, .int p2, .int s.1, .int p4, .int p5, .int p6, .int s.2, d8, d9] [] := by
  unfold l_X10_oneEvening_125 at e
  refine aw_iload (i := 7) hX rfl d_X10_oneEvening_125 ?_
  refine aw_aload_n (i := 0) hX rfl rfl d_X10_oneEvening_127 ?_
  refine aw_iload (i := 4) hX rfl d_X10_oneEvening_128 ?_
  refine aw_iconst (v := 0) hX (by decide) d_X10_oneEvening_130 ?_
  obtain ⟨x9, f_1531, e_1531⟩ := bd_some e
  clear e
  refine aw_callV (b := 240) (av := [.int p4, .int 0]) (avr := [.int 0, .int p4]) hX (k_X10_of (cx_g hX) hF f_1531) mi_X10_of rfl rfl w_732 w_733 w_734 (by decide) rfl (LAY_lt rfl (by decide)) rfl rfl (Nat.le_of_ble_eq_true rfl) (Nat.zero_le _) (Nat.zero_le _) d_X10_oneEvening_131 ?_
  refine aw_icmp_ge (t := 338) hX (by decide) d_X10_oneEvening_134 (fun c => ?_) (fun c => ?_)
  · rw [if_pos c] at e_1531
    cases e_1531
    exact kE0 s.1 _ _ _ _ _ rfl
  · rw [if_neg c] at e_1531
    refine aw_aload_n (i := 0) hX rfl rfl d_X10_oneEvening_137 ?_
    refine aw_sipush (v := 1000) hX (by decide) d_X10_oneEvening_138 ?_
    obtain ⟨q10, f_1532, e_1532⟩ := bd_some e_1531
    clear e_1531
    refine aw_callV (b := 240) (av := [.int 1000]) (avr := [.int 1000]) hX (k_X10_draw (cx_g hX) hF f_1532) mi_X10_draw rfl rfl w_893 w_894 w_895 (by decide) rfl (LAY_lt rfl (by decide)) rfl rfl (Nat.le_of_ble_eq_true rfl) (Nat.zero_le _) (Nat.zero_le _) d_X10_oneEvening_141 ?_
    refine aw_iload (i := 6) hX rfl d_X10_oneEvening_144 ?_
    refine aw_icmp_ge (t := 153) hX (by decide) d_X10_oneEvening_146 (fun c => ?_) (fun c => ?_)
    · rw [if_pos c] at e_1532
      refine aw_iconst (v := 0) hX (by decide) d_X10_oneEvening_153 ?_
      exact tj_X10_oneEvening_154_125 hF hX e_1532 kI kE0
    · rw [if_neg c] at e_1532
      refine aw_iconst (v := 1) hX (by decide) d_X10_oneEvening_149 ?_
      refine aw_goto (t := 154) hX (by decide) d_X10_oneEvening_150 ?_
      exact tj_X10_oneEvening_154_125 hF hX e_1532 kI kE0
theorem ti_X10_oneEvening_125 {g : GP} {X : MX} {mcR msR : Nat} (hF : gF g = true) (hX : Cx g RX10 cX10_oneEvening 4 mcR msR none [] X) {Q : State → Prop} {p1 : Int32} {p2 : Int32} {p4 : Int32} {p5 : Int32} {p6 : Int32} {y : Int32} {hz : AH} (kE0 : ∀ (y_5 : Value) (y_6 : Value) (y_7 : Value) (y_8 : Value) (y_9 : Value), AR g X 0 0 Q hz 338 [.ref 240, .int p1, .int p2, .int y, .int p4, y_5, y_6, y_7, y_8, y_9] []) (n : Nat) : ∀ (s : (Int32 × Int32)) (d8 : Value) (d9 : Value) (h : AH), lpH (l_X10_oneEvening_125 p1 p2 p4 p5 p6) n s h = some (y, hz) → AR g X 0 0 Q h 125 [.ref 240, .int p1, .int p2, .int s.1, .int p4, .int p5, .int p6, .int s.2, d8, d9] [] := by
  induction n with
  | zero => intro s d8 d9 h e; cases e
  | succ n ih =>
    intro s d8 d9 h e
    obtain ⟨x, h1, e1, e2⟩ := lpH_succ e
    rcases e2 with ⟨s2, rfl, e3⟩ | ⟨rfl, rfl⟩
    · exact tb_X10_oneEvening_125 hF hX e1 (fun s3 x0 x1 hs => by cases hs; exact ih _ _ _ _ e3) (fun yy x0 x1 x2 x3 x4 hy => by cases hy)
    · exact tb_X10_oneEvening_125 hF hX e1 (fun s3 x0 x1 hs => by cases hs) (fun yy x0 x1 x2 x3 x4 hy => by cases hy; exact kE0 x0 x1 x2 x3 x4)
theorem t_X10_oneEvening_125 {g : GP} {X : MX} {mcR msR : Nat} (hF : gF g = true) (hX : Cx g RX10 cX10_oneEvening 4 mcR msR none [] X) {Q : State → Prop} {p1 : Int32} {p2 : Int32} {p4 : Int32} {p5 : Int32} {p6 : Int32} {s : (Int32 × Int32)} {d8 : Value} {d9 : Value} {h hz : AH} {n : Nat} {y : Int32} (e : lpH (l_X10_oneEvening_125 p1 p2 p4 p5 p6) n s h = some (y, hz)) (kE0 : ∀ (y_5 : Value) (y_6 : Value) (y_7 : Value) (y_8 : Value) (y_9 : Value), AR g X 0 0 Q hz 338 [.ref 240, .int p1, .int p2, .int y, .int p4, y_5, y_6, y_7, y_8, y_9] []) : AR g X 0 0 Q h 125 [.ref 240, .int p1, .int p2, .int s.1, .int p4, .int p5, .int p6, .int s.2, d8, d9] [] := ti_X10_oneEvening_125 hF hX kE0 n _ _ _ _ e
def j_X10_oneEvening_120_57 (p1 : Int32) (p2 : Int32) (v3 : Int32) (v4 : Int32) (v5 : Int32) (k0 : Int32) (h : AH) : Option (((Int32 × Int32) ⊕ Unit) × AH) := bd (lpH (l_X10_oneEvening_125 p1 p2 v4 v5 k0) FU (v3, 0) h) fun y28 => some (.inl (y28.1, v4 + 1), y28.2)
theorem tj_X10_oneEvening_120_57 {g : GP} {X : MX} {mcR msR : Nat} (hF : gF g = true) (hX : Cx g RX10 cX10_oneEvening 4 mcR msR none [] X) {Q : State → Prop} {p1 : Int32} {p2 : Int32} {v3 : Int32} {v4 : Int32} {v5 : Int32} {k0 : Int32} {d6 : Value} {d7 : Value} {d8 : Value} {d9 : Value} {h hz : AH} {z : ((Int32 × Int32) ⊕ Unit)} (e : j_X10_oneEvening_120_57 p1 p2 v3 v4 v5 k0 h = some (z, hz)) (kI : ∀ (s2 : (Int32 × Int32)) (xd5 : Value) (xd6 : Value) (xd7 : Value) (xd8 : Value) (xd9 : Value), z = .inl s2 → AR g X 0 0 Q hz 57 [.ref 240, .int p1, .int p2, .int s2.1, .int s2.2, xd5, xd6, xd7, xd8, xd9] []) (kE0 : ∀ (yy : Unit) (y3 : Value) (y4 : Value) (y5 : Value) (y6 : Value) (y7 : Value) (y8 : Value) (y9 : Value), z = .inr yy → AR g X 0 0 Q hz 344 [.ref 240, .int p1, .int p2, y3, y4, y5, y6, y7, y8, y9] []) : AR g X 0 0 Q h 120 [.ref 240, .int p1, .int p2, .int v3, .int v4, .int v5, d6, d7, d8, d9] [.int k0] := by
  unfold j_X10_oneEvening_120_57 at e
  refine aw_istore (i := 6) (lv2 := [.ref 240, .int p1, .int p2, .int v3, .int v4, .int v5, .int k0, d7, d8, d9]) hX rfl rfl d_X10_oneEvening_120 ?_
  refine aw_iconst (v := 0) hX (by decide) d_X10_oneEvening_122 ?_
  refine aw_istore (i := 7) (lv2 := [.ref 240, .int p1, .int p2, .int v3, .int v4, .int v5, .int k0, .int 0, d8, d9]) hX rfl rfl d_X10_oneEvening_123 ?_
  obtain ⟨y28, f_1533, e_1533⟩ := bd_some e
  clear e
  refine t_X10_oneEvening_125 hF hX f_1533 (fun d29_5 d29_6 d29_7 d29_8 d29_9 => ?_)
  refine aw_iinc (i := 4) (lv2 := [.ref 240, .int p1, .int p2, .int y28.1, .int (v4 + 1), d29_5, d29_6, d29_7, d29_8, d29_9]) hX rfl rfl rfl rfl d_X10_oneEvening_338 ?_
  refine aw_goto (t := 57) hX (by decide) d_X10_oneEvening_341 ?_
  cases e_1533
  exact kI (y28.1, v4 + 1) _ _ _ _ _ rfl
def l_X10_oneEvening_57 (p1 : Int32) (p2 : Int32) (s : (Int32 × Int32)) (h : AH) : Option (((Int32 × Int32) ⊕ Unit) × AH) := if (gI h 240 4) ≤ s.2 then some (.inr (), h) else bd (s_X10_buysOf s.2 h) fun x6 => bd (s_X10_plans s.2 x6 1 h) fun q7 => if p2 = 0 then bd (s_X10_of s.2 1 q7.2) fun x8 => j_X10_oneEvening_120_57 p1 p2 s.1 s.2 x6 x8 q7.2 else bd (s_X10_of s.2 1 q7.2) fun x30 => bd (s_X10_of s.2 3 q7.2) fun x31 => bd (idivF (x30 * (1000 - x31)) 1000) fun x32 => j_X10_oneEvening_120_57 p1 p2 s.1 s.2 x6 x32 q7.2
theorem tb_X10_oneEvening_57 {g : GP} {X : MX} {mcR msR : Nat} (hF : gF g = true) (hX : Cx g RX10 cX10_oneEvening 4 mcR msR none [] X) {Q : State → Prop} {p1 : Int32} {p2 : Int32} {s : (Int32 × Int32)} {d5 : Value} {d6 : Value} {d7 : Value} {d8 : Value} {d9 : Value} {h hz : AH} {z : ((Int32 × Int32) ⊕ Unit)} (e : l_X10_oneEvening_57 p1 p2 s h = some (z, hz)) (kI : ∀ (s2 : (Int32 × Int32)) (xd5 : Value) (xd6 : Value) (xd7 : Value) (xd8 : Value) (xd9 : Value), z = .inl s2 → AR g X 0 0 Q hz 57 [.ref 240, .int p1, .int p2, .int s2.1, .int s2.2, xd5, xd6, xd7, xd8, xd9] []) (kE0 : ∀ (yy : Unit) (y3 : Value) (y4 : Value) (y5 : Value) (y6 : Value) (y7 : Value) (y8 : Value) (y9 : Value), z = .inr yy → AR g X 0 0 Q hz 344 [.ref 240, .int p1, .int p2, y3, y4, y5, y6, y7, y8, y9] []) : AR g X 0 0 Q h 57 [.ref 240, .int p1, .int p2, .int s.1, .int s.2, d5, d6, d7, d8, d9] [] := by
  unfold l_X10_oneEvening_57 at e
  refine aw_iload (i := 4) hX rfl d_X10_oneEvening_57 ?_
  refine aw_aload_n (i := 0) hX rfl rfl d_X10_oneEvening_59 ?_
  refine ar_getI hX fg_RX10_265 rfl d_X10_oneEvening_60 ?_
  refine aw_icmp_ge (t := 344) hX (by decide) d_X10_oneEvening_63 (fun c => ?_) (fun c => ?_)
  · rw [if_pos c] at e
    cases e
    exact kE0 () _ _ _ _ _ _ _ rfl
  · rw [if_neg c] at e
    refine aw_aload_n (i := 0) hX rfl rfl d_X10_oneEvening_66 ?_
    refine aw_iload (i := 4) hX rfl d_X10_oneEvening_67 ?_
    obtain ⟨x6, f_1534, e_1534⟩ := bd_some e
    clear e
    refine aw_callV (b := 240) (av := [.int s.2]) (avr := [.int s.2]) hX (k_X10_buysOf (cx_g hX) hF f_1534) mi_X10_buysOf rfl rfl w_819 w_820 w_821 (by decide) rfl (LAY_lt rfl (by decide)) rfl rfl (Nat.le_of_ble_eq_true rfl) (Nat.zero_le _) (Nat.zero_le _) d_X10_oneEvening_69 ?_
    refine aw_istore (i := 5) (lv2 := [.ref 240, .int p1, .int p2, .int s.1, .int s.2, .int x6, d6, d7, d8, d9]) hX rfl rfl d_X10_oneEvening_72 ?_
    refine aw_aload_n (i := 0) hX rfl rfl d_X10_oneEvening_74 ?_
    refine aw_iload (i := 4) hX rfl d_X10_oneEvening_75 ?_
    refine aw_iload (i := 5) hX rfl d_X10_oneEvening_77 ?_
    refine aw_iconst (v := 1) hX (by decide) d_X10_oneEvening_79 ?_
    obtain ⟨q7, f_1535, e_1535⟩ := bd_some e_1534
    clear e_1534
    refine aw_callV (b := 240) (av := [.int s.2, .int x6, .int 1]) (avr := [.int 1, .int x6, .int s.2]) hX (k_X10_plans (cx_g hX) hF f_1535) mi_X10_plans rfl rfl w_756 w_757 w_758 (by decide) rfl (LAY_lt rfl (by decide)) rfl rfl (Nat.le_of_ble_eq_true rfl) (Nat.zero_le _) (Nat.zero_le _) d_X10_oneEvening_80 ?_
    refine aw_iload_n (i := 2) hX rfl rfl d_X10_oneEvening_83 ?_
    refine aw_if_eq (t := 113) hX (by decide) d_X10_oneEvening_84 (fun c => ?_) (fun c => ?_)
    · rw [if_pos c] at e_1535
      refine aw_aload_n (i := 0) hX rfl rfl d_X10_oneEvening_113 ?_
      refine aw_iload (i := 4) hX rfl d_X10_oneEvening_114 ?_
      refine aw_iconst (v := 1) hX (by decide) d_X10_oneEvening_116 ?_
      obtain ⟨x8, f_1536, e_1536⟩ := bd_some e_1535
      clear e_1535
      refine aw_callV (b := 240) (av := [.int s.2, .int 1]) (avr := [.int 1, .int s.2]) hX (k_X10_of (cx_g hX) hF f_1536) mi_X10_of rfl rfl w_732 w_733 w_734 (by decide) rfl (LAY_lt rfl (by decide)) rfl rfl (Nat.le_of_ble_eq_true rfl) (Nat.zero_le _) (Nat.zero_le _) d_X10_oneEvening_117 ?_
      exact tj_X10_oneEvening_120_57 hF hX e_1536 kI kE0
    · rw [if_neg c] at e_1535
      refine aw_aload_n (i := 0) hX rfl rfl d_X10_oneEvening_87 ?_
      refine aw_iload (i := 4) hX rfl d_X10_oneEvening_88 ?_
      refine aw_iconst (v := 1) hX (by decide) d_X10_oneEvening_90 ?_
      obtain ⟨x30, f_1537, e_1537⟩ := bd_some e_1535
      clear e_1535
      refine aw_callV (b := 240) (av := [.int s.2, .int 1]) (avr := [.int 1, .int s.2]) hX (k_X10_of (cx_g hX) hF f_1537) mi_X10_of rfl rfl w_732 w_733 w_734 (by decide) rfl (LAY_lt rfl (by decide)) rfl rfl (Nat.le_of_ble_eq_true rfl) (Nat.zero_le _) (Nat.zero_le _) d_X10_oneEvening_91 ?_
      refine aw_sipush (v := 1000) hX (by decide) d_X10_oneEvening_94 ?_
      refine aw_aload_n (i := 0) hX rfl rfl d_X10_oneEvening_97 ?_
      refine aw_iload (i := 4) hX rfl d_X10_oneEvening_98 ?_
      refine aw_iconst (v := 3) hX (by decide) d_X10_oneEvening_100 ?_
      obtain ⟨x31, f_1538, e_1538⟩ := bd_some e_1537
      clear e_1537
      refine aw_callV (b := 240) (av := [.int s.2, .int 3]) (avr := [.int 3, .int s.2]) hX (k_X10_of (cx_g hX) hF f_1538) mi_X10_of rfl rfl w_732 w_733 w_734 (by decide) rfl (LAY_lt rfl (by decide)) rfl rfl (Nat.le_of_ble_eq_true rfl) (Nat.zero_le _) (Nat.zero_le _) d_X10_oneEvening_101 ?_
      refine aw_isub hX d_X10_oneEvening_104 ?_
      refine aw_imul hX d_X10_oneEvening_105 ?_
      refine aw_sipush (v := 1000) hX (by decide) d_X10_oneEvening_106 ?_
      obtain ⟨x32, f_1539, e_1539⟩ := bd_some e_1538
      clear e_1538
      refine ar_idiv hX f_1539 d_X10_oneEvening_109 ?_
      refine aw_goto (t := 120) hX (by decide) d_X10_oneEvening_110 ?_
      exact tj_X10_oneEvening_120_57 hF hX e_1539 kI kE0
theorem ti_X10_oneEvening_57 {g : GP} {X : MX} {mcR msR : Nat} (hF : gF g = true) (hX : Cx g RX10 cX10_oneEvening 4 mcR msR none [] X) {Q : State → Prop} {p1 : Int32} {p2 : Int32} {y : Unit} {hz : AH} (kE0 : ∀ (y_3 : Value) (y_4 : Value) (y_5 : Value) (y_6 : Value) (y_7 : Value) (y_8 : Value) (y_9 : Value), AR g X 0 0 Q hz 344 [.ref 240, .int p1, .int p2, y_3, y_4, y_5, y_6, y_7, y_8, y_9] []) (n : Nat) : ∀ (s : (Int32 × Int32)) (d5 : Value) (d6 : Value) (d7 : Value) (d8 : Value) (d9 : Value) (h : AH), lpH (l_X10_oneEvening_57 p1 p2) n s h = some (y, hz) → AR g X 0 0 Q h 57 [.ref 240, .int p1, .int p2, .int s.1, .int s.2, d5, d6, d7, d8, d9] [] := by
  induction n with
  | zero => intro s d5 d6 d7 d8 d9 h e; cases e
  | succ n ih =>
    intro s d5 d6 d7 d8 d9 h e
    obtain ⟨x, h1, e1, e2⟩ := lpH_succ e
    rcases e2 with ⟨s2, rfl, e3⟩ | ⟨rfl, rfl⟩
    · exact tb_X10_oneEvening_57 hF hX e1 (fun s3 x0 x1 x2 x3 x4 hs => by cases hs; exact ih _ _ _ _ _ _ _ e3) (fun yy x0 x1 x2 x3 x4 x5 x6 hy => by cases hy)
    · exact tb_X10_oneEvening_57 hF hX e1 (fun s3 x0 x1 x2 x3 x4 hs => by cases hs) (fun yy x0 x1 x2 x3 x4 x5 x6 hy => by cases hy; exact kE0 x0 x1 x2 x3 x4 x5 x6)
theorem t_X10_oneEvening_57 {g : GP} {X : MX} {mcR msR : Nat} (hF : gF g = true) (hX : Cx g RX10 cX10_oneEvening 4 mcR msR none [] X) {Q : State → Prop} {p1 : Int32} {p2 : Int32} {s : (Int32 × Int32)} {d5 : Value} {d6 : Value} {d7 : Value} {d8 : Value} {d9 : Value} {h hz : AH} {n : Nat} {y : Unit} (e : lpH (l_X10_oneEvening_57 p1 p2) n s h = some (y, hz)) (kE0 : ∀ (y_3 : Value) (y_4 : Value) (y_5 : Value) (y_6 : Value) (y_7 : Value) (y_8 : Value) (y_9 : Value), AR g X 0 0 Q hz 344 [.ref 240, .int p1, .int p2, y_3, y_4, y_5, y_6, y_7, y_8, y_9] []) : AR g X 0 0 Q h 57 [.ref 240, .int p1, .int p2, .int s.1, .int s.2, d5, d6, d7, d8, d9] [] := ti_X10_oneEvening_57 hF hX kE0 n _ _ _ _ _ _ _ e
def j_X10_oneEvening_408 (k0 : Int32) (k1 : Int32) (h : AH) : Option (Unit × AH) := bd (stI h 275 k1 k0) fun m37 => some ((), m37)
theorem tj_X10_oneEvening_408 {g : GP} {X : MX} {mcR msR : Nat} (hF : gF g = true) (hX : Cx g RX10 cX10_oneEvening 4 mcR msR none [] X) {k0 : Int32} {k1 : Int32} {d0 : Value} {d1 : Value} {d2 : Value} {d3 : Value} {d4 : Value} {d5 : Value} {d6 : Value} {d7 : Value} {d8 : Value} {d9 : Value} {h hz : AH} {z : Unit} (e : j_X10_oneEvening_408 k0 k1 h = some (z, hz)) : AR g X 0 0 (QQ g X NT false hz (.inl none) 0 0) h 408 [d0, d1, d2, d3, d4, d5, d6, d7, d8, d9] [.int k0, .int k1, .ref 275] := by
  unfold j_X10_oneEvening_408 at e
  obtain ⟨m37, f_1540, e_1540⟩ := bd_some e
  clear e
  refine ar_iastore hX f_1540 d_X10_oneEvening_408 ?_
  cases e_1540
  exact aw_return hX (Nat.zero_le _) (Nat.zero_le _) d_X10_oneEvening_409
def j_X10_oneEvening_388 (v1 : Int32) (v2 : Int32) (k0 : Int32) (k1 : Int32) (h : AH) : Option (Unit × AH) := bd (stI h 275 k1 k0) fun m36 => if v2 = 0 then j_X10_oneEvening_408 0 ((10 * v1) + 3) m36 else j_X10_oneEvening_408 1 ((10 * v1) + 3) m36
theorem tj_X10_oneEvening_388 {g : GP} {X : MX} {mcR msR : Nat} (hF : gF g = true) (hX : Cx g RX10 cX10_oneEvening 4 mcR msR none [] X) {v1 : Int32} {v2 : Int32} {k0 : Int32} {k1 : Int32} {d3 : Value} {d4 : Value} {d5 : Value} {d6 : Value} {d7 : Value} {d8 : Value} {d9 : Value} {h hz : AH} {z : Unit} (e : j_X10_oneEvening_388 v1 v2 k0 k1 h = some (z, hz)) : AR g X 0 0 (QQ g X NT false hz (.inl none) 0 0) h 388 [.ref 240, .int v1, .int v2, d3, d4, d5, d6, d7, d8, d9] [.int k0, .int k1, .ref 275] := by
  unfold j_X10_oneEvening_388 at e
  obtain ⟨m36, f_1541, e_1541⟩ := bd_some e
  clear e
  refine ar_iastore hX f_1541 d_X10_oneEvening_388 ?_
  refine aw_aload_n (i := 0) hX rfl rfl d_X10_oneEvening_389 ?_
  refine ar_getF hX hF fg_RX10_127 rfl d_X10_oneEvening_390 ?_
  show AR g X 0 0 _ _ 393 _ [.ref 275]
  refine aw_bipush (v := 10) hX (by decide) d_X10_oneEvening_393 ?_
  refine aw_iload_n (i := 1) hX rfl rfl d_X10_oneEvening_395 ?_
  refine aw_imul hX d_X10_oneEvening_396 ?_
  refine aw_iconst (v := 3) hX (by decide) d_X10_oneEvening_397 ?_
  refine aw_iadd hX d_X10_oneEvening_398 ?_
  refine aw_iload_n (i := 2) hX rfl rfl d_X10_oneEvening_399 ?_
  refine aw_if_eq (t := 407) hX (by decide) d_X10_oneEvening_400 (fun c => ?_) (fun c => ?_)
  · rw [if_pos c] at e_1541
    refine aw_iconst (v := 0) hX (by decide) d_X10_oneEvening_407 ?_
    exact tj_X10_oneEvening_408 hF hX e_1541
  · rw [if_neg c] at e_1541
    refine aw_iconst (v := 1) hX (by decide) d_X10_oneEvening_403 ?_
    refine aw_goto (t := 408) hX (by decide) d_X10_oneEvening_404 ?_
    exact tj_X10_oneEvening_408 hF hX e_1541
def j_X10_oneEvening_51 (v1 : Int32) (k0 : Int32) (h : AH) : Option (Unit × AH) := bd (lpH (l_X10_oneEvening_57 v1 k0) FU (0, 0) h) fun y33 => bd (ldI y33.2 275 (10 * v1)) fun x35 => if x35 ≤ (gI y33.2 240 1) then j_X10_oneEvening_388 v1 k0 0 ((10 * v1) + 1) y33.2 else bd (ldI y33.2 275 (10 * v1)) fun x38 => j_X10_oneEvening_388 v1 k0 (x38 - (gI y33.2 240 1)) ((10 * v1) + 1) y33.2
theorem tj_X10_oneEvening_51 {g : GP} {X : MX} {mcR msR : Nat} (hF : gF g = true) (hX : Cx g RX10 cX10_oneEvening 4 mcR msR none [] X) {v1 : Int32} {k0 : Int32} {d2 : Value} {d3 : Value} {d4 : Value} {d5 : Value} {d6 : Value} {d7 : Value} {d8 : Value} {d9 : Value} {h hz : AH} {z : Unit} (e : j_X10_oneEvening_51 v1 k0 h = some (z, hz)) : AR g X 0 0 (QQ g X NT false hz (.inl none) 0 0) h 51 [.ref 240, .int v1, d2, d3, d4, d5, d6, d7, d8, d9] [.int k0] := by
  unfold j_X10_oneEvening_51 at e
  refine aw_istore_n (i := 2) (lv2 := [.ref 240, .int v1, .int k0, d3, d4, d5, d6, d7, d8, d9]) hX rfl rfl rfl d_X10_oneEvening_51 ?_
  refine aw_iconst (v := 0) hX (by decide) d_X10_oneEvening_52 ?_
  refine aw_istore_n (i := 3) (lv2 := [.ref 240, .int v1, .int k0, .int 0, d4, d5, d6, d7, d8, d9]) hX rfl rfl rfl d_X10_oneEvening_53 ?_
  refine aw_iconst (v := 0) hX (by decide) d_X10_oneEvening_54 ?_
  refine aw_istore (i := 4) (lv2 := [.ref 240, .int v1, .int k0, .int 0, .int 0, d5, d6, d7, d8, d9]) hX rfl rfl d_X10_oneEvening_55 ?_
  obtain ⟨y33, f_1542, e_1542⟩ := bd_some e
  clear e
  refine t_X10_oneEvening_57 hF hX f_1542 (fun d34_3 d34_4 d34_5 d34_6 d34_7 d34_8 d34_9 => ?_)
  refine aw_aload_n (i := 0) hX rfl rfl d_X10_oneEvening_344 ?_
  refine ar_getF hX hF fg_RX10_127 rfl d_X10_oneEvening_345 ?_
  show AR g X 0 0 _ _ 348 _ [.ref 275]
  refine aw_bipush (v := 10) hX (by decide) d_X10_oneEvening_348 ?_
  refine aw_iload_n (i := 1) hX rfl rfl d_X10_oneEvening_350 ?_
  refine aw_imul hX d_X10_oneEvening_351 ?_
  refine aw_iconst (v := 1) hX (by decide) d_X10_oneEvening_352 ?_
  refine aw_iadd hX d_X10_oneEvening_353 ?_
  refine aw_aload_n (i := 0) hX rfl rfl d_X10_oneEvening_354 ?_
  refine ar_getF hX hF fg_RX10_127 rfl d_X10_oneEvening_355 ?_
  show AR g X 0 0 _ _ 358 _ [.ref 275, .int ((10 * v1) + 1), .ref 275]
  refine aw_bipush (v := 10) hX (by decide) d_X10_oneEvening_358 ?_
  refine aw_iload_n (i := 1) hX rfl rfl d_X10_oneEvening_360 ?_
  refine aw_imul hX d_X10_oneEvening_361 ?_
  obtain ⟨x35, f_1543, e_1543⟩ := bd_some e_1542
  clear e_1542
  refine ar_iaload hX f_1543 d_X10_oneEvening_362 ?_
  refine aw_aload_n (i := 0) hX rfl rfl d_X10_oneEvening_363 ?_
  refine ar_getI hX fg_RX10_7 rfl d_X10_oneEvening_364 ?_
  refine aw_icmp_le (t := 387) hX (by decide) d_X10_oneEvening_367 (fun c => ?_) (fun c => ?_)
  · rw [if_pos c] at e_1543
    refine aw_iconst (v := 0) hX (by decide) d_X10_oneEvening_387 ?_
    exact tj_X10_oneEvening_388 hF hX e_1543
  · rw [if_neg c] at e_1543
    refine aw_aload_n (i := 0) hX rfl rfl d_X10_oneEvening_370 ?_
    refine ar_getF hX hF fg_RX10_127 rfl d_X10_oneEvening_371 ?_
    show AR g X 0 0 _ _ 374 _ [.ref 275, .int ((10 * v1) + 1), .ref 275]
    refine aw_bipush (v := 10) hX (by decide) d_X10_oneEvening_374 ?_
    refine aw_iload_n (i := 1) hX rfl rfl d_X10_oneEvening_376 ?_
    refine aw_imul hX d_X10_oneEvening_377 ?_
    obtain ⟨x38, f_1544, e_1544⟩ := bd_some e_1543
    clear e_1543
    refine ar_iaload hX f_1544 d_X10_oneEvening_378 ?_
    refine aw_aload_n (i := 0) hX rfl rfl d_X10_oneEvening_379 ?_
    refine ar_getI hX fg_RX10_7 rfl d_X10_oneEvening_380 ?_
    refine aw_isub hX d_X10_oneEvening_383 ?_
    refine aw_goto (t := 388) hX (by decide) d_X10_oneEvening_384 ?_
    exact tj_X10_oneEvening_388 hF hX e_1544
def s_X10_oneEvening (a0 : Int32) (h : AH) : Option (Unit × AH) := bd (lpH (l_X10_oneEvening_2 a0) FU 0 h) fun y2 => bd (s_X10_draw 1000 y2.2) fun q4 => bd (ldI q4.2 241 ((4 * a0) + 2)) fun x5 => if x5 ≤ q4.1 then j_X10_oneEvening_51 a0 0 q4.2 else j_X10_oneEvening_51 a0 1 q4.2
theorem t_X10_oneEvening {g : GP} {X : MX} {mcR msR : Nat} (hF : gF g = true) (hX : Cx g RX10 cX10_oneEvening 4 mcR msR none [] X) {a0 : Int32} {h hz : AH} {z : Unit} (e : s_X10_oneEvening a0 h = some (z, hz)) : AR g X 0 0 (QQ g X NT false hz (.inl none) 0 0) h 0 [.ref 240, .int a0, jk, jk, jk, jk, jk, jk, jk, jk] [] := by
  unfold s_X10_oneEvening at e
  refine aw_iconst (v := 0) hX (by decide) d_X10_oneEvening_0 ?_
  refine aw_istore_n (i := 2) (lv2 := [.ref 240, .int a0, .int 0, jk, jk, jk, jk, jk, jk, jk]) hX rfl rfl rfl d_X10_oneEvening_1 ?_
  obtain ⟨y2, f_1545, e_1545⟩ := bd_some e
  clear e
  refine t_X10_oneEvening_2 hF hX f_1545 (fun d3_2 d3_3 d3_4 d3_5 d3_6 d3_7 d3_8 d3_9 => ?_)
  refine aw_aload_n (i := 0) hX rfl rfl d_X10_oneEvening_26 ?_
  refine aw_sipush (v := 1000) hX (by decide) d_X10_oneEvening_27 ?_
  obtain ⟨q4, f_1546, e_1546⟩ := bd_some e_1545
  clear e_1545
  refine aw_callV (b := 240) (av := [.int 1000]) (avr := [.int 1000]) hX (k_X10_draw (cx_g hX) hF f_1546) mi_X10_draw rfl rfl w_893 w_894 w_895 (by decide) rfl (LAY_lt rfl (by decide)) rfl rfl (Nat.le_of_ble_eq_true rfl) (Nat.zero_le _) (Nat.zero_le _) d_X10_oneEvening_30 ?_
  refine aw_aload_n (i := 0) hX rfl rfl d_X10_oneEvening_33 ?_
  refine ar_getF hX hF fg_RX10_13 rfl d_X10_oneEvening_34 ?_
  show AR g X 0 0 _ _ 37 _ [.ref 241, .int q4.1]
  refine aw_iconst (v := 4) hX (by decide) d_X10_oneEvening_37 ?_
  refine aw_iload_n (i := 1) hX rfl rfl d_X10_oneEvening_38 ?_
  refine aw_imul hX d_X10_oneEvening_39 ?_
  refine aw_iconst (v := 2) hX (by decide) d_X10_oneEvening_40 ?_
  refine aw_iadd hX d_X10_oneEvening_41 ?_
  obtain ⟨x5, f_1547, e_1547⟩ := bd_some e_1546
  clear e_1546
  refine ar_iaload hX f_1547 d_X10_oneEvening_42 ?_
  refine aw_icmp_ge (t := 50) hX (by decide) d_X10_oneEvening_43 (fun c => ?_) (fun c => ?_)
  · rw [if_pos c] at e_1547
    refine aw_iconst (v := 0) hX (by decide) d_X10_oneEvening_50 ?_
    exact tj_X10_oneEvening_51 hF hX e_1547
  · rw [if_neg c] at e_1547
    refine aw_iconst (v := 1) hX (by decide) d_X10_oneEvening_46 ?_
    refine aw_goto (t := 51) hX (by decide) d_X10_oneEvening_47 ?_
    exact tj_X10_oneEvening_51 hF hX e_1547
theorem k_X10_oneEvening {g : GP} (hg : g.1.stackTraces = false) (hF : gF g = true) {a0 : Int32} {h hz : AH} {z : Unit} (e : s_X10_oneEvening a0 h = some (z, hz)) : Ctr g yX10_oneEvening (wsY yX10_oneEvening cX10_oneEvening 10 none) 4 0 0 [.ref 240, .int a0] NT false h none NT false hz := ctr_of (lv0 := [.ref 240, .int a0, jk, jk, jk, jk, jk, jk, jk, jk]) rfl rfl (by decide) hg trivial (fun X hX hn => t_X10_oneEvening hF hX e)
theorem d_X10_on_0 : decode cX10_on 0 = .ok (.aload_n 0, 1) := by decide +kernel
theorem d_X10_on_1 : decode cX10_on 1 = .ok (.iconst 0, 1) := by decide +kernel
theorem d_X10_on_2 : decode cX10_on 2 = .ok (.putfield 133, 3) := by decide +kernel
theorem d_X10_on_5 : decode cX10_on 5 = .ok (.aload_n 0, 1) := by decide +kernel
theorem d_X10_on_6 : decode cX10_on 6 = .ok (.iload_n 1, 1) := by decide +kernel
theorem d_X10_on_7 : decode cX10_on 7 = .ok (.iconst 0, 1) := by decide +kernel
theorem d_X10_on_8 : decode cX10_on 8 = .ok (.bipush 16, 2) := by decide +kernel
theorem d_X10_on_10 : decode cX10_on 10 = .ok (.invokestatic 295, 3) := by decide +kernel
theorem d_X10_on_13 : decode cX10_on 13 = .ok (.iconst 1, 1) := by decide +kernel
theorem d_X10_on_14 : decode cX10_on 14 = .ok (.invokevirtual 253, 3) := by decide +kernel
theorem d_X10_on_17 : decode cX10_on 17 = .ok (.ifCond .ne 5, 3) := by decide +kernel
theorem d_X10_on_20 : decode cX10_on 20 = .ok (.iconst 0, 1) := by decide +kernel
theorem d_X10_on_21 : decode cX10_on 21 = .ok (.ireturn, 1) := by decide +kernel
theorem d_X10_on_22 : decode cX10_on 22 = .ok (.aload_n 0, 1) := by decide +kernel
theorem d_X10_on_23 : decode cX10_on 23 = .ok (.getfield 282, 3) := by decide +kernel
theorem d_X10_on_26 : decode cX10_on 26 = .ok (.ifCond .ne 15, 3) := by decide +kernel
theorem d_X10_on_29 : decode cX10_on 29 = .ok (.aload_n 0, 1) := by decide +kernel
theorem d_X10_on_30 : decode cX10_on 30 = .ok (.getfield 32, 3) := by decide +kernel
theorem d_X10_on_33 : decode cX10_on 33 = .ok (.iconst 1, 1) := by decide +kernel
theorem d_X10_on_34 : decode cX10_on 34 = .ok (.dup2, 1) := by decide +kernel
theorem d_X10_on_35 : decode cX10_on 35 = .ok (.iaload, 1) := by decide +kernel
theorem d_X10_on_36 : decode cX10_on 36 = .ok (.iconst 1, 1) := by decide +kernel
theorem d_X10_on_37 : decode cX10_on 37 = .ok (.iadd, 1) := by decide +kernel
theorem d_X10_on_38 : decode cX10_on 38 = .ok (.iastore, 1) := by decide +kernel
theorem d_X10_on_39 : decode cX10_on 39 = .ok (.iconst (-1), 1) := by decide +kernel
theorem d_X10_on_40 : decode cX10_on 40 = .ok (.ireturn, 1) := by decide +kernel
theorem d_X10_on_41 : decode cX10_on 41 = .ok (.aload_n 0, 1) := by decide +kernel
theorem d_X10_on_42 : decode cX10_on 42 = .ok (.getfield 109, 3) := by decide +kernel
theorem d_X10_on_45 : decode cX10_on 45 = .ok (.iconst 0, 1) := by decide +kernel
theorem d_X10_on_46 : decode cX10_on 46 = .ok (.iaload, 1) := by decide +kernel
theorem d_X10_on_47 : decode cX10_on 47 = .ok (.iload_n 1, 1) := by decide +kernel
theorem d_X10_on_48 : decode cX10_on 48 = .ok (.iadd, 1) := by decide +kernel
theorem d_X10_on_49 : decode cX10_on 49 = .ok (.aload_n 0, 1) := by decide +kernel
theorem d_X10_on_50 : decode cX10_on 50 = .ok (.getfield 262, 3) := by decide +kernel
theorem d_X10_on_53 : decode cX10_on 53 = .ok (.if_icmp .le 15, 3) := by decide +kernel
theorem d_X10_on_56 : decode cX10_on 56 = .ok (.aload_n 0, 1) := by decide +kernel
theorem d_X10_on_57 : decode cX10_on 57 = .ok (.getfield 32, 3) := by decide +kernel
theorem d_X10_on_60 : decode cX10_on 60 = .ok (.iconst 1, 1) := by decide +kernel
theorem d_X10_on_61 : decode cX10_on 61 = .ok (.dup2, 1) := by decide +kernel
theorem d_X10_on_62 : decode cX10_on 62 = .ok (.iaload, 1) := by decide +kernel
theorem d_X10_on_63 : decode cX10_on 63 = .ok (.iconst 1, 1) := by decide +kernel
theorem d_X10_on_64 : decode cX10_on 64 = .ok (.iadd, 1) := by decide +kernel
theorem d_X10_on_65 : decode cX10_on 65 = .ok (.iastore, 1) := by decide +kernel
theorem d_X10_on_66 : decode cX10_on 66 = .ok (.iconst (-1), 1) := by decide +kernel
theorem d_X10_on_67 : decode cX10_on 67 = .ok (.ireturn, 1) := by decide +kernel
theorem d_X10_on_68 : decode cX10_on 68 = .ok (.iconst 0, 1) := by decide +kernel
theorem d_X10_on_69 : decode cX10_on 69 = .ok (.istore_n 2, 1) := by decide +kernel
theorem d_X10_on_70 : decode cX10_on 70 = .ok (.iload_n 2, 1) := by decide +kernel
theorem d_X10_on_71 : decode cX10_on 71 = .ok (.iload_n 1, 1) := by decide +kernel
theorem d_X10_on_72 : decode cX10_on 72 = .ok (.if_icmp .ge 29, 3) := by decide +kernel
theorem d_X10_on_75 : decode cX10_on 75 = .ok (.aload_n 0, 1) := by decide +kernel
theorem d_X10_on_76 : decode cX10_on 76 = .ok (.aload_n 0, 1) := by decide +kernel
theorem d_X10_on_77 : decode cX10_on 77 = .ok (.getfield 109, 3) := by decide +kernel
theorem d_X10_on_80 : decode cX10_on 80 = .ok (.iconst 0, 1) := by decide +kernel
theorem d_X10_on_81 : decode cX10_on 81 = .ok (.iaload, 1) := by decide +kernel
theorem d_X10_on_82 : decode cX10_on 82 = .ok (.invokevirtual 405, 3) := by decide +kernel
theorem d_X10_on_85 : decode cX10_on 85 = .ok (.aload_n 0, 1) := by decide +kernel
theorem d_X10_on_86 : decode cX10_on 86 = .ok (.getfield 109, 3) := by decide +kernel
theorem d_X10_on_89 : decode cX10_on 89 = .ok (.iconst 0, 1) := by decide +kernel
theorem d_X10_on_90 : decode cX10_on 90 = .ok (.dup2, 1) := by decide +kernel
theorem d_X10_on_91 : decode cX10_on 91 = .ok (.iaload, 1) := by decide +kernel
theorem d_X10_on_92 : decode cX10_on 92 = .ok (.iconst 1, 1) := by decide +kernel
theorem d_X10_on_93 : decode cX10_on 93 = .ok (.iadd, 1) := by decide +kernel
theorem d_X10_on_94 : decode cX10_on 94 = .ok (.iastore, 1) := by decide +kernel
theorem d_X10_on_95 : decode cX10_on 95 = .ok (.iinc 2 1, 3) := by decide +kernel
theorem d_X10_on_98 : decode cX10_on 98 = .ok (.goto (-28), 3) := by decide +kernel
theorem d_X10_on_101 : decode cX10_on 101 = .ok (.aload_n 0, 1) := by decide +kernel
theorem d_X10_on_102 : decode cX10_on 102 = .ok (.getfield 109, 3) := by decide +kernel
theorem d_X10_on_105 : decode cX10_on 105 = .ok (.iconst 0, 1) := by decide +kernel
theorem d_X10_on_106 : decode cX10_on 106 = .ok (.iaload, 1) := by decide +kernel
theorem d_X10_on_107 : decode cX10_on 107 = .ok (.ireturn, 1) := by decide +kernel
def l_X10_on_70 (p1 : Int32) (s : Int32) (h : AH) : Option ((Int32 ⊕ Unit) × AH) := if p1 ≤ s then some (.inr (), h) else bd (ldI h 269 0) fun x4 => bd (s_X10_oneEvening x4 h) fun q5 => bd (ldI q5.2 269 0) fun x6 => bd (stI q5.2 269 0 (x6 + 1)) fun m7 => some (.inl (s + 1), m7)
theorem tb_X10_on_70 {g : GP} {X : MX} {mcR msR : Nat} (hF : gF g = true) (hX : Cx g RX10 cX10_on 5 mcR msR (some .int) [] X) {Q : State → Prop} {p1 : Int32} {s : Int32} {h hz : AH} {z : (Int32 ⊕ Unit)} (e : l_X10_on_70 p1 s h = some (z, hz)) (kI : ∀ (s2 : Int32), z = .inl s2 → AR g X 0 0 Q hz 70 [.ref 240, .int p1, .int s2] []) (kE0 : ∀ (yy : Unit) (y1 : Value) (y2 : Value), z = .inr yy → AR g X 0 0 Q hz 101 [.ref 240, y1, y2] []) : AR g X 0 0 Q h 70 [.ref 240, .int p1, .int s] [] := by
  unfold l_X10_on_70 at e
  refine aw_iload_n (i := 2) hX rfl rfl d_X10_on_70 ?_
  refine aw_iload_n (i := 1) hX rfl rfl d_X10_on_71 ?_
  refine aw_icmp_ge (t := 101) hX (by decide) d_X10_on_72 (fun c => ?_) (fun c => ?_)
  · rw [if_pos c] at e
    cases e
    exact kE0 () _ _ rfl
  · rw [if_neg c] at e
    refine aw_aload_n (i := 0) hX rfl rfl d_X10_on_75 ?_
    refine aw_aload_n (i := 0) hX rfl rfl d_X10_on_76 ?_
    refine ar_getF hX hF fg_RX10_109 rfl d_X10_on_77 ?_
    show AR g X 0 0 _ _ 80 _ [.ref 269, .ref 240]
    refine aw_iconst (v := 0) hX (by decide) d_X10_on_80 ?_
    obtain ⟨x4, f_1548, e_1548⟩ := bd_some e
    clear e
    refine ar_iaload hX f_1548 d_X10_on_81 ?_
    obtain ⟨q5, f_1549, e_1549⟩ := bd_some e_1548
    clear e_1548
    refine aw_callV (b := 240) (av := [.int x4]) (avr := [.int x4]) hX (k_X10_oneEvening (cx_g hX) hF f_1549) mi_X10_oneEvening rfl rfl w_897 w_898 w_899 (by decide) rfl (LAY_lt rfl (by decide)) rfl rfl (Nat.le_of_ble_eq_true rfl) (Nat.zero_le _) (Nat.zero_le _) d_X10_on_82 ?_
    refine aw_aload_n (i := 0) hX rfl rfl d_X10_on_85 ?_
    refine ar_getF hX hF fg_RX10_109 rfl d_X10_on_86 ?_
    show AR g X 0 0 _ _ 89 _ [.ref 269]
    refine aw_iconst (v := 0) hX (by decide) d_X10_on_89 ?_
    refine aw_dup2 hX rfl rfl d_X10_on_90 ?_
    obtain ⟨x6, f_1550, e_1550⟩ := bd_some e_1549
    clear e_1549
    refine ar_iaload hX f_1550 d_X10_on_91 ?_
    refine aw_iconst (v := 1) hX (by decide) d_X10_on_92 ?_
    refine aw_iadd hX d_X10_on_93 ?_
    obtain ⟨m7, f_1551, e_1551⟩ := bd_some e_1550
    clear e_1550
    refine ar_iastore hX f_1551 d_X10_on_94 ?_
    refine aw_iinc (i := 2) (lv2 := [.ref 240, .int p1, .int (s + 1)]) hX rfl rfl rfl rfl d_X10_on_95 ?_
    refine aw_goto (t := 70) hX (by decide) d_X10_on_98 ?_
    cases e_1551
    exact kI (s + 1)  rfl
theorem ti_X10_on_70 {g : GP} {X : MX} {mcR msR : Nat} (hF : gF g = true) (hX : Cx g RX10 cX10_on 5 mcR msR (some .int) [] X) {Q : State → Prop} {p1 : Int32} {y : Unit} {hz : AH} (kE0 : ∀ (y_1 : Value) (y_2 : Value), AR g X 0 0 Q hz 101 [.ref 240, y_1, y_2] []) (n : Nat) : ∀ (s : Int32) (h : AH), lpH (l_X10_on_70 p1) n s h = some (y, hz) → AR g X 0 0 Q h 70 [.ref 240, .int p1, .int s] [] := by
  induction n with
  | zero => intro s h e; cases e
  | succ n ih =>
    intro s h e
    obtain ⟨x, h1, e1, e2⟩ := lpH_succ e
    rcases e2 with ⟨s2, rfl, e3⟩ | ⟨rfl, rfl⟩
    · exact tb_X10_on_70 hF hX e1 (fun s3  hs => by cases hs; exact ih _  _ e3) (fun yy x0 x1 hy => by cases hy)
    · exact tb_X10_on_70 hF hX e1 (fun s3  hs => by cases hs) (fun yy x0 x1 hy => by cases hy; exact kE0 x0 x1)
theorem t_X10_on_70 {g : GP} {X : MX} {mcR msR : Nat} (hF : gF g = true) (hX : Cx g RX10 cX10_on 5 mcR msR (some .int) [] X) {Q : State → Prop} {p1 : Int32} {s : Int32} {h hz : AH} {n : Nat} {y : Unit} (e : lpH (l_X10_on_70 p1) n s h = some (y, hz)) (kE0 : ∀ (y_1 : Value) (y_2 : Value), AR g X 0 0 Q hz 101 [.ref 240, y_1, y_2] []) : AR g X 0 0 Q h 70 [.ref 240, .int p1, .int s] [] := ti_X10_on_70 hF hX kE0 n _  _ e
def s_X10_on (a0 : Int32) (h : AH) : Option (Int32 × AH) := bd (s_X10_within a0 0 16 (sI h 240 0 0)) fun x1 => bd (s_X10_right x1 1 (sI h 240 0 0)) fun q2 => if q2.1 = 0 then some (0, q2.2) else if (gI q2.2 240 58) = 0 then bd (ldI q2.2 246 1) fun x13 => bd (stI q2.2 246 1 (x13 + 1)) fun m14 => some ((-1), m14) else bd (ldI q2.2 269 0) fun x3 => if (x3 + a0) ≤ (gI q2.2 240 3) then bd (lpH (l_X10_on_70 a0) FU 0 q2.2) fun y8 => bd (ldI y8.2 269 0) fun x10 => some (x10, y8.2) else bd (ldI q2.2 246 1) fun x11 => bd (stI q2.2 246 1 (x11 + 1)) fun m12 => some ((-1), m12)
theorem t_X10_on {g : GP} {X : MX} {mcR msR : Nat} (hF : gF g = true) (hX : Cx g RX10 cX10_on 5 mcR msR (some .int) [] X) {a0 : Int32} {h hz : AH} {z : Int32} (e : s_X10_on a0 h = some (z, hz)) : AR g X 0 0 (QQ g X NT false hz (.inl (some (.int z))) 0 0) h 0 [.ref 240, .int a0, jk] [] := by
  unfold s_X10_on at e
  refine aw_aload_n (i := 0) hX rfl rfl d_X10_on_0 ?_
  refine aw_iconst (v := 0) hX (by decide) d_X10_on_1 ?_
  refine ar_putI hX fp_RX10_133 rfl d_X10_on_2 ?_
  refine aw_aload_n (i := 0) hX rfl rfl d_X10_on_5 ?_
  refine aw_iload_n (i := 1) hX rfl rfl d_X10_on_6 ?_
  refine aw_iconst (v := 0) hX (by decide) d_X10_on_7 ?_
  refine aw_bipush (v := 16) hX (by decide) d_X10_on_8 ?_
  obtain ⟨x1, f_1552, e_1552⟩ := bd_some e
  clear e
  refine aw_callS (av := [.int a0, .int 0, .int 16]) (avr := [.int 16, .int 0, .int a0]) hX (k_X10_within (cx_g hX) hF f_1552) mi_X10_within rfl rfl w_800 w_801 rfl (by decide) (Nat.le_of_ble_eq_true rfl) (Nat.zero_le _) (Nat.zero_le _) d_X10_on_10 ?_
  refine aw_iconst (v := 1) hX (by decide) d_X10_on_13 ?_
  obtain ⟨q2, f_1553, e_1553⟩ := bd_some e_1552
  clear e_1552
  refine aw_callV (b := 240) (av := [.int x1, .int 1]) (avr := [.int 1, .int x1]) hX (k_X10_right (cx_g hX) hF f_1553) mi_X10_right rfl rfl w_772 w_773 w_774 (by decide) rfl (LAY_lt rfl (by decide)) rfl rfl (Nat.le_of_ble_eq_true rfl) (Nat.zero_le _) (Nat.zero_le _) d_X10_on_14 ?_
  refine aw_if_ne (t := 22) hX (by decide) d_X10_on_17 (fun c => ?_) (fun c => ?_)
  · rw [if_neg c] at e_1553
    refine aw_aload_n (i := 0) hX rfl rfl d_X10_on_22 ?_
    refine ar_getI hX fg_RX10_282 rfl d_X10_on_23 ?_
    refine aw_if_ne (t := 41) hX (by decide) d_X10_on_26 (fun c => ?_) (fun c => ?_)
    · rw [if_neg c] at e_1553
      refine aw_aload_n (i := 0) hX rfl rfl d_X10_on_41 ?_
      refine ar_getF hX hF fg_RX10_109 rfl d_X10_on_42 ?_
      show AR g X 0 0 _ _ 45 _ [.ref 269]
      refine aw_iconst (v := 0) hX (by decide) d_X10_on_45 ?_
      obtain ⟨x3, f_1554, e_1554⟩ := bd_some e_1553
      clear e_1553
      refine ar_iaload hX f_1554 d_X10_on_46 ?_
      refine aw_iload_n (i := 1) hX rfl rfl d_X10_on_47 ?_
      refine aw_iadd hX d_X10_on_48 ?_
      refine aw_aload_n (i := 0) hX rfl rfl d_X10_on_49 ?_
      refine ar_getI hX fg_RX10_262 rfl d_X10_on_50 ?_
      refine aw_icmp_le (t := 68) hX (by decide) d_X10_on_53 (fun c => ?_) (fun c => ?_)
      · rw [if_pos c] at e_1554
        refine aw_iconst (v := 0) hX (by decide) d_X10_on_68 ?_
        refine aw_istore_n (i := 2) (lv2 := [.ref 240, .int a0, .int 0]) hX rfl rfl rfl d_X10_on_69 ?_
        obtain ⟨y8, f_1555, e_1555⟩ := bd_some e_1554
        clear e_1554
        refine t_X10_on_70 hF hX f_1555 (fun d9_1 d9_2 => ?_)
        refine aw_aload_n (i := 0) hX rfl rfl d_X10_on_101 ?_
        refine ar_getF hX hF fg_RX10_109 rfl d_X10_on_102 ?_
        show AR g X 0 0 _ _ 105 _ [.ref 269]
        refine aw_iconst (v := 0) hX (by decide) d_X10_on_105 ?_
        obtain ⟨x10, f_1556, e_1556⟩ := bd_some e_1555
        clear e_1555
        refine ar_iaload hX f_1556 d_X10_on_106 ?_
        cases e_1556
        exact aw_ireturn hX (Nat.zero_le _) (Nat.zero_le _) d_X10_on_107
      · rw [if_neg c] at e_1554
        refine aw_aload_n (i := 0) hX rfl rfl d_X10_on_56 ?_
        refine ar_getF hX hF fg_RX10_32 rfl d_X10_on_57 ?_
        show AR g X 0 0 _ _ 60 _ [.ref 246]
        refine aw_iconst (v := 1) hX (by decide) d_X10_on_60 ?_
        refine aw_dup2 hX rfl rfl d_X10_on_61 ?_
        obtain ⟨x11, f_1557, e_1557⟩ := bd_some e_1554
        clear e_1554
        refine ar_iaload hX f_1557 d_X10_on_62 ?_
        refine aw_iconst (v := 1) hX (by decide) d_X10_on_63 ?_
        refine aw_iadd hX d_X10_on_64 ?_
        obtain ⟨m12, f_1558, e_1558⟩ := bd_some e_1557
        clear e_1557
        refine ar_iastore hX f_1558 d_X10_on_65 ?_
        refine aw_iconst (v := (-1)) hX (by decide) d_X10_on_66 ?_
        cases e_1558
        exact aw_ireturn hX (Nat.zero_le _) (Nat.zero_le _) d_X10_on_67
    · rw [if_pos c] at e_1553
      refine aw_aload_n (i := 0) hX rfl rfl d_X10_on_29 ?_
      refine ar_getF hX hF fg_RX10_32 rfl d_X10_on_30 ?_
      show AR g X 0 0 _ _ 33 _ [.ref 246]
      refine aw_iconst (v := 1) hX (by decide) d_X10_on_33 ?_
      refine aw_dup2 hX rfl rfl d_X10_on_34 ?_
      obtain ⟨x13, f_1559, e_1559⟩ := bd_some e_1553
      clear e_1553
      refine ar_iaload hX f_1559 d_X10_on_35 ?_
      refine aw_iconst (v := 1) hX (by decide) d_X10_on_36 ?_
      refine aw_iadd hX d_X10_on_37 ?_
      obtain ⟨m14, f_1560, e_1560⟩ := bd_some e_1559
      clear e_1559
      refine ar_iastore hX f_1560 d_X10_on_38 ?_
      refine aw_iconst (v := (-1)) hX (by decide) d_X10_on_39 ?_
      cases e_1560
      exact aw_ireturn hX (Nat.zero_le _) (Nat.zero_le _) d_X10_on_40
  · rw [if_pos c] at e_1553
    refine aw_iconst (v := 0) hX (by decide) d_X10_on_20 ?_
    cases e_1553
    exact aw_ireturn hX (Nat.zero_le _) (Nat.zero_le _) d_X10_on_21
theorem k_X10_on {g : GP} (hg : g.1.stackTraces = false) (hF : gF g = true) {a0 : Int32} {h hz : AH} {z : Int32} (e : s_X10_on a0 h = some (z, hz)) : Ctr g yX10_on (wsY yX10_on cX10_on 3 (some .int)) 5 0 0 [.ref 240, .int a0] NT false h (some (.int z)) NT false hz := ctr_of (lv0 := [.ref 240, .int a0, jk]) rfl rfl (by decide) hg trivial (fun X hX hn => t_X10_on hF hX e)
theorem d_X10_seen_0 : decode cX10_seen 0 = .ok (.aload_n 0, 1) := by decide +kernel
theorem d_X10_seen_1 : decode cX10_seen 1 = .ok (.iconst 0, 1) := by decide +kernel
theorem d_X10_seen_2 : decode cX10_seen 2 = .ok (.putfield 133, 3) := by decide +kernel
theorem d_X10_seen_5 : decode cX10_seen 5 = .ok (.aload_n 0, 1) := by decide +kernel
theorem d_X10_seen_6 : decode cX10_seen 6 = .ok (.iload_n 1, 1) := by decide +kernel
theorem d_X10_seen_7 : decode cX10_seen 7 = .ok (.invokevirtual 302, 3) := by decide +kernel
theorem d_X10_seen_10 : decode cX10_seen 10 = .ok (.ifCond .eq 47, 3) := by decide +kernel
theorem d_X10_seen_13 : decode cX10_seen 13 = .ok (.aload_n 0, 1) := by decide +kernel
theorem d_X10_seen_14 : decode cX10_seen 14 = .ok (.aload_n 0, 1) := by decide +kernel
theorem d_X10_seen_15 : decode cX10_seen 15 = .ok (.getfield 282, 3) := by decide +kernel
theorem d_X10_seen_18 : decode cX10_seen 18 = .ok (.ifCond .eq 31, 3) := by decide +kernel
theorem d_X10_seen_21 : decode cX10_seen 21 = .ok (.iload_n 1, 1) := by decide +kernel
theorem d_X10_seen_22 : decode cX10_seen 22 = .ok (.aload_n 0, 1) := by decide +kernel
theorem d_X10_seen_23 : decode cX10_seen 23 = .ok (.getfield 109, 3) := by decide +kernel
theorem d_X10_seen_26 : decode cX10_seen 26 = .ok (.iconst 0, 1) := by decide +kernel
theorem d_X10_seen_27 : decode cX10_seen 27 = .ok (.iaload, 1) := by decide +kernel
theorem d_X10_seen_28 : decode cX10_seen 28 = .ok (.if_icmp .ge 21, 3) := by decide +kernel
theorem d_X10_seen_31 : decode cX10_seen 31 = .ok (.iload_n 2, 1) := by decide +kernel
theorem d_X10_seen_32 : decode cX10_seen 32 = .ok (.ifCond .lt 17, 3) := by decide +kernel
theorem d_X10_seen_35 : decode cX10_seen 35 = .ok (.iload_n 2, 1) := by decide +kernel
theorem d_X10_seen_36 : decode cX10_seen 36 = .ok (.iconst 4, 1) := by decide +kernel
theorem d_X10_seen_37 : decode cX10_seen 37 = .ok (.aload_n 0, 1) := by decide +kernel
theorem d_X10_seen_38 : decode cX10_seen 38 = .ok (.getfield 265, 3) := by decide +kernel
theorem d_X10_seen_41 : decode cX10_seen 41 = .ok (.iadd, 1) := by decide +kernel
theorem d_X10_seen_42 : decode cX10_seen 42 = .ok (.if_icmp .ge 7, 3) := by decide +kernel
theorem d_X10_seen_45 : decode cX10_seen 45 = .ok (.iconst 1, 1) := by decide +kernel
theorem d_X10_seen_46 : decode cX10_seen 46 = .ok (.goto 4, 3) := by decide +kernel
theorem d_X10_seen_49 : decode cX10_seen 49 = .ok (.iconst 0, 1) := by decide +kernel
theorem d_X10_seen_50 : decode cX10_seen 50 = .ok (.iconst 1, 1) := by decide +kernel
theorem d_X10_seen_51 : decode cX10_seen 51 = .ok (.invokevirtual 253, 3) := by decide +kernel
theorem d_X10_seen_54 : decode cX10_seen 54 = .ok (.ifCond .ne 5, 3) := by decide +kernel
theorem d_X10_seen_57 : decode cX10_seen 57 = .ok (.iconst 0, 1) := by decide +kernel
theorem d_X10_seen_58 : decode cX10_seen 58 = .ok (.ireturn, 1) := by decide +kernel
theorem d_X10_seen_59 : decode cX10_seen 59 = .ok (.aload_n 0, 1) := by decide +kernel
theorem d_X10_seen_60 : decode cX10_seen 60 = .ok (.getfield 127, 3) := by decide +kernel
theorem d_X10_seen_63 : decode cX10_seen 63 = .ok (.bipush 10, 2) := by decide +kernel
theorem d_X10_seen_65 : decode cX10_seen 65 = .ok (.iload_n 1, 1) := by decide +kernel
theorem d_X10_seen_66 : decode cX10_seen 66 = .ok (.imul, 1) := by decide +kernel
theorem d_X10_seen_67 : decode cX10_seen 67 = .ok (.iload_n 2, 1) := by decide +kernel
theorem d_X10_seen_68 : decode cX10_seen 68 = .ok (.iadd, 1) := by decide +kernel
theorem d_X10_seen_69 : decode cX10_seen 69 = .ok (.iaload, 1) := by decide +kernel
theorem d_X10_seen_70 : decode cX10_seen 70 = .ok (.ireturn, 1) := by decide +kernel
def j_X10_seen_50 (v1 : Int32) (v2 : Int32) (k0 : Int32) (h : AH) : Option (Int32 × AH) := bd (s_X10_right k0 1 h) fun q2 => if q2.1 = 0 then some (0, q2.2) else bd (ldI q2.2 275 ((10 * v1) + v2)) fun x3 => some (x3, q2.2)
theorem tj_X10_seen_50 {g : GP} {X : MX} {mcR msR : Nat} (hF : gF g = true) (hX : Cx g RX10 cX10_seen 3 mcR msR (some .int) [] X) {v1 : Int32} {v2 : Int32} {k0 : Int32} {h hz : AH} {z : Int32} (e : j_X10_seen_50 v1 v2 k0 h = some (z, hz)) : AR g X 0 0 (QQ g X NT false hz (.inl (some (.int z))) 0 0) h 50 [.ref 240, .int v1, .int v2] [.int k0, .ref 240] := by
  unfold j_X10_seen_50 at e
  refine aw_iconst (v := 1) hX (by decide) d_X10_seen_50 ?_
  obtain ⟨q2, f_1561, e_1561⟩ := bd_some e
  clear e
  refine aw_callV (b := 240) (av := [.int k0, .int 1]) (avr := [.int 1, .int k0]) hX (k_X10_right (cx_g hX) hF f_1561) mi_X10_right rfl rfl w_772 w_773 w_774 (by decide) rfl (LAY_lt rfl (by decide)) rfl rfl (Nat.le_of_ble_eq_true rfl) (Nat.zero_le _) (Nat.zero_le _) d_X10_seen_51 ?_
  refine aw_if_ne (t := 59) hX (by decide) d_X10_seen_54 (fun c => ?_) (fun c => ?_)
  · rw [if_neg c] at e_1561
    refine aw_aload_n (i := 0) hX rfl rfl d_X10_seen_59 ?_
    refine ar_getF hX hF fg_RX10_127 rfl d_X10_seen_60 ?_
    show AR g X 0 0 _ _ 63 _ [.ref 275]
    refine aw_bipush (v := 10) hX (by decide) d_X10_seen_63 ?_
    refine aw_iload_n (i := 1) hX rfl rfl d_X10_seen_65 ?_
    refine aw_imul hX d_X10_seen_66 ?_
    refine aw_iload_n (i := 2) hX rfl rfl d_X10_seen_67 ?_
    refine aw_iadd hX d_X10_seen_68 ?_
    obtain ⟨x3, f_1562, e_1562⟩ := bd_some e_1561
    clear e_1561
    refine ar_iaload hX f_1562 d_X10_seen_69 ?_
    cases e_1562
    exact aw_ireturn hX (Nat.zero_le _) (Nat.zero_le _) d_X10_seen_70
  · rw [if_pos c] at e_1561
    refine aw_iconst (v := 0) hX (by decide) d_X10_seen_57 ?_
    cases e_1561
    exact aw_ireturn hX (Nat.zero_le _) (Nat.zero_le _) d_X10_seen_58
def j_X10_seen_49 (v1 : Int32) (v2 : Int32) (h : AH) : Option (Int32 × AH) := j_X10_seen_50 v1 v2 0 h
theorem tj_X10_seen_49 {g : GP} {X : MX} {mcR msR : Nat} (hF : gF g = true) (hX : Cx g RX10 cX10_seen 3 mcR msR (some .int) [] X) {v1 : Int32} {v2 : Int32} {h hz : AH} {z : Int32} (e : j_X10_seen_49 v1 v2 h = some (z, hz)) : AR g X 0 0 (QQ g X NT false hz (.inl (some (.int z))) 0 0) h 49 [.ref 240, .int v1, .int v2] [.ref 240] := by
  unfold j_X10_seen_49 at e
  refine aw_iconst (v := 0) hX (by decide) d_X10_seen_49 ?_
  exact tj_X10_seen_50 hF hX e
def s_X10_seen (a0 : Int32) (a1 : Int32) (h : AH) : Option (Int32 × AH) := bd (s_X10_isEvening a0 (sI h 240 0 0)) fun q1 => if q1.1 = 0 then some (0, q1.2) else if (gI q1.2 240 58) = 0 then j_X10_seen_49 a0 a1 q1.2 else bd (ldI q1.2 269 0) fun x4 => if x4 ≤ a0 then j_X10_seen_49 a0 a1 q1.2 else if a1 < 0 then j_X10_seen_49 a0 a1 q1.2 else if (4 + (gI q1.2 240 4)) ≤ a1 then j_X10_seen_49 a0 a1 q1.2 else j_X10_seen_50 a0 a1 1 q1.2
theorem t_X10_seen {g : GP} {X : MX} {mcR msR : Nat} (hF : gF g = true) (hX : Cx g RX10 cX10_seen 3 mcR msR (some .int) [] X) {a0 : Int32} {a1 : Int32} {h hz : AH} {z : Int32} (e : s_X10_seen a0 a1 h = some (z, hz)) : AR g X 0 0 (QQ g X NT false hz (.inl (some (.int z))) 0 0) h 0 [.ref 240, .int a0, .int a1] [] := by
  unfold s_X10_seen at e
  refine aw_aload_n (i := 0) hX rfl rfl d_X10_seen_0 ?_
  refine aw_iconst (v := 0) hX (by decide) d_X10_seen_1 ?_
  refine ar_putI hX fp_RX10_133 rfl d_X10_seen_2 ?_
  refine aw_aload_n (i := 0) hX rfl rfl d_X10_seen_5 ?_
  refine aw_iload_n (i := 1) hX rfl rfl d_X10_seen_6 ?_
  obtain ⟨q1, f_1563, e_1563⟩ := bd_some e
  clear e
  refine aw_callV (b := 240) (av := [.int a0]) (avr := [.int a0]) hX (k_X10_isEvening (cx_g hX) hF f_1563) mi_X10_isEvening rfl rfl w_807 w_808 w_809 (by decide) rfl (LAY_lt rfl (by decide)) rfl rfl (Nat.le_of_ble_eq_true rfl) (Nat.zero_le _) (Nat.zero_le _) d_X10_seen_7 ?_
  refine aw_if_eq (t := 57) hX (by decide) d_X10_seen_10 (fun c => ?_) (fun c => ?_)
  · rw [if_pos c] at e_1563
    refine aw_iconst (v := 0) hX (by decide) d_X10_seen_57 ?_
    cases e_1563
    exact aw_ireturn hX (Nat.zero_le _) (Nat.zero_le _) d_X10_seen_58
  · rw [if_neg c] at e_1563
    refine aw_aload_n (i := 0) hX rfl rfl d_X10_seen_13 ?_
    refine aw_aload_n (i := 0) hX rfl rfl d_X10_seen_14 ?_
    refine ar_getI hX fg_RX10_282 rfl d_X10_seen_15 ?_
    refine aw_if_eq (t := 49) hX (by decide) d_X10_seen_18 (fun c => ?_) (fun c => ?_)
    · rw [if_pos c] at e_1563
      exact tj_X10_seen_49 hF hX e_1563
    · rw [if_neg c] at e_1563
      refine aw_iload_n (i := 1) hX rfl rfl d_X10_seen_21 ?_
      refine aw_aload_n (i := 0) hX rfl rfl d_X10_seen_22 ?_
      refine ar_getF hX hF fg_RX10_109 rfl d_X10_seen_23 ?_
      show AR g X 0 0 _ _ 26 _ [.ref 269, .int a0, .ref 240]
      refine aw_iconst (v := 0) hX (by decide) d_X10_seen_26 ?_
      obtain ⟨x4, f_1564, e_1564⟩ := bd_some e_1563
      clear e_1563
      refine ar_iaload hX f_1564 d_X10_seen_27 ?_
      refine aw_icmp_ge (t := 49) hX (by decide) d_X10_seen_28 (fun c => ?_) (fun c => ?_)
      · rw [if_pos c] at e_1564
        exact tj_X10_seen_49 hF hX e_1564
      · rw [if_neg c] at e_1564
        refine aw_iload_n (i := 2) hX rfl rfl d_X10_seen_31 ?_
        refine aw_if_lt (t := 49) hX (by decide) d_X10_seen_32 (fun c => ?_) (fun c => ?_)
        · rw [if_pos c] at e_1564
          exact tj_X10_seen_49 hF hX e_1564
        · rw [if_neg c] at e_1564
          refine aw_iload_n (i := 2) hX rfl rfl d_X10_seen_35 ?_
          refine aw_iconst (v := 4) hX (by decide) d_X10_seen_36 ?_
          refine aw_aload_n (i := 0) hX rfl rfl d_X10_seen_37 ?_
          refine ar_getI hX fg_RX10_265 rfl d_X10_seen_38 ?_
          refine aw_iadd hX d_X10_seen_41 ?_
          refine aw_icmp_ge (t := 49) hX (by decide) d_X10_seen_42 (fun c => ?_) (fun c => ?_)
          · rw [if_pos c] at e_1564
            exact tj_X10_seen_49 hF hX e_1564
          · rw [if_neg c] at e_1564
            refine aw_iconst (v := 1) hX (by decide) d_X10_seen_45 ?_
            refine aw_goto (t := 50) hX (by decide) d_X10_seen_46 ?_
            exact tj_X10_seen_50 hF hX e_1564
theorem k_X10_seen {g : GP} (hg : g.1.stackTraces = false) (hF : gF g = true) {a0 : Int32} {a1 : Int32} {h hz : AH} {z : Int32} (e : s_X10_seen a0 a1 h = some (z, hz)) : Ctr g yX10_seen (wsY yX10_seen cX10_seen 3 (some .int)) 3 0 0 [.ref 240, .int a0, .int a1] NT false h (some (.int z)) NT false hz := ctr_of (lv0 := [.ref 240, .int a0, .int a1]) rfl rfl (by decide) hg trivial (fun X hX hn => t_X10_seen hF hX e)
theorem d_X10_image_0 : decode cX10_image 0 = .ok (.aload_n 0, 1) := by decide +kernel
theorem d_X10_image_1 : decode cX10_image 1 = .ok (.iconst 0, 1) := by decide +kernel
theorem d_X10_image_2 : decode cX10_image 2 = .ok (.putfield 133, 3) := by decide +kernel
theorem d_X10_image_5 : decode cX10_image 5 = .ok (.aload_n 0, 1) := by decide +kernel
theorem d_X10_image_6 : decode cX10_image 6 = .ok (.getfield 282, 3) := by decide +kernel
theorem d_X10_image_9 : decode cX10_image 9 = .ok (.ifCond .ne 5, 3) := by decide +kernel
theorem d_X10_image_12 : decode cX10_image 12 = .ok (.iconst 0, 1) := by decide +kernel
theorem d_X10_image_13 : decode cX10_image 13 = .ok (.ireturn, 1) := by decide +kernel
theorem d_X10_image_14 : decode cX10_image 14 = .ok (.aload_n 0, 1) := by decide +kernel
theorem d_X10_image_15 : decode cX10_image 15 = .ok (.iconst 1, 1) := by decide +kernel
theorem d_X10_image_16 : decode cX10_image 16 = .ok (.putfield 285, 3) := by decide +kernel
theorem d_X10_image_19 : decode cX10_image 19 = .ok (.aload_n 0, 1) := by decide +kernel
theorem d_X10_image_20 : decode cX10_image 20 = .ok (.aload_n 0, 1) := by decide +kernel
theorem d_X10_image_21 : decode cX10_image 21 = .ok (.getfield 109, 3) := by decide +kernel
theorem d_X10_image_24 : decode cX10_image 24 = .ok (.aload_n 0, 1) := by decide +kernel
theorem d_X10_image_25 : decode cX10_image 25 = .ok (.getfield 112, 3) := by decide +kernel
theorem d_X10_image_28 : decode cX10_image 28 = .ok (.invokevirtual 274, 3) := by decide +kernel
theorem d_X10_image_31 : decode cX10_image 31 = .ok (.aload_n 0, 1) := by decide +kernel
theorem d_X10_image_32 : decode cX10_image 32 = .ok (.aload_n 0, 1) := by decide +kernel
theorem d_X10_image_33 : decode cX10_image 33 = .ok (.getfield 115, 3) := by decide +kernel
theorem d_X10_image_36 : decode cX10_image 36 = .ok (.aload_n 0, 1) := by decide +kernel
theorem d_X10_image_37 : decode cX10_image 37 = .ok (.getfield 121, 3) := by decide +kernel
theorem d_X10_image_40 : decode cX10_image 40 = .ok (.invokevirtual 274, 3) := by decide +kernel
theorem d_X10_image_43 : decode cX10_image 43 = .ok (.aload_n 0, 1) := by decide +kernel
theorem d_X10_image_44 : decode cX10_image 44 = .ok (.aload_n 0, 1) := by decide +kernel
theorem d_X10_image_45 : decode cX10_image 45 = .ok (.getfield 118, 3) := by decide +kernel
theorem d_X10_image_48 : decode cX10_image 48 = .ok (.aload_n 0, 1) := by decide +kernel
theorem d_X10_image_49 : decode cX10_image 49 = .ok (.getfield 124, 3) := by decide +kernel
theorem d_X10_image_52 : decode cX10_image 52 = .ok (.invokevirtual 274, 3) := by decide +kernel
theorem d_X10_image_55 : decode cX10_image 55 = .ok (.aload_n 0, 1) := by decide +kernel
theorem d_X10_image_56 : decode cX10_image 56 = .ok (.aload_n 0, 1) := by decide +kernel
theorem d_X10_image_57 : decode cX10_image 57 = .ok (.getfield 127, 3) := by decide +kernel
theorem d_X10_image_60 : decode cX10_image 60 = .ok (.aload_n 0, 1) := by decide +kernel
theorem d_X10_image_61 : decode cX10_image 61 = .ok (.getfield 130, 3) := by decide +kernel
theorem d_X10_image_64 : decode cX10_image 64 = .ok (.invokevirtual 274, 3) := by decide +kernel
theorem d_X10_image_67 : decode cX10_image 67 = .ok (.iconst 1, 1) := by decide +kernel
theorem d_X10_image_68 : decode cX10_image 68 = .ok (.ireturn, 1) := by decide +kernel
def s_X10_image (h : AH) : Option (Int32 × AH) := if (gI (sI h 240 0 0) 240 58) = 0 then some (0, sI h 240 0 0) else bd (s_X10_copies (some 269) (some 270) (sI (sI h 240 0 0) 240 59 1)) fun q1 => bd (s_X10_copies (some 271) (some 273) q1.2) fun q2 => bd (s_X10_copies (some 272) (some 274) q2.2) fun q3 => bd (s_X10_copies (some 275) (some 276) q3.2) fun q4 => some (1, q4.2)
theorem t_X10_image {g : GP} {X : MX} {mcR msR : Nat} (hF : gF g = true) (hX : Cx g RX10 cX10_image 2 mcR msR (some .boolean) [] X) {h hz : AH} {z : Int32} (e : s_X10_image h = some (z, hz)) : AR g X 0 0 (QQ g X NT false hz (.inl (some (.int z))) 0 0) h 0 [.ref 240] [] := by
  unfold s_X10_image at e
  refine aw_aload_n (i := 0) hX rfl rfl d_X10_image_0 ?_
  refine aw_iconst (v := 0) hX (by decide) d_X10_image_1 ?_
  refine ar_putI hX fp_RX10_133 rfl d_X10_image_2 ?_
  refine aw_aload_n (i := 0) hX rfl rfl d_X10_image_5 ?_
  refine ar_getI hX fg_RX10_282 rfl d_X10_image_6 ?_
  refine aw_if_ne (t := 14) hX (by decide) d_X10_image_9 (fun c => ?_) (fun c => ?_)
  · rw [if_neg c] at e
    refine aw_aload_n (i := 0) hX rfl rfl d_X10_image_14 ?_
    refine aw_iconst (v := 1) hX (by decide) d_X10_image_15 ?_
    refine ar_putZ hX fp_RX10_285 rfl (by decide) d_X10_image_16 ?_
    refine aw_aload_n (i := 0) hX rfl rfl d_X10_image_19 ?_
    refine aw_aload_n (i := 0) hX rfl rfl d_X10_image_20 ?_
    refine ar_getF hX hF fg_RX10_109 rfl d_X10_image_21 ?_
    show AR g X 0 0 _ _ 24 _ [.ref 269, .ref 240]
    refine aw_aload_n (i := 0) hX rfl rfl d_X10_image_24 ?_
    refine ar_getF hX hF fg_RX10_112 rfl d_X10_image_25 ?_
    show AR g X 0 0 _ _ 28 _ [.ref 270, .ref 269, .ref 240]
    obtain ⟨q1, f_1565, e_1565⟩ := bd_some e
    clear e
    refine aw_callV (b := 240) (av := [.ref 269, .ref 270]) (avr := [.ref 270, .ref 269]) hX (k_X10_copies (cx_g hX) hF f_1565) mi_X10_copies rfl rfl w_784 w_785 w_786 (by decide) rfl (LAY_lt rfl (by decide)) rfl rfl (Nat.le_of_ble_eq_true rfl) (Nat.zero_le _) (Nat.zero_le _) d_X10_image_28 ?_
    refine aw_aload_n (i := 0) hX rfl rfl d_X10_image_31 ?_
    refine aw_aload_n (i := 0) hX rfl rfl d_X10_image_32 ?_
    refine ar_getF hX hF fg_RX10_115 rfl d_X10_image_33 ?_
    show AR g X 0 0 _ _ 36 _ [.ref 271, .ref 240]
    refine aw_aload_n (i := 0) hX rfl rfl d_X10_image_36 ?_
    refine ar_getF hX hF fg_RX10_121 rfl d_X10_image_37 ?_
    show AR g X 0 0 _ _ 40 _ [.ref 273, .ref 271, .ref 240]
    obtain ⟨q2, f_1566, e_1566⟩ := bd_some e_1565
    clear e_1565
    refine aw_callV (b := 240) (av := [.ref 271, .ref 273]) (avr := [.ref 273, .ref 271]) hX (k_X10_copies (cx_g hX) hF f_1566) mi_X10_copies rfl rfl w_784 w_785 w_786 (by decide) rfl (LAY_lt rfl (by decide)) rfl rfl (Nat.le_of_ble_eq_true rfl) (Nat.zero_le _) (Nat.zero_le _) d_X10_image_40 ?_
    refine aw_aload_n (i := 0) hX rfl rfl d_X10_image_43 ?_
    refine aw_aload_n (i := 0) hX rfl rfl d_X10_image_44 ?_
    refine ar_getF hX hF fg_RX10_118 rfl d_X10_image_45 ?_
    show AR g X 0 0 _ _ 48 _ [.ref 272, .ref 240]
    refine aw_aload_n (i := 0) hX rfl rfl d_X10_image_48 ?_
    refine ar_getF hX hF fg_RX10_124 rfl d_X10_image_49 ?_
    show AR g X 0 0 _ _ 52 _ [.ref 274, .ref 272, .ref 240]
    obtain ⟨q3, f_1567, e_1567⟩ := bd_some e_1566
    clear e_1566
    refine aw_callV (b := 240) (av := [.ref 272, .ref 274]) (avr := [.ref 274, .ref 272]) hX (k_X10_copies (cx_g hX) hF f_1567) mi_X10_copies rfl rfl w_784 w_785 w_786 (by decide) rfl (LAY_lt rfl (by decide)) rfl rfl (Nat.le_of_ble_eq_true rfl) (Nat.zero_le _) (Nat.zero_le _) d_X10_image_52 ?_
    refine aw_aload_n (i := 0) hX rfl rfl d_X10_image_55 ?_
    refine aw_aload_n (i := 0) hX rfl rfl d_X10_image_56 ?_
    refine ar_getF hX hF fg_RX10_127 rfl d_X10_image_57 ?_
    show AR g X 0 0 _ _ 60 _ [.ref 275, .ref 240]
    refine aw_aload_n (i := 0) hX rfl rfl d_X10_image_60 ?_
    refine ar_getF hX hF fg_RX10_130 rfl d_X10_image_61 ?_
    show AR g X 0 0 _ _ 64 _ [.ref 276, .ref 275, .ref 240]
    obtain ⟨q4, f_1568, e_1568⟩ := bd_some e_1567
    clear e_1567
    refine aw_callV (b := 240) (av := [.ref 275, .ref 276]) (avr := [.ref 276, .ref 275]) hX (k_X10_copies (cx_g hX) hF f_1568) mi_X10_copies rfl rfl w_784 w_785 w_786 (by decide) rfl (LAY_lt rfl (by decide)) rfl rfl (Nat.le_of_ble_eq_true rfl) (Nat.zero_le _) (Nat.zero_le _) d_X10_image_64 ?_
    refine aw_iconst (v := 1) hX (by decide) d_X10_image_67 ?_
    cases e_1568
    exact aw_zreturn hX (by decide) (Nat.zero_le _) (Nat.zero_le _) d_X10_image_68
  · rw [if_pos c] at e
    refine aw_iconst (v := 0) hX (by decide) d_X10_image_12 ?_
    cases e
    exact aw_zreturn hX (by decide) (Nat.zero_le _) (Nat.zero_le _) d_X10_image_13
theorem k_X10_image {g : GP} (hg : g.1.stackTraces = false) (hF : gF g = true) {h hz : AH} {z : Int32} (e : s_X10_image h = some (z, hz)) : Ctr g yX10_image (wsY yX10_image cX10_image 1 (some .boolean)) 2 0 0 [.ref 240] NT false h (some (.int z)) NT false hz := ctr_of (lv0 := [.ref 240]) rfl rfl (by decide) hg trivial (fun X hX hn => t_X10_image hF hX e)
theorem d_X10_restore_0 : decode cX10_restore 0 = .ok (.aload_n 0, 1) := by decide +kernel
theorem d_X10_restore_1 : decode cX10_restore 1 = .ok (.iconst 0, 1) := by decide +kernel
theorem d_X10_restore_2 : decode cX10_restore 2 = .ok (.putfield 133, 3) := by decide +kernel
theorem d_X10_restore_5 : decode cX10_restore 5 = .ok (.aload_n 0, 1) := by decide +kernel
theorem d_X10_restore_6 : decode cX10_restore 6 = .ok (.getfield 285, 3) := by decide +kernel
theorem d_X10_restore_9 : decode cX10_restore 9 = .ok (.ifCond .ne 5, 3) := by decide +kernel
theorem d_X10_restore_12 : decode cX10_restore 12 = .ok (.iconst 0, 1) := by decide +kernel
theorem d_X10_restore_13 : decode cX10_restore 13 = .ok (.ireturn, 1) := by decide +kernel
theorem d_X10_restore_14 : decode cX10_restore 14 = .ok (.aload_n 0, 1) := by decide +kernel
theorem d_X10_restore_15 : decode cX10_restore 15 = .ok (.iconst 1, 1) := by decide +kernel
theorem d_X10_restore_16 : decode cX10_restore 16 = .ok (.putfield 282, 3) := by decide +kernel
theorem d_X10_restore_19 : decode cX10_restore 19 = .ok (.aload_n 0, 1) := by decide +kernel
theorem d_X10_restore_20 : decode cX10_restore 20 = .ok (.aload_n 0, 1) := by decide +kernel
theorem d_X10_restore_21 : decode cX10_restore 21 = .ok (.getfield 112, 3) := by decide +kernel
theorem d_X10_restore_24 : decode cX10_restore 24 = .ok (.aload_n 0, 1) := by decide +kernel
theorem d_X10_restore_25 : decode cX10_restore 25 = .ok (.getfield 109, 3) := by decide +kernel
theorem d_X10_restore_28 : decode cX10_restore 28 = .ok (.invokevirtual 274, 3) := by decide +kernel
theorem d_X10_restore_31 : decode cX10_restore 31 = .ok (.aload_n 0, 1) := by decide +kernel
theorem d_X10_restore_32 : decode cX10_restore 32 = .ok (.aload_n 0, 1) := by decide +kernel
theorem d_X10_restore_33 : decode cX10_restore 33 = .ok (.getfield 121, 3) := by decide +kernel
theorem d_X10_restore_36 : decode cX10_restore 36 = .ok (.aload_n 0, 1) := by decide +kernel
theorem d_X10_restore_37 : decode cX10_restore 37 = .ok (.getfield 115, 3) := by decide +kernel
theorem d_X10_restore_40 : decode cX10_restore 40 = .ok (.invokevirtual 274, 3) := by decide +kernel
theorem d_X10_restore_43 : decode cX10_restore 43 = .ok (.aload_n 0, 1) := by decide +kernel
theorem d_X10_restore_44 : decode cX10_restore 44 = .ok (.aload_n 0, 1) := by decide +kernel
theorem d_X10_restore_45 : decode cX10_restore 45 = .ok (.getfield 124, 3) := by decide +kernel
theorem d_X10_restore_48 : decode cX10_restore 48 = .ok (.aload_n 0, 1) := by decide +kernel
theorem d_X10_restore_49 : decode cX10_restore 49 = .ok (.getfield 118, 3) := by decide +kernel
theorem d_X10_restore_52 : decode cX10_restore 52 = .ok (.invokevirtual 274, 3) := by decide +kernel
theorem d_X10_restore_55 : decode cX10_restore 55 = .ok (.aload_n 0, 1) := by decide +kernel
theorem d_X10_restore_56 : decode cX10_restore 56 = .ok (.aload_n 0, 1) := by decide +kernel
theorem d_X10_restore_57 : decode cX10_restore 57 = .ok (.getfield 130, 3) := by decide +kernel
theorem d_X10_restore_60 : decode cX10_restore 60 = .ok (.aload_n 0, 1) := by decide +kernel
theorem d_X10_restore_61 : decode cX10_restore 61 = .ok (.getfield 127, 3) := by decide +kernel
theorem d_X10_restore_64 : decode cX10_restore 64 = .ok (.invokevirtual 274, 3) := by decide +kernel
theorem d_X10_restore_67 : decode cX10_restore 67 = .ok (.iconst 1, 1) := by decide +kernel
theorem d_X10_restore_68 : decode cX10_restore 68 = .ok (.ireturn, 1) := by decide +kernel
def s_X10_restore (h : AH) : Option (Int32 × AH) := if (gI (sI h 240 0 0) 240 59) = 0 then some (0, sI h 240 0 0) else bd (s_X10_copies (some 270) (some 269) (sI (sI h 240 0 0) 240 58 1)) fun q1 => bd (s_X10_copies (some 273) (some 271) q1.2) fun q2 => bd (s_X10_copies (some 274) (some 272) q2.2) fun q3 => bd (s_X10_copies (some 276) (some 275) q3.2) fun q4 => some (1, q4.2)
theorem t_X10_restore {g : GP} {X : MX} {mcR msR : Nat} (hF : gF g = true) (hX : Cx g RX10 cX10_restore 2 mcR msR (some .boolean) [] X) {h hz : AH} {z : Int32} (e : s_X10_restore h = some (z, hz)) : AR g X 0 0 (QQ g X NT false hz (.inl (some (.int z))) 0 0) h 0 [.ref 240] [] := by
  unfold s_X10_restore at e
  refine aw_aload_n (i := 0) hX rfl rfl d_X10_restore_0 ?_
  refine aw_iconst (v := 0) hX (by decide) d_X10_restore_1 ?_
  refine ar_putI hX fp_RX10_133 rfl d_X10_restore_2 ?_
  refine aw_aload_n (i := 0) hX rfl rfl d_X10_restore_5 ?_
  refine ar_getI hX fg_RX10_285 rfl d_X10_restore_6 ?_
  refine aw_if_ne (t := 14) hX (by decide) d_X10_restore_9 (fun c => ?_) (fun c => ?_)
  · rw [if_neg c] at e
    refine aw_aload_n (i := 0) hX rfl rfl d_X10_restore_14 ?_
    refine aw_iconst (v := 1) hX (by decide) d_X10_restore_15 ?_
    refine ar_putZ hX fp_RX10_282 rfl (by decide) d_X10_restore_16 ?_
    refine aw_aload_n (i := 0) hX rfl rfl d_X10_restore_19 ?_
    refine aw_aload_n (i := 0) hX rfl rfl d_X10_restore_20 ?_
    refine ar_getF hX hF fg_RX10_112 rfl d_X10_restore_21 ?_
    show AR g X 0 0 _ _ 24 _ [.ref 270, .ref 240]
    refine aw_aload_n (i := 0) hX rfl rfl d_X10_restore_24 ?_
    refine ar_getF hX hF fg_RX10_109 rfl d_X10_restore_25 ?_
    show AR g X 0 0 _ _ 28 _ [.ref 269, .ref 270, .ref 240]
    obtain ⟨q1, f_1569, e_1569⟩ := bd_some e
    clear e
    refine aw_callV (b := 240) (av := [.ref 270, .ref 269]) (avr := [.ref 269, .ref 270]) hX (k_X10_copies (cx_g hX) hF f_1569) mi_X10_copies rfl rfl w_784 w_785 w_786 (by decide) rfl (LAY_lt rfl (by decide)) rfl rfl (Nat.le_of_ble_eq_true rfl) (Nat.zero_le _) (Nat.zero_le _) d_X10_restore_28 ?_
    refine aw_aload_n (i := 0) hX rfl rfl d_X10_restore_31 ?_
    refine aw_aload_n (i := 0) hX rfl rfl d_X10_restore_32 ?_
    refine ar_getF hX hF fg_RX10_121 rfl d_X10_restore_33 ?_
    show AR g X 0 0 _ _ 36 _ [.ref 273, .ref 240]
    refine aw_aload_n (i := 0) hX rfl rfl d_X10_restore_36 ?_
    refine ar_getF hX hF fg_RX10_115 rfl d_X10_restore_37 ?_
    show AR g X 0 0 _ _ 40 _ [.ref 271, .ref 273, .ref 240]
    obtain ⟨q2, f_1570, e_1570⟩ := bd_some e_1569
    clear e_1569
    refine aw_callV (b := 240) (av := [.ref 273, .ref 271]) (avr := [.ref 271, .ref 273]) hX (k_X10_copies (cx_g hX) hF f_1570) mi_X10_copies rfl rfl w_784 w_785 w_786 (by decide) rfl (LAY_lt rfl (by decide)) rfl rfl (Nat.le_of_ble_eq_true rfl) (Nat.zero_le _) (Nat.zero_le _) d_X10_restore_40 ?_
    refine aw_aload_n (i := 0) hX rfl rfl d_X10_restore_43 ?_
    refine aw_aload_n (i := 0) hX rfl rfl d_X10_restore_44 ?_
    refine ar_getF hX hF fg_RX10_124 rfl d_X10_restore_45 ?_
    show AR g X 0 0 _ _ 48 _ [.ref 274, .ref 240]
    refine aw_aload_n (i := 0) hX rfl rfl d_X10_restore_48 ?_
    refine ar_getF hX hF fg_RX10_118 rfl d_X10_restore_49 ?_
    show AR g X 0 0 _ _ 52 _ [.ref 272, .ref 274, .ref 240]
    obtain ⟨q3, f_1571, e_1571⟩ := bd_some e_1570
    clear e_1570
    refine aw_callV (b := 240) (av := [.ref 274, .ref 272]) (avr := [.ref 272, .ref 274]) hX (k_X10_copies (cx_g hX) hF f_1571) mi_X10_copies rfl rfl w_784 w_785 w_786 (by decide) rfl (LAY_lt rfl (by decide)) rfl rfl (Nat.le_of_ble_eq_true rfl) (Nat.zero_le _) (Nat.zero_le _) d_X10_restore_52 ?_
    refine aw_aload_n (i := 0) hX rfl rfl d_X10_restore_55 ?_
    refine aw_aload_n (i := 0) hX rfl rfl d_X10_restore_56 ?_
    refine ar_getF hX hF fg_RX10_130 rfl d_X10_restore_57 ?_
    show AR g X 0 0 _ _ 60 _ [.ref 276, .ref 240]
    refine aw_aload_n (i := 0) hX rfl rfl d_X10_restore_60 ?_
    refine ar_getF hX hF fg_RX10_127 rfl d_X10_restore_61 ?_
    show AR g X 0 0 _ _ 64 _ [.ref 275, .ref 276, .ref 240]
    obtain ⟨q4, f_1572, e_1572⟩ := bd_some e_1571
    clear e_1571
    refine aw_callV (b := 240) (av := [.ref 276, .ref 275]) (avr := [.ref 275, .ref 276]) hX (k_X10_copies (cx_g hX) hF f_1572) mi_X10_copies rfl rfl w_784 w_785 w_786 (by decide) rfl (LAY_lt rfl (by decide)) rfl rfl (Nat.le_of_ble_eq_true rfl) (Nat.zero_le _) (Nat.zero_le _) d_X10_restore_64 ?_
    refine aw_iconst (v := 1) hX (by decide) d_X10_restore_67 ?_
    cases e_1572
    exact aw_zreturn hX (by decide) (Nat.zero_le _) (Nat.zero_le _) d_X10_restore_68
  · rw [if_pos c] at e
    refine aw_iconst (v := 0) hX (by decide) d_X10_restore_12 ?_
    cases e
    exact aw_zreturn hX (by decide) (Nat.zero_le _) (Nat.zero_le _) d_X10_restore_13
theorem k_X10_restore {g : GP} (hg : g.1.stackTraces = false) (hF : gF g = true) {h hz : AH} {z : Int32} (e : s_X10_restore h = some (z, hz)) : Ctr g yX10_restore (wsY yX10_restore cX10_restore 1 (some .boolean)) 2 0 0 [.ref 240] NT false h (some (.int z)) NT false hz := ctr_of (lv0 := [.ref 240]) rfl rfl (by decide) hg trivial (fun X hX hn => t_X10_restore hF hX e)
