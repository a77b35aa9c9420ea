/-! 29.hall: functions and contracts, by program -/
theorem d_J9_floorDiv_f86c9_0 : decode cJ9_floorDiv_f86c9 0 = .ok (.lload_n 0, 1) := by decide +kernel
theorem d_J9_floorDiv_f86c9_1 : decode cJ9_floorDiv_f86c9 1 = .ok (.lload_n 2, 1) := by decide +kernel
theorem d_J9_floorDiv_f86c9_2 : decode cJ9_floorDiv_f86c9 2 = .ok (.ldiv, 1) := by decide +kernel
theorem d_J9_floorDiv_f86c9_3 : decode cJ9_floorDiv_f86c9 3 = .ok (.lstore 4, 2) := by decide +kernel
theorem d_J9_floorDiv_f86c9_5 : decode cJ9_floorDiv_f86c9 5 = .ok (.lload_n 0, 1) := by decide +kernel
theorem d_J9_floorDiv_f86c9_6 : decode cJ9_floorDiv_f86c9 6 = .ok (.lload_n 2, 1) := by decide +kernel
theorem d_J9_floorDiv_f86c9_7 : decode cJ9_floorDiv_f86c9 7 = .ok (.lxor, 1) := by decide +kernel
theorem d_J9_floorDiv_f86c9_8 : decode cJ9_floorDiv_f86c9 8 = .ok (.lconst 0, 1) := by decide +kernel
theorem d_J9_floorDiv_f86c9_9 : decode cJ9_floorDiv_f86c9 9 = .ok (.lcmp, 1) := by decide +kernel
theorem d_J9_floorDiv_f86c9_10 : decode cJ9_floorDiv_f86c9 10 = .ok (.ifCond .ge 17, 3) := by decide +kernel
theorem d_J9_floorDiv_f86c9_13 : decode cJ9_floorDiv_f86c9 13 = .ok (.lload 4, 2) := by decide +kernel
theorem d_J9_floorDiv_f86c9_15 : decode cJ9_floorDiv_f86c9 15 = .ok (.lload_n 2, 1) := by decide +kernel
theorem d_J9_floorDiv_f86c9_16 : decode cJ9_floorDiv_f86c9 16 = .ok (.lmul, 1) := by decide +kernel
theorem d_J9_floorDiv_f86c9_17 : decode cJ9_floorDiv_f86c9 17 = .ok (.lload_n 0, 1) := by decide +kernel
theorem d_J9_floorDiv_f86c9_18 : decode cJ9_floorDiv_f86c9 18 = .ok (.lcmp, 1) := by decide +kernel
theorem d_J9_floorDiv_f86c9_19 : decode cJ9_floorDiv_f86c9 19 = .ok (.ifCond .eq 8, 3) := by decide +kernel
theorem d_J9_floorDiv_f86c9_22 : decode cJ9_floorDiv_f86c9 22 = .ok (.lload 4, 2) := by decide +kernel
theorem d_J9_floorDiv_f86c9_24 : decode cJ9_floorDiv_f86c9 24 = .ok (.lconst 1, 1) := by decide +kernel
theorem d_J9_floorDiv_f86c9_25 : decode cJ9_floorDiv_f86c9 25 = .ok (.lsub, 1) := by decide +kernel
theorem d_J9_floorDiv_f86c9_26 : decode cJ9_floorDiv_f86c9 26 = .ok (.lreturn, 1) := by decide +kernel
theorem d_J9_floorDiv_f86c9_27 : decode cJ9_floorDiv_f86c9 27 = .ok (.lload 4, 2) := by decide +kernel
theorem d_J9_floorDiv_f86c9_29 : decode cJ9_floorDiv_f86c9 29 = .ok (.lreturn, 1) := by decide +kernel
def s_J9_floorDiv_f86c9 (a0 : Int64) (a1 : Int64) (h : AH) : Option Int64 := bd (ldivF a0 a1) fun x1 => if 0 ≤ (a0 ^^^ a1) then some x1 else if (x1 * a1) = a0 then some x1 else some (x1 - 1)
theorem t_J9_floorDiv_f86c9 {g : GP} {X : MX} {mcR msR : Nat} (hF : gF g = true) (hX : Cx g RJ9 cJ9_floorDiv_f86c9 1 mcR msR (some .long) [] X) {a0 : Int64} {a1 : Int64} {h : AH} {z : Int64} (e : s_J9_floorDiv_f86c9 a0 a1 h = some z) : AR g X 0 0 (QQ g X NT false h (.inl (some (.long z))) 0 0) h 0 [.long a0, jk, .long a1, jk, jk, jk] [] := by
  unfold s_J9_floorDiv_f86c9 at e
  refine aw_lload_n (i := 0) hX rfl rfl d_J9_floorDiv_f86c9_0 ?_
  refine aw_lload_n (i := 2) hX rfl rfl d_J9_floorDiv_f86c9_1 ?_
  obtain ⟨x1, f_924, e_924⟩ := bd_some e
  clear e
  refine ar_ldiv hX f_924 d_J9_floorDiv_f86c9_2 ?_
  refine aw_lstore (i := 4) (lv2 := [.long a0, jk, .long a1, jk, .long x1, jk]) hX rfl rfl d_J9_floorDiv_f86c9_3 ?_
  refine aw_lload_n (i := 0) hX rfl rfl d_J9_floorDiv_f86c9_5 ?_
  refine aw_lload_n (i := 2) hX rfl rfl d_J9_floorDiv_f86c9_6 ?_
  refine aw_lxor hX d_J9_floorDiv_f86c9_7 ?_
  refine aw_lconst (v := 0) hX (by decide) d_J9_floorDiv_f86c9_8 ?_
  refine aw_lcmp hX d_J9_floorDiv_f86c9_9 ?_
  refine aw_if_ge (t := 27) hX (by decide) d_J9_floorDiv_f86c9_10 (fun c => ?_) (fun c => ?_)
  · replace c := lc_ge.mp c
    rw [if_pos c] at e_924
    refine aw_lload (i := 4) hX rfl d_J9_floorDiv_f86c9_27 ?_
    cases e_924
    exact aw_lreturn hX (Nat.zero_le _) (Nat.zero_le _) d_J9_floorDiv_f86c9_29
  · replace c := fun q => c (lc_ge.mpr q)
    rw [if_neg c] at e_924
    refine aw_lload (i := 4) hX rfl d_J9_floorDiv_f86c9_13 ?_
    refine aw_lload_n (i := 2) hX rfl rfl d_J9_floorDiv_f86c9_15 ?_
    refine aw_lmul hX d_J9_floorDiv_f86c9_16 ?_
    refine aw_lload_n (i := 0) hX rfl rfl d_J9_floorDiv_f86c9_17 ?_
    refine aw_lcmp hX d_J9_floorDiv_f86c9_18 ?_
    refine aw_if_eq (t := 27) hX (by decide) d_J9_floorDiv_f86c9_19 (fun c => ?_) (fun c => ?_)
    · replace c := lc_eq.mp c
      rw [if_pos c] at e_924
      refine aw_lload (i := 4) hX rfl d_J9_floorDiv_f86c9_27 ?_
      cases e_924
      exact aw_lreturn hX (Nat.zero_le _) (Nat.zero_le _) d_J9_floorDiv_f86c9_29
    · replace c := fun q => c (lc_eq.mpr q)
      rw [if_neg c] at e_924
      refine aw_lload (i := 4) hX rfl d_J9_floorDiv_f86c9_22 ?_
      refine aw_lconst (v := 1) hX (by decide) d_J9_floorDiv_f86c9_24 ?_
      refine aw_lsub hX d_J9_floorDiv_f86c9_25 ?_
      cases e_924
      exact aw_lreturn hX (Nat.zero_le _) (Nat.zero_le _) d_J9_floorDiv_f86c9_26
theorem k_J9_floorDiv_f86c9 {g : GP} (hg : g.1.stackTraces = false) (hF : gF g = true) {a0 : Int64} {a1 : Int64} {h : AH} {z : Int64} (e : s_J9_floorDiv_f86c9 a0 a1 h = some z) : Ctr g yJ9_floorDiv_f86c9 (wsY yJ9_floorDiv_f86c9 cJ9_floorDiv_f86c9 6 (some .long)) 1 0 0 [.long a0, .long a1] NT false h (some (.long z)) NT false h := ctrF_of (lv0 := [.long a0, jk, .long a1, jk, jk, jk]) rfl rfl (by decide +kernel) hg trivial (fun X hX hn => t_J9_floorDiv_f86c9 hF hX e)
theorem d_X9_feed_0 : decode cX9_feed 0 = .ok (.aload_n 0, 1) := by decide +kernel
theorem d_X9_feed_1 : decode cX9_feed 1 = .ok (.getfield 20, 3) := by decide +kernel
theorem d_X9_feed_4 : decode cX9_feed 4 = .ok (.getfield 74, 3) := by decide +kernel
theorem d_X9_feed_7 : decode cX9_feed 7 = .ok (.bipush 20, 2) := by decide +kernel
theorem d_X9_feed_9 : decode cX9_feed 9 = .ok (.iadd, 1) := by decide +kernel
theorem d_X9_feed_10 : decode cX9_feed 10 = .ok (.sipush 700, 3) := by decide +kernel
theorem d_X9_feed_13 : decode cX9_feed 13 = .ok (.if_icmp .le 5, 3) := by decide +kernel
theorem d_X9_feed_16 : decode cX9_feed 16 = .ok (.iconst (-1), 1) := by decide +kernel
theorem d_X9_feed_17 : decode cX9_feed 17 = .ok (.ireturn, 1) := by decide +kernel
theorem d_X9_feed_18 : decode cX9_feed 18 = .ok (.aload_n 0, 1) := by decide +kernel
theorem d_X9_feed_19 : decode cX9_feed 19 = .ok (.getfield 20, 3) := by decide +kernel
theorem d_X9_feed_22 : decode cX9_feed 22 = .ok (.iload_n 1, 1) := by decide +kernel
theorem d_X9_feed_23 : decode cX9_feed 23 = .ok (.invokevirtual 79, 3) := by decide +kernel
theorem d_X9_feed_26 : decode cX9_feed 26 = .ok (.aload_n 0, 1) := by decide +kernel
theorem d_X9_feed_27 : decode cX9_feed 27 = .ok (.getfield 20, 3) := by decide +kernel
theorem d_X9_feed_30 : decode cX9_feed 30 = .ok (.iload_n 2, 1) := by decide +kernel
theorem d_X9_feed_31 : decode cX9_feed 31 = .ok (.invokevirtual 79, 3) := by decide +kernel
theorem d_X9_feed_34 : decode cX9_feed 34 = .ok (.aload_n 0, 1) := by decide +kernel
theorem d_X9_feed_35 : decode cX9_feed 35 = .ok (.getfield 20, 3) := by decide +kernel
theorem d_X9_feed_38 : decode cX9_feed 38 = .ok (.iload_n 3, 1) := by decide +kernel
theorem d_X9_feed_39 : decode cX9_feed 39 = .ok (.invokevirtual 79, 3) := by decide +kernel
theorem d_X9_feed_42 : decode cX9_feed 42 = .ok (.aload_n 0, 1) := by decide +kernel
theorem d_X9_feed_43 : decode cX9_feed 43 = .ok (.getfield 20, 3) := by decide +kernel
theorem d_X9_feed_46 : decode cX9_feed 46 = .ok (.iload 4, 2) := by decide +kernel
theorem d_X9_feed_48 : decode cX9_feed 48 = .ok (.invokevirtual 79, 3) := by decide +kernel
theorem d_X9_feed_51 : decode cX9_feed 51 = .ok (.aload_n 0, 1) := by decide +kernel
theorem d_X9_feed_52 : decode cX9_feed 52 = .ok (.getfield 20, 3) := by decide +kernel
theorem d_X9_feed_55 : decode cX9_feed 55 = .ok (.iload 5, 2) := by decide +kernel
theorem d_X9_feed_57 : decode cX9_feed 57 = .ok (.invokevirtual 79, 3) := by decide +kernel
theorem d_X9_feed_60 : decode cX9_feed 60 = .ok (.aload_n 0, 1) := by decide +kernel
theorem d_X9_feed_61 : decode cX9_feed 61 = .ok (.getfield 20, 3) := by decide +kernel
theorem d_X9_feed_64 : decode cX9_feed 64 = .ok (.getfield 74, 3) := by decide +kernel
theorem d_X9_feed_67 : decode cX9_feed 67 = .ok (.ireturn, 1) := by decide +kernel
def s_X9_feed (a0 : Int32) (a1 : Int32) (a2 : Int32) (a3 : Int32) (a4 : Int32) (h : AH) : Option (Int32 × AH) := if ((gI h 2 1) + 20) ≤ 700 then bd (s_X7_add a0 h) fun q1 => bd (s_X7_add a1 q1.2) fun q2 => bd (s_X7_add a2 q2.2) fun q3 => bd (s_X7_add a3 q3.2) fun q4 => bd (s_X7_add a4 q4.2) fun q5 => some ((gI q5.2 2 1), q5.2) else some ((-1), h)
theorem t_X9_feed {g : GP} {X : MX} {mcR msR : Nat} (hF : gF g = true) (hX : Cx g RX9 cX9_feed 3 mcR msR (some .int) [] X) {a0 : Int32} {a1 : Int32} {a2 : Int32} {a3 : Int32} {a4 : Int32} {h hz : AH} {z : Int32} (e : s_X9_feed a0 a1 a2 a3 a4 h = some (z, hz)) : AR g X 0 0 (QQ g X NT false hz (.inl (some (.int z))) 0 0) h 0 [.ref 0, .int a0, .int a1, .int a2, .int a3, .int a4] [] := by
  unfold s_X9_feed at e
  refine aw_aload_n (i := 0) hX rfl rfl d_X9_feed_0 ?_
  refine ar_getF hX hF fg_RX9_20 rfl d_X9_feed_1 ?_
  show AR g X 0 0 _ _ 4 _ [.ref 2]
  refine ar_getI hX fg_RX9_74 rfl d_X9_feed_4 ?_
  refine aw_bipush (v := 20) hX (by decide) d_X9_feed_7 ?_
  refine aw_iadd hX d_X9_feed_9 ?_
  refine aw_sipush (v := 700) hX (by decide) d_X9_feed_10 ?_
  refine aw_icmp_le (t := 18) hX (by decide) d_X9_feed_13 (fun c => ?_) (fun c => ?_)
  · rw [if_pos c] at e
    refine aw_aload_n (i := 0) hX rfl rfl d_X9_feed_18 ?_
    refine ar_getF hX hF fg_RX9_20 rfl d_X9_feed_19 ?_
    show AR g X 0 0 _ _ 22 _ [.ref 2]
    refine aw_iload_n (i := 1) hX rfl rfl d_X9_feed_22 ?_
    obtain ⟨q1, f_750, e_750⟩ := bd_some e
    clear e
    refine aw_callV (b := 2) (av := [.int a0]) (avr := [.int a0]) hX (k_X7_add (cx_g hX) hF f_750) mi_X7_add rfl rfl w_446 w_447 w_448 (by decide) rfl (LAY_lt rfl (by decide)) rfl rfl (Nat.le_of_ble_eq_true rfl) (Nat.zero_le _) (Nat.zero_le _) d_X9_feed_23 ?_
    refine aw_aload_n (i := 0) hX rfl rfl d_X9_feed_26 ?_
    refine ar_getF hX hF fg_RX9_20 rfl d_X9_feed_27 ?_
    show AR g X 0 0 _ _ 30 _ [.ref 2]
    refine aw_iload_n (i := 2) hX rfl rfl d_X9_feed_30 ?_
    obtain ⟨q2, f_751, e_751⟩ := bd_some e_750
    clear e_750
    refine aw_callV (b := 2) (av := [.int a1]) (avr := [.int a1]) hX (k_X7_add (cx_g hX) hF f_751) mi_X7_add rfl rfl w_446 w_447 w_448 (by decide) rfl (LAY_lt rfl (by decide)) rfl rfl (Nat.le_of_ble_eq_true rfl) (Nat.zero_le _) (Nat.zero_le _) d_X9_feed_31 ?_
    refine aw_aload_n (i := 0) hX rfl rfl d_X9_feed_34 ?_
    refine ar_getF hX hF fg_RX9_20 rfl d_X9_feed_35 ?_
    show AR g X 0 0 _ _ 38 _ [.ref 2]
    refine aw_iload_n (i := 3) hX rfl rfl d_X9_feed_38 ?_
    obtain ⟨q3, f_752, e_752⟩ := bd_some e_751
    clear e_751
    refine aw_callV (b := 2) (av := [.int a2]) (avr := [.int a2]) hX (k_X7_add (cx_g hX) hF f_752) mi_X7_add rfl rfl w_446 w_447 w_448 (by decide) rfl (LAY_lt rfl (by decide)) rfl rfl (Nat.le_of_ble_eq_true rfl) (Nat.zero_le _) (Nat.zero_le _) d_X9_feed_39 ?_
    refine aw_aload_n (i := 0) hX rfl rfl d_X9_feed_42 ?_
    refine ar_getF hX hF fg_RX9_20 rfl d_X9_feed_43 ?_
    show AR g X 0 0 _ _ 46 _ [.ref 2]
    refine aw_iload (i := 4) hX rfl d_X9_feed_46 ?_
    obtain ⟨q4, f_753, e_753⟩ := bd_some e_752
    clear e_752
    refine aw_callV (b := 2) (av := [.int a3]) (avr := [.int a3]) hX (k_X7_add (cx_g hX) hF f_753) mi_X7_add rfl rfl w_446 w_447 w_448 (by decide) rfl (LAY_lt rfl (by decide)) rfl rfl (Nat.le_of_ble_eq_true rfl) (Nat.zero_le _) (Nat.zero_le _) d_X9_feed_48 ?_
    refine aw_aload_n (i := 0) hX rfl rfl d_X9_feed_51 ?_
    refine ar_getF hX hF fg_RX9_20 rfl d_X9_feed_52 ?_
    show AR g X 0 0 _ _ 55 _ [.ref 2]
    refine aw_iload (i := 5) hX rfl d_X9_feed_55 ?_
    obtain ⟨q5, f_754, e_754⟩ := bd_some e_753
    clear e_753
    refine aw_callV (b := 2) (av := [.int a4]) (avr := [.int a4]) hX (k_X7_add (cx_g hX) hF f_754) mi_X7_add rfl rfl w_446 w_447 w_448 (by decide) rfl (LAY_lt rfl (by decide)) rfl rfl (Nat.le_of_ble_eq_true rfl) (Nat.zero_le _) (Nat.zero_le _) d_X9_feed_57 ?_
    refine aw_aload_n (i := 0) hX rfl rfl d_X9_feed_60 ?_
    refine ar_getF hX hF fg_RX9_20 rfl d_X9_feed_61 ?_
    show AR g X 0 0 _ _ 64 _ [.ref 2]
    refine ar_getI hX fg_RX9_74 rfl d_X9_feed_64 ?_
    cases e_754
    exact aw_ireturn hX (Nat.zero_le _) (Nat.zero_le _) d_X9_feed_67
  · rw [if_neg c] at e
    refine aw_iconst (v := (-1)) hX (by decide) d_X9_feed_16 ?_
    cases e
    exact aw_ireturn hX (Nat.zero_le _) (Nat.zero_le _) d_X9_feed_17
theorem k_X9_feed {g : GP} (hg : g.1.stackTraces = false) (hF : gF g = true) {a0 : Int32} {a1 : Int32} {a2 : Int32} {a3 : Int32} {a4 : Int32} {h hz : AH} {z : Int32} (e : s_X9_feed a0 a1 a2 a3 a4 h = some (z, hz)) : Ctr g yX9_feed (wsY yX9_feed cX9_feed 6 (some .int)) 3 0 0 [.ref 0, .int a0, .int a1, .int a2, .int a3, .int a4] NT false h (some (.int z)) NT false hz := ctr_of (lv0 := [.ref 0, .int a0, .int a1, .int a2, .int a3, .int a4]) rfl rfl (by decide) hg trivial (fun X hX hn => t_X9_feed hF hX e)
theorem d_X9_hall_0 : decode cX9_hall 0 = .ok (.iload_n 1, 1) := by decide +kernel
theorem d_X9_hall_1 : decode cX9_hall 1 = .ok (.ifCond .lt 14, 3) := by decide +kernel
theorem d_X9_hall_4 : decode cX9_hall 4 = .ok (.iload_n 1, 1) := by decide +kernel
theorem d_X9_hall_5 : decode cX9_hall 5 = .ok (.aload_n 0, 1) := by decide +kernel
theorem d_X9_hall_6 : decode cX9_hall 6 = .ok (.getfield 20, 3) := by decide +kernel
theorem d_X9_hall_9 : decode cX9_hall 9 = .ok (.getfield 74, 3) := by decide +kernel
theorem d_X9_hall_12 : decode cX9_hall 12 = .ok (.if_icmp .le 11, 3) := by decide +kernel
theorem d_X9_hall_15 : decode cX9_hall 15 = .ok (.new 83, 3) := by decide +kernel
theorem d_X9_hall_18 : decode cX9_hall 18 = .ok (.dup, 1) := by decide +kernel
theorem d_X9_hall_19 : decode cX9_hall 19 = .ok (.invokespecial 85, 3) := by decide +kernel
theorem d_X9_hall_22 : decode cX9_hall 22 = .ok (.athrow, 1) := by decide +kernel
theorem d_X9_hall_23 : decode cX9_hall 23 = .ok (.aload_n 0, 1) := by decide +kernel
theorem d_X9_hall_24 : decode cX9_hall 24 = .ok (.getfield 10, 3) := by decide +kernel
theorem d_X9_hall_27 : decode cX9_hall 27 = .ok (.aload_n 0, 1) := by decide +kernel
theorem d_X9_hall_28 : decode cX9_hall 28 = .ok (.getfield 67, 3) := by decide +kernel
theorem d_X9_hall_31 : decode cX9_hall 31 = .ok (.iload_n 1, 1) := by decide +kernel
theorem d_X9_hall_32 : decode cX9_hall 32 = .ok (.invokevirtual 86, 3) := by decide +kernel
theorem d_X9_hall_35 : decode cX9_hall 35 = .ok (.istore_n 2, 1) := by decide +kernel
theorem d_X9_hall_36 : decode cX9_hall 36 = .ok (.aload_n 0, 1) := by decide +kernel
theorem d_X9_hall_37 : decode cX9_hall 37 = .ok (.getfield 20, 3) := by decide +kernel
theorem d_X9_hall_40 : decode cX9_hall 40 = .ok (.iconst 0, 1) := by decide +kernel
theorem d_X9_hall_41 : decode cX9_hall 41 = .ok (.putfield 74, 3) := by decide +kernel
theorem d_X9_hall_44 : decode cX9_hall 44 = .ok (.iload_n 2, 1) := by decide +kernel
theorem d_X9_hall_45 : decode cX9_hall 45 = .ok (.ifCond .eq 26, 3) := by decide +kernel
theorem d_X9_hall_48 : decode cX9_hall 48 = .ok (.aload_n 0, 1) := by decide +kernel
theorem d_X9_hall_49 : decode cX9_hall 49 = .ok (.aload_n 0, 1) := by decide +kernel
theorem d_X9_hall_50 : decode cX9_hall 50 = .ok (.getfield 10, 3) := by decide +kernel
theorem d_X9_hall_53 : decode cX9_hall 53 = .ok (.invokevirtual 90, 3) := by decide +kernel
theorem d_X9_hall_56 : decode cX9_hall 56 = .ok (.putfield 70, 3) := by decide +kernel
theorem d_X9_hall_59 : decode cX9_hall 59 = .ok (.aload_n 0, 1) := by decide +kernel
theorem d_X9_hall_60 : decode cX9_hall 60 = .ok (.dup, 1) := by decide +kernel
theorem d_X9_hall_61 : decode cX9_hall 61 = .ok (.getfield 94, 3) := by decide +kernel
theorem d_X9_hall_64 : decode cX9_hall 64 = .ok (.iconst 1, 1) := by decide +kernel
theorem d_X9_hall_65 : decode cX9_hall 65 = .ok (.iadd, 1) := by decide +kernel
theorem d_X9_hall_66 : decode cX9_hall 66 = .ok (.putfield 94, 3) := by decide +kernel
theorem d_X9_hall_69 : decode cX9_hall 69 = .ok (.iload_n 2, 1) := by decide +kernel
theorem d_X9_hall_70 : decode cX9_hall 70 = .ok (.ireturn, 1) := by decide +kernel
theorem d_X9_hall_71 : decode cX9_hall 71 = .ok (.aload_n 0, 1) := by decide +kernel
theorem d_X9_hall_72 : decode cX9_hall 72 = .ok (.iconst (-1), 1) := by decide +kernel
theorem d_X9_hall_73 : decode cX9_hall 73 = .ok (.putfield 70, 3) := by decide +kernel
theorem d_X9_hall_76 : decode cX9_hall 76 = .ok (.aload_n 0, 1) := by decide +kernel
theorem d_X9_hall_77 : decode cX9_hall 77 = .ok (.getfield 63, 3) := by decide +kernel
theorem d_X9_hall_80 : decode cX9_hall 80 = .ok (.astore_n 3, 1) := by decide +kernel
theorem d_X9_hall_81 : decode cX9_hall 81 = .ok (.aload_n 0, 1) := by decide +kernel
theorem d_X9_hall_82 : decode cX9_hall 82 = .ok (.aload_n 0, 1) := by decide +kernel
theorem d_X9_hall_83 : decode cX9_hall 83 = .ok (.getfield 67, 3) := by decide +kernel
theorem d_X9_hall_86 : decode cX9_hall 86 = .ok (.putfield 63, 3) := by decide +kernel
theorem d_X9_hall_89 : decode cX9_hall 89 = .ok (.aload_n 0, 1) := by decide +kernel
theorem d_X9_hall_90 : decode cX9_hall 90 = .ok (.aload_n 3, 1) := by decide +kernel
theorem d_X9_hall_91 : decode cX9_hall 91 = .ok (.putfield 67, 3) := by decide +kernel
theorem d_X9_hall_94 : decode cX9_hall 94 = .ok (.aload_n 0, 1) := by decide +kernel
theorem d_X9_hall_95 : decode cX9_hall 95 = .ok (.getfield 24, 3) := by decide +kernel
theorem d_X9_hall_98 : decode cX9_hall 98 = .ok (.aload_n 0, 1) := by decide +kernel
theorem d_X9_hall_99 : decode cX9_hall 99 = .ok (.getfield 63, 3) := by decide +kernel
theorem d_X9_hall_102 : decode cX9_hall 102 = .ok (.invokevirtual 97, 3) := by decide +kernel
theorem d_X9_hall_105 : decode cX9_hall 105 = .ok (.aload_n 0, 1) := by decide +kernel
theorem d_X9_hall_106 : decode cX9_hall 106 = .ok (.getfield 31, 3) := by decide +kernel
theorem d_X9_hall_109 : decode cX9_hall 109 = .ok (.invokevirtual 101, 3) := by decide +kernel
theorem d_X9_hall_112 : decode cX9_hall 112 = .ok (.aload_n 0, 1) := by decide +kernel
theorem d_X9_hall_113 : decode cX9_hall 113 = .ok (.getfield 38, 3) := by decide +kernel
theorem d_X9_hall_116 : decode cX9_hall 116 = .ok (.invokevirtual 104, 3) := by decide +kernel
theorem d_X9_hall_119 : decode cX9_hall 119 = .ok (.aload_n 0, 1) := by decide +kernel
theorem d_X9_hall_120 : decode cX9_hall 120 = .ok (.getfield 45, 3) := by decide +kernel
theorem d_X9_hall_123 : decode cX9_hall 123 = .ok (.invokevirtual 105, 3) := by decide +kernel
theorem d_X9_hall_126 : decode cX9_hall 126 = .ok (.aload_n 0, 1) := by decide +kernel
theorem d_X9_hall_127 : decode cX9_hall 127 = .ok (.getfield 52, 3) := by decide +kernel
theorem d_X9_hall_130 : decode cX9_hall 130 = .ok (.iconst 0, 1) := by decide +kernel
theorem d_X9_hall_131 : decode cX9_hall 131 = .ok (.putfield 106, 3) := by decide +kernel
theorem d_X9_hall_134 : decode cX9_hall 134 = .ok (.aload_n 0, 1) := by decide +kernel
theorem d_X9_hall_135 : decode cX9_hall 135 = .ok (.getfield 56, 3) := by decide +kernel
theorem d_X9_hall_138 : decode cX9_hall 138 = .ok (.iconst 0, 1) := by decide +kernel
theorem d_X9_hall_139 : decode cX9_hall 139 = .ok (.putfield 106, 3) := by decide +kernel
theorem d_X9_hall_142 : decode cX9_hall 142 = .ok (.iconst 0, 1) := by decide +kernel
theorem d_X9_hall_143 : decode cX9_hall 143 = .ok (.ireturn, 1) := by decide +kernel
def j_X9_hall_15 (h : AH) : Option ((Int32 ⊕ Nat) × AH) := some (.inr 1, h)
theorem tj_X9_hall_15 {g : GP} {X : MX} {mcR msR : Nat} (hF : gF g = true) (hX : Cx g RX9 cX9_hall 10 mcR msR (some .int) [] X) {d0 : Value} {d1 : Value} {d2 : Value} {d3 : Value} {h hz : AH} {z : (Int32 ⊕ Nat)} (e : j_X9_hall_15 h = some (z, hz)) (hM1 : xc z ≤ mcR) (hM2 : xs z ≤ msR) : AR g X 0 0 (QQ g X NT false hz (xo_I z) (xc z) (xs z)) h 15 [d0, d1, d2, d3] [] := by
  unfold j_X9_hall_15 at e
  cases e
  exact ar_throw hX (thr_RX9_1) (by decide) d_X9_hall_15 d_X9_hall_18 d_X9_hall_19 d_X9_hall_22 hM1 hM2
def s_X9_hall (a0 : Int32) (h : AH) : Option ((Int32 ⊕ Nat) × AH) := if a0 < 0 then j_X9_hall_15 h else if a0 ≤ (gI h 2 1) then bd (gR h 0 9) fun t1 => if LAY t1 = (0, 8) then bd (s_X3_read (some t1) a0 h) fun q2 => if q2.1 = 0 then bd (gR (sI (sI q2.2 2 1 0) 0 10 (-1)) 0 8) fun t3 => if LAY t3 = (0, 8) then bd (gR (sI (sI q2.2 2 1 0) 0 10 (-1)) 0 9) fun t4 => if LAY t4 = (0, 8) then bd (gR (sR (sR (sI (sI q2.2 2 1 0) 0 10 (-1)) 0 8 (some t4)) 0 9 (some t3)) 0 8) fun t5 => if LAY t5 = (0, 8) then bd (s_X0_open (some t5) (sR (sR (sI (sI q2.2 2 1 0) 0 10 (-1)) 0 8 (some t4)) 0 9 (some t3))) fun q6 => bd (s_X1_forget q6.2) fun q7 => bd (s_X5_forget q7.2) fun q8 => bd (s_X6_forget q8.2) fun q9 => some (.inl 0, sI (sI q9.2 224 0 0) 228 0 0) else none else none else none else bd (s_X3_place (sI q2.2 2 1 0)) fun x10 => some (.inl q2.1, sI (sI (sI q2.2 2 1 0) 0 10 x10) 0 11 ((gI (sI (sI q2.2 2 1 0) 0 10 x10) 0 11) + 1)) else none else j_X9_hall_15 h
theorem t_X9_hall {g : GP} {X : MX} {mcR msR : Nat} (hF : gF g = true) (hX : Cx g RX9 cX9_hall 10 mcR msR (some .int) [] X) {a0 : Int32} {h hz : AH} {z : (Int32 ⊕ Nat)} (e : s_X9_hall a0 h = some (z, hz)) (hM1 : xc z ≤ mcR) (hM2 : xs z ≤ msR) : AR g X 0 0 (QQ g X NT false hz (xo_I z) (xc z) (xs z)) h 0 [.ref 0, .int a0, jk, jk] [] := by
  unfold s_X9_hall at e
  refine aw_iload_n (i := 1) hX rfl rfl d_X9_hall_0 ?_
  refine aw_if_lt (t := 15) hX (by decide) d_X9_hall_1 (fun c => ?_) (fun c => ?_)
  · rw [if_pos c] at e
    exact tj_X9_hall_15 hF hX e hM1 hM2
  · rw [if_neg c] at e
    refine aw_iload_n (i := 1) hX rfl rfl d_X9_hall_4 ?_
    refine aw_aload_n (i := 0) hX rfl rfl d_X9_hall_5 ?_
    refine ar_getF hX hF fg_RX9_20 rfl d_X9_hall_6 ?_
    show AR g X 0 0 _ _ 9 _ [.ref 2, .int a0]
    refine ar_getI hX fg_RX9_74 rfl d_X9_hall_9 ?_
    refine aw_icmp_le (t := 23) hX (by decide) d_X9_hall_12 (fun c => ?_) (fun c => ?_)
    · rw [if_pos c] at e
      refine aw_aload_n (i := 0) hX rfl rfl d_X9_hall_23 ?_
      refine ar_getF hX hF fg_RX9_10 rfl d_X9_hall_24 ?_
      show AR g X 0 0 _ _ 27 _ [.ref 1]
      refine aw_aload_n (i := 0) hX rfl rfl d_X9_hall_27 ?_
      obtain ⟨t1, f_755, e_755⟩ := bd_some e
      clear e
      obtain ⟨hlt1, e_756⟩ := if_some e_755
      clear e_755
      refine ar_getR hX fg_RX9_67 rfl f_755 d_X9_hall_28 ?_
      refine aw_iload_n (i := 1) hX rfl rfl d_X9_hall_31 ?_
      obtain ⟨q2, f_757, e_757⟩ := bd_some e_756
      clear e_756
      refine aw_callV (b := 1) (av := [.ref t1, .int a0]) (avr := [.int a0, .ref t1]) hX (k_X3_read (cx_g hX) hF f_757) mi_X3_read rfl rfl w_452 w_453 w_454 (by decide) rfl (LAY_lt rfl (by decide)) rfl rfl (Nat.le_of_ble_eq_true rfl) (Nat.zero_le _) (Nat.zero_le _) d_X9_hall_32 ?_
      refine aw_istore_n (i := 2) (lv2 := [.ref 0, .int a0, .int q2.1, jk]) hX rfl rfl rfl d_X9_hall_35 ?_
      refine aw_aload_n (i := 0) hX rfl rfl d_X9_hall_36 ?_
      refine ar_getF hX hF fg_RX9_20 rfl d_X9_hall_37 ?_
      show AR g X 0 0 _ _ 40 _ [.ref 2]
      refine aw_iconst (v := 0) hX (by decide) d_X9_hall_40 ?_
      refine ar_putI hX fp_RX9_74 rfl d_X9_hall_41 ?_
      refine aw_iload_n (i := 2) hX rfl rfl d_X9_hall_44 ?_
      refine aw_if_eq (t := 71) hX (by decide) d_X9_hall_45 (fun c => ?_) (fun c => ?_)
      · rw [if_pos c] at e_757
        refine aw_aload_n (i := 0) hX rfl rfl d_X9_hall_71 ?_
        refine aw_iconst (v := (-1)) hX (by decide) d_X9_hall_72 ?_
        refine ar_putI hX fp_RX9_70 rfl d_X9_hall_73 ?_
        refine aw_aload_n (i := 0) hX rfl rfl d_X9_hall_76 ?_
        obtain ⟨t3, f_758, e_758⟩ := bd_some e_757
        clear e_757
        obtain ⟨hlt3, e_759⟩ := if_some e_758
        clear e_758
        refine ar_getR hX fg_RX9_63 rfl f_758 d_X9_hall_77 ?_
        refine aw_astore_n (i := 3) (lv2 := [.ref 0, .int a0, .int q2.1, .ref t3]) hX rfl rfl rfl d_X9_hall_80 ?_
        refine aw_aload_n (i := 0) hX rfl rfl d_X9_hall_81 ?_
        refine aw_aload_n (i := 0) hX rfl rfl d_X9_hall_82 ?_
        obtain ⟨t4, f_760, e_760⟩ := bd_some e_759
        clear e_759
        obtain ⟨hlt4, e_761⟩ := if_some e_760
        clear e_760
        refine ar_getR hX fg_RX9_67 rfl f_760 d_X9_hall_83 ?_
        refine ar_putR hX fp_RX9_63 rfl d_X9_hall_86 ?_
        refine aw_aload_n (i := 0) hX rfl rfl d_X9_hall_89 ?_
        refine aw_aload_n (i := 3) hX rfl rfl d_X9_hall_90 ?_
        refine ar_putR hX fp_RX9_67 rfl d_X9_hall_91 ?_
        refine aw_aload_n (i := 0) hX rfl rfl d_X9_hall_94 ?_
        refine ar_getF hX hF fg_RX9_24 rfl d_X9_hall_95 ?_
        show AR g X 0 0 _ _ 98 _ [.ref 13]
        refine aw_aload_n (i := 0) hX rfl rfl d_X9_hall_98 ?_
        obtain ⟨t5, f_762, e_762⟩ := bd_some e_761
        clear e_761
        obtain ⟨hlt5, e_763⟩ := if_some e_762
        clear e_762
        refine ar_getR hX fg_RX9_63 rfl f_762 d_X9_hall_99 ?_
        obtain ⟨q6, f_764, e_764⟩ := bd_some e_763
        clear e_763
        refine aw_callV (b := 13) (av := [.ref t5]) (avr := [.ref t5]) hX (k_X0_open (cx_g hX) hF f_764) mi_X0_open rfl rfl w_459 w_460 w_461 (by decide) rfl (LAY_lt rfl (by decide)) rfl rfl (Nat.le_of_ble_eq_true rfl) (Nat.zero_le _) (Nat.zero_le _) d_X9_hall_102 ?_
        refine aw_aload_n (i := 0) hX rfl rfl d_X9_hall_105 ?_
        refine ar_getF hX hF fg_RX9_31 rfl d_X9_hall_106 ?_
        show AR g X 0 0 _ _ 109 _ [.ref 211]
        obtain ⟨q7, f_765, e_765⟩ := bd_some e_764
        clear e_764
        refine aw_callV (b := 211) (av := []) (avr := []) hX (k_X1_forget (cx_g hX) hF f_765) mi_X1_forget rfl rfl w_464 w_465 w_466 (by decide) rfl (LAY_lt rfl (by decide)) rfl rfl (Nat.le_of_ble_eq_true rfl) (Nat.zero_le _) (Nat.zero_le _) d_X9_hall_109 ?_
        refine aw_aload_n (i := 0) hX rfl rfl d_X9_hall_112 ?_
        refine ar_getF hX hF fg_RX9_38 rfl d_X9_hall_113 ?_
        show AR g X 0 0 _ _ 116 _ [.ref 215]
        obtain ⟨q8, f_766, e_766⟩ := bd_some e_765
        clear e_765
        refine aw_callV (b := 215) (av := []) (avr := []) hX (k_X5_forget (cx_g hX) hF f_766) mi_X5_forget rfl rfl w_469 w_470 w_471 (by decide) rfl (LAY_lt rfl (by decide)) rfl rfl (Nat.le_of_ble_eq_true rfl) (Nat.zero_le _) (Nat.zero_le _) d_X9_hall_116 ?_
        refine aw_aload_n (i := 0) hX rfl rfl d_X9_hall_119 ?_
        refine ar_getF hX hF fg_RX9_45 rfl d_X9_hall_120 ?_
        show AR g X 0 0 _ _ 123 _ [.ref 220]
        obtain ⟨q9, f_767, e_767⟩ := bd_some e_766
        clear e_766
        refine aw_callV (b := 220) (av := []) (avr := []) hX (k_X6_forget (cx_g hX) hF f_767) mi_X6_forget rfl rfl w_474 w_475 w_476 (by decide) rfl (LAY_lt rfl (by decide)) rfl rfl (Nat.le_of_ble_eq_true rfl) (Nat.zero_le _) (Nat.zero_le _) d_X9_hall_123 ?_
        refine aw_aload_n (i := 0) hX rfl rfl d_X9_hall_126 ?_
        refine ar_getF hX hF fg_RX9_52 rfl d_X9_hall_127 ?_
        show AR g X 0 0 _ _ 130 _ [.ref 224]
        refine aw_iconst (v := 0) hX (by decide) d_X9_hall_130 ?_
        refine ar_putZ hX fp_RX9_106 rfl (by decide) d_X9_hall_131 ?_
        refine aw_aload_n (i := 0) hX rfl rfl d_X9_hall_134 ?_
        refine ar_getF hX hF fg_RX9_56 rfl d_X9_hall_135 ?_
        show AR g X 0 0 _ _ 138 _ [.ref 228]
        refine aw_iconst (v := 0) hX (by decide) d_X9_hall_138 ?_
        refine ar_putZ hX fp_RX9_106 rfl (by decide) d_X9_hall_139 ?_
        refine aw_iconst (v := 0) hX (by decide) d_X9_hall_142 ?_
        cases e_767
        exact aw_ireturn hX (Nat.zero_le _) (Nat.zero_le _) d_X9_hall_143
      · rw [if_neg c] at e_757
        refine aw_aload_n (i := 0) hX rfl rfl d_X9_hall_48 ?_
        refine aw_aload_n (i := 0) hX rfl rfl d_X9_hall_49 ?_
        refine ar_getF hX hF fg_RX9_10 rfl d_X9_hall_50 ?_
        show AR g X 0 0 _ _ 53 _ [.ref 1, .ref 0]
        obtain ⟨x10, f_768, e_768⟩ := bd_some e_757
        clear e_757
        refine aw_callV (b := 1) (av := []) (avr := []) hX (k_X3_place (cx_g hX) hF f_768) mi_X3_place rfl rfl w_481 w_482 w_483 (by decide) rfl (LAY_lt rfl (by decide)) rfl rfl (Nat.le_of_ble_eq_true rfl) (Nat.zero_le _) (Nat.zero_le _) d_X9_hall_53 ?_
        refine ar_putI hX fp_RX9_70 rfl d_X9_hall_56 ?_
        refine aw_aload_n (i := 0) hX rfl rfl d_X9_hall_59 ?_
        refine aw_dup hX rfl d_X9_hall_60 ?_
        refine ar_getI hX fg_RX9_94 rfl d_X9_hall_61 ?_
        refine aw_iconst (v := 1) hX (by decide) d_X9_hall_64 ?_
        refine aw_iadd hX d_X9_hall_65 ?_
        refine ar_putI hX fp_RX9_94 rfl d_X9_hall_66 ?_
        refine aw_iload_n (i := 2) hX rfl rfl d_X9_hall_69 ?_
        cases e_768
        exact aw_ireturn hX (Nat.zero_le _) (Nat.zero_le _) d_X9_hall_70
    · rw [if_neg c] at e
      exact tj_X9_hall_15 hF hX e hM1 hM2
theorem k_X9_hall {g : GP} (hg : g.1.stackTraces = false) (hF : gF g = true) {a0 : Int32} {h hz : AH} {z : Int32} (e : s_X9_hall a0 h = some (.inl z, hz)) : Ctr g yX9_hall (wsY yX9_hall cX9_hall 4 (some .int)) 10 0 0 [.ref 0, .int a0] NT false h (some (.int z)) NT false hz := ctr_of (lv0 := [.ref 0, .int a0, jk, jk]) rfl rfl (by decide) hg trivial (fun X hX hn => t_X9_hall hF hX e (Nat.zero_le _) (Nat.zero_le _))
theorem kx_X9_hall {g : GP} (hg : g.1.stackTraces = false) (hF : gF g = true) {a0 : Int32} {h hz : AH} {z : Nat} (e : s_X9_hall a0 h = some (.inr z, hz)) : CtrX g yX9_hall (wsY yX9_hall cX9_hall 4 (some .int)) 10 [.ref 0, .int a0] NT h z hz := ctrX_of (lv0 := [.ref 0, .int a0, jk, jk]) rfl rfl (by decide) hg (fun X hX => t_X9_hall hF hX e (Nat.le_refl _) (Nat.le_refl _))
theorem d_X9_fault_0 : decode cX9_fault 0 = .ok (.aload_n 0, 1) := by decide +kernel
theorem d_X9_fault_1 : decode cX9_fault 1 = .ok (.getfield 70, 3) := by decide +kernel
theorem d_X9_fault_4 : decode cX9_fault 4 = .ok (.ireturn, 1) := by decide +kernel
def s_X9_fault (h : AH) : Option Int32 := some (gI h 0 10)
theorem t_X9_fault {g : GP} {X : MX} {mcR msR : Nat} (hF : gF g = true) (hX : Cx g RX9 cX9_fault 1 mcR msR (some .int) [] X) {h : AH} {z : Int32} (e : s_X9_fault h = some z) : AR g X 0 0 (QQ g X NT false h (.inl (some (.int z))) 0 0) h 0 [.ref 0] [] := by
  unfold s_X9_fault at e
  refine aw_aload_n (i := 0) hX rfl rfl d_X9_fault_0 ?_
  refine ar_getI hX fg_RX9_70 rfl d_X9_fault_1 ?_
  cases e
  exact aw_ireturn hX (Nat.zero_le _) (Nat.zero_le _) d_X9_fault_4
theorem k_X9_fault {g : GP} (hg : g.1.stackTraces = false) (hF : gF g = true) {h : AH} {z : Int32} (e : s_X9_fault h = some z) : Ctr g yX9_fault (wsY yX9_fault cX9_fault 1 (some .int)) 1 0 0 [.ref 0] NT false h (some (.int z)) NT false h := ctr_of (lv0 := [.ref 0]) rfl rfl (by decide) hg trivial (fun X hX hn => t_X9_fault hF hX e)
theorem d_X9_count_0 : decode cX9_count 0 = .ok (.iload_n 1, 1) := by decide +kernel
theorem d_X9_count_1 : decode cX9_count 1 = .ok (.tableswitch 129 0 9 #[55, 63, 71, 79, 87, 95, 103, 111, 119, 124], 55) := by decide +kernel
theorem d_X9_count_56 : decode cX9_count 56 = .ok (.aload_n 0, 1) := by decide +kernel
theorem d_X9_count_57 : decode cX9_count 57 = .ok (.getfield 63, 3) := by decide +kernel
theorem d_X9_count_60 : decode cX9_count 60 = .ok (.getfield 110, 3) := by decide +kernel
theorem d_X9_count_63 : decode cX9_count 63 = .ok (.ireturn, 1) := by decide +kernel
theorem d_X9_count_64 : decode cX9_count 64 = .ok (.aload_n 0, 1) := by decide +kernel
theorem d_X9_count_65 : decode cX9_count 65 = .ok (.getfield 63, 3) := by decide +kernel
theorem d_X9_count_68 : decode cX9_count 68 = .ok (.getfield 113, 3) := by decide +kernel
theorem d_X9_count_71 : decode cX9_count 71 = .ok (.ireturn, 1) := by decide +kernel
theorem d_X9_count_72 : decode cX9_count 72 = .ok (.aload_n 0, 1) := by decide +kernel
theorem d_X9_count_73 : decode cX9_count 73 = .ok (.getfield 63, 3) := by decide +kernel
theorem d_X9_count_76 : decode cX9_count 76 = .ok (.getfield 116, 3) := by decide +kernel
theorem d_X9_count_79 : decode cX9_count 79 = .ok (.ireturn, 1) := by decide +kernel
theorem d_X9_count_80 : decode cX9_count 80 = .ok (.aload_n 0, 1) := by decide +kernel
theorem d_X9_count_81 : decode cX9_count 81 = .ok (.getfield 63, 3) := by decide +kernel
theorem d_X9_count_84 : decode cX9_count 84 = .ok (.getfield 119, 3) := by decide +kernel
theorem d_X9_count_87 : decode cX9_count 87 = .ok (.ireturn, 1) := by decide +kernel
theorem d_X9_count_88 : decode cX9_count 88 = .ok (.aload_n 0, 1) := by decide +kernel
theorem d_X9_count_89 : decode cX9_count 89 = .ok (.getfield 63, 3) := by decide +kernel
theorem d_X9_count_92 : decode cX9_count 92 = .ok (.invokevirtual 122, 3) := by decide +kernel
theorem d_X9_count_95 : decode cX9_count 95 = .ok (.ireturn, 1) := by decide +kernel
theorem d_X9_count_96 : decode cX9_count 96 = .ok (.aload_n 0, 1) := by decide +kernel
theorem d_X9_count_97 : decode cX9_count 97 = .ok (.getfield 63, 3) := by decide +kernel
theorem d_X9_count_100 : decode cX9_count 100 = .ok (.getfield 125, 3) := by decide +kernel
theorem d_X9_count_103 : decode cX9_count 103 = .ok (.ireturn, 1) := by decide +kernel
theorem d_X9_count_104 : decode cX9_count 104 = .ok (.aload_n 0, 1) := by decide +kernel
theorem d_X9_count_105 : decode cX9_count 105 = .ok (.getfield 63, 3) := by decide +kernel
theorem d_X9_count_108 : decode cX9_count 108 = .ok (.invokevirtual 128, 3) := by decide +kernel
theorem d_X9_count_111 : decode cX9_count 111 = .ok (.ireturn, 1) := by decide +kernel
theorem d_X9_count_112 : decode cX9_count 112 = .ok (.aload_n 0, 1) := by decide +kernel
theorem d_X9_count_113 : decode cX9_count 113 = .ok (.getfield 20, 3) := by decide +kernel
theorem d_X9_count_116 : decode cX9_count 116 = .ok (.getfield 74, 3) := by decide +kernel
theorem d_X9_count_119 : decode cX9_count 119 = .ok (.ireturn, 1) := by decide +kernel
theorem d_X9_count_120 : decode cX9_count 120 = .ok (.aload_n 0, 1) := by decide +kernel
theorem d_X9_count_121 : decode cX9_count 121 = .ok (.getfield 94, 3) := by decide +kernel
theorem d_X9_count_124 : decode cX9_count 124 = .ok (.ireturn, 1) := by decide +kernel
theorem d_X9_count_125 : decode cX9_count 125 = .ok (.aload_n 0, 1) := by decide +kernel
theorem d_X9_count_126 : decode cX9_count 126 = .ok (.getfield 131, 3) := by decide +kernel
theorem d_X9_count_129 : decode cX9_count 129 = .ok (.ireturn, 1) := by decide +kernel
theorem d_X9_count_130 : decode cX9_count 130 = .ok (.new 134, 3) := by decide +kernel
theorem d_X9_count_133 : decode cX9_count 133 = .ok (.dup, 1) := by decide +kernel
theorem d_X9_count_134 : decode cX9_count 134 = .ok (.invokespecial 136, 3) := by decide +kernel
theorem d_X9_count_137 : decode cX9_count 137 = .ok (.athrow, 1) := by decide +kernel
def s_X9_count (a0 : Int32) (h : AH) : Option (Int32 ⊕ Nat) := if a0 = 0 then bd (gR h 0 8) fun t9 => if LAY t9 = (0, 8) then some (.inl (gI h t9 0)) else none else if a0 = 1 then bd (gR h 0 8) fun t8 => if LAY t8 = (0, 8) then some (.inl (gI h t8 1)) else none else if a0 = 2 then bd (gR h 0 8) fun t7 => if LAY t7 = (0, 8) then some (.inl (gI h t7 2)) else none else if a0 = 3 then bd (gR h 0 8) fun t6 => if LAY t6 = (0, 8) then some (.inl (gI h t6 3)) else none else if a0 = 4 then bd (gR h 0 8) fun t4 => if LAY t4 = (0, 8) then bd (s_X8_people t4 h) fun x5 => some (.inl x5) else none else if a0 = 5 then bd (gR h 0 8) fun t3 => if LAY t3 = (0, 8) then some (.inl (gI h t3 4)) else none else if a0 = 6 then bd (gR h 0 8) fun t1 => if LAY t1 = (0, 8) then bd (s_X8_ticketBits t1 h) fun x2 => some (.inl x2) else none else if a0 = 7 then some (.inl (gI h 2 1)) else if a0 = 8 then some (.inl (gI h 0 11)) else if a0 = 9 then some (.inl (gI h 0 12)) else some (.inr 0)
theorem t_X9_count {g : GP} {X : MX} {mcR msR : Nat} (hF : gF g = true) (hX : Cx g RX9 cX9_count 6 mcR msR (some .int) [] X) {a0 : Int32} {h : AH} {z : (Int32 ⊕ Nat)} (e : s_X9_count a0 h = some z) (hM1 : xc z ≤ mcR) (hM2 : xs z ≤ msR) : AR g X 0 0 (QQ g X NT false h (xo_I z) (xc z) (xs z)) h 0 [.ref 0, .int a0] [] := by
  unfold s_X9_count at e
  refine aw_iload_n (i := 1) hX rfl rfl d_X9_count_0 ?_
  by_cases c0 : a0 = 0
  · rw [if_pos c0] at e
    refine aw_tableIn (off := 55) (t := 56) hX (by rw [c0]; decide) (by rw [c0]; decide) (by rw [c0]; rfl) (by decide) d_X9_count_1 ?_
    refine aw_aload_n (i := 0) hX rfl rfl d_X9_count_56 ?_
    obtain ⟨t9, f_769, e_769⟩ := bd_some e
    clear e
    obtain ⟨hlt9, e_770⟩ := if_some e_769
    clear e_769
    refine ar_getR hX fg_RX9_63 rfl f_769 d_X9_count_57 ?_
    refine ar_getI hX fg_RX9_110 (by assumption) d_X9_count_60 ?_
    cases e_770
    exact aw_ireturn hX (Nat.zero_le _) (Nat.zero_le _) d_X9_count_63
  rw [if_neg c0] at e
  by_cases c1 : a0 = 1
  · rw [if_pos c1] at e
    refine aw_tableIn (off := 63) (t := 64) hX (by rw [c1]; decide) (by rw [c1]; decide) (by rw [c1]; rfl) (by decide) d_X9_count_1 ?_
    refine aw_aload_n (i := 0) hX rfl rfl d_X9_count_64 ?_
    obtain ⟨t8, f_771, e_771⟩ := bd_some e
    clear e
    obtain ⟨hlt8, e_772⟩ := if_some e_771
    clear e_771
    refine ar_getR hX fg_RX9_63 rfl f_771 d_X9_count_65 ?_
    refine ar_getI hX fg_RX9_113 (by assumption) d_X9_count_68 ?_
    cases e_772
    exact aw_ireturn hX (Nat.zero_le _) (Nat.zero_le _) d_X9_count_71
  rw [if_neg c1] at e
  by_cases c2 : a0 = 2
  · rw [if_pos c2] at e
    refine aw_tableIn (off := 71) (t := 72) hX (by rw [c2]; decide) (by rw [c2]; decide) (by rw [c2]; rfl) (by decide) d_X9_count_1 ?_
    refine aw_aload_n (i := 0) hX rfl rfl d_X9_count_72 ?_
    obtain ⟨t7, f_773, e_773⟩ := bd_some e
    clear e
    obtain ⟨hlt7, e_774⟩ := if_some e_773
    clear e_773
    refine ar_getR hX fg_RX9_63 rfl f_773 d_X9_count_73 ?_
    refine ar_getI hX fg_RX9_116 (by assumption) d_X9_count_76 ?_
    cases e_774
    exact aw_ireturn hX (Nat.zero_le _) (Nat.zero_le _) d_X9_count_79
  rw [if_neg c2] at e
  by_cases c3 : a0 = 3
  · rw [if_pos c3] at e
    refine aw_tableIn (off := 79) (t := 80) hX (by rw [c3]; decide) (by rw [c3]; decide) (by rw [c3]; rfl) (by decide) d_X9_count_1 ?_
    refine aw_aload_n (i := 0) hX rfl rfl d_X9_count_80 ?_
    obtain ⟨t6, f_775, e_775⟩ := bd_some e
    clear e
    obtain ⟨hlt6, e_776⟩ := if_some e_775
    clear e_775
    refine ar_getR hX fg_RX9_63 rfl f_775 d_X9_count_81 ?_
    refine ar_getI hX fg_RX9_119 (by assumption) d_X9_count_84 ?_
    cases e_776
    exact aw_ireturn hX (Nat.zero_le _) (Nat.zero_le _) d_X9_count_87
  rw [if_neg c3] at e
  by_cases c4 : a0 = 4
  · rw [if_pos c4] at e
    refine aw_tableIn (off := 87) (t := 88) hX (by rw [c4]; decide) (by rw [c4]; decide) (by rw [c4]; rfl) (by decide) d_X9_count_1 ?_
    refine aw_aload_n (i := 0) hX rfl rfl d_X9_count_88 ?_
    obtain ⟨t4, f_777, e_777⟩ := bd_some e
    clear e
    obtain ⟨hlt4, e_778⟩ := if_some e_777
    clear e_777
    refine ar_getR hX fg_RX9_63 rfl f_777 d_X9_count_89 ?_
    obtain ⟨x5, f_779, e_779⟩ := bd_some e_778
    clear e_778
    refine aw_callV (b := t4) (av := []) (avr := []) hX (k_X8_people (cx_g hX) hF f_779) mi_X8_people rfl rfl w_492 w_493 w_494 (by decide) (by assumption) (LAY_lt (by assumption) (by decide)) rfl rfl (Nat.le_of_ble_eq_true rfl) (Nat.zero_le _) (Nat.zero_le _) d_X9_count_92 ?_
    cases e_779
    exact aw_ireturn hX (Nat.zero_le _) (Nat.zero_le _) d_X9_count_95
  rw [if_neg c4] at e
  by_cases c5 : a0 = 5
  · rw [if_pos c5] at e
    refine aw_tableIn (off := 95) (t := 96) hX (by rw [c5]; decide) (by rw [c5]; decide) (by rw [c5]; rfl) (by decide) d_X9_count_1 ?_
    refine aw_aload_n (i := 0) hX rfl rfl d_X9_count_96 ?_
    obtain ⟨t3, f_780, e_780⟩ := bd_some e
    clear e
    obtain ⟨hlt3, e_781⟩ := if_some e_780
    clear e_780
    refine ar_getR hX fg_RX9_63 rfl f_780 d_X9_count_97 ?_
    refine ar_getI hX fg_RX9_125 (by assumption) d_X9_count_100 ?_
    cases e_781
    exact aw_ireturn hX (Nat.zero_le _) (Nat.zero_le _) d_X9_count_103
  rw [if_neg c5] at e
  by_cases c6 : a0 = 6
  · rw [if_pos c6] at e
    refine aw_tableIn (off := 103) (t := 104) hX (by rw [c6]; decide) (by rw [c6]; decide) (by rw [c6]; rfl) (by decide) d_X9_count_1 ?_
    refine aw_aload_n (i := 0) hX rfl rfl d_X9_count_104 ?_
    obtain ⟨t1, f_782, e_782⟩ := bd_some e
    clear e
    obtain ⟨hlt1, e_783⟩ := if_some e_782
    clear e_782
    refine ar_getR hX fg_RX9_63 rfl f_782 d_X9_count_105 ?_
    obtain ⟨x2, f_784, e_784⟩ := bd_some e_783
    clear e_783
    refine aw_callV (b := t1) (av := []) (avr := []) hX (k_X8_ticketBits (cx_g hX) hF f_784) mi_X8_ticketBits rfl rfl w_487 w_488 w_489 (by decide) (by assumption) (LAY_lt (by assumption) (by decide)) rfl rfl (Nat.le_of_ble_eq_true rfl) (Nat.zero_le _) (Nat.zero_le _) d_X9_count_108 ?_
    cases e_784
    exact aw_ireturn hX (Nat.zero_le _) (Nat.zero_le _) d_X9_count_111
  rw [if_neg c6] at e
  by_cases c7 : a0 = 7
  · rw [if_pos c7] at e
    refine aw_tableIn (off := 111) (t := 112) hX (by rw [c7]; decide) (by rw [c7]; decide) (by rw [c7]; rfl) (by decide) d_X9_count_1 ?_
    refine aw_aload_n (i := 0) hX rfl rfl d_X9_count_112 ?_
    refine ar_getF hX hF fg_RX9_20 rfl d_X9_count_113 ?_
    show AR g X 0 0 _ _ 116 _ [.ref 2]
    refine ar_getI hX fg_RX9_74 rfl d_X9_count_116 ?_
    cases e
    exact aw_ireturn hX (Nat.zero_le _) (Nat.zero_le _) d_X9_count_119
  rw [if_neg c7] at e
  by_cases c8 : a0 = 8
  · rw [if_pos c8] at e
    refine aw_tableIn (off := 119) (t := 120) hX (by rw [c8]; decide) (by rw [c8]; decide) (by rw [c8]; rfl) (by decide) d_X9_count_1 ?_
    refine aw_aload_n (i := 0) hX rfl rfl d_X9_count_120 ?_
    refine ar_getI hX fg_RX9_94 rfl d_X9_count_121 ?_
    cases e
    exact aw_ireturn hX (Nat.zero_le _) (Nat.zero_le _) d_X9_count_124
  rw [if_neg c8] at e
  by_cases c9 : a0 = 9
  · rw [if_pos c9] at e
    refine aw_tableIn (off := 124) (t := 125) hX (by rw [c9]; decide) (by rw [c9]; decide) (by rw [c9]; rfl) (by decide) d_X9_count_1 ?_
    refine aw_aload_n (i := 0) hX rfl rfl d_X9_count_125 ?_
    refine ar_getI hX fg_RX9_131 rfl d_X9_count_126 ?_
    cases e
    exact aw_ireturn hX (Nat.zero_le _) (Nat.zero_le _) d_X9_count_129
  rw [if_neg c9] at e
  refine aw_tableOut (t := 130) hX (ts_out 10 (fun j hj => by match j, hj with | 0, _ => exact c0 | 1, _ => exact c1 | 2, _ => exact c2 | 3, _ => exact c3 | 4, _ => exact c4 | 5, _ => exact c5 | 6, _ => exact c6 | 7, _ => exact c7 | 8, _ => exact c8 | 9, _ => exact c9 | q + 10, hj => exact absurd hj (by omega))) (by decide) d_X9_count_1 ?_
  cases e
  exact ar_throw hX (thr_RX9_0) (by decide) d_X9_count_130 d_X9_count_133 d_X9_count_134 d_X9_count_137 hM1 hM2
theorem k_X9_count {g : GP} (hg : g.1.stackTraces = false) (hF : gF g = true) {a0 : Int32} {h : AH} {z : Int32} (e : s_X9_count a0 h = some (.inl z)) : Ctr g yX9_count (wsY yX9_count cX9_count 2 (some .int)) 6 0 0 [.ref 0, .int a0] NT false h (some (.int z)) NT false h := ctr_of (lv0 := [.ref 0, .int a0]) rfl rfl (by decide) hg trivial (fun X hX hn => t_X9_count hF hX e (Nat.zero_le _) (Nat.zero_le _))
theorem kx_X9_count {g : GP} (hg : g.1.stackTraces = false) (hF : gF g = true) {a0 : Int32} {h : AH} {z : Nat} (e : s_X9_count a0 h = some (.inr z)) : CtrX g yX9_count (wsY yX9_count cX9_count 2 (some .int)) 6 [.ref 0, .int a0] NT h z h := ctrX_of (lv0 := [.ref 0, .int a0]) rfl rfl (by decide) hg (fun X hX => t_X9_count hF hX e (Nat.le_refl _) (Nat.le_refl _))
theorem d_X9_needEvening_0 : decode cX9_needEvening 0 = .ok (.iload_n 1, 1) := by decide +kernel
theorem d_X9_needEvening_1 : decode cX9_needEvening 1 = .ok (.ifCond .lt 14, 3) := by decide +kernel
theorem d_X9_needEvening_4 : decode cX9_needEvening 4 = .ok (.iload_n 1, 1) := by decide +kernel
theorem d_X9_needEvening_5 : decode cX9_needEvening 5 = .ok (.aload_n 0, 1) := by decide +kernel
theorem d_X9_needEvening_6 : decode cX9_needEvening 6 = .ok (.getfield 63, 3) := by decide +kernel
theorem d_X9_needEvening_9 : decode cX9_needEvening 9 = .ok (.getfield 116, 3) := by decide +kernel
theorem d_X9_needEvening_12 : decode cX9_needEvening 12 = .ok (.if_icmp .lt 11, 3) := by decide +kernel
theorem d_X9_needEvening_15 : decode cX9_needEvening 15 = .ok (.new 134, 3) := by decide +kernel
theorem d_X9_needEvening_18 : decode cX9_needEvening 18 = .ok (.dup, 1) := by decide +kernel
theorem d_X9_needEvening_19 : decode cX9_needEvening 19 = .ok (.invokespecial 136, 3) := by decide +kernel
theorem d_X9_needEvening_22 : decode cX9_needEvening 22 = .ok (.athrow, 1) := by decide +kernel
theorem d_X9_needEvening_23 : decode cX9_needEvening 23 = .ok (.return_, 1) := by decide +kernel
def j_X9_needEvening_15 (h : AH) : Option (Unit ⊕ Nat) := some (.inr 0)
theorem tj_X9_needEvening_15 {g : GP} {X : MX} {mcR msR : Nat} (hF : gF g = true) (hX : Cx g RX9 cX9_needEvening 6 mcR msR none [] X) {d0 : Value} {d1 : Value} {h : AH} {z : (Unit ⊕ Nat)} (e : j_X9_needEvening_15 h = some z) (hM1 : xc z ≤ mcR) (hM2 : xs z ≤ msR) : AR g X 0 0 (QQ g X NT false h (xo_V z) (xc z) (xs z)) h 15 [d0, d1] [] := by
  unfold j_X9_needEvening_15 at e
  cases e
  exact ar_throw hX (thr_RX9_0) (by decide) d_X9_needEvening_15 d_X9_needEvening_18 d_X9_needEvening_19 d_X9_needEvening_22 hM1 hM2
def s_X9_needEvening (a0 : Int32) (h : AH) : Option (Unit ⊕ Nat) := if a0 < 0 then j_X9_needEvening_15 h else bd (gR h 0 8) fun t1 => if LAY t1 = (0, 8) then if a0 < (gI h t1 2) then some (.inl ()) else j_X9_needEvening_15 h else none
theorem t_X9_needEvening {g : GP} {X : MX} {mcR msR : Nat} (hF : gF g = true) (hX : Cx g RX9 cX9_needEvening 6 mcR msR none [] X) {a0 : Int32} {h : AH} {z : (Unit ⊕ Nat)} (e : s_X9_needEvening a0 h = some z) (hM1 : xc z ≤ mcR) (hM2 : xs z ≤ msR) : AR g X 0 0 (QQ g X NT false h (xo_V z) (xc z) (xs z)) h 0 [.ref 0, .int a0] [] := by
  unfold s_X9_needEvening at e
  refine aw_iload_n (i := 1) hX rfl rfl d_X9_needEvening_0 ?_
  refine aw_if_lt (t := 15) hX (by decide) d_X9_needEvening_1 (fun c => ?_) (fun c => ?_)
  · rw [if_pos c] at e
    exact tj_X9_needEvening_15 hF hX e hM1 hM2
  · rw [if_neg c] at e
    refine aw_iload_n (i := 1) hX rfl rfl d_X9_needEvening_4 ?_
    refine aw_aload_n (i := 0) hX rfl rfl d_X9_needEvening_5 ?_
    obtain ⟨t1, f_785, e_785⟩ := bd_some e
    clear e
    obtain ⟨hlt1, e_786⟩ := if_some e_785
    clear e_785
    refine ar_getR hX fg_RX9_63 rfl f_785 d_X9_needEvening_6 ?_
    refine ar_getI hX fg_RX9_116 (by assumption) d_X9_needEvening_9 ?_
    refine aw_icmp_lt (t := 23) hX (by decide) d_X9_needEvening_12 (fun c => ?_) (fun c => ?_)
    · rw [if_pos c] at e_786
      cases e_786
      exact aw_return hX (Nat.zero_le _) (Nat.zero_le _) d_X9_needEvening_23
    · rw [if_neg c] at e_786
      exact tj_X9_needEvening_15 hF hX e_786 hM1 hM2
theorem k_X9_needEvening {g : GP} (hg : g.1.stackTraces = false) (hF : gF g = true) {a0 : Int32} {h : AH} {z : Unit} (e : s_X9_needEvening a0 h = some (.inl z)) : Ctr g yX9_needEvening (wsY yX9_needEvening cX9_needEvening 2 none) 6 0 0 [.ref 0, .int a0] NT false h none NT false h := ctr_of (lv0 := [.ref 0, .int a0]) rfl rfl (by decide) hg trivial (fun X hX hn => t_X9_needEvening hF hX e (Nat.zero_le _) (Nat.zero_le _))
theorem kx_X9_needEvening {g : GP} (hg : g.1.stackTraces = false) (hF : gF g = true) {a0 : Int32} {h : AH} {z : Nat} (e : s_X9_needEvening a0 h = some (.inr z)) : CtrX g yX9_needEvening (wsY yX9_needEvening cX9_needEvening 2 none) 6 [.ref 0, .int a0] NT h z h := ctrX_of (lv0 := [.ref 0, .int a0]) rfl rfl (by decide) hg (fun X hX => t_X9_needEvening hF hX e (Nat.le_refl _) (Nat.le_refl _))
theorem d_X9_needWhat_0 : decode cX9_needWhat 0 = .ok (.iload_n 1, 1) := by decide +kernel
theorem d_X9_needWhat_1 : decode cX9_needWhat 1 = .ok (.ifCond .lt 8, 3) := by decide +kernel
theorem d_X9_needWhat_4 : decode cX9_needWhat 4 = .ok (.iload_n 1, 1) := by decide +kernel
theorem d_X9_needWhat_5 : decode cX9_needWhat 5 = .ok (.iload_n 2, 1) := by decide +kernel
theorem d_X9_needWhat_6 : decode cX9_needWhat 6 = .ok (.if_icmp .le 11, 3) := by decide +kernel
theorem d_X9_needWhat_9 : decode cX9_needWhat 9 = .ok (.new 134, 3) := by decide +kernel
theorem d_X9_needWhat_12 : decode cX9_needWhat 12 = .ok (.dup, 1) := by decide +kernel
theorem d_X9_needWhat_13 : decode cX9_needWhat 13 = .ok (.invokespecial 136, 3) := by decide +kernel
theorem d_X9_needWhat_16 : decode cX9_needWhat 16 = .ok (.athrow, 1) := by decide +kernel
theorem d_X9_needWhat_17 : decode cX9_needWhat 17 = .ok (.return_, 1) := by decide +kernel
def j_X9_needWhat_9 (h : AH) : Option (Unit ⊕ Nat) := some (.inr 0)
theorem tj_X9_needWhat_9 {g : GP} {X : MX} {mcR msR : Nat} (hF : gF g = true) (hX : Cx g RX9 cX9_needWhat 6 mcR msR none [] X) {d0 : Value} {d1 : Value} {d2 : Value} {h : AH} {z : (Unit ⊕ Nat)} (e : j_X9_needWhat_9 h = some z) (hM1 : xc z ≤ mcR) (hM2 : xs z ≤ msR) : AR g X 0 0 (QQ g X NT false h (xo_V z) (xc z) (xs z)) h 9 [d0, d1, d2] [] := by
  unfold j_X9_needWhat_9 at e
  cases e
  exact ar_throw hX (thr_RX9_0) (by decide) d_X9_needWhat_9 d_X9_needWhat_12 d_X9_needWhat_13 d_X9_needWhat_16 hM1 hM2
def s_X9_needWhat (a0 : Int32) (a1 : Int32) (h : AH) : Option (Unit ⊕ Nat) := if a0 < 0 then j_X9_needWhat_9 h else if a0 ≤ a1 then some (.inl ()) else j_X9_needWhat_9 h
theorem t_X9_needWhat {g : GP} {X : MX} {mcR msR : Nat} (hF : gF g = true) (hX : Cx g RX9 cX9_needWhat 6 mcR msR none [] X) {a0 : Int32} {a1 : Int32} {h : AH} {z : (Unit ⊕ Nat)} (e : s_X9_needWhat a0 a1 h = some z) (hM1 : xc z ≤ mcR) (hM2 : xs z ≤ msR) : AR g X 0 0 (QQ g X NT false h (xo_V z) (xc z) (xs z)) h 0 [.ref 0, .int a0, .int a1] [] := by
  unfold s_X9_needWhat at e
  refine aw_iload_n (i := 1) hX rfl rfl d_X9_needWhat_0 ?_
  refine aw_if_lt (t := 9) hX (by decide) d_X9_needWhat_1 (fun c => ?_) (fun c => ?_)
  · rw [if_pos c] at e
    exact tj_X9_needWhat_9 hF hX e hM1 hM2
  · rw [if_neg c] at e
    refine aw_iload_n (i := 1) hX rfl rfl d_X9_needWhat_4 ?_
    refine aw_iload_n (i := 2) hX rfl rfl d_X9_needWhat_5 ?_
    refine aw_icmp_le (t := 17) hX (by decide) d_X9_needWhat_6 (fun c => ?_) (fun c => ?_)
    · rw [if_pos c] at e
      cases e
      exact aw_return hX (Nat.zero_le _) (Nat.zero_le _) d_X9_needWhat_17
    · rw [if_neg c] at e
      exact tj_X9_needWhat_9 hF hX e hM1 hM2
theorem k_X9_needWhat {g : GP} (hg : g.1.stackTraces = false) (hF : gF g = true) {a0 : Int32} {a1 : Int32} {h : AH} {z : Unit} (e : s_X9_needWhat a0 a1 h = some (.inl z)) : Ctr g yX9_needWhat (wsY yX9_needWhat cX9_needWhat 3 none) 6 0 0 [.ref 0, .int a0, .int a1] NT false h none NT false h := ctr_of (lv0 := [.ref 0, .int a0, .int a1]) rfl rfl (by decide) hg trivial (fun X hX hn => t_X9_needWhat hF hX e (Nat.zero_le _) (Nat.zero_le _))
theorem kx_X9_needWhat {g : GP} (hg : g.1.stackTraces = false) (hF : gF g = true) {a0 : Int32} {a1 : Int32} {h : AH} {z : Nat} (e : s_X9_needWhat a0 a1 h = some (.inr z)) : CtrX g yX9_needWhat (wsY yX9_needWhat cX9_needWhat 3 none) 6 [.ref 0, .int a0, .int a1] NT h z h := ctrX_of (lv0 := [.ref 0, .int a0, .int a1]) rfl rfl (by decide) hg (fun X hX => t_X9_needWhat hF hX e (Nat.le_refl _) (Nat.le_refl _))
theorem d_X9_evening_0 : decode cX9_evening 0 = .ok (.aload_n 0, 1) := by decide +kernel
theorem d_X9_evening_1 : decode cX9_evening 1 = .ok (.iload_n 1, 1) := by decide +kernel
theorem d_X9_evening_2 : decode cX9_evening 2 = .ok (.invokevirtual 137, 3) := by decide +kernel
theorem d_X9_evening_5 : decode cX9_evening 5 = .ok (.aload_n 0, 1) := by decide +kernel
theorem d_X9_evening_6 : decode cX9_evening 6 = .ok (.iload_n 2, 1) := by decide +kernel
theorem d_X9_evening_7 : decode cX9_evening 7 = .ok (.iconst 3, 1) := by decide +kernel
theorem d_X9_evening_8 : decode cX9_evening 8 = .ok (.invokevirtual 140, 3) := by decide +kernel
theorem d_X9_evening_11 : decode cX9_evening 11 = .ok (.iload_n 2, 1) := by decide +kernel
theorem d_X9_evening_12 : decode cX9_evening 12 = .ok (.iconst 3, 1) := by decide +kernel
theorem d_X9_evening_13 : decode cX9_evening 13 = .ok (.if_icmp .ne 17, 3) := by decide +kernel
theorem d_X9_evening_16 : decode cX9_evening 16 = .ok (.aload_n 0, 1) := by decide +kernel
theorem d_X9_evening_17 : decode cX9_evening 17 = .ok (.getfield 63, 3) := by decide +kernel
theorem d_X9_evening_20 : decode cX9_evening 20 = .ok (.getfield 144, 3) := by decide +kernel
theorem d_X9_evening_23 : decode cX9_evening 23 = .ok (.iload_n 1, 1) := by decide +kernel
theorem d_X9_evening_24 : decode cX9_evening 24 = .ok (.invokestatic 148, 3) := by decide +kernel
theorem d_X9_evening_27 : decode cX9_evening 27 = .ok (.goto 12, 3) := by decide +kernel
theorem d_X9_evening_30 : decode cX9_evening 30 = .ok (.aload_n 0, 1) := by decide +kernel
theorem d_X9_evening_31 : decode cX9_evening 31 = .ok (.getfield 63, 3) := by decide +kernel
theorem d_X9_evening_34 : decode cX9_evening 34 = .ok (.iload_n 1, 1) := by decide +kernel
theorem d_X9_evening_35 : decode cX9_evening 35 = .ok (.iload_n 2, 1) := by decide +kernel
theorem d_X9_evening_36 : decode cX9_evening 36 = .ok (.invokevirtual 152, 3) := by decide +kernel
theorem d_X9_evening_39 : decode cX9_evening 39 = .ok (.ireturn, 1) := by decide +kernel
def s_X9_evening (a0 : Int32) (a1 : Int32) (h : AH) : Option (Int32 ⊕ Nat) := bd (s_X9_needEvening a0 h) fun q1 => sm q1 (fun x2 => bd (s_X9_needWhat a1 3 h) fun q3 => sm q3 (fun x4 => if a1 = 3 then bd (gR h 0 8) fun t7 => if LAY t7 = (0, 8) then bd (s_X9_at (some (t7 + 2)) a0 h) fun x8 => some (.inl x8) else none else bd (gR h 0 8) fun t5 => if LAY t5 = (0, 8) then bd (s_X8_ofEvening t5 a0 a1 h) fun x6 => some (.inl x6) else none) (fun E9 => some (.inr E9))) (fun E10 => some (.inr E10))
theorem t_X9_evening {g : GP} {X : MX} {mcR msR : Nat} (hF : gF g = true) (hX : Cx g RX9 cX9_evening 7 mcR msR (some .int) [] X) {a0 : Int32} {a1 : Int32} {h : AH} {z : (Int32 ⊕ Nat)} (e : s_X9_evening a0 a1 h = some z) (hM1 : xc z ≤ mcR) (hM2 : xs z ≤ msR) : AR g X 0 0 (QQ g X NT false h (xo_I z) (xc z) (xs z)) h 0 [.ref 0, .int a0, .int a1] [] := by
  unfold s_X9_evening at e
  refine aw_aload_n (i := 0) hX rfl rfl d_X9_evening_0 ?_
  refine aw_iload_n (i := 1) hX rfl rfl d_X9_evening_1 ?_
  obtain ⟨q1, f_787, e_787⟩ := bd_some e
  clear e
  rcases q1 with x2 | E10
  · have e_788 := sm_inl e_787
    clear e_787
    refine aw_callV (b := 0) (av := [.int a0]) (avr := [.int a0]) hX (k_X9_needEvening (cx_g hX) hF f_787) mi_X9_needEvening rfl rfl w_500 w_501 w_502 (by decide) rfl (LAY_lt rfl (by decide)) rfl rfl (Nat.le_of_ble_eq_true rfl) (Nat.zero_le _) (Nat.zero_le _) d_X9_evening_2 ?_
    refine aw_aload_n (i := 0) hX rfl rfl d_X9_evening_5 ?_
    refine aw_iload_n (i := 2) hX rfl rfl d_X9_evening_6 ?_
    refine aw_iconst (v := 3) hX (by decide) d_X9_evening_7 ?_
    obtain ⟨q3, f_789, e_789⟩ := bd_some e_788
    clear e_788
    rcases q3 with x4 | E9
    · have e_790 := sm_inl e_789
      clear e_789
      refine aw_callV (b := 0) (av := [.int a1, .int 3]) (avr := [.int 3, .int a1]) hX (k_X9_needWhat (cx_g hX) hF f_789) mi_X9_needWhat rfl rfl w_504 w_505 w_506 (by decide) rfl (LAY_lt rfl (by decide)) rfl rfl (Nat.le_of_ble_eq_true rfl) (Nat.zero_le _) (Nat.zero_le _) d_X9_evening_8 ?_
      refine aw_iload_n (i := 2) hX rfl rfl d_X9_evening_11 ?_
      refine aw_iconst (v := 3) hX (by decide) d_X9_evening_12 ?_
      refine aw_icmp_ne (t := 30) hX (by decide) d_X9_evening_13 (fun c => ?_) (fun c => ?_)
      · rw [if_neg c] at e_790
        refine aw_aload_n (i := 0) hX rfl rfl d_X9_evening_30 ?_
        obtain ⟨t5, f_791, e_791⟩ := bd_some e_790
        clear e_790
        obtain ⟨hlt5, e_792⟩ := if_some e_791
        clear e_791
        refine ar_getR hX fg_RX9_63 rfl f_791 d_X9_evening_31 ?_
        refine aw_iload_n (i := 1) hX rfl rfl d_X9_evening_34 ?_
        refine aw_iload_n (i := 2) hX rfl rfl d_X9_evening_35 ?_
        obtain ⟨x6, f_793, e_793⟩ := bd_some e_792
        clear e_792
        refine aw_callV (b := t5) (av := [.int a0, .int a1]) (avr := [.int a1, .int a0]) hX (k_X8_ofEvening (cx_g hX) hF f_793) mi_X8_ofEvening rfl rfl w_507 w_33 w_34 (by decide) (by assumption) (LAY_lt (by assumption) (by decide)) rfl rfl (Nat.le_of_ble_eq_true rfl) (Nat.zero_le _) (Nat.zero_le _) d_X9_evening_36 ?_
        cases e_793
        exact aw_ireturn hX (Nat.zero_le _) (Nat.zero_le _) d_X9_evening_39
      · rw [if_pos c] at e_790
        refine aw_aload_n (i := 0) hX rfl rfl d_X9_evening_16 ?_
        obtain ⟨t7, f_794, e_794⟩ := bd_some e_790
        clear e_790
        obtain ⟨hlt7, e_795⟩ := if_some e_794
        clear e_794
        refine ar_getR hX fg_RX9_63 rfl f_794 d_X9_evening_17 ?_
        refine ar_getF hX hF fg_RX9_144 (by assumption) d_X9_evening_20 ?_
        refine aw_iload_n (i := 1) hX rfl rfl d_X9_evening_23 ?_
        obtain ⟨x8, f_796, e_796⟩ := bd_some e_795
        clear e_795
        refine aw_callS (av := [.ref (t7 + 2), .int a0]) (avr := [.int a0, .ref (t7 + 2)]) hX (k_X9_at (cx_g hX) hF f_796) mi_X9_at rfl rfl w_509 w_6 rfl (by decide) (Nat.le_of_ble_eq_true rfl) (Nat.zero_le _) (Nat.zero_le _) d_X9_evening_24 ?_
        refine aw_goto (t := 39) hX (by decide) d_X9_evening_27 ?_
        cases e_796
        exact aw_ireturn hX (Nat.zero_le _) (Nat.zero_le _) d_X9_evening_39
    · have e_797 := sm_inr e_789
      clear e_789
      cases e_797
      exact aw_callVX (b := 0) (av := [.int a1, .int 3]) (avr := [.int 3, .int a1]) hX (kx_X9_needWhat (cx_g hX) hF f_789) mi_X9_needWhat rfl rfl w_504 w_505 w_506 (by decide) rfl (LAY_lt rfl (by decide)) rfl rfl (Nat.le_of_ble_eq_true rfl) hM1 hM2 d_X9_evening_8
  · have e_798 := sm_inr e_787
    clear e_787
    cases e_798
    exact aw_callVX (b := 0) (av := [.int a0]) (avr := [.int a0]) hX (kx_X9_needEvening (cx_g hX) hF f_787) mi_X9_needEvening rfl rfl w_500 w_501 w_502 (by decide) rfl (LAY_lt rfl (by decide)) rfl rfl (Nat.le_of_ble_eq_true rfl) hM1 hM2 d_X9_evening_2
theorem k_X9_evening {g : GP} (hg : g.1.stackTraces = false) (hF : gF g = true) {a0 : Int32} {a1 : Int32} {h : AH} {z : Int32} (e : s_X9_evening a0 a1 h = some (.inl z)) : Ctr g yX9_evening (wsY yX9_evening cX9_evening 3 (some .int)) 7 0 0 [.ref 0, .int a0, .int a1] NT false h (some (.int z)) NT false h := ctr_of (lv0 := [.ref 0, .int a0, .int a1]) rfl rfl (by decide) hg trivial (fun X hX hn => t_X9_evening hF hX e (Nat.zero_le _) (Nat.zero_le _))
theorem kx_X9_evening {g : GP} (hg : g.1.stackTraces = false) (hF : gF g = true) {a0 : Int32} {a1 : Int32} {h : AH} {z : Nat} (e : s_X9_evening a0 a1 h = some (.inr z)) : CtrX g yX9_evening (wsY yX9_evening cX9_evening 3 (some .int)) 7 [.ref 0, .int a0, .int a1] NT h z h := ctrX_of (lv0 := [.ref 0, .int a0, .int a1]) rfl rfl (by decide) hg (fun X hX => t_X9_evening hF hX e (Nat.le_refl _) (Nat.le_refl _))
theorem d_X9_needKind_0 : decode cX9_needKind 0 = .ok (.iload_n 1, 1) := by decide +kernel
theorem d_X9_needKind_1 : decode cX9_needKind 1 = .ok (.ifCond .lt 14, 3) := by decide +kernel
theorem d_X9_needKind_4 : decode cX9_needKind 4 = .ok (.iload_n 1, 1) := by decide +kernel
theorem d_X9_needKind_5 : decode cX9_needKind 5 = .ok (.aload_n 0, 1) := by decide +kernel
theorem d_X9_needKind_6 : decode cX9_needKind 6 = .ok (.getfield 63, 3) := by decide +kernel
theorem d_X9_needKind_9 : decode cX9_needKind 9 = .ok (.getfield 119, 3) := by decide +kernel
theorem d_X9_needKind_12 : decode cX9_needKind 12 = .ok (.if_icmp .lt 11, 3) := by decide +kernel
theorem d_X9_needKind_15 : decode cX9_needKind 15 = .ok (.new 134, 3) := by decide +kernel
theorem d_X9_needKind_18 : decode cX9_needKind 18 = .ok (.dup, 1) := by decide +kernel
theorem d_X9_needKind_19 : decode cX9_needKind 19 = .ok (.invokespecial 136, 3) := by decide +kernel
theorem d_X9_needKind_22 : decode cX9_needKind 22 = .ok (.athrow, 1) := by decide +kernel
theorem d_X9_needKind_23 : decode cX9_needKind 23 = .ok (.return_, 1) := by decide +kernel
def j_X9_needKind_15 (h : AH) : Option (Unit ⊕ Nat) := some (.inr 0)
theorem tj_X9_needKind_15 {g : GP} {X : MX} {mcR msR : Nat} (hF : gF g = true) (hX : Cx g RX9 cX9_needKind 6 mcR msR none [] X) {d0 : Value} {d1 : Value} {h : AH} {z : (Unit ⊕ Nat)} (e : j_X9_needKind_15 h = some z) (hM1 : xc z ≤ mcR) (hM2 : xs z ≤ msR) : AR g X 0 0 (QQ g X NT false h (xo_V z) (xc z) (xs z)) h 15 [d0, d1] [] := by
  unfold j_X9_needKind_15 at e
  cases e
  exact ar_throw hX (thr_RX9_0) (by decide) d_X9_needKind_15 d_X9_needKind_18 d_X9_needKind_19 d_X9_needKind_22 hM1 hM2
def s_X9_needKind (a0 : Int32) (h : AH) : Option (Unit ⊕ Nat) := if a0 < 0 then j_X9_needKind_15 h else bd (gR h 0 8) fun t1 => if LAY t1 = (0, 8) then if a0 < (gI h t1 3) then some (.inl ()) else j_X9_needKind_15 h else none
theorem t_X9_needKind {g : GP} {X : MX} {mcR msR : Nat} (hF : gF g = true) (hX : Cx g RX9 cX9_needKind 6 mcR msR none [] X) {a0 : Int32} {h : AH} {z : (Unit ⊕ Nat)} (e : s_X9_needKind a0 h = some z) (hM1 : xc z ≤ mcR) (hM2 : xs z ≤ msR) : AR g X 0 0 (QQ g X NT false h (xo_V z) (xc z) (xs z)) h 0 [.ref 0, .int a0] [] := by
  unfold s_X9_needKind at e
  refine aw_iload_n (i := 1) hX rfl rfl d_X9_needKind_0 ?_
  refine aw_if_lt (t := 15) hX (by decide) d_X9_needKind_1 (fun c => ?_) (fun c => ?_)
  · rw [if_pos c] at e
    exact tj_X9_needKind_15 hF hX e hM1 hM2
  · rw [if_neg c] at e
    refine aw_iload_n (i := 1) hX rfl rfl d_X9_needKind_4 ?_
    refine aw_aload_n (i := 0) hX rfl rfl d_X9_needKind_5 ?_
    obtain ⟨t1, f_799, e_799⟩ := bd_some e
    clear e
    obtain ⟨hlt1, e_800⟩ := if_some e_799
    clear e_799
    refine ar_getR hX fg_RX9_63 rfl f_799 d_X9_needKind_6 ?_
    refine ar_getI hX fg_RX9_119 (by assumption) d_X9_needKind_9 ?_
    refine aw_icmp_lt (t := 23) hX (by decide) d_X9_needKind_12 (fun c => ?_) (fun c => ?_)
    · rw [if_pos c] at e_800
      cases e_800
      exact aw_return hX (Nat.zero_le _) (Nat.zero_le _) d_X9_needKind_23
    · rw [if_neg c] at e_800
      exact tj_X9_needKind_15 hF hX e_800 hM1 hM2
theorem k_X9_needKind {g : GP} (hg : g.1.stackTraces = false) (hF : gF g = true) {a0 : Int32} {h : AH} {z : Unit} (e : s_X9_needKind a0 h = some (.inl z)) : Ctr g yX9_needKind (wsY yX9_needKind cX9_needKind 2 none) 6 0 0 [.ref 0, .int a0] NT false h none NT false h := ctr_of (lv0 := [.ref 0, .int a0]) rfl rfl (by decide) hg trivial (fun X hX hn => t_X9_needKind hF hX e (Nat.zero_le _) (Nat.zero_le _))
theorem kx_X9_needKind {g : GP} (hg : g.1.stackTraces = false) (hF : gF g = true) {a0 : Int32} {h : AH} {z : Nat} (e : s_X9_needKind a0 h = some (.inr z)) : CtrX g yX9_needKind (wsY yX9_needKind cX9_needKind 2 none) 6 [.ref 0, .int a0] NT h z h := ctrX_of (lv0 := [.ref 0, .int a0]) rfl rfl (by decide) hg (fun X hX => t_X9_needKind hF hX e (Nat.le_refl _) (Nat.le_refl _))
theorem d_X9_kind_0 : decode cX9_kind 0 = .ok (.aload_n 0, 1) := by decide +kernel
theorem d_X9_kind_1 : decode cX9_kind 1 = .ok (.iload_n 1, 1) := by decide +kernel
theorem d_X9_kind_2 : decode cX9_kind 2 = .ok (.invokevirtual 156, 3) := by decide +kernel
theorem d_X9_kind_5 : decode cX9_kind 5 = .ok (.aload_n 0, 1) := by decide +kernel
theorem d_X9_kind_6 : decode cX9_kind 6 = .ok (.iload_n 2, 1) := by decide +kernel
theorem d_X9_kind_7 : decode cX9_kind 7 = .ok (.bipush 10, 2) := by decide +kernel
theorem d_X9_kind_9 : decode cX9_kind 9 = .ok (.invokevirtual 140, 3) := by decide +kernel
theorem d_X9_kind_12 : decode cX9_kind 12 = .ok (.aload_n 0, 1) := by decide +kernel
theorem d_X9_kind_13 : decode cX9_kind 13 = .ok (.getfield 63, 3) := by decide +kernel
theorem d_X9_kind_16 : decode cX9_kind 16 = .ok (.iload_n 1, 1) := by decide +kernel
theorem d_X9_kind_17 : decode cX9_kind 17 = .ok (.iload_n 2, 1) := by decide +kernel
theorem d_X9_kind_18 : decode cX9_kind 18 = .ok (.invokevirtual 159, 3) := by decide +kernel
theorem d_X9_kind_21 : decode cX9_kind 21 = .ok (.ireturn, 1) := by decide +kernel
def s_X9_kind (a0 : Int32) (a1 : Int32) (h : AH) : Option (Int32 ⊕ Nat) := bd (s_X9_needKind a0 h) fun q1 => sm q1 (fun x2 => bd (s_X9_needWhat a1 10 h) fun q3 => sm q3 (fun x4 => bd (gR h 0 8) fun t5 => if LAY t5 = (0, 8) then bd (s_X8_ofKind t5 a0 a1 h) fun x6 => some (.inl x6) else none) (fun E7 => some (.inr E7))) (fun E8 => some (.inr E8))
theorem t_X9_kind {g : GP} {X : MX} {mcR msR : Nat} (hF : gF g = true) (hX : Cx g RX9 cX9_kind 7 mcR msR (some .int) [] X) {a0 : Int32} {a1 : Int32} {h : AH} {z : (Int32 ⊕ Nat)} (e : s_X9_kind a0 a1 h = some z) (hM1 : xc z ≤ mcR) (hM2 : xs z ≤ msR) : AR g X 0 0 (QQ g X NT false h (xo_I z) (xc z) (xs z)) h 0 [.ref 0, .int a0, .int a1] [] := by
  unfold s_X9_kind at e
  refine aw_aload_n (i := 0) hX rfl rfl d_X9_kind_0 ?_
  refine aw_iload_n (i := 1) hX rfl rfl d_X9_kind_1 ?_
  obtain ⟨q1, f_801, e_801⟩ := bd_some e
  clear e
  rcases q1 with x2 | E8
  · have e_802 := sm_inl e_801
    clear e_801
    refine aw_callV (b := 0) (av := [.int a0]) (avr := [.int a0]) hX (k_X9_needKind (cx_g hX) hF f_801) mi_X9_needKind rfl rfl w_511 w_512 w_513 (by decide) rfl (LAY_lt rfl (by decide)) rfl rfl (Nat.le_of_ble_eq_true rfl) (Nat.zero_le _) (Nat.zero_le _) d_X9_kind_2 ?_
    refine aw_aload_n (i := 0) hX rfl rfl d_X9_kind_5 ?_
    refine aw_iload_n (i := 2) hX rfl rfl d_X9_kind_6 ?_
    refine aw_bipush (v := 10) hX (by decide) d_X9_kind_7 ?_
    obtain ⟨q3, f_803, e_803⟩ := bd_some e_802
    clear e_802
    rcases q3 with x4 | E7
    · have e_804 := sm_inl e_803
      clear e_803
      refine aw_callV (b := 0) (av := [.int a1, .int 10]) (avr := [.int 10, .int a1]) hX (k_X9_needWhat (cx_g hX) hF f_803) mi_X9_needWhat rfl rfl w_504 w_505 w_506 (by decide) rfl (LAY_lt rfl (by decide)) rfl rfl (Nat.le_of_ble_eq_true rfl) (Nat.zero_le _) (Nat.zero_le _) d_X9_kind_9 ?_
      refine aw_aload_n (i := 0) hX rfl rfl d_X9_kind_12 ?_
      obtain ⟨t5, f_805, e_805⟩ := bd_some e_804
      clear e_804
      obtain ⟨hlt5, e_806⟩ := if_some e_805
      clear e_805
      refine ar_getR hX fg_RX9_63 rfl f_805 d_X9_kind_13 ?_
      refine aw_iload_n (i := 1) hX rfl rfl d_X9_kind_16 ?_
      refine aw_iload_n (i := 2) hX rfl rfl d_X9_kind_17 ?_
      obtain ⟨x6, f_807, e_807⟩ := bd_some e_806
      clear e_806
      refine aw_callV (b := t5) (av := [.int a0, .int a1]) (avr := [.int a1, .int a0]) hX (k_X8_ofKind (cx_g hX) hF f_807) mi_X8_ofKind rfl rfl w_514 w_10 w_11 (by decide) (by assumption) (LAY_lt (by assumption) (by decide)) rfl rfl (Nat.le_of_ble_eq_true rfl) (Nat.zero_le _) (Nat.zero_le _) d_X9_kind_18 ?_
      cases e_807
      exact aw_ireturn hX (Nat.zero_le _) (Nat.zero_le _) d_X9_kind_21
    · have e_808 := sm_inr e_803
      clear e_803
      cases e_808
      exact aw_callVX (b := 0) (av := [.int a1, .int 10]) (avr := [.int 10, .int a1]) hX (kx_X9_needWhat (cx_g hX) hF f_803) mi_X9_needWhat rfl rfl w_504 w_505 w_506 (by decide) rfl (LAY_lt rfl (by decide)) rfl rfl (Nat.le_of_ble_eq_true rfl) hM1 hM2 d_X9_kind_9
  · have e_809 := sm_inr e_801
    clear e_801
    cases e_809
    exact aw_callVX (b := 0) (av := [.int a0]) (avr := [.int a0]) hX (kx_X9_needKind (cx_g hX) hF f_801) mi_X9_needKind rfl rfl w_511 w_512 w_513 (by decide) rfl (LAY_lt rfl (by decide)) rfl rfl (Nat.le_of_ble_eq_true rfl) hM1 hM2 d_X9_kind_2
theorem k_X9_kind {g : GP} (hg : g.1.stackTraces = false) (hF : gF g = true) {a0 : Int32} {a1 : Int32} {h : AH} {z : Int32} (e : s_X9_kind a0 a1 h = some (.inl z)) : Ctr g yX9_kind (wsY yX9_kind cX9_kind 3 (some .int)) 7 0 0 [.ref 0, .int a0, .int a1] NT false h (some (.int z)) NT false h := ctr_of (lv0 := [.ref 0, .int a0, .int a1]) rfl rfl (by decide) hg trivial (fun X hX hn => t_X9_kind hF hX e (Nat.zero_le _) (Nat.zero_le _))
theorem kx_X9_kind {g : GP} (hg : g.1.stackTraces = false) (hF : gF g = true) {a0 : Int32} {a1 : Int32} {h : AH} {z : Nat} (e : s_X9_kind a0 a1 h = some (.inr z)) : CtrX g yX9_kind (wsY yX9_kind cX9_kind 3 (some .int)) 7 [.ref 0, .int a0, .int a1] NT h z h := ctrX_of (lv0 := [.ref 0, .int a0, .int a1]) rfl rfl (by decide) hg (fun X hX => t_X9_kind hF hX e (Nat.le_refl _) (Nat.le_refl _))
theorem d_X9_needTicket_0 : decode cX9_needTicket 0 = .ok (.iload_n 1, 1) := by decide +kernel
theorem d_X9_needTicket_1 : decode cX9_needTicket 1 = .ok (.ifCond .lt 8, 3) := by decide +kernel
theorem d_X9_needTicket_4 : decode cX9_needTicket 4 = .ok (.iload_n 1, 1) := by decide +kernel
theorem d_X9_needTicket_5 : decode cX9_needTicket 5 = .ok (.iconst 5, 1) := by decide +kernel
theorem d_X9_needTicket_6 : decode cX9_needTicket 6 = .ok (.if_icmp .lt 11, 3) := by decide +kernel
theorem d_X9_needTicket_9 : decode cX9_needTicket 9 = .ok (.new 134, 3) := by decide +kernel
theorem d_X9_needTicket_12 : decode cX9_needTicket 12 = .ok (.dup, 1) := by decide +kernel
theorem d_X9_needTicket_13 : decode cX9_needTicket 13 = .ok (.invokespecial 136, 3) := by decide +kernel
theorem d_X9_needTicket_16 : decode cX9_needTicket 16 = .ok (.athrow, 1) := by decide +kernel
theorem d_X9_needTicket_17 : decode cX9_needTicket 17 = .ok (.return_, 1) := by decide +kernel
def j_X9_needTicket_9 (h : AH) : Option (Unit ⊕ Nat) := some (.inr 0)
theorem tj_X9_needTicket_9 {g : GP} {X : MX} {mcR msR : Nat} (hF : gF g = true) (hX : Cx g RX9 cX9_needTicket 6 mcR msR none [] X) {d0 : Value} {d1 : Value} {h : AH} {z : (Unit ⊕ Nat)} (e : j_X9_needTicket_9 h = some z) (hM1 : xc z ≤ mcR) (hM2 : xs z ≤ msR) : AR g X 0 0 (QQ g X NT false h (xo_V z) (xc z) (xs z)) h 9 [d0, d1] [] := by
  unfold j_X9_needTicket_9 at e
  cases e
  exact ar_throw hX (thr_RX9_0) (by decide) d_X9_needTicket_9 d_X9_needTicket_12 d_X9_needTicket_13 d_X9_needTicket_16 hM1 hM2
def s_X9_needTicket (a0 : Int32) (h : AH) : Option (Unit ⊕ Nat) := if a0 < 0 then j_X9_needTicket_9 h else if a0 < 5 then some (.inl ()) else j_X9_needTicket_9 h
theorem t_X9_needTicket {g : GP} {X : MX} {mcR msR : Nat} (hF : gF g = true) (hX : Cx g RX9 cX9_needTicket 6 mcR msR none [] X) {a0 : Int32} {h : AH} {z : (Unit ⊕ Nat)} (e : s_X9_needTicket a0 h = some z) (hM1 : xc z ≤ mcR) (hM2 : xs z ≤ msR) : AR g X 0 0 (QQ g X NT false h (xo_V z) (xc z) (xs z)) h 0 [.ref 0, .int a0] [] := by
  unfold s_X9_needTicket at e
  refine aw_iload_n (i := 1) hX rfl rfl d_X9_needTicket_0 ?_
  refine aw_if_lt (t := 9) hX (by decide) d_X9_needTicket_1 (fun c => ?_) (fun c => ?_)
  · rw [if_pos c] at e
    exact tj_X9_needTicket_9 hF hX e hM1 hM2
  · rw [if_neg c] at e
    refine aw_iload_n (i := 1) hX rfl rfl d_X9_needTicket_4 ?_
    refine aw_iconst (v := 5) hX (by decide) d_X9_needTicket_5 ?_
    refine aw_icmp_lt (t := 17) hX (by decide) d_X9_needTicket_6 (fun c => ?_) (fun c => ?_)
    · rw [if_pos c] at e
      cases e
      exact aw_return hX (Nat.zero_le _) (Nat.zero_le _) d_X9_needTicket_17
    · rw [if_neg c] at e
      exact tj_X9_needTicket_9 hF hX e hM1 hM2
theorem k_X9_needTicket {g : GP} (hg : g.1.stackTraces = false) (hF : gF g = true) {a0 : Int32} {h : AH} {z : Unit} (e : s_X9_needTicket a0 h = some (.inl z)) : Ctr g yX9_needTicket (wsY yX9_needTicket cX9_needTicket 2 none) 6 0 0 [.ref 0, .int a0] NT false h none NT false h := ctr_of (lv0 := [.ref 0, .int a0]) rfl rfl (by decide) hg trivial (fun X hX hn => t_X9_needTicket hF hX e (Nat.zero_le _) (Nat.zero_le _))
theorem kx_X9_needTicket {g : GP} (hg : g.1.stackTraces = false) (hF : gF g = true) {a0 : Int32} {h : AH} {z : Nat} (e : s_X9_needTicket a0 h = some (.inr z)) : CtrX g yX9_needTicket (wsY yX9_needTicket cX9_needTicket 2 none) 6 [.ref 0, .int a0] NT h z h := ctrX_of (lv0 := [.ref 0, .int a0]) rfl rfl (by decide) hg (fun X hX => t_X9_needTicket hF hX e (Nat.le_refl _) (Nat.le_refl _))
theorem d_X9_price_0 : decode cX9_price 0 = .ok (.aload_n 0, 1) := by decide +kernel
theorem d_X9_price_1 : decode cX9_price 1 = .ok (.iload_n 1, 1) := by decide +kernel
theorem d_X9_price_2 : decode cX9_price 2 = .ok (.invokevirtual 162, 3) := by decide +kernel
theorem d_X9_price_5 : decode cX9_price 5 = .ok (.aload_n 0, 1) := by decide +kernel
theorem d_X9_price_6 : decode cX9_price 6 = .ok (.getfield 63, 3) := by decide +kernel
theorem d_X9_price_9 : decode cX9_price 9 = .ok (.getfield 165, 3) := by decide +kernel
theorem d_X9_price_12 : decode cX9_price 12 = .ok (.iload_n 1, 1) := by decide +kernel
theorem d_X9_price_13 : decode cX9_price 13 = .ok (.invokestatic 148, 3) := by decide +kernel
theorem d_X9_price_16 : decode cX9_price 16 = .ok (.ireturn, 1) := by decide +kernel
def s_X9_price (a0 : Int32) (h : AH) : Option (Int32 ⊕ Nat) := bd (s_X9_needTicket a0 h) fun q1 => sm q1 (fun x2 => bd (gR h 0 8) fun t3 => if LAY t3 = (0, 8) then bd (s_X9_at (some (t3 + 7)) a0 h) fun x4 => some (.inl x4) else none) (fun E5 => some (.inr E5))
theorem t_X9_price {g : GP} {X : MX} {mcR msR : Nat} (hF : gF g = true) (hX : Cx g RX9 cX9_price 7 mcR msR (some .int) [] X) {a0 : Int32} {h : AH} {z : (Int32 ⊕ Nat)} (e : s_X9_price a0 h = some z) (hM1 : xc z ≤ mcR) (hM2 : xs z ≤ msR) : AR g X 0 0 (QQ g X NT false h (xo_I z) (xc z) (xs z)) h 0 [.ref 0, .int a0] [] := by
  unfold s_X9_price at e
  refine aw_aload_n (i := 0) hX rfl rfl d_X9_price_0 ?_
  refine aw_iload_n (i := 1) hX rfl rfl d_X9_price_1 ?_
  obtain ⟨q1, f_810, e_810⟩ := bd_some e
  clear e
  rcases q1 with x2 | E5
  · have e_811 := sm_inl e_810
    clear e_810
    refine aw_callV (b := 0) (av := [.int a0]) (avr := [.int a0]) hX (k_X9_needTicket (cx_g hX) hF f_810) mi_X9_needTicket rfl rfl w_516 w_517 w_518 (by decide) rfl (LAY_lt rfl (by decide)) rfl rfl (Nat.le_of_ble_eq_true rfl) (Nat.zero_le _) (Nat.zero_le _) d_X9_price_2 ?_
    refine aw_aload_n (i := 0) hX rfl rfl d_X9_price_5 ?_
    obtain ⟨t3, f_812, e_812⟩ := bd_some e_811
    clear e_811
    obtain ⟨hlt3, e_813⟩ := if_some e_812
    clear e_812
    refine ar_getR hX fg_RX9_63 rfl f_812 d_X9_price_6 ?_
    refine ar_getF hX hF fg_RX9_165 (by assumption) d_X9_price_9 ?_
    refine aw_iload_n (i := 1) hX rfl rfl d_X9_price_12 ?_
    obtain ⟨x4, f_814, e_814⟩ := bd_some e_813
    clear e_813
    refine aw_callS (av := [.ref (t3 + 7), .int a0]) (avr := [.int a0, .ref (t3 + 7)]) hX (k_X9_at (cx_g hX) hF f_814) mi_X9_at rfl rfl w_509 w_6 rfl (by decide) (Nat.le_of_ble_eq_true rfl) (Nat.zero_le _) (Nat.zero_le _) d_X9_price_13 ?_
    cases e_814
    exact aw_ireturn hX (Nat.zero_le _) (Nat.zero_le _) d_X9_price_16
  · have e_815 := sm_inr e_810
    clear e_810
    cases e_815
    exact aw_callVX (b := 0) (av := [.int a0]) (avr := [.int a0]) hX (kx_X9_needTicket (cx_g hX) hF f_810) mi_X9_needTicket rfl rfl w_516 w_517 w_518 (by decide) rfl (LAY_lt rfl (by decide)) rfl rfl (Nat.le_of_ble_eq_true rfl) hM1 hM2 d_X9_price_2
theorem k_X9_price {g : GP} (hg : g.1.stackTraces = false) (hF : gF g = true) {a0 : Int32} {h : AH} {z : Int32} (e : s_X9_price a0 h = some (.inl z)) : Ctr g yX9_price (wsY yX9_price cX9_price 2 (some .int)) 7 0 0 [.ref 0, .int a0] NT false h (some (.int z)) NT false h := ctr_of (lv0 := [.ref 0, .int a0]) rfl rfl (by decide) hg trivial (fun X hX hn => t_X9_price hF hX e (Nat.zero_le _) (Nat.zero_le _))
theorem kx_X9_price {g : GP} (hg : g.1.stackTraces = false) (hF : gF g = true) {a0 : Int32} {h : AH} {z : Nat} (e : s_X9_price a0 h = some (.inr z)) : CtrX g yX9_price (wsY yX9_price cX9_price 2 (some .int)) 7 [.ref 0, .int a0] NT h z h := ctrX_of (lv0 := [.ref 0, .int a0]) rfl rfl (by decide) hg (fun X hX => t_X9_price hF hX e (Nat.le_refl _) (Nat.le_refl _))
theorem d_X9_chance_0 : decode cX9_chance 0 = .ok (.aload_n 0, 1) := by decide +kernel
theorem d_X9_chance_1 : decode cX9_chance 1 = .ok (.iload_n 1, 1) := by decide +kernel
theorem d_X9_chance_2 : decode cX9_chance 2 = .ok (.invokevirtual 156, 3) := by decide +kernel
theorem d_X9_chance_5 : decode cX9_chance 5 = .ok (.aload_n 0, 1) := by decide +kernel
theorem d_X9_chance_6 : decode cX9_chance 6 = .ok (.iload_n 2, 1) := by decide +kernel
theorem d_X9_chance_7 : decode cX9_chance 7 = .ok (.invokevirtual 137, 3) := by decide +kernel
theorem d_X9_chance_10 : decode cX9_chance 10 = .ok (.aload_n 0, 1) := by decide +kernel
theorem d_X9_chance_11 : decode cX9_chance 11 = .ok (.getfield 63, 3) := by decide +kernel
theorem d_X9_chance_14 : decode cX9_chance 14 = .ok (.iload_n 1, 1) := by decide +kernel
theorem d_X9_chance_15 : decode cX9_chance 15 = .ok (.iload_n 2, 1) := by decide +kernel
theorem d_X9_chance_16 : decode cX9_chance 16 = .ok (.iload_n 3, 1) := by decide +kernel
theorem d_X9_chance_17 : decode cX9_chance 17 = .ok (.invokevirtual 168, 3) := by decide +kernel
theorem d_X9_chance_20 : decode cX9_chance 20 = .ok (.ireturn, 1) := by decide +kernel
def s_X9_chance (a0 : Int32) (a1 : Int32) (a2 : Int32) (h : AH) : Option (Int32 ⊕ Nat) := bd (s_X9_needKind a0 h) fun q1 => sm q1 (fun x2 => bd (s_X9_needEvening a1 h) fun q3 => sm q3 (fun x4 => bd (gR h 0 8) fun t5 => if LAY t5 = (0, 8) then bd (s_X8_likely t5 a0 a1 a2 h) fun x6 => some (.inl x6) else none) (fun E7 => some (.inr E7))) (fun E8 => some (.inr E8))
theorem t_X9_chance {g : GP} {X : MX} {mcR msR : Nat} (hF : gF g = true) (hX : Cx g RX9 cX9_chance 7 mcR msR (some .int) [] X) {a0 : Int32} {a1 : Int32} {a2 : Int32} {h : AH} {z : (Int32 ⊕ Nat)} (e : s_X9_chance a0 a1 a2 h = some z) (hM1 : xc z ≤ mcR) (hM2 : xs z ≤ msR) : AR g X 0 0 (QQ g X NT false h (xo_I z) (xc z) (xs z)) h 0 [.ref 0, .int a0, .int a1, .int a2] [] := by
  unfold s_X9_chance at e
  refine aw_aload_n (i := 0) hX rfl rfl d_X9_chance_0 ?_
  refine aw_iload_n (i := 1) hX rfl rfl d_X9_chance_1 ?_
  obtain ⟨q1, f_816, e_816⟩ := bd_some e
  clear e
  rcases q1 with x2 | E8
  · have e_817 := sm_inl e_816
    clear e_816
    refine aw_callV (b := 0) (av := [.int a0]) (avr := [.int a0]) hX (k_X9_needKind (cx_g hX) hF f_816) mi_X9_needKind rfl rfl w_511 w_512 w_513 (by decide) rfl (LAY_lt rfl (by decide)) rfl rfl (Nat.le_of_ble_eq_true rfl) (Nat.zero_le _) (Nat.zero_le _) d_X9_chance_2 ?_
    refine aw_aload_n (i := 0) hX rfl rfl d_X9_chance_5 ?_
    refine aw_iload_n (i := 2) hX rfl rfl d_X9_chance_6 ?_
    obtain ⟨q3, f_818, e_818⟩ := bd_some e_817
    clear e_817
    rcases q3 with x4 | E7
    · have e_819 := sm_inl e_818
      clear e_818
      refine aw_callV (b := 0) (av := [.int a1]) (avr := [.int a1]) hX (k_X9_needEvening (cx_g hX) hF f_818) mi_X9_needEvening rfl rfl w_500 w_501 w_502 (by decide) rfl (LAY_lt rfl (by decide)) rfl rfl (Nat.le_of_ble_eq_true rfl) (Nat.zero_le _) (Nat.zero_le _) d_X9_chance_7 ?_
      refine aw_aload_n (i := 0) hX rfl rfl d_X9_chance_10 ?_
      obtain ⟨t5, f_820, e_820⟩ := bd_some e_819
      clear e_819
      obtain ⟨hlt5, e_821⟩ := if_some e_820
      clear e_820
      refine ar_getR hX fg_RX9_63 rfl f_820 d_X9_chance_11 ?_
      refine aw_iload_n (i := 1) hX rfl rfl d_X9_chance_14 ?_
      refine aw_iload_n (i := 2) hX rfl rfl d_X9_chance_15 ?_
      refine aw_iload_n (i := 3) hX rfl rfl d_X9_chance_16 ?_
      obtain ⟨x6, f_822, e_822⟩ := bd_some e_821
      clear e_821
      refine aw_callV (b := t5) (av := [.int a0, .int a1, .int a2]) (avr := [.int a2, .int a1, .int a0]) hX (k_X8_likely (cx_g hX) hF f_822) mi_X8_likely rfl rfl w_520 w_55 w_56 (by decide) (by assumption) (LAY_lt (by assumption) (by decide)) rfl rfl (Nat.le_of_ble_eq_true rfl) (Nat.zero_le _) (Nat.zero_le _) d_X9_chance_17 ?_
      cases e_822
      exact aw_ireturn hX (Nat.zero_le _) (Nat.zero_le _) d_X9_chance_20
    · have e_823 := sm_inr e_818
      clear e_818
      cases e_823
      exact aw_callVX (b := 0) (av := [.int a1]) (avr := [.int a1]) hX (kx_X9_needEvening (cx_g hX) hF f_818) mi_X9_needEvening rfl rfl w_500 w_501 w_502 (by decide) rfl (LAY_lt rfl (by decide)) rfl rfl (Nat.le_of_ble_eq_true rfl) hM1 hM2 d_X9_chance_7
  · have e_824 := sm_inr e_816
    clear e_816
    cases e_824
    exact aw_callVX (b := 0) (av := [.int a0]) (avr := [.int a0]) hX (kx_X9_needKind (cx_g hX) hF f_816) mi_X9_needKind rfl rfl w_511 w_512 w_513 (by decide) rfl (LAY_lt rfl (by decide)) rfl rfl (Nat.le_of_ble_eq_true rfl) hM1 hM2 d_X9_chance_2
theorem k_X9_chance {g : GP} (hg : g.1.stackTraces = false) (hF : gF g = true) {a0 : Int32} {a1 : Int32} {a2 : Int32} {h : AH} {z : Int32} (e : s_X9_chance a0 a1 a2 h = some (.inl z)) : Ctr g yX9_chance (wsY yX9_chance cX9_chance 4 (some .int)) 7 0 0 [.ref 0, .int a0, .int a1, .int a2] NT false h (some (.int z)) NT false h := ctr_of (lv0 := [.ref 0, .int a0, .int a1, .int a2]) rfl rfl (by decide) hg trivial (fun X hX hn => t_X9_chance hF hX e (Nat.zero_le _) (Nat.zero_le _))
theorem kx_X9_chance {g : GP} (hg : g.1.stackTraces = false) (hF : gF g = true) {a0 : Int32} {a1 : Int32} {a2 : Int32} {h : AH} {z : Nat} (e : s_X9_chance a0 a1 a2 h = some (.inr z)) : CtrX g yX9_chance (wsY yX9_chance cX9_chance 4 (some .int)) 7 [.ref 0, .int a0, .int a1, .int a2] NT h z h := ctrX_of (lv0 := [.ref 0, .int a0, .int a1, .int a2]) rfl rfl (by decide) hg (fun X hX => t_X9_chance hF hX e (Nat.le_refl _) (Nat.le_refl _))
theorem d_X9_good_0 : decode cX9_good 0 = .ok (.aload_n 0, 1) := by decide +kernel
theorem d_X9_good_1 : decode cX9_good 1 = .ok (.iload_n 1, 1) := by decide +kernel
theorem d_X9_good_2 : decode cX9_good 2 = .ok (.invokevirtual 156, 3) := by decide +kernel
theorem d_X9_good_5 : decode cX9_good 5 = .ok (.aload_n 0, 1) := by decide +kernel
theorem d_X9_good_6 : decode cX9_good 6 = .ok (.iload_n 2, 1) := by decide +kernel
theorem d_X9_good_7 : decode cX9_good 7 = .ok (.invokevirtual 162, 3) := by decide +kernel
theorem d_X9_good_10 : decode cX9_good 10 = .ok (.iload_n 2, 1) := by decide +kernel
theorem d_X9_good_11 : decode cX9_good 11 = .ok (.ifCond .ne 17, 3) := by decide +kernel
theorem d_X9_good_14 : decode cX9_good 14 = .ok (.aload_n 0, 1) := by decide +kernel
theorem d_X9_good_15 : decode cX9_good 15 = .ok (.getfield 24, 3) := by decide +kernel
theorem d_X9_good_18 : decode cX9_good 18 = .ok (.iload_n 1, 1) := by decide +kernel
theorem d_X9_good_19 : decode cX9_good 19 = .ok (.iconst 0, 1) := by decide +kernel
theorem d_X9_good_20 : decode cX9_good 20 = .ok (.invokevirtual 172, 3) := by decide +kernel
theorem d_X9_good_23 : decode cX9_good 23 = .ok (.invokevirtual 176, 3) := by decide +kernel
theorem d_X9_good_26 : decode cX9_good 26 = .ok (.l2i, 1) := by decide +kernel
theorem d_X9_good_27 : decode cX9_good 27 = .ok (.ireturn, 1) := by decide +kernel
theorem d_X9_good_28 : decode cX9_good 28 = .ok (.aload_n 0, 1) := by decide +kernel
theorem d_X9_good_29 : decode cX9_good 29 = .ok (.getfield 63, 3) := by decide +kernel
theorem d_X9_good_32 : decode cX9_good 32 = .ok (.getfield 165, 3) := by decide +kernel
theorem d_X9_good_35 : decode cX9_good 35 = .ok (.iload_n 2, 1) := by decide +kernel
theorem d_X9_good_36 : decode cX9_good 36 = .ok (.invokestatic 148, 3) := by decide +kernel
theorem d_X9_good_39 : decode cX9_good 39 = .ok (.istore_n 3, 1) := by decide +kernel
theorem d_X9_good_40 : decode cX9_good 40 = .ok (.iload_n 3, 1) := by decide +kernel
theorem d_X9_good_41 : decode cX9_good 41 = .ok (.iconst (-1), 1) := by decide +kernel
theorem d_X9_good_42 : decode cX9_good 42 = .ok (.if_icmp .ne 11, 3) := by decide +kernel
theorem d_X9_good_45 : decode cX9_good 45 = .ok (.new 83, 3) := by decide +kernel
theorem d_X9_good_48 : decode cX9_good 48 = .ok (.dup, 1) := by decide +kernel
theorem d_X9_good_49 : decode cX9_good 49 = .ok (.invokespecial 85, 3) := by decide +kernel
theorem d_X9_good_52 : decode cX9_good 52 = .ok (.athrow, 1) := by decide +kernel
theorem d_X9_good_53 : decode cX9_good 53 = .ok (.aload_n 0, 1) := by decide +kernel
theorem d_X9_good_54 : decode cX9_good 54 = .ok (.getfield 24, 3) := by decide +kernel
theorem d_X9_good_57 : decode cX9_good 57 = .ok (.iload_n 1, 1) := by decide +kernel
theorem d_X9_good_58 : decode cX9_good 58 = .ok (.iload_n 2, 1) := by decide +kernel
theorem d_X9_good_59 : decode cX9_good 59 = .ok (.invokevirtual 172, 3) := by decide +kernel
theorem d_X9_good_62 : decode cX9_good 62 = .ok (.invokevirtual 176, 3) := by decide +kernel
theorem d_X9_good_65 : decode cX9_good 65 = .ok (.ldc2_w 182, 3) := by decide +kernel
theorem d_X9_good_68 : decode cX9_good 68 = .ok (.iload_n 3, 1) := by decide +kernel
theorem d_X9_good_69 : decode cX9_good 69 = .ok (.i2l, 1) := by decide +kernel
theorem d_X9_good_70 : decode cX9_good 70 = .ok (.lmul, 1) := by decide +kernel
theorem d_X9_good_71 : decode cX9_good 71 = .ok (.lsub, 1) := by decide +kernel
theorem d_X9_good_72 : decode cX9_good 72 = .ok (.l2i, 1) := by decide +kernel
theorem d_X9_good_73 : decode cX9_good 73 = .ok (.ireturn, 1) := by decide +kernel
def s_X9_good (a0 : Int32) (a1 : Int32) (h : AH) : Option (Int32 ⊕ Nat) := bd (s_X9_needKind a0 h) fun q1 => sm q1 (fun x2 => bd (s_X9_needTicket a1 h) fun q3 => sm q3 (fun x4 => if a1 = 0 then bd (s_X0_planOf a0 0 h) fun x10 => bd x10 fun t11 => if LAY t11 = (0, 2) then bd (s_X2_value t11 h) fun x12 => some (.inl x12.toInt32) else none else bd (gR h 0 8) fun t5 => if LAY t5 = (0, 8) then bd (s_X9_at (some (t5 + 7)) a1 h) fun x6 => if x6 = (-1) then some (.inr 1) else bd (s_X0_planOf a0 a1 h) fun x7 => bd x7 fun t8 => if LAY t8 = (0, 2) then bd (s_X2_value t8 h) fun x9 => some (.inl ((x9 - (1000 * x6.toInt64)).toInt32)) else none else none) (fun E13 => some (.inr E13))) (fun E14 => some (.inr E14))
theorem t_X9_good {g : GP} {X : MX} {mcR msR : Nat} (hF : gF g = true) (hX : Cx g RX9 cX9_good 7 mcR msR (some .int) [] X) {a0 : Int32} {a1 : Int32} {h : AH} {z : (Int32 ⊕ Nat)} (e : s_X9_good a0 a1 h = some z) (hM1 : xc z ≤ mcR) (hM2 : xs z ≤ msR) : AR g X 0 0 (QQ g X NT false h (xo_I z) (xc z) (xs z)) h 0 [.ref 0, .int a0, .int a1, jk] [] := by
  unfold s_X9_good at e
  refine aw_aload_n (i := 0) hX rfl rfl d_X9_good_0 ?_
  refine aw_iload_n (i := 1) hX rfl rfl d_X9_good_1 ?_
  obtain ⟨q1, f_825, e_825⟩ := bd_some e
  clear e
  rcases q1 with x2 | E14
  · have e_826 := sm_inl e_825
    clear e_825
    refine aw_callV (b := 0) (av := [.int a0]) (avr := [.int a0]) hX (k_X9_needKind (cx_g hX) hF f_825) mi_X9_needKind rfl rfl w_511 w_512 w_513 (by decide) rfl (LAY_lt rfl (by decide)) rfl rfl (Nat.le_of_ble_eq_true rfl) (Nat.zero_le _) (Nat.zero_le _) d_X9_good_2 ?_
    refine aw_aload_n (i := 0) hX rfl rfl d_X9_good_5 ?_
    refine aw_iload_n (i := 2) hX rfl rfl d_X9_good_6 ?_
    obtain ⟨q3, f_827, e_827⟩ := bd_some e_826
    clear e_826
    rcases q3 with x4 | E13
    · have e_828 := sm_inl e_827
      clear e_827
      refine aw_callV (b := 0) (av := [.int a1]) (avr := [.int a1]) hX (k_X9_needTicket (cx_g hX) hF f_827) mi_X9_needTicket rfl rfl w_516 w_517 w_518 (by decide) rfl (LAY_lt rfl (by decide)) rfl rfl (Nat.le_of_ble_eq_true rfl) (Nat.zero_le _) (Nat.zero_le _) d_X9_good_7 ?_
      refine aw_iload_n (i := 2) hX rfl rfl d_X9_good_10 ?_
      refine aw_if_ne (t := 28) hX (by decide) d_X9_good_11 (fun c => ?_) (fun c => ?_)
      · rw [if_neg c] at e_828
        refine aw_aload_n (i := 0) hX rfl rfl d_X9_good_28 ?_
        obtain ⟨t5, f_829, e_829⟩ := bd_some e_828
        clear e_828
        obtain ⟨hlt5, e_830⟩ := if_some e_829
        clear e_829
        refine ar_getR hX fg_RX9_63 rfl f_829 d_X9_good_29 ?_
        refine ar_getF hX hF fg_RX9_165 (by assumption) d_X9_good_32 ?_
        refine aw_iload_n (i := 2) hX rfl rfl d_X9_good_35 ?_
        obtain ⟨x6, f_831, e_831⟩ := bd_some e_830
        clear e_830
        refine aw_callS (av := [.ref (t5 + 7), .int a1]) (avr := [.int a1, .ref (t5 + 7)]) hX (k_X9_at (cx_g hX) hF f_831) mi_X9_at rfl rfl w_509 w_6 rfl (by decide) (Nat.le_of_ble_eq_true rfl) (Nat.zero_le _) (Nat.zero_le _) d_X9_good_36 ?_
        refine aw_istore_n (i := 3) (lv2 := [.ref 0, .int a0, .int a1, .int x6]) hX rfl rfl rfl d_X9_good_39 ?_
        refine aw_iload_n (i := 3) hX rfl rfl d_X9_good_40 ?_
        refine aw_iconst (v := (-1)) hX (by decide) d_X9_good_41 ?_
        refine aw_icmp_ne (t := 53) hX (by decide) d_X9_good_42 (fun c => ?_) (fun c => ?_)
        · rw [if_neg c] at e_831
          refine aw_aload_n (i := 0) hX rfl rfl d_X9_good_53 ?_
          refine ar_getF hX hF fg_RX9_24 rfl d_X9_good_54 ?_
          show AR g X 0 0 _ _ 57 _ [.ref 13]
          refine aw_iload_n (i := 1) hX rfl rfl d_X9_good_57 ?_
          refine aw_iload_n (i := 2) hX rfl rfl d_X9_good_58 ?_
          obtain ⟨x7, f_832, e_832⟩ := bd_some e_831
          clear e_831
          refine aw_callV (b := 13) (av := [.int a0, .int a1]) (avr := [.int a1, .int a0]) hX (k_X0_planOf (cx_g hX) hF f_832) mi_X0_planOf rfl rfl w_521 w_15 w_16 (by decide) rfl (LAY_lt rfl (by decide)) rfl rfl (Nat.le_of_ble_eq_true rfl) (Nat.zero_le _) (Nat.zero_le _) d_X9_good_59 ?_
          obtain ⟨t8, f_833, e_833⟩ := bd_some e_832
          clear e_832
          obtain ⟨hlt8, e_834⟩ := if_some e_833
          clear e_833
          subst f_833
          obtain ⟨x9, f_835, e_835⟩ := bd_some e_834
          clear e_834
          refine aw_callV (b := t8) (av := []) (avr := []) hX (k_X2_value (cx_g hX) hF f_835) mi_X2_value rfl rfl w_522 w_20 w_21 (by decide) (by assumption) (LAY_lt (by assumption) (by decide)) rfl rfl (Nat.le_of_ble_eq_true rfl) (Nat.zero_le _) (Nat.zero_le _) d_X9_good_62 ?_
          refine aw_ldc2 hX w_523 d_X9_good_65 ?_
          refine aw_iload_n (i := 3) hX rfl rfl d_X9_good_68 ?_
          refine aw_i2l hX d_X9_good_69 ?_
          refine aw_lmul hX d_X9_good_70 ?_
          refine aw_lsub hX d_X9_good_71 ?_
          refine aw_l2i hX d_X9_good_72 ?_
          cases e_835
          exact aw_ireturn hX (Nat.zero_le _) (Nat.zero_le _) d_X9_good_73
        · rw [if_pos c] at e_831
          cases e_831
          exact ar_throw hX (thr_RX9_1) (by decide) d_X9_good_45 d_X9_good_48 d_X9_good_49 d_X9_good_52 hM1 hM2
      · rw [if_pos c] at e_828
        refine aw_aload_n (i := 0) hX rfl rfl d_X9_good_14 ?_
        refine ar_getF hX hF fg_RX9_24 rfl d_X9_good_15 ?_
        show AR g X 0 0 _ _ 18 _ [.ref 13]
        refine aw_iload_n (i := 1) hX rfl rfl d_X9_good_18 ?_
        refine aw_iconst (v := 0) hX (by decide) d_X9_good_19 ?_
        obtain ⟨x10, f_836, e_836⟩ := bd_some e_828
        clear e_828
        refine aw_callV (b := 13) (av := [.int a0, .int 0]) (avr := [.int 0, .int a0]) hX (k_X0_planOf (cx_g hX) hF f_836) mi_X0_planOf rfl rfl w_521 w_15 w_16 (by decide) rfl (LAY_lt rfl (by decide)) rfl rfl (Nat.le_of_ble_eq_true rfl) (Nat.zero_le _) (Nat.zero_le _) d_X9_good_20 ?_
        obtain ⟨t11, f_837, e_837⟩ := bd_some e_836
        clear e_836
        obtain ⟨hlt11, e_838⟩ := if_some e_837
        clear e_837
        subst f_837
        obtain ⟨x12, f_839, e_839⟩ := bd_some e_838
        clear e_838
        refine aw_callV (b := t11) (av := []) (avr := []) hX (k_X2_value (cx_g hX) hF f_839) mi_X2_value rfl rfl w_522 w_20 w_21 (by decide) (by assumption) (LAY_lt (by assumption) (by decide)) rfl rfl (Nat.le_of_ble_eq_true rfl) (Nat.zero_le _) (Nat.zero_le _) d_X9_good_23 ?_
        refine aw_l2i hX d_X9_good_26 ?_
        cases e_839
        exact aw_ireturn hX (Nat.zero_le _) (Nat.zero_le _) d_X9_good_27
    · have e_840 := sm_inr e_827
      clear e_827
      cases e_840
      exact aw_callVX (b := 0) (av := [.int a1]) (avr := [.int a1]) hX (kx_X9_needTicket (cx_g hX) hF f_827) mi_X9_needTicket rfl rfl w_516 w_517 w_518 (by decide) rfl (LAY_lt rfl (by decide)) rfl rfl (Nat.le_of_ble_eq_true rfl) hM1 hM2 d_X9_good_7
  · have e_841 := sm_inr e_825
    clear e_825
    cases e_841
    exact aw_callVX (b := 0) (av := [.int a0]) (avr := [.int a0]) hX (kx_X9_needKind (cx_g hX) hF f_825) mi_X9_needKind rfl rfl w_511 w_512 w_513 (by decide) rfl (LAY_lt rfl (by decide)) rfl rfl (Nat.le_of_ble_eq_true rfl) hM1 hM2 d_X9_good_2
theorem k_X9_good {g : GP} (hg : g.1.stackTraces = false) (hF : gF g = true) {a0 : Int32} {a1 : Int32} {h : AH} {z : Int32} (e : s_X9_good a0 a1 h = some (.inl z)) : Ctr g yX9_good (wsY yX9_good cX9_good 4 (some .int)) 7 0 0 [.ref 0, .int a0, .int a1] NT false h (some (.int z)) NT false h := ctr_of (lv0 := [.ref 0, .int a0, .int a1, jk]) rfl rfl (by decide) hg trivial (fun X hX hn => t_X9_good hF hX e (Nat.zero_le _) (Nat.zero_le _))
theorem kx_X9_good {g : GP} (hg : g.1.stackTraces = false) (hF : gF g = true) {a0 : Int32} {a1 : Int32} {h : AH} {z : Nat} (e : s_X9_good a0 a1 h = some (.inr z)) : CtrX g yX9_good (wsY yX9_good cX9_good 4 (some .int)) 7 [.ref 0, .int a0, .int a1] NT h z h := ctrX_of (lv0 := [.ref 0, .int a0, .int a1, jk]) rfl rfl (by decide) hg (fun X hX => t_X9_good hF hX e (Nat.le_refl _) (Nat.le_refl _))
theorem d_X9_buys_0 : decode cX9_buys 0 = .ok (.aload_n 0, 1) := by decide +kernel
theorem d_X9_buys_1 : decode cX9_buys 1 = .ok (.iload_n 1, 1) := by decide +kernel
theorem d_X9_buys_2 : decode cX9_buys 2 = .ok (.invokevirtual 156, 3) := by decide +kernel
theorem d_X9_buys_5 : decode cX9_buys 5 = .ok (.aload_n 0, 1) := by decide +kernel
theorem d_X9_buys_6 : decode cX9_buys 6 = .ok (.getfield 24, 3) := by decide +kernel
theorem d_X9_buys_9 : decode cX9_buys 9 = .ok (.getfield 184, 3) := by decide +kernel
theorem d_X9_buys_12 : decode cX9_buys 12 = .ok (.iload_n 1, 1) := by decide +kernel
theorem d_X9_buys_13 : decode cX9_buys 13 = .ok (.invokestatic 148, 3) := by decide +kernel
theorem d_X9_buys_16 : decode cX9_buys 16 = .ok (.ireturn, 1) := by decide +kernel
def s_X9_buys (a0 : Int32) (h : AH) : Option (Int32 ⊕ Nat) := bd (s_X9_needKind a0 h) fun q1 => sm q1 (fun x2 => bd (s_X9_at (some 14) a0 h) fun x3 => some (.inl x3)) (fun E4 => some (.inr E4))
theorem t_X9_buys {g : GP} {X : MX} {mcR msR : Nat} (hF : gF g = true) (hX : Cx g RX9 cX9_buys 7 mcR msR (some .int) [] X) {a0 : Int32} {h : AH} {z : (Int32 ⊕ Nat)} (e : s_X9_buys a0 h = some z) (hM1 : xc z ≤ mcR) (hM2 : xs z ≤ msR) : AR g X 0 0 (QQ g X NT false h (xo_I z) (xc z) (xs z)) h 0 [.ref 0, .int a0] [] := by
  unfold s_X9_buys at e
  refine aw_aload_n (i := 0) hX rfl rfl d_X9_buys_0 ?_
  refine aw_iload_n (i := 1) hX rfl rfl d_X9_buys_1 ?_
  obtain ⟨q1, f_842, e_842⟩ := bd_some e
  clear e
  rcases q1 with x2 | E4
  · have e_843 := sm_inl e_842
    clear e_842
    refine aw_callV (b := 0) (av := [.int a0]) (avr := [.int a0]) hX (k_X9_needKind (cx_g hX) hF f_842) mi_X9_needKind rfl rfl w_511 w_512 w_513 (by decide) rfl (LAY_lt rfl (by decide)) rfl rfl (Nat.le_of_ble_eq_true rfl) (Nat.zero_le _) (Nat.zero_le _) d_X9_buys_2 ?_
    refine aw_aload_n (i := 0) hX rfl rfl d_X9_buys_5 ?_
    refine ar_getF hX hF fg_RX9_24 rfl d_X9_buys_6 ?_
    show AR g X 0 0 _ _ 9 _ [.ref 13]
    refine ar_getF hX hF fg_RX9_184 rfl d_X9_buys_9 ?_
    show AR g X 0 0 _ _ 12 _ [.ref 14]
    refine aw_iload_n (i := 1) hX rfl rfl d_X9_buys_12 ?_
    obtain ⟨x3, f_844, e_844⟩ := bd_some e_843
    clear e_843
    refine aw_callS (av := [.ref 14, .int a0]) (avr := [.int a0, .ref 14]) hX (k_X9_at (cx_g hX) hF f_844) mi_X9_at rfl rfl w_509 w_6 rfl (by decide) (Nat.le_of_ble_eq_true rfl) (Nat.zero_le _) (Nat.zero_le _) d_X9_buys_13 ?_
    cases e_844
    exact aw_ireturn hX (Nat.zero_le _) (Nat.zero_le _) d_X9_buys_16
  · have e_845 := sm_inr e_842
    clear e_842
    cases e_845
    exact aw_callVX (b := 0) (av := [.int a0]) (avr := [.int a0]) hX (kx_X9_needKind (cx_g hX) hF f_842) mi_X9_needKind rfl rfl w_511 w_512 w_513 (by decide) rfl (LAY_lt rfl (by decide)) rfl rfl (Nat.le_of_ble_eq_true rfl) hM1 hM2 d_X9_buys_2
theorem k_X9_buys {g : GP} (hg : g.1.stackTraces = false) (hF : gF g = true) {a0 : Int32} {h : AH} {z : Int32} (e : s_X9_buys a0 h = some (.inl z)) : Ctr g yX9_buys (wsY yX9_buys cX9_buys 2 (some .int)) 7 0 0 [.ref 0, .int a0] NT false h (some (.int z)) NT false h := ctr_of (lv0 := [.ref 0, .int a0]) rfl rfl (by decide) hg trivial (fun X hX hn => t_X9_buys hF hX e (Nat.zero_le _) (Nat.zero_le _))
theorem kx_X9_buys {g : GP} (hg : g.1.stackTraces = false) (hF : gF g = true) {a0 : Int32} {h : AH} {z : Nat} (e : s_X9_buys a0 h = some (.inr z)) : CtrX g yX9_buys (wsY yX9_buys cX9_buys 2 (some .int)) 7 [.ref 0, .int a0] NT h z h := ctrX_of (lv0 := [.ref 0, .int a0]) rfl rfl (by decide) hg (fun X hX => t_X9_buys hF hX e (Nat.le_refl _) (Nat.le_refl _))
theorem d_X9_goes_0 : decode cX9_goes 0 = .ok (.aload_n 0, 1) := by decide +kernel
theorem d_X9_goes_1 : decode cX9_goes 1 = .ok (.iload_n 1, 1) := by decide +kernel
theorem d_X9_goes_2 : decode cX9_goes 2 = .ok (.invokevirtual 156, 3) := by decide +kernel
theorem d_X9_goes_5 : decode cX9_goes 5 = .ok (.aload_n 0, 1) := by decide +kernel
theorem d_X9_goes_6 : decode cX9_goes 6 = .ok (.iload_n 2, 1) := by decide +kernel
theorem d_X9_goes_7 : decode cX9_goes 7 = .ok (.invokevirtual 137, 3) := by decide +kernel
theorem d_X9_goes_10 : decode cX9_goes 10 = .ok (.aload_n 0, 1) := by decide +kernel
theorem d_X9_goes_11 : decode cX9_goes 11 = .ok (.iload_n 3, 1) := by decide +kernel
theorem d_X9_goes_12 : decode cX9_goes 12 = .ok (.bipush 12, 2) := by decide +kernel
theorem d_X9_goes_14 : decode cX9_goes 14 = .ok (.invokevirtual 140, 3) := by decide +kernel
theorem d_X9_goes_17 : decode cX9_goes 17 = .ok (.aload_n 0, 1) := by decide +kernel
theorem d_X9_goes_18 : decode cX9_goes 18 = .ok (.iload 4, 2) := by decide +kernel
theorem d_X9_goes_20 : decode cX9_goes 20 = .ok (.bipush 16, 2) := by decide +kernel
theorem d_X9_goes_22 : decode cX9_goes 22 = .ok (.invokevirtual 140, 3) := by decide +kernel
theorem d_X9_goes_25 : decode cX9_goes 25 = .ok (.aload_n 0, 1) := by decide +kernel
theorem d_X9_goes_26 : decode cX9_goes 26 = .ok (.getfield 24, 3) := by decide +kernel
theorem d_X9_goes_29 : decode cX9_goes 29 = .ok (.iload_n 1, 1) := by decide +kernel
theorem d_X9_goes_30 : decode cX9_goes 30 = .ok (.invokevirtual 187, 3) := by decide +kernel
theorem d_X9_goes_33 : decode cX9_goes 33 = .ok (.iload_n 2, 1) := by decide +kernel
theorem d_X9_goes_34 : decode cX9_goes 34 = .ok (.iload_n 3, 1) := by decide +kernel
theorem d_X9_goes_35 : decode cX9_goes 35 = .ok (.iload 4, 2) := by decide +kernel
theorem d_X9_goes_37 : decode cX9_goes 37 = .ok (.invokevirtual 191, 3) := by decide +kernel
theorem d_X9_goes_40 : decode cX9_goes 40 = .ok (.ireturn, 1) := by decide +kernel
def s_X9_goes (a0 : Int32) (a1 : Int32) (a2 : Int32) (a3 : Int32) (h : AH) : Option (Int32 ⊕ Nat) := bd (s_X9_needKind a0 h) fun q1 => sm q1 (fun x2 => bd (s_X9_needEvening a1 h) fun q3 => sm q3 (fun x4 => bd (s_X9_needWhat a2 12 h) fun q5 => sm q5 (fun x6 => bd (s_X9_needWhat a3 16 h) fun q7 => sm q7 (fun x8 => bd (s_X0_planBoughtBy a0 h) fun x9 => bd x9 fun t10 => if LAY t10 = (0, 2) then bd (s_X2_takes t10 a1 a2 a3 h) fun x11 => if x11 = 0 ∨ x11 = 1 then some (.inl x11) else none else none) (fun E12 => some (.inr E12))) (fun E13 => some (.inr E13))) (fun E14 => some (.inr E14))) (fun E15 => some (.inr E15))
theorem t_X9_goes {g : GP} {X : MX} {mcR msR : Nat} (hF : gF g = true) (hX : Cx g RX9 cX9_goes 7 mcR msR (some .boolean) [] X) {a0 : Int32} {a1 : Int32} {a2 : Int32} {a3 : Int32} {h : AH} {z : (Int32 ⊕ Nat)} (e : s_X9_goes a0 a1 a2 a3 h = some z) (hM1 : xc z ≤ mcR) (hM2 : xs z ≤ msR) : AR g X 0 0 (QQ g X NT false h (xo_I z) (xc z) (xs z)) h 0 [.ref 0, .int a0, .int a1, .int a2, .int a3] [] := by
  unfold s_X9_goes at e
  refine aw_aload_n (i := 0) hX rfl rfl d_X9_goes_0 ?_
  refine aw_iload_n (i := 1) hX rfl rfl d_X9_goes_1 ?_
  obtain ⟨q1, f_846, e_846⟩ := bd_some e
  clear e
  rcases q1 with x2 | E15
  · have e_847 := sm_inl e_846
    clear e_846
    refine aw_callV (b := 0) (av := [.int a0]) (avr := [.int a0]) hX (k_X9_needKind (cx_g hX) hF f_846) mi_X9_needKind rfl rfl w_511 w_512 w_513 (by decide) rfl (LAY_lt rfl (by decide)) rfl rfl (Nat.le_of_ble_eq_true rfl) (Nat.zero_le _) (Nat.zero_le _) d_X9_goes_2 ?_
    refine aw_aload_n (i := 0) hX rfl rfl d_X9_goes_5 ?_
    refine aw_iload_n (i := 2) hX rfl rfl d_X9_goes_6 ?_
    obtain ⟨q3, f_848, e_848⟩ := bd_some e_847
    clear e_847
    rcases q3 with x4 | E14
    · have e_849 := sm_inl e_848
      clear e_848
      refine aw_callV (b := 0) (av := [.int a1]) (avr := [.int a1]) hX (k_X9_needEvening (cx_g hX) hF f_848) mi_X9_needEvening rfl rfl w_500 w_501 w_502 (by decide) rfl (LAY_lt rfl (by decide)) rfl rfl (Nat.le_of_ble_eq_true rfl) (Nat.zero_le _) (Nat.zero_le _) d_X9_goes_7 ?_
      refine aw_aload_n (i := 0) hX rfl rfl d_X9_goes_10 ?_
      refine aw_iload_n (i := 3) hX rfl rfl d_X9_goes_11 ?_
      refine aw_bipush (v := 12) hX (by decide) d_X9_goes_12 ?_
      obtain ⟨q5, f_850, e_850⟩ := bd_some e_849
      clear e_849
      rcases q5 with x6 | E13
      · have e_851 := sm_inl e_850
        clear e_850
        refine aw_callV (b := 0) (av := [.int a2, .int 12]) (avr := [.int 12, .int a2]) hX (k_X9_needWhat (cx_g hX) hF f_850) mi_X9_needWhat rfl rfl w_504 w_505 w_506 (by decide) rfl (LAY_lt rfl (by decide)) rfl rfl (Nat.le_of_ble_eq_true rfl) (Nat.zero_le _) (Nat.zero_le _) d_X9_goes_14 ?_
        refine aw_aload_n (i := 0) hX rfl rfl d_X9_goes_17 ?_
        refine aw_iload (i := 4) hX rfl d_X9_goes_18 ?_
        refine aw_bipush (v := 16) hX (by decide) d_X9_goes_20 ?_
        obtain ⟨q7, f_852, e_852⟩ := bd_some e_851
        clear e_851
        rcases q7 with x8 | E12
        · have e_853 := sm_inl e_852
          clear e_852
          refine aw_callV (b := 0) (av := [.int a3, .int 16]) (avr := [.int 16, .int a3]) hX (k_X9_needWhat (cx_g hX) hF f_852) mi_X9_needWhat rfl rfl w_504 w_505 w_506 (by decide) rfl (LAY_lt rfl (by decide)) rfl rfl (Nat.le_of_ble_eq_true rfl) (Nat.zero_le _) (Nat.zero_le _) d_X9_goes_22 ?_
          refine aw_aload_n (i := 0) hX rfl rfl d_X9_goes_25 ?_
          refine ar_getF hX hF fg_RX9_24 rfl d_X9_goes_26 ?_
          show AR g X 0 0 _ _ 29 _ [.ref 13]
          refine aw_iload_n (i := 1) hX rfl rfl d_X9_goes_29 ?_
          obtain ⟨x9, f_854, e_854⟩ := bd_some e_853
          clear e_853
          refine aw_callV (b := 13) (av := [.int a0]) (avr := [.int a0]) hX (k_X0_planBoughtBy (cx_g hX) hF f_854) mi_X0_planBoughtBy rfl rfl w_525 w_128 w_129 (by decide) rfl (LAY_lt rfl (by decide)) rfl rfl (Nat.le_of_ble_eq_true rfl) (Nat.zero_le _) (Nat.zero_le _) d_X9_goes_30 ?_
          refine aw_iload_n (i := 2) hX rfl rfl d_X9_goes_33 ?_
          refine aw_iload_n (i := 3) hX rfl rfl d_X9_goes_34 ?_
          refine aw_iload (i := 4) hX rfl d_X9_goes_35 ?_
          obtain ⟨t10, f_855, e_855⟩ := bd_some e_854
          clear e_854
          obtain ⟨hlt10, e_856⟩ := if_some e_855
          clear e_855
          subst f_855
          obtain ⟨x11, f_857, e_857⟩ := bd_some e_856
          clear e_856
          refine aw_callV (b := t10) (av := [.int a1, .int a2, .int a3]) (avr := [.int a3, .int a2, .int a1]) hX (k_X2_takes (cx_g hX) hF f_857) mi_X2_takes rfl rfl w_526 w_68 w_69 (by decide) (by assumption) (LAY_lt (by assumption) (by decide)) rfl rfl (Nat.le_of_ble_eq_true rfl) (Nat.zero_le _) (Nat.zero_le _) d_X9_goes_37 ?_
          obtain ⟨hz1, e_858⟩ := if_some e_857
          clear e_857
          cases e_858
          exact aw_zreturn hX hz1 (Nat.zero_le _) (Nat.zero_le _) d_X9_goes_40
        · have e_859 := sm_inr e_852
          clear e_852
          cases e_859
          exact aw_callVX (b := 0) (av := [.int a3, .int 16]) (avr := [.int 16, .int a3]) hX (kx_X9_needWhat (cx_g hX) hF f_852) mi_X9_needWhat rfl rfl w_504 w_505 w_506 (by decide) rfl (LAY_lt rfl (by decide)) rfl rfl (Nat.le_of_ble_eq_true rfl) hM1 hM2 d_X9_goes_22
      · have e_860 := sm_inr e_850
        clear e_850
        cases e_860
        exact aw_callVX (b := 0) (av := [.int a2, .int 12]) (avr := [.int 12, .int a2]) hX (kx_X9_needWhat (cx_g hX) hF f_850) mi_X9_needWhat rfl rfl w_504 w_505 w_506 (by decide) rfl (LAY_lt rfl (by decide)) rfl rfl (Nat.le_of_ble_eq_true rfl) hM1 hM2 d_X9_goes_14
    · have e_861 := sm_inr e_848
      clear e_848
      cases e_861
      exact aw_callVX (b := 0) (av := [.int a1]) (avr := [.int a1]) hX (kx_X9_needEvening (cx_g hX) hF f_848) mi_X9_needEvening rfl rfl w_500 w_501 w_502 (by decide) rfl (LAY_lt rfl (by decide)) rfl rfl (Nat.le_of_ble_eq_true rfl) hM1 hM2 d_X9_goes_7
  · have e_862 := sm_inr e_846
    clear e_846
    cases e_862
    exact aw_callVX (b := 0) (av := [.int a0]) (avr := [.int a0]) hX (kx_X9_needKind (cx_g hX) hF f_846) mi_X9_needKind rfl rfl w_511 w_512 w_513 (by decide) rfl (LAY_lt rfl (by decide)) rfl rfl (Nat.le_of_ble_eq_true rfl) hM1 hM2 d_X9_goes_2
theorem k_X9_goes {g : GP} (hg : g.1.stackTraces = false) (hF : gF g = true) {a0 : Int32} {a1 : Int32} {a2 : Int32} {a3 : Int32} {h : AH} {z : Int32} (e : s_X9_goes a0 a1 a2 a3 h = some (.inl z)) : Ctr g yX9_goes (wsY yX9_goes cX9_goes 5 (some .boolean)) 7 0 0 [.ref 0, .int a0, .int a1, .int a2, .int a3] NT false h (some (.int z)) NT false h := ctr_of (lv0 := [.ref 0, .int a0, .int a1, .int a2, .int a3]) rfl rfl (by decide) hg trivial (fun X hX hn => t_X9_goes hF hX e (Nat.zero_le _) (Nat.zero_le _))
theorem kx_X9_goes {g : GP} (hg : g.1.stackTraces = false) (hF : gF g = true) {a0 : Int32} {a1 : Int32} {a2 : Int32} {a3 : Int32} {h : AH} {z : Nat} (e : s_X9_goes a0 a1 a2 a3 h = some (.inr z)) : CtrX g yX9_goes (wsY yX9_goes cX9_goes 5 (some .boolean)) 7 [.ref 0, .int a0, .int a1, .int a2, .int a3] NT h z h := ctrX_of (lv0 := [.ref 0, .int a0, .int a1, .int a2, .int a3]) rfl rfl (by decide) hg (fun X hX => t_X9_goes hF hX e (Nat.le_refl _) (Nat.le_refl _))
theorem d_X9_coming_0 : decode cX9_coming 0 = .ok (.aload_n 0, 1) := by decide +kernel
theorem d_X9_coming_1 : decode cX9_coming 1 = .ok (.iload_n 1, 1) := by decide +kernel
theorem d_X9_coming_2 : decode cX9_coming 2 = .ok (.invokevirtual 156, 3) := by decide +kernel
theorem d_X9_coming_5 : decode cX9_coming 5 = .ok (.aload_n 0, 1) := by decide +kernel
theorem d_X9_coming_6 : decode cX9_coming 6 = .ok (.iload_n 2, 1) := by decide +kernel
theorem d_X9_coming_7 : decode cX9_coming 7 = .ok (.invokevirtual 137, 3) := by decide +kernel
theorem d_X9_coming_10 : decode cX9_coming 10 = .ok (.aload_n 0, 1) := by decide +kernel
theorem d_X9_coming_11 : decode cX9_coming 11 = .ok (.getfield 24, 3) := by decide +kernel
theorem d_X9_coming_14 : decode cX9_coming 14 = .ok (.iload_n 1, 1) := by decide +kernel
theorem d_X9_coming_15 : decode cX9_coming 15 = .ok (.invokevirtual 187, 3) := by decide +kernel
theorem d_X9_coming_18 : decode cX9_coming 18 = .ok (.iload_n 2, 1) := by decide +kernel
theorem d_X9_coming_19 : decode cX9_coming 19 = .ok (.invokevirtual 195, 3) := by decide +kernel
theorem d_X9_coming_22 : decode cX9_coming 22 = .ok (.ireturn, 1) := by decide +kernel
def s_X9_coming (a0 : Int32) (a1 : Int32) (h : AH) : Option (Int32 ⊕ Nat) := bd (s_X9_needKind a0 h) fun q1 => sm q1 (fun x2 => bd (s_X9_needEvening a1 h) fun q3 => sm q3 (fun x4 => bd (s_X0_planBoughtBy a0 h) fun x5 => bd x5 fun t6 => if LAY t6 = (0, 2) then bd (s_X2_comingOn t6 a1 h) fun x7 => some (.inl x7) else none) (fun E8 => some (.inr E8))) (fun E9 => some (.inr E9))
theorem t_X9_coming {g : GP} {X : MX} {mcR msR : Nat} (hF : gF g = true) (hX : Cx g RX9 cX9_coming 7 mcR msR (some .int) [] X) {a0 : Int32} {a1 : Int32} {h : AH} {z : (Int32 ⊕ Nat)} (e : s_X9_coming a0 a1 h = some z) (hM1 : xc z ≤ mcR) (hM2 : xs z ≤ msR) : AR g X 0 0 (QQ g X NT false h (xo_I z) (xc z) (xs z)) h 0 [.ref 0, .int a0, .int a1] [] := by
  unfold s_X9_coming at e
  refine aw_aload_n (i := 0) hX rfl rfl d_X9_coming_0 ?_
  refine aw_iload_n (i := 1) hX rfl rfl d_X9_coming_1 ?_
  obtain ⟨q1, f_863, e_863⟩ := bd_some e
  clear e
  rcases q1 with x2 | E9
  · have e_864 := sm_inl e_863
    clear e_863
    refine aw_callV (b := 0) (av := [.int a0]) (avr := [.int a0]) hX (k_X9_needKind (cx_g hX) hF f_863) mi_X9_needKind rfl rfl w_511 w_512 w_513 (by decide) rfl (LAY_lt rfl (by decide)) rfl rfl (Nat.le_of_ble_eq_true rfl) (Nat.zero_le _) (Nat.zero_le _) d_X9_coming_2 ?_
    refine aw_aload_n (i := 0) hX rfl rfl d_X9_coming_5 ?_
    refine aw_iload_n (i := 2) hX rfl rfl d_X9_coming_6 ?_
    obtain ⟨q3, f_865, e_865⟩ := bd_some e_864
    clear e_864
    rcases q3 with x4 | E8
    · have e_866 := sm_inl e_865
      clear e_865
      refine aw_callV (b := 0) (av := [.int a1]) (avr := [.int a1]) hX (k_X9_needEvening (cx_g hX) hF f_865) mi_X9_needEvening rfl rfl w_500 w_501 w_502 (by decide) rfl (LAY_lt rfl (by decide)) rfl rfl (Nat.le_of_ble_eq_true rfl) (Nat.zero_le _) (Nat.zero_le _) d_X9_coming_7 ?_
      refine aw_aload_n (i := 0) hX rfl rfl d_X9_coming_10 ?_
      refine ar_getF hX hF fg_RX9_24 rfl d_X9_coming_11 ?_
      show AR g X 0 0 _ _ 14 _ [.ref 13]
      refine aw_iload_n (i := 1) hX rfl rfl d_X9_coming_14 ?_
      obtain ⟨x5, f_867, e_867⟩ := bd_some e_866
      clear e_866
      refine aw_callV (b := 13) (av := [.int a0]) (avr := [.int a0]) hX (k_X0_planBoughtBy (cx_g hX) hF f_867) mi_X0_planBoughtBy rfl rfl w_525 w_128 w_129 (by decide) rfl (LAY_lt rfl (by decide)) rfl rfl (Nat.le_of_ble_eq_true rfl) (Nat.zero_le _) (Nat.zero_le _) d_X9_coming_15 ?_
      refine aw_iload_n (i := 2) hX rfl rfl d_X9_coming_18 ?_
      obtain ⟨t6, f_868, e_868⟩ := bd_some e_867
      clear e_867
      obtain ⟨hlt6, e_869⟩ := if_some e_868
      clear e_868
      subst f_868
      obtain ⟨x7, f_870, e_870⟩ := bd_some e_869
      clear e_869
      refine aw_callV (b := t6) (av := [.int a1]) (avr := [.int a1]) hX (k_X2_comingOn (cx_g hX) hF f_870) mi_X2_comingOn rfl rfl w_527 w_113 w_114 (by decide) (by assumption) (LAY_lt (by assumption) (by decide)) rfl rfl (Nat.le_of_ble_eq_true rfl) (Nat.zero_le _) (Nat.zero_le _) d_X9_coming_19 ?_
      cases e_870
      exact aw_ireturn hX (Nat.zero_le _) (Nat.zero_le _) d_X9_coming_22
    · have e_871 := sm_inr e_865
      clear e_865
      cases e_871
      exact aw_callVX (b := 0) (av := [.int a1]) (avr := [.int a1]) hX (kx_X9_needEvening (cx_g hX) hF f_865) mi_X9_needEvening rfl rfl w_500 w_501 w_502 (by decide) rfl (LAY_lt rfl (by decide)) rfl rfl (Nat.le_of_ble_eq_true rfl) hM1 hM2 d_X9_coming_7
  · have e_872 := sm_inr e_863
    clear e_863
    cases e_872
    exact aw_callVX (b := 0) (av := [.int a0]) (avr := [.int a0]) hX (kx_X9_needKind (cx_g hX) hF f_863) mi_X9_needKind rfl rfl w_511 w_512 w_513 (by decide) rfl (LAY_lt rfl (by decide)) rfl rfl (Nat.le_of_ble_eq_true rfl) hM1 hM2 d_X9_coming_2
theorem k_X9_coming {g : GP} (hg : g.1.stackTraces = false) (hF : gF g = true) {a0 : Int32} {a1 : Int32} {h : AH} {z : Int32} (e : s_X9_coming a0 a1 h = some (.inl z)) : Ctr g yX9_coming (wsY yX9_coming cX9_coming 3 (some .int)) 7 0 0 [.ref 0, .int a0, .int a1] NT false h (some (.int z)) NT false h := ctr_of (lv0 := [.ref 0, .int a0, .int a1]) rfl rfl (by decide) hg trivial (fun X hX hn => t_X9_coming hF hX e (Nat.zero_le _) (Nat.zero_le _))
theorem kx_X9_coming {g : GP} (hg : g.1.stackTraces = false) (hF : gF g = true) {a0 : Int32} {a1 : Int32} {h : AH} {z : Nat} (e : s_X9_coming a0 a1 h = some (.inr z)) : CtrX g yX9_coming (wsY yX9_coming cX9_coming 3 (some .int)) 7 [.ref 0, .int a0, .int a1] NT h z h := ctrX_of (lv0 := [.ref 0, .int a0, .int a1]) rfl rfl (by decide) hg (fun X hX => t_X9_coming hF hX e (Nat.le_refl _) (Nat.le_refl _))
theorem d_X9_often_0 : decode cX9_often 0 = .ok (.aload_n 0, 1) := by decide +kernel
theorem d_X9_often_1 : decode cX9_often 1 = .ok (.iload_n 1, 1) := by decide +kernel
theorem d_X9_often_2 : decode cX9_often 2 = .ok (.invokevirtual 156, 3) := by decide +kernel
theorem d_X9_often_5 : decode cX9_often 5 = .ok (.aload_n 0, 1) := by decide +kernel
theorem d_X9_often_6 : decode cX9_often 6 = .ok (.iload_n 2, 1) := by decide +kernel
theorem d_X9_often_7 : decode cX9_often 7 = .ok (.iconst 4, 1) := by decide +kernel
theorem d_X9_often_8 : decode cX9_often 8 = .ok (.invokevirtual 140, 3) := by decide +kernel
theorem d_X9_often_11 : decode cX9_often 11 = .ok (.aload_n 0, 1) := by decide +kernel
theorem d_X9_often_12 : decode cX9_often 12 = .ok (.getfield 24, 3) := by decide +kernel
theorem d_X9_often_15 : decode cX9_often 15 = .ok (.iload_n 1, 1) := by decide +kernel
theorem d_X9_often_16 : decode cX9_often 16 = .ok (.invokevirtual 187, 3) := by decide +kernel
theorem d_X9_often_19 : decode cX9_often 19 = .ok (.astore_n 3, 1) := by decide +kernel
theorem d_X9_often_20 : decode cX9_often 20 = .ok (.iload_n 2, 1) := by decide +kernel
theorem d_X9_often_21 : decode cX9_often 21 = .ok (.tableswitch 55 0 3 #[31, 36, 41, 46], 31) := by decide +kernel
theorem d_X9_often_52 : decode cX9_often 52 = .ok (.aload_n 3, 1) := by decide +kernel
theorem d_X9_often_53 : decode cX9_often 53 = .ok (.invokevirtual 199, 3) := by decide +kernel
theorem d_X9_often_56 : decode cX9_often 56 = .ok (.lreturn, 1) := by decide +kernel
theorem d_X9_often_57 : decode cX9_often 57 = .ok (.aload_n 3, 1) := by decide +kernel
theorem d_X9_often_58 : decode cX9_often 58 = .ok (.invokevirtual 202, 3) := by decide +kernel
theorem d_X9_often_61 : decode cX9_often 61 = .ok (.lreturn, 1) := by decide +kernel
theorem d_X9_often_62 : decode cX9_often 62 = .ok (.aload_n 3, 1) := by decide +kernel
theorem d_X9_often_63 : decode cX9_often 63 = .ok (.invokevirtual 205, 3) := by decide +kernel
theorem d_X9_often_66 : decode cX9_often 66 = .ok (.lreturn, 1) := by decide +kernel
theorem d_X9_often_67 : decode cX9_often 67 = .ok (.aload_n 0, 1) := by decide +kernel
theorem d_X9_often_68 : decode cX9_often 68 = .ok (.getfield 24, 3) := by decide +kernel
theorem d_X9_often_71 : decode cX9_often 71 = .ok (.iload_n 1, 1) := by decide +kernel
theorem d_X9_often_72 : decode cX9_often 72 = .ok (.invokevirtual 208, 3) := by decide +kernel
theorem d_X9_often_75 : decode cX9_often 75 = .ok (.lreturn, 1) := by decide +kernel
theorem d_X9_often_76 : decode cX9_often 76 = .ok (.aload_n 0, 1) := by decide +kernel
theorem d_X9_often_77 : decode cX9_often 77 = .ok (.getfield 24, 3) := by decide +kernel
theorem d_X9_often_80 : decode cX9_often 80 = .ok (.iload_n 1, 1) := by decide +kernel
theorem d_X9_often_81 : decode cX9_often 81 = .ok (.invokevirtual 212, 3) := by decide +kernel
theorem d_X9_often_84 : decode cX9_often 84 = .ok (.lreturn, 1) := by decide +kernel
def s_X9_often (a0 : Int32) (a1 : Int32) (h : AH) : Option ((Int64 ⊕ Nat) × AH) := bd (s_X9_needKind a0 h) fun q1 => sm q1 (fun x2 => bd (s_X9_needWhat a1 4 h) fun q3 => sm q3 (fun x4 => bd (s_X0_planBoughtBy a0 h) fun x5 => if a1 = 0 then bd x5 fun t12 => if LAY t12 = (0, 2) then bd (s_X2_gone t12 h) fun x13 => some (.inl x13, h) else none else if a1 = 1 then bd x5 fun t10 => if LAY t10 = (0, 2) then bd (s_X2_sunk t10 h) fun x11 => some (.inl x11, h) else none else if a1 = 2 then bd x5 fun t8 => if LAY t8 = (0, 2) then bd (s_X2_thoughtGone t8 h) fun x9 => some (.inl x9, h) else none else if a1 = 3 then bd (s_X0_pays a0 h) fun x7 => some (.inl x7, h) else bd (s_X0_kinder a0 h) fun q6 => some (.inl q6.1, q6.2)) (fun E14 => some (.inr E14, h))) (fun E15 => some (.inr E15, h))
theorem t_X9_often {g : GP} {X : MX} {mcR msR : Nat} (hF : gF g = true) (hX : Cx g RX9 cX9_often 7 mcR msR (some .long) [] X) {a0 : Int32} {a1 : Int32} {h hz : AH} {z : (Int64 ⊕ Nat)} (e : s_X9_often a0 a1 h = some (z, hz)) (hM1 : xc z ≤ mcR) (hM2 : xs z ≤ msR) : AR g X 0 0 (QQ g X NT false hz (xo_L z) (xc z) (xs z)) h 0 [.ref 0, .int a0, .int a1, jk] [] := by
  unfold s_X9_often at e
  refine aw_aload_n (i := 0) hX rfl rfl d_X9_often_0 ?_
  refine aw_iload_n (i := 1) hX rfl rfl d_X9_often_1 ?_
  obtain ⟨q1, f_873, e_873⟩ := bd_some e
  clear e
  rcases q1 with x2 | E15
  · have e_874 := sm_inl e_873
    clear e_873
    refine aw_callV (b := 0) (av := [.int a0]) (avr := [.int a0]) hX (k_X9_needKind (cx_g hX) hF f_873) mi_X9_needKind rfl rfl w_511 w_512 w_513 (by decide) rfl (LAY_lt rfl (by decide)) rfl rfl (Nat.le_of_ble_eq_true rfl) (Nat.zero_le _) (Nat.zero_le _) d_X9_often_2 ?_
    refine aw_aload_n (i := 0) hX rfl rfl d_X9_often_5 ?_
    refine aw_iload_n (i := 2) hX rfl rfl d_X9_often_6 ?_
    refine aw_iconst (v := 4) hX (by decide) d_X9_often_7 ?_
    obtain ⟨q3, f_875, e_875⟩ := bd_some e_874
    clear e_874
    rcases q3 with x4 | E14
    · have e_876 := sm_inl e_875
      clear e_875
      refine aw_callV (b := 0) (av := [.int a1, .int 4]) (avr := [.int 4, .int a1]) hX (k_X9_needWhat (cx_g hX) hF f_875) mi_X9_needWhat rfl rfl w_504 w_505 w_506 (by decide) rfl (LAY_lt rfl (by decide)) rfl rfl (Nat.le_of_ble_eq_true rfl) (Nat.zero_le _) (Nat.zero_le _) d_X9_often_8 ?_
      refine aw_aload_n (i := 0) hX rfl rfl d_X9_often_11 ?_
      refine ar_getF hX hF fg_RX9_24 rfl d_X9_often_12 ?_
      show AR g X 0 0 _ _ 15 _ [.ref 13]
      refine aw_iload_n (i := 1) hX rfl rfl d_X9_often_15 ?_
      obtain ⟨x5, f_877, e_877⟩ := bd_some e_876
      clear e_876
      refine aw_callV (b := 13) (av := [.int a0]) (avr := [.int a0]) hX (k_X0_planBoughtBy (cx_g hX) hF f_877) mi_X0_planBoughtBy rfl rfl w_525 w_128 w_129 (by decide) rfl (LAY_lt rfl (by decide)) rfl rfl (Nat.le_of_ble_eq_true rfl) (Nat.zero_le _) (Nat.zero_le _) d_X9_often_16 ?_
      refine aw_astoreO_n (i := 3) (lv2 := [.ref 0, .int a0, .int a1, rfV x5]) hX rfl rfl rfl d_X9_often_19 ?_
      refine aw_iload_n (i := 2) hX rfl rfl d_X9_often_20 ?_
      by_cases c0 : a1 = 0
      · rw [if_pos c0] at e_877
        refine aw_tableIn (off := 31) (t := 52) hX (by rw [c0]; decide) (by rw [c0]; decide) (by rw [c0]; rfl) (by decide) d_X9_often_21 ?_
        refine aw_aloadO_n (i := 3) (o := x5) hX rfl rfl d_X9_often_52 ?_
        obtain ⟨t12, f_878, e_878⟩ := bd_some e_877
        clear e_877
        obtain ⟨hlt12, e_879⟩ := if_some e_878
        clear e_878
        subst f_878
        obtain ⟨x13, f_880, e_880⟩ := bd_some e_879
        clear e_879
        refine aw_callV (b := t12) (av := []) (avr := []) hX (k_X2_gone (cx_g hX) hF f_880) mi_X2_gone rfl rfl w_544 w_144 w_145 (by decide) (by assumption) (LAY_lt (by assumption) (by decide)) rfl rfl (Nat.le_of_ble_eq_true rfl) (Nat.zero_le _) (Nat.zero_le _) d_X9_often_53 ?_
        cases e_880
        exact aw_lreturn hX (Nat.zero_le _) (Nat.zero_le _) d_X9_often_56
      rw [if_neg c0] at e_877
      by_cases c1 : a1 = 1
      · rw [if_pos c1] at e_877
        refine aw_tableIn (off := 36) (t := 57) hX (by rw [c1]; decide) (by rw [c1]; decide) (by rw [c1]; rfl) (by decide) d_X9_often_21 ?_
        refine aw_aloadO_n (i := 3) (o := x5) hX rfl rfl d_X9_often_57 ?_
        obtain ⟨t10, f_881, e_881⟩ := bd_some e_877
        clear e_877
        obtain ⟨hlt10, e_882⟩ := if_some e_881
        clear e_881
        subst f_881
        obtain ⟨x11, f_883, e_883⟩ := bd_some e_882
        clear e_882
        refine aw_callV (b := t10) (av := []) (avr := []) hX (k_X2_sunk (cx_g hX) hF f_883) mi_X2_sunk rfl rfl w_541 w_542 w_543 (by decide) (by assumption) (LAY_lt (by assumption) (by decide)) rfl rfl (Nat.le_of_ble_eq_true rfl) (Nat.zero_le _) (Nat.zero_le _) d_X9_often_58 ?_
        cases e_883
        exact aw_lreturn hX (Nat.zero_le _) (Nat.zero_le _) d_X9_often_61
      rw [if_neg c1] at e_877
      by_cases c2 : a1 = 2
      · rw [if_pos c2] at e_877
        refine aw_tableIn (off := 41) (t := 62) hX (by rw [c2]; decide) (by rw [c2]; decide) (by rw [c2]; rfl) (by decide) d_X9_often_21 ?_
        refine aw_aloadO_n (i := 3) (o := x5) hX rfl rfl d_X9_often_62 ?_
        obtain ⟨t8, f_884, e_884⟩ := bd_some e_877
        clear e_877
        obtain ⟨hlt8, e_885⟩ := if_some e_884
        clear e_884
        subst f_884
        obtain ⟨x9, f_886, e_886⟩ := bd_some e_885
        clear e_885
        refine aw_callV (b := t8) (av := []) (avr := []) hX (k_X2_thoughtGone (cx_g hX) hF f_886) mi_X2_thoughtGone rfl rfl w_537 w_538 w_539 (by decide) (by assumption) (LAY_lt (by assumption) (by decide)) rfl rfl (Nat.le_of_ble_eq_true rfl) (Nat.zero_le _) (Nat.zero_le _) d_X9_often_63 ?_
        cases e_886
        exact aw_lreturn hX (Nat.zero_le _) (Nat.zero_le _) d_X9_often_66
      rw [if_neg c2] at e_877
      by_cases c3 : a1 = 3
      · rw [if_pos c3] at e_877
        refine aw_tableIn (off := 46) (t := 67) hX (by rw [c3]; decide) (by rw [c3]; decide) (by rw [c3]; rfl) (by decide) d_X9_often_21 ?_
        refine aw_aload_n (i := 0) hX rfl rfl d_X9_often_67 ?_
        refine ar_getF hX hF fg_RX9_24 rfl d_X9_often_68 ?_
        show AR g X 0 0 _ _ 71 _ [.ref 13]
        refine aw_iload_n (i := 1) hX rfl rfl d_X9_often_71 ?_
        obtain ⟨x7, f_887, e_887⟩ := bd_some e_877
        clear e_877
        refine aw_callV (b := 13) (av := [.int a0]) (avr := [.int a0]) hX (k_X0_pays (cx_g hX) hF f_887) mi_X0_pays rfl rfl w_533 w_534 w_535 (by decide) rfl (LAY_lt rfl (by decide)) rfl rfl (Nat.le_of_ble_eq_true rfl) (Nat.zero_le _) (Nat.zero_le _) d_X9_often_72 ?_
        cases e_887
        exact aw_lreturn hX (Nat.zero_le _) (Nat.zero_le _) d_X9_often_75
      rw [if_neg c3] at e_877
      refine aw_tableOut (t := 76) hX (ts_out 4 (fun j hj => by match j, hj with | 0, _ => exact c0 | 1, _ => exact c1 | 2, _ => exact c2 | 3, _ => exact c3 | q + 4, hj => exact absurd hj (by omega))) (by decide) d_X9_often_21 ?_
      refine aw_aload_n (i := 0) hX rfl rfl d_X9_often_76 ?_
      refine ar_getF hX hF fg_RX9_24 rfl d_X9_often_77 ?_
      show AR g X 0 0 _ _ 80 _ [.ref 13]
      refine aw_iload_n (i := 1) hX rfl rfl d_X9_often_80 ?_
      obtain ⟨q6, f_888, e_888⟩ := bd_some e_877
      clear e_877
      refine aw_callV (b := 13) (av := [.int a0]) (avr := [.int a0]) hX (k_X0_kinder (cx_g hX) hF f_888) mi_X0_kinder rfl rfl w_529 w_530 w_531 (by decide) rfl (LAY_lt rfl (by decide)) rfl rfl (Nat.le_of_ble_eq_true rfl) (Nat.zero_le _) (Nat.zero_le _) d_X9_often_81 ?_
      cases e_888
      exact aw_lreturn hX (Nat.zero_le _) (Nat.zero_le _) d_X9_often_84
    · have e_889 := sm_inr e_875
      clear e_875
      cases e_889
      exact aw_callVX (b := 0) (av := [.int a1, .int 4]) (avr := [.int 4, .int a1]) hX (kx_X9_needWhat (cx_g hX) hF f_875) mi_X9_needWhat rfl rfl w_504 w_505 w_506 (by decide) rfl (LAY_lt rfl (by decide)) rfl rfl (Nat.le_of_ble_eq_true rfl) hM1 hM2 d_X9_often_8
  · have e_890 := sm_inr e_873
    clear e_873
    cases e_890
    exact aw_callVX (b := 0) (av := [.int a0]) (avr := [.int a0]) hX (kx_X9_needKind (cx_g hX) hF f_873) mi_X9_needKind rfl rfl w_511 w_512 w_513 (by decide) rfl (LAY_lt rfl (by decide)) rfl rfl (Nat.le_of_ble_eq_true rfl) hM1 hM2 d_X9_often_2
theorem k_X9_often {g : GP} (hg : g.1.stackTraces = false) (hF : gF g = true) {a0 : Int32} {a1 : Int32} {h hz : AH} {z : Int64} (e : s_X9_often a0 a1 h = some (.inl z, hz)) : Ctr g yX9_often (wsY yX9_often cX9_often 4 (some .long)) 7 0 0 [.ref 0, .int a0, .int a1] NT false h (some (.long z)) NT false hz := ctr_of (lv0 := [.ref 0, .int a0, .int a1, jk]) rfl rfl (by decide) hg trivial (fun X hX hn => t_X9_often hF hX e (Nat.zero_le _) (Nat.zero_le _))
theorem kx_X9_often {g : GP} (hg : g.1.stackTraces = false) (hF : gF g = true) {a0 : Int32} {a1 : Int32} {h hz : AH} {z : Nat} (e : s_X9_often a0 a1 h = some (.inr z, hz)) : CtrX g yX9_often (wsY yX9_often cX9_often 4 (some .long)) 7 [.ref 0, .int a0, .int a1] NT h z hz := ctrX_of (lv0 := [.ref 0, .int a0, .int a1, jk]) rfl rfl (by decide) hg (fun X hX => t_X9_often hF hX e (Nat.le_refl _) (Nat.le_refl _))
theorem d_X9_full_0 : decode cX9_full 0 = .ok (.aload_n 0, 1) := by decide +kernel
theorem d_X9_full_1 : decode cX9_full 1 = .ok (.iload_n 1, 1) := by decide +kernel
theorem d_X9_full_2 : decode cX9_full 2 = .ok (.invokevirtual 137, 3) := by decide +kernel
theorem d_X9_full_5 : decode cX9_full 5 = .ok (.aload_n 0, 1) := by decide +kernel
theorem d_X9_full_6 : decode cX9_full 6 = .ok (.iload_n 2, 1) := by decide +kernel
theorem d_X9_full_7 : decode cX9_full 7 = .ok (.iconst 1, 1) := by decide +kernel
theorem d_X9_full_8 : decode cX9_full 8 = .ok (.invokevirtual 140, 3) := by decide +kernel
theorem d_X9_full_11 : decode cX9_full 11 = .ok (.iload_n 2, 1) := by decide +kernel
theorem d_X9_full_12 : decode cX9_full 12 = .ok (.ifCond .ne 22, 3) := by decide +kernel
theorem d_X9_full_15 : decode cX9_full 15 = .ok (.aload_n 0, 1) := by decide +kernel
theorem d_X9_full_16 : decode cX9_full 16 = .ok (.getfield 24, 3) := by decide +kernel
theorem d_X9_full_19 : decode cX9_full 19 = .ok (.iload_n 1, 1) := by decide +kernel
theorem d_X9_full_20 : decode cX9_full 20 = .ok (.aload_n 0, 1) := by decide +kernel
theorem d_X9_full_21 : decode cX9_full 21 = .ok (.getfield 24, 3) := by decide +kernel
theorem d_X9_full_24 : decode cX9_full 24 = .ok (.getfield 184, 3) := by decide +kernel
theorem d_X9_full_27 : decode cX9_full 27 = .ok (.invokevirtual 215, 3) := by decide +kernel
theorem d_X9_full_30 : decode cX9_full 30 = .ok (.l2i, 1) := by decide +kernel
theorem d_X9_full_31 : decode cX9_full 31 = .ok (.goto 19, 3) := by decide +kernel
theorem d_X9_full_34 : decode cX9_full 34 = .ok (.aload_n 0, 1) := by decide +kernel
theorem d_X9_full_35 : decode cX9_full 35 = .ok (.getfield 31, 3) := by decide +kernel
theorem d_X9_full_38 : decode cX9_full 38 = .ok (.aload_n 0, 1) := by decide +kernel
theorem d_X9_full_39 : decode cX9_full 39 = .ok (.getfield 24, 3) := by decide +kernel
theorem d_X9_full_42 : decode cX9_full 42 = .ok (.aload_n 0, 1) := by decide +kernel
theorem d_X9_full_43 : decode cX9_full 43 = .ok (.getfield 63, 3) := by decide +kernel
theorem d_X9_full_46 : decode cX9_full 46 = .ok (.iload_n 1, 1) := by decide +kernel
theorem d_X9_full_47 : decode cX9_full 47 = .ok (.invokevirtual 219, 3) := by decide +kernel
theorem d_X9_full_50 : decode cX9_full 50 = .ok (.ireturn, 1) := by decide +kernel
def s_X9_full (a0 : Int32) (a1 : Int32) (h : AH) : Option ((Int32 ⊕ Nat) × AH) := bd (s_X9_needEvening a0 h) fun q1 => sm q1 (fun x2 => bd (s_X9_needWhat a1 1 h) fun q3 => sm q3 (fun x4 => if a1 = 0 then bd (s_X0_fullOn a0 (some 14) h) fun x7 => some (.inl x7.toInt32, h) else bd (gR h 0 8) fun t5 => if LAY t5 = (0, 8) then bd (s_X1_standing (some 13) (some t5) a0 h) fun q6 => some (.inl q6.1, q6.2) else none) (fun E8 => some (.inr E8, h))) (fun E9 => some (.inr E9, h))
theorem t_X9_full {g : GP} {X : MX} {mcR msR : Nat} (hF : gF g = true) (hX : Cx g RX9 cX9_full 7 mcR msR (some .int) [] X) {a0 : Int32} {a1 : Int32} {h hz : AH} {z : (Int32 ⊕ Nat)} (e : s_X9_full a0 a1 h = some (z, hz)) (hM1 : xc z ≤ mcR) (hM2 : xs z ≤ msR) : AR g X 0 0 (QQ g X NT false hz (xo_I z) (xc z) (xs z)) h 0 [.ref 0, .int a0, .int a1] [] := by
  unfold s_X9_full at e
  refine aw_aload_n (i := 0) hX rfl rfl d_X9_full_0 ?_
  refine aw_iload_n (i := 1) hX rfl rfl d_X9_full_1 ?_
  obtain ⟨q1, f_891, e_891⟩ := bd_some e
  clear e
  rcases q1 with x2 | E9
  · have e_892 := sm_inl e_891
    clear e_891
    refine aw_callV (b := 0) (av := [.int a0]) (avr := [.int a0]) hX (k_X9_needEvening (cx_g hX) hF f_891) mi_X9_needEvening rfl rfl w_500 w_501 w_502 (by decide) rfl (LAY_lt rfl (by decide)) rfl rfl (Nat.le_of_ble_eq_true rfl) (Nat.zero_le _) (Nat.zero_le _) d_X9_full_2 ?_
    refine aw_aload_n (i := 0) hX rfl rfl d_X9_full_5 ?_
    refine aw_iload_n (i := 2) hX rfl rfl d_X9_full_6 ?_
    refine aw_iconst (v := 1) hX (by decide) d_X9_full_7 ?_
    obtain ⟨q3, f_893, e_893⟩ := bd_some e_892
    clear e_892
    rcases q3 with x4 | E8
    · have e_894 := sm_inl e_893
      clear e_893
      refine aw_callV (b := 0) (av := [.int a1, .int 1]) (avr := [.int 1, .int a1]) hX (k_X9_needWhat (cx_g hX) hF f_893) mi_X9_needWhat rfl rfl w_504 w_505 w_506 (by decide) rfl (LAY_lt rfl (by decide)) rfl rfl (Nat.le_of_ble_eq_true rfl) (Nat.zero_le _) (Nat.zero_le _) d_X9_full_8 ?_
      refine aw_iload_n (i := 2) hX rfl rfl d_X9_full_11 ?_
      refine aw_if_ne (t := 34) hX (by decide) d_X9_full_12 (fun c => ?_) (fun c => ?_)
      · rw [if_neg c] at e_894
        refine aw_aload_n (i := 0) hX rfl rfl d_X9_full_34 ?_
        refine ar_getF hX hF fg_RX9_31 rfl d_X9_full_35 ?_
        show AR g X 0 0 _ _ 38 _ [.ref 211]
        refine aw_aload_n (i := 0) hX rfl rfl d_X9_full_38 ?_
        refine ar_getF hX hF fg_RX9_24 rfl d_X9_full_39 ?_
        show AR g X 0 0 _ _ 42 _ [.ref 13, .ref 211]
        refine aw_aload_n (i := 0) hX rfl rfl d_X9_full_42 ?_
        obtain ⟨t5, f_895, e_895⟩ := bd_some e_894
        clear e_894
        obtain ⟨hlt5, e_896⟩ := if_some e_895
        clear e_895
        refine ar_getR hX fg_RX9_63 rfl f_895 d_X9_full_43 ?_
        refine aw_iload_n (i := 1) hX rfl rfl d_X9_full_46 ?_
        obtain ⟨q6, f_897, e_897⟩ := bd_some e_896
        clear e_896
        refine aw_callV (b := 211) (av := [.ref 13, .ref t5, .int a0]) (avr := [.int a0, .ref t5, .ref 13]) hX (k_X1_standing (cx_g hX) hF f_897) mi_X1_standing rfl rfl w_546 w_547 w_548 (by decide) rfl (LAY_lt rfl (by decide)) rfl rfl (Nat.le_of_ble_eq_true rfl) (Nat.zero_le _) (Nat.zero_le _) d_X9_full_47 ?_
        cases e_897
        exact aw_ireturn hX (Nat.zero_le _) (Nat.zero_le _) d_X9_full_50
      · rw [if_pos c] at e_894
        refine aw_aload_n (i := 0) hX rfl rfl d_X9_full_15 ?_
        refine ar_getF hX hF fg_RX9_24 rfl d_X9_full_16 ?_
        show AR g X 0 0 _ _ 19 _ [.ref 13]
        refine aw_iload_n (i := 1) hX rfl rfl d_X9_full_19 ?_
        refine aw_aload_n (i := 0) hX rfl rfl d_X9_full_20 ?_
        refine ar_getF hX hF fg_RX9_24 rfl d_X9_full_21 ?_
        show AR g X 0 0 _ _ 24 _ [.ref 13, .int a0, .ref 13]
        refine ar_getF hX hF fg_RX9_184 rfl d_X9_full_24 ?_
        show AR g X 0 0 _ _ 27 _ [.ref 14, .int a0, .ref 13]
        obtain ⟨x7, f_898, e_898⟩ := bd_some e_894
        clear e_894
        refine aw_callV (b := 13) (av := [.int a0, .ref 14]) (avr := [.ref 14, .int a0]) hX (k_X0_fullOn (cx_g hX) hF f_898) mi_X0_fullOn rfl rfl w_550 w_551 w_552 (by decide) rfl (LAY_lt rfl (by decide)) rfl rfl (Nat.le_of_ble_eq_true rfl) (Nat.zero_le _) (Nat.zero_le _) d_X9_full_27 ?_
        refine aw_l2i hX d_X9_full_30 ?_
        refine aw_goto (t := 50) hX (by decide) d_X9_full_31 ?_
        cases e_898
        exact aw_ireturn hX (Nat.zero_le _) (Nat.zero_le _) d_X9_full_50
    · have e_899 := sm_inr e_893
      clear e_893
      cases e_899
      exact aw_callVX (b := 0) (av := [.int a1, .int 1]) (avr := [.int 1, .int a1]) hX (kx_X9_needWhat (cx_g hX) hF f_893) mi_X9_needWhat rfl rfl w_504 w_505 w_506 (by decide) rfl (LAY_lt rfl (by decide)) rfl rfl (Nat.le_of_ble_eq_true rfl) hM1 hM2 d_X9_full_8
  · have e_900 := sm_inr e_891
    clear e_891
    cases e_900
    exact aw_callVX (b := 0) (av := [.int a0]) (avr := [.int a0]) hX (kx_X9_needEvening (cx_g hX) hF f_891) mi_X9_needEvening rfl rfl w_500 w_501 w_502 (by decide) rfl (LAY_lt rfl (by decide)) rfl rfl (Nat.le_of_ble_eq_true rfl) hM1 hM2 d_X9_full_2
theorem k_X9_full {g : GP} (hg : g.1.stackTraces = false) (hF : gF g = true) {a0 : Int32} {a1 : Int32} {h hz : AH} {z : Int32} (e : s_X9_full a0 a1 h = some (.inl z, hz)) : Ctr g yX9_full (wsY yX9_full cX9_full 3 (some .int)) 7 0 0 [.ref 0, .int a0, .int a1] NT false h (some (.int z)) NT false hz := ctr_of (lv0 := [.ref 0, .int a0, .int a1]) rfl rfl (by decide) hg trivial (fun X hX hn => t_X9_full hF hX e (Nat.zero_le _) (Nat.zero_le _))
theorem kx_X9_full {g : GP} (hg : g.1.stackTraces = false) (hF : gF g = true) {a0 : Int32} {a1 : Int32} {h hz : AH} {z : Nat} (e : s_X9_full a0 a1 h = some (.inr z, hz)) : CtrX g yX9_full (wsY yX9_full cX9_full 3 (some .int)) 7 [.ref 0, .int a0, .int a1] NT h z hz := ctrX_of (lv0 := [.ref 0, .int a0, .int a1]) rfl rfl (by decide) hg (fun X hX => t_X9_full hF hX e (Nat.le_refl _) (Nat.le_refl _))
theorem d_X9_earns_0 : decode cX9_earns 0 = .ok (.aload_n 0, 1) := by decide +kernel
theorem d_X9_earns_1 : decode cX9_earns 1 = .ok (.getfield 24, 3) := by decide +kernel
theorem d_X9_earns_4 : decode cX9_earns 4 = .ok (.aload_n 0, 1) := by decide +kernel
theorem d_X9_earns_5 : decode cX9_earns 5 = .ok (.getfield 24, 3) := by decide +kernel
theorem d_X9_earns_8 : decode cX9_earns 8 = .ok (.getfield 184, 3) := by decide +kernel
theorem d_X9_earns_11 : decode cX9_earns 11 = .ok (.aload_n 0, 1) := by decide +kernel
theorem d_X9_earns_12 : decode cX9_earns 12 = .ok (.getfield 63, 3) := by decide +kernel
theorem d_X9_earns_15 : decode cX9_earns 15 = .ok (.getfield 165, 3) := by decide +kernel
theorem d_X9_earns_18 : decode cX9_earns 18 = .ok (.aload_n 0, 1) := by decide +kernel
theorem d_X9_earns_19 : decode cX9_earns 19 = .ok (.getfield 63, 3) := by decide +kernel
theorem d_X9_earns_22 : decode cX9_earns 22 = .ok (.getfield 223, 3) := by decide +kernel
theorem d_X9_earns_25 : decode cX9_earns 25 = .ok (.invokevirtual 226, 3) := by decide +kernel
theorem d_X9_earns_28 : decode cX9_earns 28 = .ok (.lreturn, 1) := by decide +kernel
def s_X9_earns (h : AH) : Option Int64 := bd (gR h 0 8) fun t1 => if LAY t1 = (0, 8) then bd (gR h 0 8) fun t2 => if LAY t2 = (0, 8) then bd (s_X0_takings (some 14) (some (t1 + 7)) (some (t2 + 4)) h) fun x3 => some x3 else none else none
theorem t_X9_earns {g : GP} {X : MX} {mcR msR : Nat} (hF : gF g = true) (hX : Cx g RX9 cX9_earns 5 mcR msR (some .long) [] X) {h : AH} {z : Int64} (e : s_X9_earns h = some z) : AR g X 0 0 (QQ g X NT false h (.inl (some (.long z))) 0 0) h 0 [.ref 0] [] := by
  unfold s_X9_earns at e
  refine aw_aload_n (i := 0) hX rfl rfl d_X9_earns_0 ?_
  refine ar_getF hX hF fg_RX9_24 rfl d_X9_earns_1 ?_
  show AR g X 0 0 _ _ 4 _ [.ref 13]
  refine aw_aload_n (i := 0) hX rfl rfl d_X9_earns_4 ?_
  refine ar_getF hX hF fg_RX9_24 rfl d_X9_earns_5 ?_
  show AR g X 0 0 _ _ 8 _ [.ref 13, .ref 13]
  refine ar_getF hX hF fg_RX9_184 rfl d_X9_earns_8 ?_
  show AR g X 0 0 _ _ 11 _ [.ref 14, .ref 13]
  refine aw_aload_n (i := 0) hX rfl rfl d_X9_earns_11 ?_
  obtain ⟨t1, f_901, e_901⟩ := bd_some e
  clear e
  obtain ⟨hlt1, e_902⟩ := if_some e_901
  clear e_901
  refine ar_getR hX fg_RX9_63 rfl f_901 d_X9_earns_12 ?_
  refine ar_getF hX hF fg_RX9_165 (by assumption) d_X9_earns_15 ?_
  refine aw_aload_n (i := 0) hX rfl rfl d_X9_earns_18 ?_
  obtain ⟨t2, f_903, e_903⟩ := bd_some e_902
  clear e_902
  obtain ⟨hlt2, e_904⟩ := if_some e_903
  clear e_903
  refine ar_getR hX fg_RX9_63 rfl f_903 d_X9_earns_19 ?_
  refine ar_getF hX hF fg_RX9_223 (by assumption) d_X9_earns_22 ?_
  obtain ⟨x3, f_905, e_905⟩ := bd_some e_904
  clear e_904
  refine aw_callV (b := 13) (av := [.ref 14, .ref (t1 + 7), .ref (t2 + 4)]) (avr := [.ref (t2 + 4), .ref (t1 + 7), .ref 14]) hX (k_X0_takings (cx_g hX) hF f_905) mi_X0_takings rfl rfl w_554 w_159 w_160 (by decide) rfl (LAY_lt rfl (by decide)) rfl rfl (Nat.le_of_ble_eq_true rfl) (Nat.zero_le _) (Nat.zero_le _) d_X9_earns_25 ?_
  cases e_905
  exact aw_lreturn hX (Nat.zero_le _) (Nat.zero_le _) d_X9_earns_28
theorem k_X9_earns {g : GP} (hg : g.1.stackTraces = false) (hF : gF g = true) {h : AH} {z : Int64} (e : s_X9_earns h = some z) : Ctr g yX9_earns (wsY yX9_earns cX9_earns 1 (some .long)) 5 0 0 [.ref 0] NT false h (some (.long z)) NT false h := ctr_of (lv0 := [.ref 0]) rfl rfl (by decide) hg trivial (fun X hX hn => t_X9_earns hF hX e)
theorem d_X9_prices_0 : decode cX9_prices 0 = .ok (.aload_n 0, 1) := by decide +kernel
theorem d_X9_prices_1 : decode cX9_prices 1 = .ok (.iload_n 1, 1) := by decide +kernel
theorem d_X9_prices_2 : decode cX9_prices 2 = .ok (.invokevirtual 162, 3) := by decide +kernel
theorem d_X9_prices_5 : decode cX9_prices 5 = .ok (.aload_n 0, 1) := by decide +kernel
theorem d_X9_prices_6 : decode cX9_prices 6 = .ok (.getfield 63, 3) := by decide +kernel
theorem d_X9_prices_9 : decode cX9_prices 9 = .ok (.getfield 165, 3) := by decide +kernel
theorem d_X9_prices_12 : decode cX9_prices 12 = .ok (.iload_n 1, 1) := by decide +kernel
theorem d_X9_prices_13 : decode cX9_prices 13 = .ok (.invokestatic 148, 3) := by decide +kernel
theorem d_X9_prices_16 : decode cX9_prices 16 = .ok (.iconst (-1), 1) := by decide +kernel
theorem d_X9_prices_17 : decode cX9_prices 17 = .ok (.if_icmp .ne 11, 3) := by decide +kernel
theorem d_X9_prices_20 : decode cX9_prices 20 = .ok (.new 134, 3) := by decide +kernel
theorem d_X9_prices_23 : decode cX9_prices 23 = .ok (.dup, 1) := by decide +kernel
theorem d_X9_prices_24 : decode cX9_prices 24 = .ok (.invokespecial 136, 3) := by decide +kernel
theorem d_X9_prices_27 : decode cX9_prices 27 = .ok (.athrow, 1) := by decide +kernel
theorem d_X9_prices_28 : decode cX9_prices 28 = .ok (.iload_n 2, 1) := by decide +kernel
theorem d_X9_prices_29 : decode cX9_prices 29 = .ok (.ifCond .lt 32, 3) := by decide +kernel
theorem d_X9_prices_32 : decode cX9_prices 32 = .ok (.iload_n 3, 1) := by decide +kernel
theorem d_X9_prices_33 : decode cX9_prices 33 = .ok (.sipush 9999, 3) := by decide +kernel
theorem d_X9_prices_36 : decode cX9_prices 36 = .ok (.if_icmp .gt 25, 3) := by decide +kernel
theorem d_X9_prices_39 : decode cX9_prices 39 = .ok (.iload_n 2, 1) := by decide +kernel
theorem d_X9_prices_40 : decode cX9_prices 40 = .ok (.iload_n 3, 1) := by decide +kernel
theorem d_X9_prices_41 : decode cX9_prices 41 = .ok (.if_icmp .gt 20, 3) := by decide +kernel
theorem d_X9_prices_44 : decode cX9_prices 44 = .ok (.iload 4, 2) := by decide +kernel
theorem d_X9_prices_46 : decode cX9_prices 46 = .ok (.iconst 1, 1) := by decide +kernel
theorem d_X9_prices_47 : decode cX9_prices 47 = .ok (.if_icmp .lt 14, 3) := by decide +kernel
theorem d_X9_prices_50 : decode cX9_prices 50 = .ok (.iload_n 3, 1) := by decide +kernel
theorem d_X9_prices_51 : decode cX9_prices 51 = .ok (.iload_n 2, 1) := by decide +kernel
theorem d_X9_prices_52 : decode cX9_prices 52 = .ok (.isub, 1) := by decide +kernel
theorem d_X9_prices_53 : decode cX9_prices 53 = .ok (.iload 4, 2) := by decide +kernel
theorem d_X9_prices_55 : decode cX9_prices 55 = .ok (.idiv, 1) := by decide +kernel
theorem d_X9_prices_56 : decode cX9_prices 56 = .ok (.bipush 60, 2) := by decide +kernel
theorem d_X9_prices_58 : decode cX9_prices 58 = .ok (.if_icmp .lt 11, 3) := by decide +kernel
theorem d_X9_prices_61 : decode cX9_prices 61 = .ok (.new 83, 3) := by decide +kernel
theorem d_X9_prices_64 : decode cX9_prices 64 = .ok (.dup, 1) := by decide +kernel
theorem d_X9_prices_65 : decode cX9_prices 65 = .ok (.invokespecial 85, 3) := by decide +kernel
theorem d_X9_prices_68 : decode cX9_prices 68 = .ok (.athrow, 1) := by decide +kernel
theorem d_X9_prices_69 : decode cX9_prices 69 = .ok (.aload_n 0, 1) := by decide +kernel
theorem d_X9_prices_70 : decode cX9_prices 70 = .ok (.getfield 38, 3) := by decide +kernel
theorem d_X9_prices_73 : decode cX9_prices 73 = .ok (.aload_n 0, 1) := by decide +kernel
theorem d_X9_prices_74 : decode cX9_prices 74 = .ok (.getfield 24, 3) := by decide +kernel
theorem d_X9_prices_77 : decode cX9_prices 77 = .ok (.iload_n 1, 1) := by decide +kernel
theorem d_X9_prices_78 : decode cX9_prices 78 = .ok (.iload_n 2, 1) := by decide +kernel
theorem d_X9_prices_79 : decode cX9_prices 79 = .ok (.iload_n 3, 1) := by decide +kernel
theorem d_X9_prices_80 : decode cX9_prices 80 = .ok (.iload 4, 2) := by decide +kernel
theorem d_X9_prices_82 : decode cX9_prices 82 = .ok (.invokevirtual 230, 3) := by decide +kernel
theorem d_X9_prices_85 : decode cX9_prices 85 = .ok (.ireturn, 1) := by decide +kernel
def j_X9_prices_61 (h : AH) : Option ((Int32 ⊕ Nat) × AH) := some (.inr 1, h)
theorem tj_X9_prices_61 {g : GP} {X : MX} {mcR msR : Nat} (hF : gF g = true) (hX : Cx g RX9 cX9_prices 7 mcR msR (some .int) [] X) {d0 : Value} {d1 : Value} {d2 : Value} {d3 : Value} {d4 : Value} {h hz : AH} {z : (Int32 ⊕ Nat)} (e : j_X9_prices_61 h = some (z, hz)) (hM1 : xc z ≤ mcR) (hM2 : xs z ≤ msR) : AR g X 0 0 (QQ g X NT false hz (xo_I z) (xc z) (xs z)) h 61 [d0, d1, d2, d3, d4] [] := by
  unfold j_X9_prices_61 at e
  cases e
  exact ar_throw hX (thr_RX9_1) (by decide) d_X9_prices_61 d_X9_prices_64 d_X9_prices_65 d_X9_prices_68 hM1 hM2
def s_X9_prices (a0 : Int32) (a1 : Int32) (a2 : Int32) (a3 : Int32) (h : AH) : Option ((Int32 ⊕ Nat) × AH) := bd (s_X9_needTicket a0 h) fun q1 => sm q1 (fun x2 => bd (gR h 0 8) fun t3 => if LAY t3 = (0, 8) then bd (s_X9_at (some (t3 + 7)) a0 h) fun x4 => if x4 = (-1) then some (.inr 0, h) else if a1 < 0 then j_X9_prices_61 h else if 9999 < a2 then j_X9_prices_61 h else if a2 < a1 then j_X9_prices_61 h else if a3 < 1 then j_X9_prices_61 h else bd (idivF (a2 - a1) a3) fun x5 => if x5 < 60 then bd (s_X5_throughPrices (some 13) a0 a1 a2 a3 h) fun q6 => some (.inl q6.1, q6.2) else j_X9_prices_61 h else none) (fun E7 => some (.inr E7, h))
theorem t_X9_prices {g : GP} {X : MX} {mcR msR : Nat} (hF : gF g = true) (hX : Cx g RX9 cX9_prices 7 mcR msR (some .int) [] X) {a0 : Int32} {a1 : Int32} {a2 : Int32} {a3 : Int32} {h hz : AH} {z : (Int32 ⊕ Nat)} (e : s_X9_prices a0 a1 a2 a3 h = some (z, hz)) (hM1 : xc z ≤ mcR) (hM2 : xs z ≤ msR) : AR g X 0 0 (QQ g X NT false hz (xo_I z) (xc z) (xs z)) h 0 [.ref 0, .int a0, .int a1, .int a2, .int a3] [] := by
  unfold s_X9_prices at e
  refine aw_aload_n (i := 0) hX rfl rfl d_X9_prices_0 ?_
  refine aw_iload_n (i := 1) hX rfl rfl d_X9_prices_1 ?_
  obtain ⟨q1, f_906, e_906⟩ := bd_some e
  clear e
  rcases q1 with x2 | E7
  · have e_907 := sm_inl e_906
    clear e_906
    refine aw_callV (b := 0) (av := [.int a0]) (avr := [.int a0]) hX (k_X9_needTicket (cx_g hX) hF f_906) mi_X9_needTicket rfl rfl w_516 w_517 w_518 (by decide) rfl (LAY_lt rfl (by decide)) rfl rfl (Nat.le_of_ble_eq_true rfl) (Nat.zero_le _) (Nat.zero_le _) d_X9_prices_2 ?_
    refine aw_aload_n (i := 0) hX rfl rfl d_X9_prices_5 ?_
    obtain ⟨t3, f_908, e_908⟩ := bd_some e_907
    clear e_907
    obtain ⟨hlt3, e_909⟩ := if_some e_908
    clear e_908
    refine ar_getR hX fg_RX9_63 rfl f_908 d_X9_prices_6 ?_
    refine ar_getF hX hF fg_RX9_165 (by assumption) d_X9_prices_9 ?_
    refine aw_iload_n (i := 1) hX rfl rfl d_X9_prices_12 ?_
    obtain ⟨x4, f_910, e_910⟩ := bd_some e_909
    clear e_909
    refine aw_callS (av := [.ref (t3 + 7), .int a0]) (avr := [.int a0, .ref (t3 + 7)]) hX (k_X9_at (cx_g hX) hF f_910) mi_X9_at rfl rfl w_509 w_6 rfl (by decide) (Nat.le_of_ble_eq_true rfl) (Nat.zero_le _) (Nat.zero_le _) d_X9_prices_13 ?_
    refine aw_iconst (v := (-1)) hX (by decide) d_X9_prices_16 ?_
    refine aw_icmp_ne (t := 28) hX (by decide) d_X9_prices_17 (fun c => ?_) (fun c => ?_)
    · rw [if_neg c] at e_910
      refine aw_iload_n (i := 2) hX rfl rfl d_X9_prices_28 ?_
      refine aw_if_lt (t := 61) hX (by decide) d_X9_prices_29 (fun c => ?_) (fun c => ?_)
      · rw [if_pos c] at e_910
        exact tj_X9_prices_61 hF hX e_910 hM1 hM2
      · rw [if_neg c] at e_910
        refine aw_iload_n (i := 3) hX rfl rfl d_X9_prices_32 ?_
        refine aw_sipush (v := 9999) hX (by decide) d_X9_prices_33 ?_
        refine aw_icmp_gt (t := 61) hX (by decide) d_X9_prices_36 (fun c => ?_) (fun c => ?_)
        · rw [if_pos c] at e_910
          exact tj_X9_prices_61 hF hX e_910 hM1 hM2
        · rw [if_neg c] at e_910
          refine aw_iload_n (i := 2) hX rfl rfl d_X9_prices_39 ?_
          refine aw_iload_n (i := 3) hX rfl rfl d_X9_prices_40 ?_
          refine aw_icmp_gt (t := 61) hX (by decide) d_X9_prices_41 (fun c => ?_) (fun c => ?_)
          · rw [if_pos c] at e_910
            exact tj_X9_prices_61 hF hX e_910 hM1 hM2
          · rw [if_neg c] at e_910
            refine aw_iload (i := 4) hX rfl d_X9_prices_44 ?_
            refine aw_iconst (v := 1) hX (by decide) d_X9_prices_46 ?_
            refine aw_icmp_lt (t := 61) hX (by decide) d_X9_prices_47 (fun c => ?_) (fun c => ?_)
            · rw [if_pos c] at e_910
              exact tj_X9_prices_61 hF hX e_910 hM1 hM2
            · rw [if_neg c] at e_910
              refine aw_iload_n (i := 3) hX rfl rfl d_X9_prices_50 ?_
              refine aw_iload_n (i := 2) hX rfl rfl d_X9_prices_51 ?_
              refine aw_isub hX d_X9_prices_52 ?_
              refine aw_iload (i := 4) hX rfl d_X9_prices_53 ?_
              obtain ⟨x5, f_911, e_911⟩ := bd_some e_910
              clear e_910
              refine ar_idiv hX f_911 d_X9_prices_55 ?_
              refine aw_bipush (v := 60) hX (by decide) d_X9_prices_56 ?_
              refine aw_icmp_lt (t := 69) hX (by decide) d_X9_prices_58 (fun c => ?_) (fun c => ?_)
              · rw [if_pos c] at e_911
                refine aw_aload_n (i := 0) hX rfl rfl d_X9_prices_69 ?_
                refine ar_getF hX hF fg_RX9_38 rfl d_X9_prices_70 ?_
                show AR g X 0 0 _ _ 73 _ [.ref 215]
                refine aw_aload_n (i := 0) hX rfl rfl d_X9_prices_73 ?_
                refine ar_getF hX hF fg_RX9_24 rfl d_X9_prices_74 ?_
                show AR g X 0 0 _ _ 77 _ [.ref 13, .ref 215]
                refine aw_iload_n (i := 1) hX rfl rfl d_X9_prices_77 ?_
                refine aw_iload_n (i := 2) hX rfl rfl d_X9_prices_78 ?_
                refine aw_iload_n (i := 3) hX rfl rfl d_X9_prices_79 ?_
                refine aw_iload (i := 4) hX rfl d_X9_prices_80 ?_
                obtain ⟨q6, f_912, e_912⟩ := bd_some e_911
                clear e_911
                refine aw_callV (b := 215) (av := [.ref 13, .int a0, .int a1, .int a2, .int a3]) (avr := [.int a3, .int a2, .int a1, .int a0, .ref 13]) hX (k_X5_throughPrices (cx_g hX) hF f_912) mi_X5_throughPrices rfl rfl w_556 w_557 w_558 (by decide) rfl (LAY_lt rfl (by decide)) rfl rfl (Nat.le_of_ble_eq_true rfl) (Nat.zero_le _) (Nat.zero_le _) d_X9_prices_82 ?_
                cases e_912
                exact aw_ireturn hX (Nat.zero_le _) (Nat.zero_le _) d_X9_prices_85
              · rw [if_neg c] at e_911
                exact tj_X9_prices_61 hF hX e_911 hM1 hM2
    · rw [if_pos c] at e_910
      cases e_910
      exact ar_throw hX (thr_RX9_0) (by decide) d_X9_prices_20 d_X9_prices_23 d_X9_prices_24 d_X9_prices_27 hM1 hM2
  · have e_913 := sm_inr e_906
    clear e_906
    cases e_913
    exact aw_callVX (b := 0) (av := [.int a0]) (avr := [.int a0]) hX (kx_X9_needTicket (cx_g hX) hF f_906) mi_X9_needTicket rfl rfl w_516 w_517 w_518 (by decide) rfl (LAY_lt rfl (by decide)) rfl rfl (Nat.le_of_ble_eq_true rfl) hM1 hM2 d_X9_prices_2
theorem k_X9_prices {g : GP} (hg : g.1.stackTraces = false) (hF : gF g = true) {a0 : Int32} {a1 : Int32} {a2 : Int32} {a3 : Int32} {h hz : AH} {z : Int32} (e : s_X9_prices a0 a1 a2 a3 h = some (.inl z, hz)) : Ctr g yX9_prices (wsY yX9_prices cX9_prices 5 (some .int)) 7 0 0 [.ref 0, .int a0, .int a1, .int a2, .int a3] NT false h (some (.int z)) NT false hz := ctr_of (lv0 := [.ref 0, .int a0, .int a1, .int a2, .int a3]) rfl rfl (by decide) hg trivial (fun X hX hn => t_X9_prices hF hX e (Nat.zero_le _) (Nat.zero_le _))
theorem kx_X9_prices {g : GP} (hg : g.1.stackTraces = false) (hF : gF g = true) {a0 : Int32} {a1 : Int32} {a2 : Int32} {a3 : Int32} {h hz : AH} {z : Nat} (e : s_X9_prices a0 a1 a2 a3 h = some (.inr z, hz)) : CtrX g yX9_prices (wsY yX9_prices cX9_prices 5 (some .int)) 7 [.ref 0, .int a0, .int a1, .int a2, .int a3] NT h z hz := ctrX_of (lv0 := [.ref 0, .int a0, .int a1, .int a2, .int a3]) rfl rfl (by decide) hg (fun X hX => t_X9_prices hF hX e (Nat.le_refl _) (Nat.le_refl _))
theorem d_X9_found_0 : decode cX9_found 0 = .ok (.aload_n 0, 1) := by decide +kernel
theorem d_X9_found_1 : decode cX9_found 1 = .ok (.iload_n 1, 1) := by decide +kernel
theorem d_X9_found_2 : decode cX9_found 2 = .ok (.iconst 4, 1) := by decide +kernel
theorem d_X9_found_3 : decode cX9_found 3 = .ok (.invokevirtual 140, 3) := by decide +kernel
theorem d_X9_found_6 : decode cX9_found 6 = .ok (.aload_n 0, 1) := by decide +kernel
theorem d_X9_found_7 : decode cX9_found 7 = .ok (.getfield 38, 3) := by decide +kernel
theorem d_X9_found_10 : decode cX9_found 10 = .ok (.getfield 234, 3) := by decide +kernel
theorem d_X9_found_13 : decode cX9_found 13 = .ok (.ifCond .ne 11, 3) := by decide +kernel
theorem d_X9_found_16 : decode cX9_found 16 = .ok (.new 134, 3) := by decide +kernel
theorem d_X9_found_19 : decode cX9_found 19 = .ok (.dup, 1) := by decide +kernel
theorem d_X9_found_20 : decode cX9_found 20 = .ok (.invokespecial 136, 3) := by decide +kernel
theorem d_X9_found_23 : decode cX9_found 23 = .ok (.athrow, 1) := by decide +kernel
theorem d_X9_found_24 : decode cX9_found 24 = .ok (.aload_n 0, 1) := by decide +kernel
theorem d_X9_found_25 : decode cX9_found 25 = .ok (.getfield 38, 3) := by decide +kernel
theorem d_X9_found_28 : decode cX9_found 28 = .ok (.getfield 237, 3) := by decide +kernel
theorem d_X9_found_31 : decode cX9_found 31 = .ok (.iload_n 1, 1) := by decide +kernel
theorem d_X9_found_32 : decode cX9_found 32 = .ok (.invokestatic 241, 3) := by decide +kernel
theorem d_X9_found_35 : decode cX9_found 35 = .ok (.lreturn, 1) := by decide +kernel
def s_X9_found (a0 : Int32) (h : AH) : Option (Int64 ⊕ Nat) := bd (s_X9_needWhat a0 4 h) fun q1 => sm q1 (fun x2 => if (gI h 215 4) = 0 then some (.inr 0) else bd (s_X9_atWide (some 219) a0 h) fun x3 => some (.inl x3)) (fun E4 => some (.inr E4))
theorem t_X9_found {g : GP} {X : MX} {mcR msR : Nat} (hF : gF g = true) (hX : Cx g RX9 cX9_found 7 mcR msR (some .long) [] X) {a0 : Int32} {h : AH} {z : (Int64 ⊕ Nat)} (e : s_X9_found a0 h = some z) (hM1 : xc z ≤ mcR) (hM2 : xs z ≤ msR) : AR g X 0 0 (QQ g X NT false h (xo_L z) (xc z) (xs z)) h 0 [.ref 0, .int a0] [] := by
  unfold s_X9_found at e
  refine aw_aload_n (i := 0) hX rfl rfl d_X9_found_0 ?_
  refine aw_iload_n (i := 1) hX rfl rfl d_X9_found_1 ?_
  refine aw_iconst (v := 4) hX (by decide) d_X9_found_2 ?_
  obtain ⟨q1, f_914, e_914⟩ := bd_some e
  clear e
  rcases q1 with x2 | E4
  · have e_915 := sm_inl e_914
    clear e_914
    refine aw_callV (b := 0) (av := [.int a0, .int 4]) (avr := [.int 4, .int a0]) hX (k_X9_needWhat (cx_g hX) hF f_914) mi_X9_needWhat rfl rfl w_504 w_505 w_506 (by decide) rfl (LAY_lt rfl (by decide)) rfl rfl (Nat.le_of_ble_eq_true rfl) (Nat.zero_le _) (Nat.zero_le _) d_X9_found_3 ?_
    refine aw_aload_n (i := 0) hX rfl rfl d_X9_found_6 ?_
    refine ar_getF hX hF fg_RX9_38 rfl d_X9_found_7 ?_
    show AR g X 0 0 _ _ 10 _ [.ref 215]
    refine ar_getI hX fg_RX9_234 rfl d_X9_found_10 ?_
    refine aw_if_ne (t := 24) hX (by decide) d_X9_found_13 (fun c => ?_) (fun c => ?_)
    · rw [if_neg c] at e_915
      refine aw_aload_n (i := 0) hX rfl rfl d_X9_found_24 ?_
      refine ar_getF hX hF fg_RX9_38 rfl d_X9_found_25 ?_
      show AR g X 0 0 _ _ 28 _ [.ref 215]
      refine ar_getF hX hF fg_RX9_237 rfl d_X9_found_28 ?_
      show AR g X 0 0 _ _ 31 _ [.ref 219]
      refine aw_iload_n (i := 1) hX rfl rfl d_X9_found_31 ?_
      obtain ⟨x3, f_916, e_916⟩ := bd_some e_915
      clear e_915
      refine aw_callS (av := [.ref 219, .int a0]) (avr := [.int a0, .ref 219]) hX (k_X9_atWide (cx_g hX) hF f_916) mi_X9_atWide rfl rfl w_561 w_38 rfl (by decide) (Nat.le_of_ble_eq_true rfl) (Nat.zero_le _) (Nat.zero_le _) d_X9_found_32 ?_
      cases e_916
      exact aw_lreturn hX (Nat.zero_le _) (Nat.zero_le _) d_X9_found_35
    · rw [if_pos c] at e_915
      cases e_915
      exact ar_throw hX (thr_RX9_0) (by decide) d_X9_found_16 d_X9_found_19 d_X9_found_20 d_X9_found_23 hM1 hM2
  · have e_917 := sm_inr e_914
    clear e_914
    cases e_917
    exact aw_callVX (b := 0) (av := [.int a0, .int 4]) (avr := [.int 4, .int a0]) hX (kx_X9_needWhat (cx_g hX) hF f_914) mi_X9_needWhat rfl rfl w_504 w_505 w_506 (by decide) rfl (LAY_lt rfl (by decide)) rfl rfl (Nat.le_of_ble_eq_true rfl) hM1 hM2 d_X9_found_3
theorem k_X9_found {g : GP} (hg : g.1.stackTraces = false) (hF : gF g = true) {a0 : Int32} {h : AH} {z : Int64} (e : s_X9_found a0 h = some (.inl z)) : Ctr g yX9_found (wsY yX9_found cX9_found 2 (some .long)) 7 0 0 [.ref 0, .int a0] NT false h (some (.long z)) NT false h := ctr_of (lv0 := [.ref 0, .int a0]) rfl rfl (by decide) hg trivial (fun X hX hn => t_X9_found hF hX e (Nat.zero_le _) (Nat.zero_le _))
theorem kx_X9_found {g : GP} (hg : g.1.stackTraces = false) (hF : gF g = true) {a0 : Int32} {h : AH} {z : Nat} (e : s_X9_found a0 h = some (.inr z)) : CtrX g yX9_found (wsY yX9_found cX9_found 2 (some .long)) 7 [.ref 0, .int a0] NT h z h := ctrX_of (lv0 := [.ref 0, .int a0]) rfl rfl (by decide) hg (fun X hX => t_X9_found hF hX e (Nat.le_refl _) (Nat.le_refl _))
theorem d_X9_over_0 : decode cX9_over 0 = .ok (.aload_n 0, 1) := by decide +kernel
theorem d_X9_over_1 : decode cX9_over 1 = .ok (.iload_n 1, 1) := by decide +kernel
theorem d_X9_over_2 : decode cX9_over 2 = .ok (.invokevirtual 156, 3) := by decide +kernel
theorem d_X9_over_5 : decode cX9_over 5 = .ok (.iload_n 2, 1) := by decide +kernel
theorem d_X9_over_6 : decode cX9_over 6 = .ok (.ifCond .lt 9, 3) := by decide +kernel
theorem d_X9_over_9 : decode cX9_over 9 = .ok (.iload_n 2, 1) := by decide +kernel
theorem d_X9_over_10 : decode cX9_over 10 = .ok (.ldc 245, 2) := by decide +kernel
theorem d_X9_over_12 : decode cX9_over 12 = .ok (.if_icmp .le 11, 3) := by decide +kernel
theorem d_X9_over_15 : decode cX9_over 15 = .ok (.new 83, 3) := by decide +kernel
theorem d_X9_over_18 : decode cX9_over 18 = .ok (.dup, 1) := by decide +kernel
theorem d_X9_over_19 : decode cX9_over 19 = .ok (.invokespecial 85, 3) := by decide +kernel
theorem d_X9_over_22 : decode cX9_over 22 = .ok (.athrow, 1) := by decide +kernel
theorem d_X9_over_23 : decode cX9_over 23 = .ok (.aload_n 0, 1) := by decide +kernel
theorem d_X9_over_24 : decode cX9_over 24 = .ok (.getfield 31, 3) := by decide +kernel
theorem d_X9_over_27 : decode cX9_over 27 = .ok (.aload_n 0, 1) := by decide +kernel
theorem d_X9_over_28 : decode cX9_over 28 = .ok (.getfield 24, 3) := by decide +kernel
theorem d_X9_over_31 : decode cX9_over 31 = .ok (.aload_n 0, 1) := by decide +kernel
theorem d_X9_over_32 : decode cX9_over 32 = .ok (.getfield 63, 3) := by decide +kernel
theorem d_X9_over_35 : decode cX9_over 35 = .ok (.iload_n 1, 1) := by decide +kernel
theorem d_X9_over_36 : decode cX9_over 36 = .ok (.iload_n 2, 1) := by decide +kernel
theorem d_X9_over_37 : decode cX9_over 37 = .ok (.invokevirtual 246, 3) := by decide +kernel
theorem d_X9_over_40 : decode cX9_over 40 = .ok (.ireturn, 1) := by decide +kernel
def j_X9_over_15 (h : AH) : Option ((Int32 ⊕ Nat) × AH) := some (.inr 1, h)
theorem tj_X9_over_15 {g : GP} {X : MX} {mcR msR : Nat} (hF : gF g = true) (hX : Cx g RX9 cX9_over 7 mcR msR (some .int) [] X) {d0 : Value} {d1 : Value} {d2 : Value} {h hz : AH} {z : (Int32 ⊕ Nat)} (e : j_X9_over_15 h = some (z, hz)) (hM1 : xc z ≤ mcR) (hM2 : xs z ≤ msR) : AR g X 0 0 (QQ g X NT false hz (xo_I z) (xc z) (xs z)) h 15 [d0, d1, d2] [] := by
  unfold j_X9_over_15 at e
  cases e
  exact ar_throw hX (thr_RX9_1) (by decide) d_X9_over_15 d_X9_over_18 d_X9_over_19 d_X9_over_22 hM1 hM2
def s_X9_over (a0 : Int32) (a1 : Int32) (h : AH) : Option ((Int32 ⊕ Nat) × AH) := bd (s_X9_needKind a0 h) fun q1 => sm q1 (fun x2 => if a1 < 0 then j_X9_over_15 h else if a1 ≤ 1000000000 then bd (gR h 0 8) fun t3 => if LAY t3 = (0, 8) then bd (s_X1_mostBelow (some 13) (some t3) a0 a1 h) fun q4 => some (.inl q4.1, q4.2) else none else j_X9_over_15 h) (fun E5 => some (.inr E5, h))
theorem t_X9_over {g : GP} {X : MX} {mcR msR : Nat} (hF : gF g = true) (hX : Cx g RX9 cX9_over 7 mcR msR (some .int) [] X) {a0 : Int32} {a1 : Int32} {h hz : AH} {z : (Int32 ⊕ Nat)} (e : s_X9_over a0 a1 h = some (z, hz)) (hM1 : xc z ≤ mcR) (hM2 : xs z ≤ msR) : AR g X 0 0 (QQ g X NT false hz (xo_I z) (xc z) (xs z)) h 0 [.ref 0, .int a0, .int a1] [] := by
  unfold s_X9_over at e
  refine aw_aload_n (i := 0) hX rfl rfl d_X9_over_0 ?_
  refine aw_iload_n (i := 1) hX rfl rfl d_X9_over_1 ?_
  obtain ⟨q1, f_918, e_918⟩ := bd_some e
  clear e
  rcases q1 with x2 | E5
  · have e_919 := sm_inl e_918
    clear e_918
    refine aw_callV (b := 0) (av := [.int a0]) (avr := [.int a0]) hX (k_X9_needKind (cx_g hX) hF f_918) mi_X9_needKind rfl rfl w_511 w_512 w_513 (by decide) rfl (LAY_lt rfl (by decide)) rfl rfl (Nat.le_of_ble_eq_true rfl) (Nat.zero_le _) (Nat.zero_le _) d_X9_over_2 ?_
    refine aw_iload_n (i := 2) hX rfl rfl d_X9_over_5 ?_
    refine aw_if_lt (t := 15) hX (by decide) d_X9_over_6 (fun c => ?_) (fun c => ?_)
    · rw [if_pos c] at e_919
      exact tj_X9_over_15 hF hX e_919 hM1 hM2
    · rw [if_neg c] at e_919
      refine aw_iload_n (i := 2) hX rfl rfl d_X9_over_9 ?_
      refine aw_ldc hX w_562 d_X9_over_10 ?_
      refine aw_icmp_le (t := 23) hX (by decide) d_X9_over_12 (fun c => ?_) (fun c => ?_)
      · rw [if_pos c] at e_919
        refine aw_aload_n (i := 0) hX rfl rfl d_X9_over_23 ?_
        refine ar_getF hX hF fg_RX9_31 rfl d_X9_over_24 ?_
        show AR g X 0 0 _ _ 27 _ [.ref 211]
        refine aw_aload_n (i := 0) hX rfl rfl d_X9_over_27 ?_
        refine ar_getF hX hF fg_RX9_24 rfl d_X9_over_28 ?_
        show AR g X 0 0 _ _ 31 _ [.ref 13, .ref 211]
        refine aw_aload_n (i := 0) hX rfl rfl d_X9_over_31 ?_
        obtain ⟨t3, f_920, e_920⟩ := bd_some e_919
        clear e_919
        obtain ⟨hlt3, e_921⟩ := if_some e_920
        clear e_920
        refine ar_getR hX fg_RX9_63 rfl f_920 d_X9_over_32 ?_
        refine aw_iload_n (i := 1) hX rfl rfl d_X9_over_35 ?_
        refine aw_iload_n (i := 2) hX rfl rfl d_X9_over_36 ?_
        obtain ⟨q4, f_922, e_922⟩ := bd_some e_921
        clear e_921
        refine aw_callV (b := 211) (av := [.ref 13, .ref t3, .int a0, .int a1]) (avr := [.int a1, .int a0, .ref t3, .ref 13]) hX (k_X1_mostBelow (cx_g hX) hF f_922) mi_X1_mostBelow rfl rfl w_564 w_565 w_566 (by decide) rfl (LAY_lt rfl (by decide)) rfl rfl (Nat.le_of_ble_eq_true rfl) (Nat.zero_le _) (Nat.zero_le _) d_X9_over_37 ?_
        cases e_922
        exact aw_ireturn hX (Nat.zero_le _) (Nat.zero_le _) d_X9_over_40
      · rw [if_neg c] at e_919
        exact tj_X9_over_15 hF hX e_919 hM1 hM2
  · have e_923 := sm_inr e_918
    clear e_918
    cases e_923
    exact aw_callVX (b := 0) (av := [.int a0]) (avr := [.int a0]) hX (kx_X9_needKind (cx_g hX) hF f_918) mi_X9_needKind rfl rfl w_511 w_512 w_513 (by decide) rfl (LAY_lt rfl (by decide)) rfl rfl (Nat.le_of_ble_eq_true rfl) hM1 hM2 d_X9_over_2
theorem k_X9_over {g : GP} (hg : g.1.stackTraces = false) (hF : gF g = true) {a0 : Int32} {a1 : Int32} {h hz : AH} {z : Int32} (e : s_X9_over a0 a1 h = some (.inl z, hz)) : Ctr g yX9_over (wsY yX9_over cX9_over 3 (some .int)) 7 0 0 [.ref 0, .int a0, .int a1] NT false h (some (.int z)) NT false hz := ctr_of (lv0 := [.ref 0, .int a0, .int a1]) rfl rfl (by decide) hg trivial (fun X hX hn => t_X9_over hF hX e (Nat.zero_le _) (Nat.zero_le _))
theorem kx_X9_over {g : GP} (hg : g.1.stackTraces = false) (hF : gF g = true) {a0 : Int32} {a1 : Int32} {h hz : AH} {z : Nat} (e : s_X9_over a0 a1 h = some (.inr z, hz)) : CtrX g yX9_over (wsY yX9_over cX9_over 3 (some .int)) 7 [.ref 0, .int a0, .int a1] NT h z hz := ctrX_of (lv0 := [.ref 0, .int a0, .int a1]) rfl rfl (by decide) hg (fun X hX => t_X9_over hF hX e (Nat.le_refl _) (Nat.le_refl _))
theorem d_X9_again_0 : decode cX9_again 0 = .ok (.aload_n 0, 1) := by decide +kernel
theorem d_X9_again_1 : decode cX9_again 1 = .ok (.iload_n 1, 1) := by decide +kernel
theorem d_X9_again_2 : decode cX9_again 2 = .ok (.invokevirtual 137, 3) := by decide +kernel
theorem d_X9_again_5 : decode cX9_again 5 = .ok (.aload_n 0, 1) := by decide +kernel
theorem d_X9_again_6 : decode cX9_again 6 = .ok (.iload_n 3, 1) := by decide +kernel
theorem d_X9_again_7 : decode cX9_again 7 = .ok (.iconst 3, 1) := by decide +kernel
theorem d_X9_again_8 : decode cX9_again 8 = .ok (.invokevirtual 140, 3) := by decide +kernel
theorem d_X9_again_11 : decode cX9_again 11 = .ok (.iload_n 2, 1) := by decide +kernel
theorem d_X9_again_12 : decode cX9_again 12 = .ok (.ifCond .lt 10, 3) := by decide +kernel
theorem d_X9_again_15 : decode cX9_again 15 = .ok (.iload_n 2, 1) := by decide +kernel
theorem d_X9_again_16 : decode cX9_again 16 = .ok (.sipush 999, 3) := by decide +kernel
theorem d_X9_again_19 : decode cX9_again 19 = .ok (.if_icmp .le 11, 3) := by decide +kernel
theorem d_X9_again_22 : decode cX9_again 22 = .ok (.new 83, 3) := by decide +kernel
theorem d_X9_again_25 : decode cX9_again 25 = .ok (.dup, 1) := by decide +kernel
theorem d_X9_again_26 : decode cX9_again 26 = .ok (.invokespecial 85, 3) := by decide +kernel
theorem d_X9_again_29 : decode cX9_again 29 = .ok (.athrow, 1) := by decide +kernel
theorem d_X9_again_30 : decode cX9_again 30 = .ok (.aload_n 0, 1) := by decide +kernel
theorem d_X9_again_31 : decode cX9_again 31 = .ok (.getfield 24, 3) := by decide +kernel
theorem d_X9_again_34 : decode cX9_again 34 = .ok (.iload_n 1, 1) := by decide +kernel
theorem d_X9_again_35 : decode cX9_again 35 = .ok (.invokevirtual 250, 3) := by decide +kernel
theorem d_X9_again_38 : decode cX9_again 38 = .ok (.lstore 4, 2) := by decide +kernel
theorem d_X9_again_40 : decode cX9_again 40 = .ok (.aload_n 0, 1) := by decide +kernel
theorem d_X9_again_41 : decode cX9_again 41 = .ok (.getfield 24, 3) := by decide +kernel
theorem d_X9_again_44 : decode cX9_again 44 = .ok (.iload_n 1, 1) := by decide +kernel
theorem d_X9_again_45 : decode cX9_again 45 = .ok (.invokevirtual 253, 3) := by decide +kernel
theorem d_X9_again_48 : decode cX9_again 48 = .ok (.lstore 6, 2) := by decide +kernel
theorem d_X9_again_50 : decode cX9_again 50 = .ok (.lload 4, 2) := by decide +kernel
theorem d_X9_again_52 : decode cX9_again 52 = .ok (.lload 6, 2) := by decide +kernel
theorem d_X9_again_54 : decode cX9_again 54 = .ok (.invokestatic 256, 3) := by decide +kernel
theorem d_X9_again_57 : decode cX9_again 57 = .ok (.lstore 8, 2) := by decide +kernel
theorem d_X9_again_59 : decode cX9_again 59 = .ok (.iload_n 3, 1) := by decide +kernel
theorem d_X9_again_60 : decode cX9_again 60 = .ok (.tableswitch 59 0 2 #[28, 32, 55], 28) := by decide +kernel
theorem d_X9_again_88 : decode cX9_again 88 = .ok (.lload 8, 2) := by decide +kernel
theorem d_X9_again_90 : decode cX9_again 90 = .ok (.l2i, 1) := by decide +kernel
theorem d_X9_again_91 : decode cX9_again 91 = .ok (.ireturn, 1) := by decide +kernel
theorem d_X9_again_92 : decode cX9_again 92 = .ok (.lload 8, 2) := by decide +kernel
theorem d_X9_again_94 : decode cX9_again 94 = .ok (.aload_n 0, 1) := by decide +kernel
theorem d_X9_again_95 : decode cX9_again 95 = .ok (.getfield 63, 3) := by decide +kernel
theorem d_X9_again_98 : decode cX9_again 98 = .ok (.iload_n 1, 1) := by decide +kernel
theorem d_X9_again_99 : decode cX9_again 99 = .ok (.iconst 1, 1) := by decide +kernel
theorem d_X9_again_100 : decode cX9_again 100 = .ok (.invokevirtual 152, 3) := by decide +kernel
theorem d_X9_again_103 : decode cX9_again 103 = .ok (.iload_n 2, 1) := by decide +kernel
theorem d_X9_again_104 : decode cX9_again 104 = .ok (.isub, 1) := by decide +kernel
theorem d_X9_again_105 : decode cX9_again 105 = .ok (.i2l, 1) := by decide +kernel
theorem d_X9_again_106 : decode cX9_again 106 = .ok (.lmul, 1) := by decide +kernel
theorem d_X9_again_107 : decode cX9_again 107 = .ok (.ldc2_w 182, 3) := by decide +kernel
theorem d_X9_again_110 : decode cX9_again 110 = .ok (.invokestatic 262, 3) := by decide +kernel
theorem d_X9_again_113 : decode cX9_again 113 = .ok (.l2i, 1) := by decide +kernel
theorem d_X9_again_114 : decode cX9_again 114 = .ok (.ireturn, 1) := by decide +kernel
theorem d_X9_again_115 : decode cX9_again 115 = .ok (.lload 4, 2) := by decide +kernel
theorem d_X9_again_117 : decode cX9_again 117 = .ok (.l2i, 1) := by decide +kernel
theorem d_X9_again_118 : decode cX9_again 118 = .ok (.ireturn, 1) := by decide +kernel
theorem d_X9_again_119 : decode cX9_again 119 = .ok (.lload 6, 2) := by decide +kernel
theorem d_X9_again_121 : decode cX9_again 121 = .ok (.l2i, 1) := by decide +kernel
theorem d_X9_again_122 : decode cX9_again 122 = .ok (.ireturn, 1) := by decide +kernel
def j_X9_again_22 (h : AH) : Option (Int32 ⊕ Nat) := some (.inr 1)
theorem tj_X9_again_22 {g : GP} {X : MX} {mcR msR : Nat} (hF : gF g = true) (hX : Cx g RX9 cX9_again 7 mcR msR (some .int) [] X) {d0 : Value} {d1 : Value} {d2 : Value} {d3 : Value} {d4 : Value} {d5 : Value} {d6 : Value} {d7 : Value} {d8 : Value} {d9 : Value} {h : AH} {z : (Int32 ⊕ Nat)} (e : j_X9_again_22 h = some z) (hM1 : xc z ≤ mcR) (hM2 : xs z ≤ msR) : AR g X 0 0 (QQ g X NT false h (xo_I z) (xc z) (xs z)) h 22 [d0, d1, d2, d3, d4, d5, d6, d7, d8, d9] [] := by
  unfold j_X9_again_22 at e
  cases e
  exact ar_throw hX (thr_RX9_1) (by decide) d_X9_again_22 d_X9_again_25 d_X9_again_26 d_X9_again_29 hM1 hM2
def s_X9_again (a0 : Int32) (a1 : Int32) (a2 : Int32) (h : AH) : Option (Int32 ⊕ Nat) := bd (s_X9_needEvening a0 h) fun q1 => sm q1 (fun x2 => bd (s_X9_needWhat a2 3 h) fun q3 => sm q3 (fun x4 => if a1 < 0 then j_X9_again_22 h else if a1 ≤ 999 then bd (s_X0_turnedAway a0 h) fun x5 => bd (s_X0_emptySeats a0 h) fun x6 => if a2 = 0 then some (.inl ((if x6 < x5 then x6 else x5).toInt32)) else if a2 = 1 then bd (gR h 0 8) fun t7 => if LAY t7 = (0, 8) then bd (s_X8_ofEvening t7 a0 1 h) fun x8 => bd (s_J9_floorDiv_f86c9 ((if x6 < x5 then x6 else x5) * ((x8 - a1).toInt64)) 1000 h) fun x9 => some (.inl x9.toInt32) else none else if a2 = 2 then some (.inl x5.toInt32) else some (.inl x6.toInt32) else j_X9_again_22 h) (fun E10 => some (.inr E10))) (fun E11 => some (.inr E11))
theorem t_X9_again {g : GP} {X : MX} {mcR msR : Nat} (hF : gF g = true) (hX : Cx g RX9 cX9_again 7 mcR msR (some .int) [] X) {a0 : Int32} {a1 : Int32} {a2 : Int32} {h : AH} {z : (Int32 ⊕ Nat)} (e : s_X9_again a0 a1 a2 h = some z) (hM1 : xc z ≤ mcR) (hM2 : xs z ≤ msR) : AR g X 0 0 (QQ g X NT false h (xo_I z) (xc z) (xs z)) h 0 [.ref 0, .int a0, .int a1, .int a2, jk, jk, jk, jk, jk, jk] [] := by
  unfold s_X9_again at e
  refine aw_aload_n (i := 0) hX rfl rfl d_X9_again_0 ?_
  refine aw_iload_n (i := 1) hX rfl rfl d_X9_again_1 ?_
  obtain ⟨q1, f_925, e_925⟩ := bd_some e
  clear e
  rcases q1 with x2 | E11
  · have e_926 := sm_inl e_925
    clear e_925
    refine aw_callV (b := 0) (av := [.int a0]) (avr := [.int a0]) hX (k_X9_needEvening (cx_g hX) hF f_925) mi_X9_needEvening rfl rfl w_500 w_501 w_502 (by decide) rfl (LAY_lt rfl (by decide)) rfl rfl (Nat.le_of_ble_eq_true rfl) (Nat.zero_le _) (Nat.zero_le _) d_X9_again_2 ?_
    refine aw_aload_n (i := 0) hX rfl rfl d_X9_again_5 ?_
    refine aw_iload_n (i := 3) hX rfl rfl d_X9_again_6 ?_
    refine aw_iconst (v := 3) hX (by decide) d_X9_again_7 ?_
    obtain ⟨q3, f_927, e_927⟩ := bd_some e_926
    clear e_926
    rcases q3 with x4 | E10
    · have e_928 := sm_inl e_927
      clear e_927
      refine aw_callV (b := 0) (av := [.int a2, .int 3]) (avr := [.int 3, .int a2]) hX (k_X9_needWhat (cx_g hX) hF f_927) mi_X9_needWhat rfl rfl w_504 w_505 w_506 (by decide) rfl (LAY_lt rfl (by decide)) rfl rfl (Nat.le_of_ble_eq_true rfl) (Nat.zero_le _) (Nat.zero_le _) d_X9_again_8 ?_
      refine aw_iload_n (i := 2) hX rfl rfl d_X9_again_11 ?_
      refine aw_if_lt (t := 22) hX (by decide) d_X9_again_12 (fun c => ?_) (fun c => ?_)
      · rw [if_pos c] at e_928
        exact tj_X9_again_22 hF hX e_928 hM1 hM2
      · rw [if_neg c] at e_928
        refine aw_iload_n (i := 2) hX rfl rfl d_X9_again_15 ?_
        refine aw_sipush (v := 999) hX (by decide) d_X9_again_16 ?_
        refine aw_icmp_le (t := 30) hX (by decide) d_X9_again_19 (fun c => ?_) (fun c => ?_)
        · rw [if_pos c] at e_928
          refine aw_aload_n (i := 0) hX rfl rfl d_X9_again_30 ?_
          refine ar_getF hX hF fg_RX9_24 rfl d_X9_again_31 ?_
          show AR g X 0 0 _ _ 34 _ [.ref 13]
          refine aw_iload_n (i := 1) hX rfl rfl d_X9_again_34 ?_
          obtain ⟨x5, f_929, e_929⟩ := bd_some e_928
          clear e_928
          refine aw_callV (b := 13) (av := [.int a0]) (avr := [.int a0]) hX (k_X0_turnedAway (cx_g hX) hF f_929) mi_X0_turnedAway rfl rfl w_568 w_569 w_570 (by decide) rfl (LAY_lt rfl (by decide)) rfl rfl (Nat.le_of_ble_eq_true rfl) (Nat.zero_le _) (Nat.zero_le _) d_X9_again_35 ?_
          refine aw_lstore (i := 4) (lv2 := [.ref 0, .int a0, .int a1, .int a2, .long x5, jk, jk, jk, jk, jk]) hX rfl rfl d_X9_again_38 ?_
          refine aw_aload_n (i := 0) hX rfl rfl d_X9_again_40 ?_
          refine ar_getF hX hF fg_RX9_24 rfl d_X9_again_41 ?_
          show AR g X 0 0 _ _ 44 _ [.ref 13]
          refine aw_iload_n (i := 1) hX rfl rfl d_X9_again_44 ?_
          obtain ⟨x6, f_930, e_930⟩ := bd_some e_929
          clear e_929
          refine aw_callV (b := 13) (av := [.int a0]) (avr := [.int a0]) hX (k_X0_emptySeats (cx_g hX) hF f_930) mi_X0_emptySeats rfl rfl w_572 w_573 w_574 (by decide) rfl (LAY_lt rfl (by decide)) rfl rfl (Nat.le_of_ble_eq_true rfl) (Nat.zero_le _) (Nat.zero_le _) d_X9_again_45 ?_
          refine aw_lstore (i := 6) (lv2 := [.ref 0, .int a0, .int a1, .int a2, .long x5, jk, .long x6, jk, jk, jk]) hX rfl rfl d_X9_again_48 ?_
          refine aw_lload (i := 4) hX rfl d_X9_again_50 ?_
          refine aw_lload (i := 6) hX rfl d_X9_again_52 ?_
          refine ar_lmin hX w_575 mth_lmin (by decide) (Nat.le_of_ble_eq_true rfl) (Nat.zero_le _) (Nat.zero_le _) d_X9_again_54 ?_
          refine aw_lstore (i := 8) (lv2 := [.ref 0, .int a0, .int a1, .int a2, .long x5, jk, .long x6, jk, .long (if x6 < x5 then x6 else x5), jk]) hX rfl rfl d_X9_again_57 ?_
          refine aw_iload_n (i := 3) hX rfl rfl d_X9_again_59 ?_
          by_cases c0 : a2 = 0
          · rw [if_pos c0] at e_930
            refine aw_tableIn (off := 28) (t := 88) hX (by rw [c0]; decide) (by rw [c0]; decide) (by rw [c0]; rfl) (by decide) d_X9_again_60 ?_
            refine aw_lload (i := 8) hX rfl d_X9_again_88 ?_
            refine aw_l2i hX d_X9_again_90 ?_
            cases e_930
            exact aw_ireturn hX (Nat.zero_le _) (Nat.zero_le _) d_X9_again_91
          rw [if_neg c0] at e_930
          by_cases c1 : a2 = 1
          · rw [if_pos c1] at e_930
            refine aw_tableIn (off := 32) (t := 92) hX (by rw [c1]; decide) (by rw [c1]; decide) (by rw [c1]; rfl) (by decide) d_X9_again_60 ?_
            refine aw_lload (i := 8) hX rfl d_X9_again_92 ?_
            refine aw_aload_n (i := 0) hX rfl rfl d_X9_again_94 ?_
            obtain ⟨t7, f_931, e_931⟩ := bd_some e_930
            clear e_930
            obtain ⟨hlt7, e_932⟩ := if_some e_931
            clear e_931
            refine ar_getR hX fg_RX9_63 rfl f_931 d_X9_again_95 ?_
            refine aw_iload_n (i := 1) hX rfl rfl d_X9_again_98 ?_
            refine aw_iconst (v := 1) hX (by decide) d_X9_again_99 ?_
            obtain ⟨x8, f_933, e_933⟩ := bd_some e_932
            clear e_932
            refine aw_callV (b := t7) (av := [.int a0, .int 1]) (avr := [.int 1, .int a0]) hX (k_X8_ofEvening (cx_g hX) hF f_933) mi_X8_ofEvening rfl rfl w_507 w_33 w_34 (by decide) (by assumption) (LAY_lt (by assumption) (by decide)) rfl rfl (Nat.le_of_ble_eq_true rfl) (Nat.zero_le _) (Nat.zero_le _) d_X9_again_100 ?_
            refine aw_iload_n (i := 2) hX rfl rfl d_X9_again_103 ?_
            refine aw_isub hX d_X9_again_104 ?_
            refine aw_i2l hX d_X9_again_105 ?_
            refine aw_lmul hX d_X9_again_106 ?_
            refine aw_ldc2 hX w_523 d_X9_again_107 ?_
            obtain ⟨x9, f_934, e_934⟩ := bd_some e_933
            clear e_933
            refine aw_callSX (av := [.long ((if x6 < x5 then x6 else x5) * ((x8 - a1).toInt64)), .long 1000]) (avr := [.long 1000, .long ((if x6 < x5 then x6 else x5) * ((x8 - a1).toInt64))]) hX (k_J9_floorDiv_f86c9 (cx_g hX) hF f_934) mi_J9_floorDiv_f86c9 rfl rfl w_578 w_579 (by decide) (Nat.le_of_ble_eq_true rfl) (Nat.zero_le _) (Nat.zero_le _) d_X9_again_110 ?_
            refine aw_l2i hX d_X9_again_113 ?_
            cases e_934
            exact aw_ireturn hX (Nat.zero_le _) (Nat.zero_le _) d_X9_again_114
          rw [if_neg c1] at e_930
          by_cases c2 : a2 = 2
          · rw [if_pos c2] at e_930
            refine aw_tableIn (off := 55) (t := 115) hX (by rw [c2]; decide) (by rw [c2]; decide) (by rw [c2]; rfl) (by decide) d_X9_again_60 ?_
            refine aw_lload (i := 4) hX rfl d_X9_again_115 ?_
            refine aw_l2i hX d_X9_again_117 ?_
            cases e_930
            exact aw_ireturn hX (Nat.zero_le _) (Nat.zero_le _) d_X9_again_118
          rw [if_neg c2] at e_930
          refine aw_tableOut (t := 119) hX (ts_out 3 (fun j hj => by match j, hj with | 0, _ => exact c0 | 1, _ => exact c1 | 2, _ => exact c2 | q + 3, hj => exact absurd hj (by omega))) (by decide) d_X9_again_60 ?_
          refine aw_lload (i := 6) hX rfl d_X9_again_119 ?_
          refine aw_l2i hX d_X9_again_121 ?_
          cases e_930
          exact aw_ireturn hX (Nat.zero_le _) (Nat.zero_le _) d_X9_again_122
        · rw [if_neg c] at e_928
          exact tj_X9_again_22 hF hX e_928 hM1 hM2
    · have e_935 := sm_inr e_927
      clear e_927
      cases e_935
      exact aw_callVX (b := 0) (av := [.int a2, .int 3]) (avr := [.int 3, .int a2]) hX (kx_X9_needWhat (cx_g hX) hF f_927) mi_X9_needWhat rfl rfl w_504 w_505 w_506 (by decide) rfl (LAY_lt rfl (by decide)) rfl rfl (Nat.le_of_ble_eq_true rfl) hM1 hM2 d_X9_again_8
  · have e_936 := sm_inr e_925
    clear e_925
    cases e_936
    exact aw_callVX (b := 0) (av := [.int a0]) (avr := [.int a0]) hX (kx_X9_needEvening (cx_g hX) hF f_925) mi_X9_needEvening rfl rfl w_500 w_501 w_502 (by decide) rfl (LAY_lt rfl (by decide)) rfl rfl (Nat.le_of_ble_eq_true rfl) hM1 hM2 d_X9_again_2
theorem k_X9_again {g : GP} (hg : g.1.stackTraces = false) (hF : gF g = true) {a0 : Int32} {a1 : Int32} {a2 : Int32} {h : AH} {z : Int32} (e : s_X9_again a0 a1 a2 h = some (.inl z)) : Ctr g yX9_again (wsY yX9_again cX9_again 10 (some .int)) 7 0 0 [.ref 0, .int a0, .int a1, .int a2] NT false h (some (.int z)) NT false h := ctr_of (lv0 := [.ref 0, .int a0, .int a1, .int a2, jk, jk, jk, jk, jk, jk]) rfl rfl (by decide) hg trivial (fun X hX hn => t_X9_again hF hX e (Nat.zero_le _) (Nat.zero_le _))
theorem kx_X9_again {g : GP} (hg : g.1.stackTraces = false) (hF : gF g = true) {a0 : Int32} {a1 : Int32} {a2 : Int32} {h : AH} {z : Nat} (e : s_X9_again a0 a1 a2 h = some (.inr z)) : CtrX g yX9_again (wsY yX9_again cX9_again 10 (some .int)) 7 [.ref 0, .int a0, .int a1, .int a2] NT h z h := ctrX_of (lv0 := [.ref 0, .int a0, .int a1, .int a2, jk, jk, jk, jk, jk, jk]) rfl rfl (by decide) hg (fun X hX => t_X9_again hF hX e (Nat.le_refl _) (Nat.le_refl _))
theorem d_X9_pair_0 : decode cX9_pair 0 = .ok (.iload_n 1, 1) := by decide +kernel
theorem d_X9_pair_1 : decode cX9_pair 1 = .ok (.ifCond .lt 10, 3) := by decide +kernel
theorem d_X9_pair_4 : decode cX9_pair 4 = .ok (.iload_n 1, 1) := by decide +kernel
theorem d_X9_pair_5 : decode cX9_pair 5 = .ok (.sipush 9999, 3) := by decide +kernel
theorem d_X9_pair_8 : decode cX9_pair 8 = .ok (.if_icmp .le 11, 3) := by decide +kernel
theorem d_X9_pair_11 : decode cX9_pair 11 = .ok (.new 83, 3) := by decide +kernel
theorem d_X9_pair_14 : decode cX9_pair 14 = .ok (.dup, 1) := by decide +kernel
theorem d_X9_pair_15 : decode cX9_pair 15 = .ok (.invokespecial 85, 3) := by decide +kernel
theorem d_X9_pair_18 : decode cX9_pair 18 = .ok (.athrow, 1) := by decide +kernel
theorem d_X9_pair_19 : decode cX9_pair 19 = .ok (.aload_n 0, 1) := by decide +kernel
theorem d_X9_pair_20 : decode cX9_pair 20 = .ok (.getfield 63, 3) := by decide +kernel
theorem d_X9_pair_23 : decode cX9_pair 23 = .ok (.getfield 116, 3) := by decide +kernel
theorem d_X9_pair_26 : decode cX9_pair 26 = .ok (.iconst 2, 1) := by decide +kernel
theorem d_X9_pair_27 : decode cX9_pair 27 = .ok (.if_icmp .ge 9, 3) := by decide +kernel
theorem d_X9_pair_30 : decode cX9_pair 30 = .ok (.ldc2_w 265, 3) := by decide +kernel
theorem d_X9_pair_33 : decode cX9_pair 33 = .ok (.goto 15, 3) := by decide +kernel
theorem d_X9_pair_36 : decode cX9_pair 36 = .ok (.aload_n 0, 1) := by decide +kernel
theorem d_X9_pair_37 : decode cX9_pair 37 = .ok (.getfield 38, 3) := by decide +kernel
theorem d_X9_pair_40 : decode cX9_pair 40 = .ok (.aload_n 0, 1) := by decide +kernel
theorem d_X9_pair_41 : decode cX9_pair 41 = .ok (.getfield 24, 3) := by decide +kernel
theorem d_X9_pair_44 : decode cX9_pair 44 = .ok (.iload_n 1, 1) := by decide +kernel
theorem d_X9_pair_45 : decode cX9_pair 45 = .ok (.invokevirtual 267, 3) := by decide +kernel
theorem d_X9_pair_48 : decode cX9_pair 48 = .ok (.lreturn, 1) := by decide +kernel
def j_X9_pair_11 (h : AH) : Option ((Int64 ⊕ Nat) × AH) := some (.inr 1, h)
theorem tj_X9_pair_11 {g : GP} {X : MX} {mcR msR : Nat} (hF : gF g = true) (hX : Cx g RX9 cX9_pair 7 mcR msR (some .long) [] X) {d0 : Value} {d1 : Value} {h hz : AH} {z : (Int64 ⊕ Nat)} (e : j_X9_pair_11 h = some (z, hz)) (hM1 : xc z ≤ mcR) (hM2 : xs z ≤ msR) : AR g X 0 0 (QQ g X NT false hz (xo_L z) (xc z) (xs z)) h 11 [d0, d1] [] := by
  unfold j_X9_pair_11 at e
  cases e
  exact ar_throw hX (thr_RX9_1) (by decide) d_X9_pair_11 d_X9_pair_14 d_X9_pair_15 d_X9_pair_18 hM1 hM2
def s_X9_pair (a0 : Int32) (h : AH) : Option ((Int64 ⊕ Nat) × AH) := if a0 < 0 then j_X9_pair_11 h else if a0 ≤ 9999 then bd (gR h 0 8) fun t1 => if LAY t1 = (0, 8) then if (2 : Int32) ≤ (gI h t1 2) then bd (s_X5_throughPairs (some 13) a0 h) fun q2 => some (.inl q2.1, q2.2) else some (.inl (-1), h) else none else j_X9_pair_11 h
theorem t_X9_pair {g : GP} {X : MX} {mcR msR : Nat} (hF : gF g = true) (hX : Cx g RX9 cX9_pair 7 mcR msR (some .long) [] X) {a0 : Int32} {h hz : AH} {z : (Int64 ⊕ Nat)} (e : s_X9_pair a0 h = some (z, hz)) (hM1 : xc z ≤ mcR) (hM2 : xs z ≤ msR) : AR g X 0 0 (QQ g X NT false hz (xo_L z) (xc z) (xs z)) h 0 [.ref 0, .int a0] [] := by
  unfold s_X9_pair at e
  refine aw_iload_n (i := 1) hX rfl rfl d_X9_pair_0 ?_
  refine aw_if_lt (t := 11) hX (by decide) d_X9_pair_1 (fun c => ?_) (fun c => ?_)
  · rw [if_pos c] at e
    exact tj_X9_pair_11 hF hX e hM1 hM2
  · rw [if_neg c] at e
    refine aw_iload_n (i := 1) hX rfl rfl d_X9_pair_4 ?_
    refine aw_sipush (v := 9999) hX (by decide) d_X9_pair_5 ?_
    refine aw_icmp_le (t := 19) hX (by decide) d_X9_pair_8 (fun c => ?_) (fun c => ?_)
    · rw [if_pos c] at e
      refine aw_aload_n (i := 0) hX rfl rfl d_X9_pair_19 ?_
      obtain ⟨t1, f_937, e_937⟩ := bd_some e
      clear e
      obtain ⟨hlt1, e_938⟩ := if_some e_937
      clear e_937
      refine ar_getR hX fg_RX9_63 rfl f_937 d_X9_pair_20 ?_
      refine ar_getI hX fg_RX9_116 (by assumption) d_X9_pair_23 ?_
      refine aw_iconst (v := 2) hX (by decide) d_X9_pair_26 ?_
      refine aw_icmp_ge (t := 36) hX (by decide) d_X9_pair_27 (fun c => ?_) (fun c => ?_)
      · rw [if_pos c] at e_938
        refine aw_aload_n (i := 0) hX rfl rfl d_X9_pair_36 ?_
        refine ar_getF hX hF fg_RX9_38 rfl d_X9_pair_37 ?_
        show AR g X 0 0 _ _ 40 _ [.ref 215]
        refine aw_aload_n (i := 0) hX rfl rfl d_X9_pair_40 ?_
        refine ar_getF hX hF fg_RX9_24 rfl d_X9_pair_41 ?_
        show AR g X 0 0 _ _ 44 _ [.ref 13, .ref 215]
        refine aw_iload_n (i := 1) hX rfl rfl d_X9_pair_44 ?_
        obtain ⟨q2, f_939, e_939⟩ := bd_some e_938
        clear e_938
        refine aw_callV (b := 215) (av := [.ref 13, .int a0]) (avr := [.int a0, .ref 13]) hX (k_X5_throughPairs (cx_g hX) hF f_939) mi_X5_throughPairs rfl rfl w_581 w_582 w_583 (by decide) rfl (LAY_lt rfl (by decide)) rfl rfl (Nat.le_of_ble_eq_true rfl) (Nat.zero_le _) (Nat.zero_le _) d_X9_pair_45 ?_
        cases e_939
        exact aw_lreturn hX (Nat.zero_le _) (Nat.zero_le _) d_X9_pair_48
      · rw [if_neg c] at e_938
        refine aw_ldc2 hX w_584 d_X9_pair_30 ?_
        refine aw_goto (t := 48) hX (by decide) d_X9_pair_33 ?_
        cases e_938
        exact aw_lreturn hX (Nat.zero_le _) (Nat.zero_le _) d_X9_pair_48
    · rw [if_neg c] at e
      exact tj_X9_pair_11 hF hX e hM1 hM2
theorem k_X9_pair {g : GP} (hg : g.1.stackTraces = false) (hF : gF g = true) {a0 : Int32} {h hz : AH} {z : Int64} (e : s_X9_pair a0 h = some (.inl z, hz)) : Ctr g yX9_pair (wsY yX9_pair cX9_pair 2 (some .long)) 7 0 0 [.ref 0, .int a0] NT false h (some (.long z)) NT false hz := ctr_of (lv0 := [.ref 0, .int a0]) rfl rfl (by decide) hg trivial (fun X hX hn => t_X9_pair hF hX e (Nat.zero_le _) (Nat.zero_le _))
theorem kx_X9_pair {g : GP} (hg : g.1.stackTraces = false) (hF : gF g = true) {a0 : Int32} {h hz : AH} {z : Nat} (e : s_X9_pair a0 h = some (.inr z, hz)) : CtrX g yX9_pair (wsY yX9_pair cX9_pair 2 (some .long)) 7 [.ref 0, .int a0] NT h z hz := ctrX_of (lv0 := [.ref 0, .int a0]) rfl rfl (by decide) hg (fun X hX => t_X9_pair hF hX e (Nat.le_refl _) (Nat.le_refl _))
theorem d_X9_paired_0 : decode cX9_paired 0 = .ok (.aload_n 0, 1) := by decide +kernel
theorem d_X9_paired_1 : decode cX9_paired 1 = .ok (.iload_n 1, 1) := by decide +kernel
theorem d_X9_paired_2 : decode cX9_paired 2 = .ok (.iconst 1, 1) := by decide +kernel
theorem d_X9_paired_3 : decode cX9_paired 3 = .ok (.invokevirtual 140, 3) := by decide +kernel
theorem d_X9_paired_6 : decode cX9_paired 6 = .ok (.aload_n 0, 1) := by decide +kernel
theorem d_X9_paired_7 : decode cX9_paired 7 = .ok (.getfield 38, 3) := by decide +kernel
theorem d_X9_paired_10 : decode cX9_paired 10 = .ok (.getfield 271, 3) := by decide +kernel
theorem d_X9_paired_13 : decode cX9_paired 13 = .ok (.ifCond .ne 11, 3) := by decide +kernel
theorem d_X9_paired_16 : decode cX9_paired 16 = .ok (.new 134, 3) := by decide +kernel
theorem d_X9_paired_19 : decode cX9_paired 19 = .ok (.dup, 1) := by decide +kernel
theorem d_X9_paired_20 : decode cX9_paired 20 = .ok (.invokespecial 136, 3) := by decide +kernel
theorem d_X9_paired_23 : decode cX9_paired 23 = .ok (.athrow, 1) := by decide +kernel
theorem d_X9_paired_24 : decode cX9_paired 24 = .ok (.iload_n 1, 1) := by decide +kernel
theorem d_X9_paired_25 : decode cX9_paired 25 = .ok (.ifCond .ne 13, 3) := by decide +kernel
theorem d_X9_paired_28 : decode cX9_paired 28 = .ok (.aload_n 0, 1) := by decide +kernel
theorem d_X9_paired_29 : decode cX9_paired 29 = .ok (.getfield 38, 3) := by decide +kernel
theorem d_X9_paired_32 : decode cX9_paired 32 = .ok (.getfield 274, 3) := by decide +kernel
theorem d_X9_paired_35 : decode cX9_paired 35 = .ok (.goto 10, 3) := by decide +kernel
theorem d_X9_paired_38 : decode cX9_paired 38 = .ok (.aload_n 0, 1) := by decide +kernel
theorem d_X9_paired_39 : decode cX9_paired 39 = .ok (.getfield 38, 3) := by decide +kernel
theorem d_X9_paired_42 : decode cX9_paired 42 = .ok (.getfield 277, 3) := by decide +kernel
theorem d_X9_paired_45 : decode cX9_paired 45 = .ok (.ireturn, 1) := by decide +kernel
def s_X9_paired (a0 : Int32) (h : AH) : Option (Int32 ⊕ Nat) := bd (s_X9_needWhat a0 1 h) fun q1 => sm q1 (fun x2 => if (gI h 215 5) = 0 then some (.inr 0) else if a0 = 0 then some (.inl (gI h 215 6)) else some (.inl (gI h 215 7))) (fun E3 => some (.inr E3))
theorem t_X9_paired {g : GP} {X : MX} {mcR msR : Nat} (hF : gF g = true) (hX : Cx g RX9 cX9_paired 7 mcR msR (some .int) [] X) {a0 : Int32} {h : AH} {z : (Int32 ⊕ Nat)} (e : s_X9_paired a0 h = some z) (hM1 : xc z ≤ mcR) (hM2 : xs z ≤ msR) : AR g X 0 0 (QQ g X NT false h (xo_I z) (xc z) (xs z)) h 0 [.ref 0, .int a0] [] := by
  unfold s_X9_paired at e
  refine aw_aload_n (i := 0) hX rfl rfl d_X9_paired_0 ?_
  refine aw_iload_n (i := 1) hX rfl rfl d_X9_paired_1 ?_
  refine aw_iconst (v := 1) hX (by decide) d_X9_paired_2 ?_
  obtain ⟨q1, f_940, e_940⟩ := bd_some e
  clear e
  rcases q1 with x2 | E3
  · have e_941 := sm_inl e_940
    clear e_940
    refine aw_callV (b := 0) (av := [.int a0, .int 1]) (avr := [.int 1, .int a0]) hX (k_X9_needWhat (cx_g hX) hF f_940) mi_X9_needWhat rfl rfl w_504 w_505 w_506 (by decide) rfl (LAY_lt rfl (by decide)) rfl rfl (Nat.le_of_ble_eq_true rfl) (Nat.zero_le _) (Nat.zero_le _) d_X9_paired_3 ?_
    refine aw_aload_n (i := 0) hX rfl rfl d_X9_paired_6 ?_
    refine ar_getF hX hF fg_RX9_38 rfl d_X9_paired_7 ?_
    show AR g X 0 0 _ _ 10 _ [.ref 215]
    refine ar_getI hX fg_RX9_271 rfl d_X9_paired_10 ?_
    refine aw_if_ne (t := 24) hX (by decide) d_X9_paired_13 (fun c => ?_) (fun c => ?_)
    · rw [if_neg c] at e_941
      refine aw_iload_n (i := 1) hX rfl rfl d_X9_paired_24 ?_
      refine aw_if_ne (t := 38) hX (by decide) d_X9_paired_25 (fun c => ?_) (fun c => ?_)
      · rw [if_neg c] at e_941
        refine aw_aload_n (i := 0) hX rfl rfl d_X9_paired_38 ?_
        refine ar_getF hX hF fg_RX9_38 rfl d_X9_paired_39 ?_
        show AR g X 0 0 _ _ 42 _ [.ref 215]
        refine ar_getI hX fg_RX9_277 rfl d_X9_paired_42 ?_
        cases e_941
        exact aw_ireturn hX (Nat.zero_le _) (Nat.zero_le _) d_X9_paired_45
      · rw [if_pos c] at e_941
        refine aw_aload_n (i := 0) hX rfl rfl d_X9_paired_28 ?_
        refine ar_getF hX hF fg_RX9_38 rfl d_X9_paired_29 ?_
        show AR g X 0 0 _ _ 32 _ [.ref 215]
        refine ar_getI hX fg_RX9_274 rfl d_X9_paired_32 ?_
        refine aw_goto (t := 45) hX (by decide) d_X9_paired_35 ?_
        cases e_941
        exact aw_ireturn hX (Nat.zero_le _) (Nat.zero_le _) d_X9_paired_45
    · rw [if_pos c] at e_941
      cases e_941
      exact ar_throw hX (thr_RX9_0) (by decide) d_X9_paired_16 d_X9_paired_19 d_X9_paired_20 d_X9_paired_23 hM1 hM2
  · have e_942 := sm_inr e_940
    clear e_940
    cases e_942
    exact aw_callVX (b := 0) (av := [.int a0, .int 1]) (avr := [.int 1, .int a0]) hX (kx_X9_needWhat (cx_g hX) hF f_940) mi_X9_needWhat rfl rfl w_504 w_505 w_506 (by decide) rfl (LAY_lt rfl (by decide)) rfl rfl (Nat.le_of_ble_eq_true rfl) hM1 hM2 d_X9_paired_3
theorem k_X9_paired {g : GP} (hg : g.1.stackTraces = false) (hF : gF g = true) {a0 : Int32} {h : AH} {z : Int32} (e : s_X9_paired a0 h = some (.inl z)) : Ctr g yX9_paired (wsY yX9_paired cX9_paired 2 (some .int)) 7 0 0 [.ref 0, .int a0] NT false h (some (.int z)) NT false h := ctr_of (lv0 := [.ref 0, .int a0]) rfl rfl (by decide) hg trivial (fun X hX hn => t_X9_paired hF hX e (Nat.zero_le _) (Nat.zero_le _))
theorem kx_X9_paired {g : GP} (hg : g.1.stackTraces = false) (hF : gF g = true) {a0 : Int32} {h : AH} {z : Nat} (e : s_X9_paired a0 h = some (.inr z)) : CtrX g yX9_paired (wsY yX9_paired cX9_paired 2 (some .int)) 7 [.ref 0, .int a0] NT h z h := ctrX_of (lv0 := [.ref 0, .int a0]) rfl rfl (by decide) hg (fun X hX => t_X9_paired hF hX e (Nat.le_refl _) (Nat.le_refl _))
theorem d_X9_years_0 : decode cX9_years 0 = .ok (.iload_n 3, 1) := by decide +kernel
theorem d_X9_years_1 : decode cX9_years 1 = .ok (.ifCond .lt 16, 3) := by decide +kernel
theorem d_X9_years_4 : decode cX9_years 4 = .ok (.iload_n 3, 1) := by decide +kernel
theorem d_X9_years_5 : decode cX9_years 5 = .ok (.iconst 2, 1) := by decide +kernel
theorem d_X9_years_6 : decode cX9_years 6 = .ok (.isub, 1) := by decide +kernel
theorem d_X9_years_7 : decode cX9_years 7 = .ok (.aload_n 0, 1) := by decide +kernel
theorem d_X9_years_8 : decode cX9_years 8 = .ok (.getfield 63, 3) := by decide +kernel
theorem d_X9_years_11 : decode cX9_years 11 = .ok (.getfield 119, 3) := by decide +kernel
theorem d_X9_years_14 : decode cX9_years 14 = .ok (.if_icmp .lt 11, 3) := by decide +kernel
theorem d_X9_years_17 : decode cX9_years 17 = .ok (.new 134, 3) := by decide +kernel
theorem d_X9_years_20 : decode cX9_years 20 = .ok (.dup, 1) := by decide +kernel
theorem d_X9_years_21 : decode cX9_years 21 = .ok (.invokespecial 136, 3) := by decide +kernel
theorem d_X9_years_24 : decode cX9_years 24 = .ok (.athrow, 1) := by decide +kernel
theorem d_X9_years_25 : decode cX9_years 25 = .ok (.iload_n 1, 1) := by decide +kernel
theorem d_X9_years_26 : decode cX9_years 26 = .ok (.iconst 1, 1) := by decide +kernel
theorem d_X9_years_27 : decode cX9_years 27 = .ok (.if_icmp .lt 20, 3) := by decide +kernel
theorem d_X9_years_30 : decode cX9_years 30 = .ok (.iload_n 1, 1) := by decide +kernel
theorem d_X9_years_31 : decode cX9_years 31 = .ok (.bipush 60, 2) := by decide +kernel
theorem d_X9_years_33 : decode cX9_years 33 = .ok (.if_icmp .gt 14, 3) := by decide +kernel
theorem d_X9_years_36 : decode cX9_years 36 = .ok (.iload_n 2, 1) := by decide +kernel
theorem d_X9_years_37 : decode cX9_years 37 = .ok (.ifCond .lt 10, 3) := by decide +kernel
theorem d_X9_years_40 : decode cX9_years 40 = .ok (.iload_n 2, 1) := by decide +kernel
theorem d_X9_years_41 : decode cX9_years 41 = .ok (.sipush 1000, 3) := by decide +kernel
theorem d_X9_years_44 : decode cX9_years 44 = .ok (.if_icmp .le 11, 3) := by decide +kernel
theorem d_X9_years_47 : decode cX9_years 47 = .ok (.new 83, 3) := by decide +kernel
theorem d_X9_years_50 : decode cX9_years 50 = .ok (.dup, 1) := by decide +kernel
theorem d_X9_years_51 : decode cX9_years 51 = .ok (.invokespecial 85, 3) := by decide +kernel
theorem d_X9_years_54 : decode cX9_years 54 = .ok (.athrow, 1) := by decide +kernel
theorem d_X9_years_55 : decode cX9_years 55 = .ok (.aload_n 0, 1) := by decide +kernel
theorem d_X9_years_56 : decode cX9_years 56 = .ok (.getfield 24, 3) := by decide +kernel
theorem d_X9_years_59 : decode cX9_years 59 = .ok (.iload_n 1, 1) := by decide +kernel
theorem d_X9_years_60 : decode cX9_years 60 = .ok (.iload_n 2, 1) := by decide +kernel
theorem d_X9_years_61 : decode cX9_years 61 = .ok (.iload_n 3, 1) := by decide +kernel
theorem d_X9_years_62 : decode cX9_years 62 = .ok (.invokevirtual 280, 3) := by decide +kernel
theorem d_X9_years_65 : decode cX9_years 65 = .ok (.lreturn, 1) := by decide +kernel
def j_X9_years_17 (h : AH) : Option ((Int64 ⊕ Nat) × AH) := some (.inr 0, h)
theorem tj_X9_years_17 {g : GP} {X : MX} {mcR msR : Nat} (hF : gF g = true) (hX : Cx g RX9 cX9_years 6 mcR msR (some .long) [] X) {d0 : Value} {d1 : Value} {d2 : Value} {d3 : Value} {h hz : AH} {z : (Int64 ⊕ Nat)} (e : j_X9_years_17 h = some (z, hz)) (hM1 : xc z ≤ mcR) (hM2 : xs z ≤ msR) : AR g X 0 0 (QQ g X NT false hz (xo_L z) (xc z) (xs z)) h 17 [d0, d1, d2, d3] [] := by
  unfold j_X9_years_17 at e
  cases e
  exact ar_throw hX (thr_RX9_0) (by decide) d_X9_years_17 d_X9_years_20 d_X9_years_21 d_X9_years_24 hM1 hM2
def j_X9_years_47 (h : AH) : Option ((Int64 ⊕ Nat) × AH) := some (.inr 1, h)
theorem tj_X9_years_47 {g : GP} {X : MX} {mcR msR : Nat} (hF : gF g = true) (hX : Cx g RX9 cX9_years 6 mcR msR (some .long) [] X) {d0 : Value} {d1 : Value} {d2 : Value} {d3 : Value} {h hz : AH} {z : (Int64 ⊕ Nat)} (e : j_X9_years_47 h = some (z, hz)) (hM1 : xc z ≤ mcR) (hM2 : xs z ≤ msR) : AR g X 0 0 (QQ g X NT false hz (xo_L z) (xc z) (xs z)) h 47 [d0, d1, d2, d3] [] := by
  unfold j_X9_years_47 at e
  cases e
  exact ar_throw hX (thr_RX9_1) (by decide) d_X9_years_47 d_X9_years_50 d_X9_years_51 d_X9_years_54 hM1 hM2
def s_X9_years (a0 : Int32) (a1 : Int32) (a2 : Int32) (h : AH) : Option ((Int64 ⊕ Nat) × AH) := if a2 < 0 then j_X9_years_17 h else bd (gR h 0 8) fun t1 => if LAY t1 = (0, 8) then if (a2 - 2) < (gI h t1 3) then if a0 < 1 then j_X9_years_47 h else if 60 < a0 then j_X9_years_47 h else if a1 < 0 then j_X9_years_47 h else if a1 ≤ 1000 then bd (s_X0_throughYears a0 a1 a2 h) fun q2 => some (.inl q2.1, q2.2) else j_X9_years_47 h else j_X9_years_17 h else none
theorem t_X9_years {g : GP} {X : MX} {mcR msR : Nat} (hF : gF g = true) (hX : Cx g RX9 cX9_years 6 mcR msR (some .long) [] X) {a0 : Int32} {a1 : Int32} {a2 : Int32} {h hz : AH} {z : (Int64 ⊕ Nat)} (e : s_X9_years a0 a1 a2 h = some (z, hz)) (hM1 : xc z ≤ mcR) (hM2 : xs z ≤ msR) : AR g X 0 0 (QQ g X NT false hz (xo_L z) (xc z) (xs z)) h 0 [.ref 0, .int a0, .int a1, .int a2] [] := by
  unfold s_X9_years at e
  refine aw_iload_n (i := 3) hX rfl rfl d_X9_years_0 ?_
  refine aw_if_lt (t := 17) hX (by decide) d_X9_years_1 (fun c => ?_) (fun c => ?_)
  · rw [if_pos c] at e
    exact tj_X9_years_17 hF hX e hM1 hM2
  · rw [if_neg c] at e
    refine aw_iload_n (i := 3) hX rfl rfl d_X9_years_4 ?_
    refine aw_iconst (v := 2) hX (by decide) d_X9_years_5 ?_
    refine aw_isub hX d_X9_years_6 ?_
    refine aw_aload_n (i := 0) hX rfl rfl d_X9_years_7 ?_
    obtain ⟨t1, f_943, e_943⟩ := bd_some e
    clear e
    obtain ⟨hlt1, e_944⟩ := if_some e_943
    clear e_943
    refine ar_getR hX fg_RX9_63 rfl f_943 d_X9_years_8 ?_
    refine ar_getI hX fg_RX9_119 (by assumption) d_X9_years_11 ?_
    refine aw_icmp_lt (t := 25) hX (by decide) d_X9_years_14 (fun c => ?_) (fun c => ?_)
    · rw [if_pos c] at e_944
      refine aw_iload_n (i := 1) hX rfl rfl d_X9_years_25 ?_
      refine aw_iconst (v := 1) hX (by decide) d_X9_years_26 ?_
      refine aw_icmp_lt (t := 47) hX (by decide) d_X9_years_27 (fun c => ?_) (fun c => ?_)
      · rw [if_pos c] at e_944
        exact tj_X9_years_47 hF hX e_944 hM1 hM2
      · rw [if_neg c] at e_944
        refine aw_iload_n (i := 1) hX rfl rfl d_X9_years_30 ?_
        refine aw_bipush (v := 60) hX (by decide) d_X9_years_31 ?_
        refine aw_icmp_gt (t := 47) hX (by decide) d_X9_years_33 (fun c => ?_) (fun c => ?_)
        · rw [if_pos c] at e_944
          exact tj_X9_years_47 hF hX e_944 hM1 hM2
        · rw [if_neg c] at e_944
          refine aw_iload_n (i := 2) hX rfl rfl d_X9_years_36 ?_
          refine aw_if_lt (t := 47) hX (by decide) d_X9_years_37 (fun c => ?_) (fun c => ?_)
          · rw [if_pos c] at e_944
            exact tj_X9_years_47 hF hX e_944 hM1 hM2
          · rw [if_neg c] at e_944
            refine aw_iload_n (i := 2) hX rfl rfl d_X9_years_40 ?_
            refine aw_sipush (v := 1000) hX (by decide) d_X9_years_41 ?_
            refine aw_icmp_le (t := 55) hX (by decide) d_X9_years_44 (fun c => ?_) (fun c => ?_)
            · rw [if_pos c] at e_944
              refine aw_aload_n (i := 0) hX rfl rfl d_X9_years_55 ?_
              refine ar_getF hX hF fg_RX9_24 rfl d_X9_years_56 ?_
              show AR g X 0 0 _ _ 59 _ [.ref 13]
              refine aw_iload_n (i := 1) hX rfl rfl d_X9_years_59 ?_
              refine aw_iload_n (i := 2) hX rfl rfl d_X9_years_60 ?_
              refine aw_iload_n (i := 3) hX rfl rfl d_X9_years_61 ?_
              obtain ⟨q2, f_945, e_945⟩ := bd_some e_944
              clear e_944
              refine aw_callV (b := 13) (av := [.int a0, .int a1, .int a2]) (avr := [.int a2, .int a1, .int a0]) hX (k_X0_throughYears (cx_g hX) hF f_945) mi_X0_throughYears rfl rfl w_589 w_590 w_591 (by decide) rfl (LAY_lt rfl (by decide)) rfl rfl (Nat.le_of_ble_eq_true rfl) (Nat.zero_le _) (Nat.zero_le _) d_X9_years_62 ?_
              cases e_945
              exact aw_lreturn hX (Nat.zero_le _) (Nat.zero_le _) d_X9_years_65
            · rw [if_neg c] at e_944
              exact tj_X9_years_47 hF hX e_944 hM1 hM2
    · rw [if_neg c] at e_944
      exact tj_X9_years_17 hF hX e_944 hM1 hM2
theorem k_X9_years {g : GP} (hg : g.1.stackTraces = false) (hF : gF g = true) {a0 : Int32} {a1 : Int32} {a2 : Int32} {h hz : AH} {z : Int64} (e : s_X9_years a0 a1 a2 h = some (.inl z, hz)) : Ctr g yX9_years (wsY yX9_years cX9_years 4 (some .long)) 6 0 0 [.ref 0, .int a0, .int a1, .int a2] NT false h (some (.long z)) NT false hz := ctr_of (lv0 := [.ref 0, .int a0, .int a1, .int a2]) rfl rfl (by decide) hg trivial (fun X hX hn => t_X9_years hF hX e (Nat.zero_le _) (Nat.zero_le _))
theorem kx_X9_years {g : GP} (hg : g.1.stackTraces = false) (hF : gF g = true) {a0 : Int32} {a1 : Int32} {a2 : Int32} {h hz : AH} {z : Nat} (e : s_X9_years a0 a1 a2 h = some (.inr z, hz)) : CtrX g yX9_years (wsY yX9_years cX9_years 4 (some .long)) 6 [.ref 0, .int a0, .int a1, .int a2] NT h z hz := ctrX_of (lv0 := [.ref 0, .int a0, .int a1, .int a2]) rfl rfl (by decide) hg (fun X hX => t_X9_years hF hX e (Nat.le_refl _) (Nat.le_refl _))
theorem d_X9_order_0 : decode cX9_order 0 = .ok (.aload_n 0, 1) := by decide +kernel
theorem d_X9_order_1 : decode cX9_order 1 = .ok (.getfield 45, 3) := by decide +kernel
theorem d_X9_order_4 : decode cX9_order 4 = .ok (.aload_n 0, 1) := by decide +kernel
theorem d_X9_order_5 : decode cX9_order 5 = .ok (.getfield 24, 3) := by decide +kernel
theorem d_X9_order_8 : decode cX9_order 8 = .ok (.aload_n 0, 1) := by decide +kernel
theorem d_X9_order_9 : decode cX9_order 9 = .ok (.getfield 63, 3) := by decide +kernel
theorem d_X9_order_12 : decode cX9_order 12 = .ok (.invokevirtual 284, 3) := by decide +kernel
theorem d_X9_order_15 : decode cX9_order 15 = .ok (.lreturn, 1) := by decide +kernel
def s_X9_order (h : AH) : Option (Int64 × AH) := bd (gR h 0 8) fun t1 => if LAY t1 = (0, 8) then bd (s_X6_arrange (some 13) (some t1) h) fun q2 => some (q2.1, q2.2) else none
theorem t_X9_order {g : GP} {X : MX} {mcR msR : Nat} (hF : gF g = true) (hX : Cx g RX9 cX9_order 5 mcR msR (some .long) [] X) {h hz : AH} {z : Int64} (e : s_X9_order h = some (z, hz)) : AR g X 0 0 (QQ g X NT false hz (.inl (some (.long z))) 0 0) h 0 [.ref 0] [] := by
  unfold s_X9_order at e
  refine aw_aload_n (i := 0) hX rfl rfl d_X9_order_0 ?_
  refine ar_getF hX hF fg_RX9_45 rfl d_X9_order_1 ?_
  show AR g X 0 0 _ _ 4 _ [.ref 220]
  refine aw_aload_n (i := 0) hX rfl rfl d_X9_order_4 ?_
  refine ar_getF hX hF fg_RX9_24 rfl d_X9_order_5 ?_
  show AR g X 0 0 _ _ 8 _ [.ref 13, .ref 220]
  refine aw_aload_n (i := 0) hX rfl rfl d_X9_order_8 ?_
  obtain ⟨t1, f_946, e_946⟩ := bd_some e
  clear e
  obtain ⟨hlt1, e_947⟩ := if_some e_946
  clear e_946
  refine ar_getR hX fg_RX9_63 rfl f_946 d_X9_order_9 ?_
  obtain ⟨q2, f_948, e_948⟩ := bd_some e_947
  clear e_947
  refine aw_callV (b := 220) (av := [.ref 13, .ref t1]) (avr := [.ref t1, .ref 13]) hX (k_X6_arrange (cx_g hX) hF f_948) mi_X6_arrange rfl rfl w_593 w_594 w_595 (by decide) rfl (LAY_lt rfl (by decide)) rfl rfl (Nat.le_of_ble_eq_true rfl) (Nat.zero_le _) (Nat.zero_le _) d_X9_order_12 ?_
  cases e_948
  exact aw_lreturn hX (Nat.zero_le _) (Nat.zero_le _) d_X9_order_15
theorem k_X9_order {g : GP} (hg : g.1.stackTraces = false) (hF : gF g = true) {h hz : AH} {z : Int64} (e : s_X9_order h = some (z, hz)) : Ctr g yX9_order (wsY yX9_order cX9_order 1 (some .long)) 5 0 0 [.ref 0] NT false h (some (.long z)) NT false hz := ctr_of (lv0 := [.ref 0]) rfl rfl (by decide) hg trivial (fun X hX hn => t_X9_order hF hX e)
theorem d_X9_ordered_0 : decode cX9_ordered 0 = .ok (.aload_n 0, 1) := by decide +kernel
theorem d_X9_ordered_1 : decode cX9_ordered 1 = .ok (.getfield 45, 3) := by decide +kernel
theorem d_X9_ordered_4 : decode cX9_ordered 4 = .ok (.getfield 288, 3) := by decide +kernel
theorem d_X9_ordered_7 : decode cX9_ordered 7 = .ok (.ifCond .eq 18, 3) := by decide +kernel
theorem d_X9_ordered_10 : decode cX9_ordered 10 = .ok (.iload_n 1, 1) := by decide +kernel
theorem d_X9_ordered_11 : decode cX9_ordered 11 = .ok (.ifCond .lt 14, 3) := by decide +kernel
theorem d_X9_ordered_14 : decode cX9_ordered 14 = .ok (.iload_n 1, 1) := by decide +kernel
theorem d_X9_ordered_15 : decode cX9_ordered 15 = .ok (.aload_n 0, 1) := by decide +kernel
theorem d_X9_ordered_16 : decode cX9_ordered 16 = .ok (.getfield 45, 3) := by decide +kernel
theorem d_X9_ordered_19 : decode cX9_ordered 19 = .ok (.getfield 289, 3) := by decide +kernel
theorem d_X9_ordered_22 : decode cX9_ordered 22 = .ok (.if_icmp .lt 11, 3) := by decide +kernel
theorem d_X9_ordered_25 : decode cX9_ordered 25 = .ok (.new 134, 3) := by decide +kernel
theorem d_X9_ordered_28 : decode cX9_ordered 28 = .ok (.dup, 1) := by decide +kernel
theorem d_X9_ordered_29 : decode cX9_ordered 29 = .ok (.invokespecial 136, 3) := by decide +kernel
theorem d_X9_ordered_32 : decode cX9_ordered 32 = .ok (.athrow, 1) := by decide +kernel
theorem d_X9_ordered_33 : decode cX9_ordered 33 = .ok (.aload_n 0, 1) := by decide +kernel
theorem d_X9_ordered_34 : decode cX9_ordered 34 = .ok (.getfield 45, 3) := by decide +kernel
theorem d_X9_ordered_37 : decode cX9_ordered 37 = .ok (.getfield 290, 3) := by decide +kernel
theorem d_X9_ordered_40 : decode cX9_ordered 40 = .ok (.iload_n 1, 1) := by decide +kernel
theorem d_X9_ordered_41 : decode cX9_ordered 41 = .ok (.invokestatic 148, 3) := by decide +kernel
theorem d_X9_ordered_44 : decode cX9_ordered 44 = .ok (.ireturn, 1) := by decide +kernel
def j_X9_ordered_25 (h : AH) : Option (Int32 ⊕ Nat) := some (.inr 0)
theorem tj_X9_ordered_25 {g : GP} {X : MX} {mcR msR : Nat} (hF : gF g = true) (hX : Cx g RX9 cX9_ordered 6 mcR msR (some .int) [] X) {d0 : Value} {d1 : Value} {h : AH} {z : (Int32 ⊕ Nat)} (e : j_X9_ordered_25 h = some z) (hM1 : xc z ≤ mcR) (hM2 : xs z ≤ msR) : AR g X 0 0 (QQ g X NT false h (xo_I z) (xc z) (xs z)) h 25 [d0, d1] [] := by
  unfold j_X9_ordered_25 at e
  cases e
  exact ar_throw hX (thr_RX9_0) (by decide) d_X9_ordered_25 d_X9_ordered_28 d_X9_ordered_29 d_X9_ordered_32 hM1 hM2
def s_X9_ordered (a0 : Int32) (h : AH) : Option (Int32 ⊕ Nat) := if (gI h 220 0) = 0 then j_X9_ordered_25 h else if a0 < 0 then j_X9_ordered_25 h else if a0 < (gI h 220 1) then bd (s_X9_at (some 221) a0 h) fun x1 => some (.inl x1) else j_X9_ordered_25 h
theorem t_X9_ordered {g : GP} {X : MX} {mcR msR : Nat} (hF : gF g = true) (hX : Cx g RX9 cX9_ordered 6 mcR msR (some .int) [] X) {a0 : Int32} {h : AH} {z : (Int32 ⊕ Nat)} (e : s_X9_ordered a0 h = some z) (hM1 : xc z ≤ mcR) (hM2 : xs z ≤ msR) : AR g X 0 0 (QQ g X NT false h (xo_I z) (xc z) (xs z)) h 0 [.ref 0, .int a0] [] := by
  unfold s_X9_ordered at e
  refine aw_aload_n (i := 0) hX rfl rfl d_X9_ordered_0 ?_
  refine ar_getF hX hF fg_RX9_45 rfl d_X9_ordered_1 ?_
  show AR g X 0 0 _ _ 4 _ [.ref 220]
  refine ar_getI hX fg_RX9_288 rfl d_X9_ordered_4 ?_
  refine aw_if_eq (t := 25) hX (by decide) d_X9_ordered_7 (fun c => ?_) (fun c => ?_)
  · rw [if_pos c] at e
    exact tj_X9_ordered_25 hF hX e hM1 hM2
  · rw [if_neg c] at e
    refine aw_iload_n (i := 1) hX rfl rfl d_X9_ordered_10 ?_
    refine aw_if_lt (t := 25) hX (by decide) d_X9_ordered_11 (fun c => ?_) (fun c => ?_)
    · rw [if_pos c] at e
      exact tj_X9_ordered_25 hF hX e hM1 hM2
    · rw [if_neg c] at e
      refine aw_iload_n (i := 1) hX rfl rfl d_X9_ordered_14 ?_
      refine aw_aload_n (i := 0) hX rfl rfl d_X9_ordered_15 ?_
      refine ar_getF hX hF fg_RX9_45 rfl d_X9_ordered_16 ?_
      show AR g X 0 0 _ _ 19 _ [.ref 220, .int a0]
      refine ar_getI hX fg_RX9_289 rfl d_X9_ordered_19 ?_
      refine aw_icmp_lt (t := 33) hX (by decide) d_X9_ordered_22 (fun c => ?_) (fun c => ?_)
      · rw [if_pos c] at e
        refine aw_aload_n (i := 0) hX rfl rfl d_X9_ordered_33 ?_
        refine ar_getF hX hF fg_RX9_45 rfl d_X9_ordered_34 ?_
        show AR g X 0 0 _ _ 37 _ [.ref 220]
        refine ar_getF hX hF fg_RX9_290 rfl d_X9_ordered_37 ?_
        show AR g X 0 0 _ _ 40 _ [.ref 221]
        refine aw_iload_n (i := 1) hX rfl rfl d_X9_ordered_40 ?_
        obtain ⟨x1, f_949, e_949⟩ := bd_some e
        clear e
        refine aw_callS (av := [.ref 221, .int a0]) (avr := [.int a0, .ref 221]) hX (k_X9_at (cx_g hX) hF f_949) mi_X9_at rfl rfl w_509 w_6 rfl (by decide) (Nat.le_of_ble_eq_true rfl) (Nat.zero_le _) (Nat.zero_le _) d_X9_ordered_41 ?_
        cases e_949
        exact aw_ireturn hX (Nat.zero_le _) (Nat.zero_le _) d_X9_ordered_44
      · rw [if_neg c] at e
        exact tj_X9_ordered_25 hF hX e hM1 hM2
theorem k_X9_ordered {g : GP} (hg : g.1.stackTraces = false) (hF : gF g = true) {a0 : Int32} {h : AH} {z : Int32} (e : s_X9_ordered a0 h = some (.inl z)) : Ctr g yX9_ordered (wsY yX9_ordered cX9_ordered 2 (some .int)) 6 0 0 [.ref 0, .int a0] NT false h (some (.int z)) NT false h := ctr_of (lv0 := [.ref 0, .int a0]) rfl rfl (by decide) hg trivial (fun X hX hn => t_X9_ordered hF hX e (Nat.zero_le _) (Nat.zero_le _))
theorem kx_X9_ordered {g : GP} (hg : g.1.stackTraces = false) (hF : gF g = true) {a0 : Int32} {h : AH} {z : Nat} (e : s_X9_ordered a0 h = some (.inr z)) : CtrX g yX9_ordered (wsY yX9_ordered cX9_ordered 2 (some .int)) 6 [.ref 0, .int a0] NT h z h := ctrX_of (lv0 := [.ref 0, .int a0]) rfl rfl (by decide) hg (fun X hX => t_X9_ordered hF hX e (Nat.le_refl _) (Nat.le_refl _))
theorem d_X9_owed_0 : decode cX9_owed 0 = .ok (.aload_n 0, 1) := by decide +kernel
theorem d_X9_owed_1 : decode cX9_owed 1 = .ok (.iload_n 1, 1) := by decide +kernel
theorem d_X9_owed_2 : decode cX9_owed 2 = .ok (.invokevirtual 156, 3) := by decide +kernel
theorem d_X9_owed_5 : decode cX9_owed 5 = .ok (.aload_n 0, 1) := by decide +kernel
theorem d_X9_owed_6 : decode cX9_owed 6 = .ok (.iload_n 2, 1) := by decide +kernel
theorem d_X9_owed_7 : decode cX9_owed 7 = .ok (.invokevirtual 137, 3) := by decide +kernel
theorem d_X9_owed_10 : decode cX9_owed 10 = .ok (.aload_n 0, 1) := by decide +kernel
theorem d_X9_owed_11 : decode cX9_owed 11 = .ok (.getfield 24, 3) := by decide +kernel
theorem d_X9_owed_14 : decode cX9_owed 14 = .ok (.iload_n 1, 1) := by decide +kernel
theorem d_X9_owed_15 : decode cX9_owed 15 = .ok (.iload_n 2, 1) := by decide +kernel
theorem d_X9_owed_16 : decode cX9_owed 16 = .ok (.invokevirtual 292, 3) := by decide +kernel
theorem d_X9_owed_19 : decode cX9_owed 19 = .ok (.l2i, 1) := by decide +kernel
theorem d_X9_owed_20 : decode cX9_owed 20 = .ok (.ireturn, 1) := by decide +kernel
def s_X9_owed (a0 : Int32) (a1 : Int32) (h : AH) : Option (Int32 ⊕ Nat) := bd (s_X9_needKind a0 h) fun q1 => sm q1 (fun x2 => bd (s_X9_needEvening a1 h) fun q3 => sm q3 (fun x4 => bd (s_X0_owing a0 a1 h) fun x5 => some (.inl x5.toInt32)) (fun E6 => some (.inr E6))) (fun E7 => some (.inr E7))
theorem t_X9_owed {g : GP} {X : MX} {mcR msR : Nat} (hF : gF g = true) (hX : Cx g RX9 cX9_owed 7 mcR msR (some .int) [] X) {a0 : Int32} {a1 : Int32} {h : AH} {z : (Int32 ⊕ Nat)} (e : s_X9_owed a0 a1 h = some z) (hM1 : xc z ≤ mcR) (hM2 : xs z ≤ msR) : AR g X 0 0 (QQ g X NT false h (xo_I z) (xc z) (xs z)) h 0 [.ref 0, .int a0, .int a1] [] := by
  unfold s_X9_owed at e
  refine aw_aload_n (i := 0) hX rfl rfl d_X9_owed_0 ?_
  refine aw_iload_n (i := 1) hX rfl rfl d_X9_owed_1 ?_
  obtain ⟨q1, f_950, e_950⟩ := bd_some e
  clear e
  rcases q1 with x2 | E7
  · have e_951 := sm_inl e_950
    clear e_950
    refine aw_callV (b := 0) (av := [.int a0]) (avr := [.int a0]) hX (k_X9_needKind (cx_g hX) hF f_950) mi_X9_needKind rfl rfl w_511 w_512 w_513 (by decide) rfl (LAY_lt rfl (by decide)) rfl rfl (Nat.le_of_ble_eq_true rfl) (Nat.zero_le _) (Nat.zero_le _) d_X9_owed_2 ?_
    refine aw_aload_n (i := 0) hX rfl rfl d_X9_owed_5 ?_
    refine aw_iload_n (i := 2) hX rfl rfl d_X9_owed_6 ?_
    obtain ⟨q3, f_952, e_952⟩ := bd_some e_951
    clear e_951
    rcases q3 with x4 | E6
    · have e_953 := sm_inl e_952
      clear e_952
      refine aw_callV (b := 0) (av := [.int a1]) (avr := [.int a1]) hX (k_X9_needEvening (cx_g hX) hF f_952) mi_X9_needEvening rfl rfl w_500 w_501 w_502 (by decide) rfl (LAY_lt rfl (by decide)) rfl rfl (Nat.le_of_ble_eq_true rfl) (Nat.zero_le _) (Nat.zero_le _) d_X9_owed_7 ?_
      refine aw_aload_n (i := 0) hX rfl rfl d_X9_owed_10 ?_
      refine ar_getF hX hF fg_RX9_24 rfl d_X9_owed_11 ?_
      show AR g X 0 0 _ _ 14 _ [.ref 13]
      refine aw_iload_n (i := 1) hX rfl rfl d_X9_owed_14 ?_
      refine aw_iload_n (i := 2) hX rfl rfl d_X9_owed_15 ?_
      obtain ⟨x5, f_954, e_954⟩ := bd_some e_953
      clear e_953
      refine aw_callV (b := 13) (av := [.int a0, .int a1]) (avr := [.int a1, .int a0]) hX (k_X0_owing (cx_g hX) hF f_954) mi_X0_owing rfl rfl w_600 w_601 w_602 (by decide) rfl (LAY_lt rfl (by decide)) rfl rfl (Nat.le_of_ble_eq_true rfl) (Nat.zero_le _) (Nat.zero_le _) d_X9_owed_16 ?_
      refine aw_l2i hX d_X9_owed_19 ?_
      cases e_954
      exact aw_ireturn hX (Nat.zero_le _) (Nat.zero_le _) d_X9_owed_20
    · have e_955 := sm_inr e_952
      clear e_952
      cases e_955
      exact aw_callVX (b := 0) (av := [.int a1]) (avr := [.int a1]) hX (kx_X9_needEvening (cx_g hX) hF f_952) mi_X9_needEvening rfl rfl w_500 w_501 w_502 (by decide) rfl (LAY_lt rfl (by decide)) rfl rfl (Nat.le_of_ble_eq_true rfl) hM1 hM2 d_X9_owed_7
  · have e_956 := sm_inr e_950
    clear e_950
    cases e_956
    exact aw_callVX (b := 0) (av := [.int a0]) (avr := [.int a0]) hX (kx_X9_needKind (cx_g hX) hF f_950) mi_X9_needKind rfl rfl w_511 w_512 w_513 (by decide) rfl (LAY_lt rfl (by decide)) rfl rfl (Nat.le_of_ble_eq_true rfl) hM1 hM2 d_X9_owed_2
theorem k_X9_owed {g : GP} (hg : g.1.stackTraces = false) (hF : gF g = true) {a0 : Int32} {a1 : Int32} {h : AH} {z : Int32} (e : s_X9_owed a0 a1 h = some (.inl z)) : Ctr g yX9_owed (wsY yX9_owed cX9_owed 3 (some .int)) 7 0 0 [.ref 0, .int a0, .int a1] NT false h (some (.int z)) NT false h := ctr_of (lv0 := [.ref 0, .int a0, .int a1]) rfl rfl (by decide) hg trivial (fun X hX hn => t_X9_owed hF hX e (Nat.zero_le _) (Nat.zero_le _))
theorem kx_X9_owed {g : GP} (hg : g.1.stackTraces = false) (hF : gF g = true) {a0 : Int32} {a1 : Int32} {h : AH} {z : Nat} (e : s_X9_owed a0 a1 h = some (.inr z)) : CtrX g yX9_owed (wsY yX9_owed cX9_owed 3 (some .int)) 7 [.ref 0, .int a0, .int a1] NT h z h := ctrX_of (lv0 := [.ref 0, .int a0, .int a1]) rfl rfl (by decide) hg (fun X hX => t_X9_owed hF hX e (Nat.le_refl _) (Nat.le_refl _))
theorem d_X9_begin_0 : decode cX9_begin 0 = .ok (.aload_n 0, 1) := by decide +kernel
theorem d_X9_begin_1 : decode cX9_begin 1 = .ok (.getfield 52, 3) := by decide +kernel
theorem d_X9_begin_4 : decode cX9_begin 4 = .ok (.iload_n 1, 1) := by decide +kernel
theorem d_X9_begin_5 : decode cX9_begin 5 = .ok (.invokevirtual 296, 3) := by decide +kernel
theorem d_X9_begin_8 : decode cX9_begin 8 = .ok (.return_, 1) := by decide +kernel
def s_X9_begin (a0 : Int32) (h : AH) : Option (Unit × AH) := bd (s_X4_start 224 a0 h) fun q1 => some ((), q1.2)
theorem t_X9_begin {g : GP} {X : MX} {mcR msR : Nat} (hF : gF g = true) (hX : Cx g RX9 cX9_begin 3 mcR msR none [] X) {a0 : Int32} {h hz : AH} {z : Unit} (e : s_X9_begin a0 h = some (z, hz)) : AR g X 0 0 (QQ g X NT false hz (.inl none) 0 0) h 0 [.ref 0, .int a0] [] := by
  unfold s_X9_begin at e
  refine aw_aload_n (i := 0) hX rfl rfl d_X9_begin_0 ?_
  refine ar_getF hX hF fg_RX9_52 rfl d_X9_begin_1 ?_
  show AR g X 0 0 _ _ 4 _ [.ref 224]
  refine aw_iload_n (i := 1) hX rfl rfl d_X9_begin_4 ?_
  obtain ⟨q1, f_957, e_957⟩ := bd_some e
  clear e
  refine aw_callV (b := 224) (av := [.int a0]) (avr := [.int a0]) hX (k_X4_start (cx_g hX) hF f_957) mi_X4_start rfl rfl w_604 w_605 w_606 (by decide) rfl (LAY_lt rfl (by decide)) rfl rfl (Nat.le_of_ble_eq_true rfl) (Nat.zero_le _) (Nat.zero_le _) d_X9_begin_5 ?_
  cases e_957
  exact aw_return hX (Nat.zero_le _) (Nat.zero_le _) d_X9_begin_8
theorem k_X9_begin {g : GP} (hg : g.1.stackTraces = false) (hF : gF g = true) {a0 : Int32} {h hz : AH} {z : Unit} (e : s_X9_begin a0 h = some (z, hz)) : Ctr g yX9_begin (wsY yX9_begin cX9_begin 2 none) 3 0 0 [.ref 0, .int a0] NT false h none NT false hz := ctr_of (lv0 := [.ref 0, .int a0]) rfl rfl (by decide) hg trivial (fun X hX hn => t_X9_begin hF hX e)
theorem d_X9_on_0 : decode cX9_on 0 = .ok (.iload_n 1, 1) := by decide +kernel
theorem d_X9_on_1 : decode cX9_on 1 = .ok (.ifCond .lt 9, 3) := by decide +kernel
theorem d_X9_on_4 : decode cX9_on 4 = .ok (.iload_n 1, 1) := by decide +kernel
theorem d_X9_on_5 : decode cX9_on 5 = .ok (.bipush 16, 2) := by decide +kernel
theorem d_X9_on_7 : decode cX9_on 7 = .ok (.if_icmp .le 11, 3) := by decide +kernel
theorem d_X9_on_10 : decode cX9_on 10 = .ok (.new 83, 3) := by decide +kernel
theorem d_X9_on_13 : decode cX9_on 13 = .ok (.dup, 1) := by decide +kernel
theorem d_X9_on_14 : decode cX9_on 14 = .ok (.invokespecial 85, 3) := by decide +kernel
theorem d_X9_on_17 : decode cX9_on 17 = .ok (.athrow, 1) := by decide +kernel
theorem d_X9_on_18 : decode cX9_on 18 = .ok (.aload_n 0, 1) := by decide +kernel
theorem d_X9_on_19 : decode cX9_on 19 = .ok (.getfield 52, 3) := by decide +kernel
theorem d_X9_on_22 : decode cX9_on 22 = .ok (.getfield 106, 3) := by decide +kernel
theorem d_X9_on_25 : decode cX9_on 25 = .ok (.ifCond .eq 22, 3) := by decide +kernel
theorem d_X9_on_28 : decode cX9_on 28 = .ok (.aload_n 0, 1) := by decide +kernel
theorem d_X9_on_29 : decode cX9_on 29 = .ok (.getfield 52, 3) := by decide +kernel
theorem d_X9_on_32 : decode cX9_on 32 = .ok (.getfield 299, 3) := by decide +kernel
theorem d_X9_on_35 : decode cX9_on 35 = .ok (.iload_n 1, 1) := by decide +kernel
theorem d_X9_on_36 : decode cX9_on 36 = .ok (.iadd, 1) := by decide +kernel
theorem d_X9_on_37 : decode cX9_on 37 = .ok (.aload_n 0, 1) := by decide +kernel
theorem d_X9_on_38 : decode cX9_on 38 = .ok (.getfield 63, 3) := by decide +kernel
theorem d_X9_on_41 : decode cX9_on 41 = .ok (.getfield 116, 3) := by decide +kernel
theorem d_X9_on_44 : decode cX9_on 44 = .ok (.if_icmp .le 15, 3) := by decide +kernel
theorem d_X9_on_47 : decode cX9_on 47 = .ok (.aload_n 0, 1) := by decide +kernel
theorem d_X9_on_48 : decode cX9_on 48 = .ok (.dup, 1) := by decide +kernel
theorem d_X9_on_49 : decode cX9_on 49 = .ok (.getfield 131, 3) := by decide +kernel
theorem d_X9_on_52 : decode cX9_on 52 = .ok (.iconst 1, 1) := by decide +kernel
theorem d_X9_on_53 : decode cX9_on 53 = .ok (.iadd, 1) := by decide +kernel
theorem d_X9_on_54 : decode cX9_on 54 = .ok (.putfield 131, 3) := by decide +kernel
theorem d_X9_on_57 : decode cX9_on 57 = .ok (.iconst (-1), 1) := by decide +kernel
theorem d_X9_on_58 : decode cX9_on 58 = .ok (.ireturn, 1) := by decide +kernel
theorem d_X9_on_59 : decode cX9_on 59 = .ok (.aload_n 0, 1) := by decide +kernel
theorem d_X9_on_60 : decode cX9_on 60 = .ok (.getfield 52, 3) := by decide +kernel
theorem d_X9_on_63 : decode cX9_on 63 = .ok (.aload_n 0, 1) := by decide +kernel
theorem d_X9_on_64 : decode cX9_on 64 = .ok (.getfield 24, 3) := by decide +kernel
theorem d_X9_on_67 : decode cX9_on 67 = .ok (.aload_n 0, 1) := by decide +kernel
theorem d_X9_on_68 : decode cX9_on 68 = .ok (.getfield 63, 3) := by decide +kernel
theorem d_X9_on_71 : decode cX9_on 71 = .ok (.iload_n 1, 1) := by decide +kernel
theorem d_X9_on_72 : decode cX9_on 72 = .ok (.invokevirtual 302, 3) := by decide +kernel
theorem d_X9_on_75 : decode cX9_on 75 = .ok (.aload_n 0, 1) := by decide +kernel
theorem d_X9_on_76 : decode cX9_on 76 = .ok (.getfield 52, 3) := by decide +kernel
theorem d_X9_on_79 : decode cX9_on 79 = .ok (.getfield 299, 3) := by decide +kernel
theorem d_X9_on_82 : decode cX9_on 82 = .ok (.ireturn, 1) := by decide +kernel
def j_X9_on_10 (h : AH) : Option ((Int32 ⊕ Nat) × AH) := some (.inr 1, h)
theorem tj_X9_on_10 {g : GP} {X : MX} {mcR msR : Nat} (hF : gF g = true) (hX : Cx g RX9 cX9_on 6 mcR msR (some .int) [] X) {d0 : Value} {d1 : Value} {h hz : AH} {z : (Int32 ⊕ Nat)} (e : j_X9_on_10 h = some (z, hz)) (hM1 : xc z ≤ mcR) (hM2 : xs z ≤ msR) : AR g X 0 0 (QQ g X NT false hz (xo_I z) (xc z) (xs z)) h 10 [d0, d1] [] := by
  unfold j_X9_on_10 at e
  cases e
  exact ar_throw hX (thr_RX9_1) (by decide) d_X9_on_10 d_X9_on_13 d_X9_on_14 d_X9_on_17 hM1 hM2
def j_X9_on_47 (h : AH) : Option ((Int32 ⊕ Nat) × AH) := some (.inl (-1), sI h 0 12 ((gI h 0 12) + 1))
theorem tj_X9_on_47 {g : GP} {X : MX} {mcR msR : Nat} (hF : gF g = true) (hX : Cx g RX9 cX9_on 6 mcR msR (some .int) [] X) {d1 : Value} {h hz : AH} {z : (Int32 ⊕ Nat)} (e : j_X9_on_47 h = some (z, hz)) (hM1 : xc z ≤ mcR) (hM2 : xs z ≤ msR) : AR g X 0 0 (QQ g X NT false hz (xo_I z) (xc z) (xs z)) h 47 [.ref 0, d1] [] := by
  unfold j_X9_on_47 at e
  refine aw_aload_n (i := 0) hX rfl rfl d_X9_on_47 ?_
  refine aw_dup hX rfl d_X9_on_48 ?_
  refine ar_getI hX fg_RX9_131 rfl d_X9_on_49 ?_
  refine aw_iconst (v := 1) hX (by decide) d_X9_on_52 ?_
  refine aw_iadd hX d_X9_on_53 ?_
  refine ar_putI hX fp_RX9_131 rfl d_X9_on_54 ?_
  refine aw_iconst (v := (-1)) hX (by decide) d_X9_on_57 ?_
  cases e
  exact aw_ireturn hX (Nat.zero_le _) (Nat.zero_le _) d_X9_on_58
def s_X9_on (a0 : Int32) (h : AH) : Option ((Int32 ⊕ Nat) × AH) := if a0 < 0 then j_X9_on_10 h else if a0 ≤ 16 then if (gI h 224 0) = 0 then j_X9_on_47 h else bd (gR h 0 8) fun t1 => if LAY t1 = (0, 8) then if ((gI h 224 1) + a0) ≤ (gI h t1 2) then bd (gR h 0 8) fun t2 => if LAY t2 = (0, 8) then bd (s_X4_goOn 224 (some 13) (some t2) a0 h) fun q3 => some (.inl (gI q3.2 224 1), q3.2) else none else j_X9_on_47 h else none else j_X9_on_10 h
theorem t_X9_on {g : GP} {X : MX} {mcR msR : Nat} (hF : gF g = true) (hX : Cx g RX9 cX9_on 6 mcR msR (some .int) [] X) {a0 : Int32} {h hz : AH} {z : (Int32 ⊕ Nat)} (e : s_X9_on a0 h = some (z, hz)) (hM1 : xc z ≤ mcR) (hM2 : xs z ≤ msR) : AR g X 0 0 (QQ g X NT false hz (xo_I z) (xc z) (xs z)) h 0 [.ref 0, .int a0] [] := by
  unfold s_X9_on at e
  refine aw_iload_n (i := 1) hX rfl rfl d_X9_on_0 ?_
  refine aw_if_lt (t := 10) hX (by decide) d_X9_on_1 (fun c => ?_) (fun c => ?_)
  · rw [if_pos c] at e
    exact tj_X9_on_10 hF hX e hM1 hM2
  · rw [if_neg c] at e
    refine aw_iload_n (i := 1) hX rfl rfl d_X9_on_4 ?_
    refine aw_bipush (v := 16) hX (by decide) d_X9_on_5 ?_
    refine aw_icmp_le (t := 18) hX (by decide) d_X9_on_7 (fun c => ?_) (fun c => ?_)
    · rw [if_pos c] at e
      refine aw_aload_n (i := 0) hX rfl rfl d_X9_on_18 ?_
      refine ar_getF hX hF fg_RX9_52 rfl d_X9_on_19 ?_
      show AR g X 0 0 _ _ 22 _ [.ref 224]
      refine ar_getI hX fg_RX9_106 rfl d_X9_on_22 ?_
      refine aw_if_eq (t := 47) hX (by decide) d_X9_on_25 (fun c => ?_) (fun c => ?_)
      · rw [if_pos c] at e
        exact tj_X9_on_47 hF hX e hM1 hM2
      · rw [if_neg c] at e
        refine aw_aload_n (i := 0) hX rfl rfl d_X9_on_28 ?_
        refine ar_getF hX hF fg_RX9_52 rfl d_X9_on_29 ?_
        show AR g X 0 0 _ _ 32 _ [.ref 224]
        refine ar_getI hX fg_RX9_299 rfl d_X9_on_32 ?_
        refine aw_iload_n (i := 1) hX rfl rfl d_X9_on_35 ?_
        refine aw_iadd hX d_X9_on_36 ?_
        refine aw_aload_n (i := 0) hX rfl rfl d_X9_on_37 ?_
        obtain ⟨t1, f_958, e_958⟩ := bd_some e
        clear e
        obtain ⟨hlt1, e_959⟩ := if_some e_958
        clear e_958
        refine ar_getR hX fg_RX9_63 rfl f_958 d_X9_on_38 ?_
        refine ar_getI hX fg_RX9_116 (by assumption) d_X9_on_41 ?_
        refine aw_icmp_le (t := 59) hX (by decide) d_X9_on_44 (fun c => ?_) (fun c => ?_)
        · rw [if_pos c] at e_959
          refine aw_aload_n (i := 0) hX rfl rfl d_X9_on_59 ?_
          refine ar_getF hX hF fg_RX9_52 rfl d_X9_on_60 ?_
          show AR g X 0 0 _ _ 63 _ [.ref 224]
          refine aw_aload_n (i := 0) hX rfl rfl d_X9_on_63 ?_
          refine ar_getF hX hF fg_RX9_24 rfl d_X9_on_64 ?_
          show AR g X 0 0 _ _ 67 _ [.ref 13, .ref 224]
          refine aw_aload_n (i := 0) hX rfl rfl d_X9_on_67 ?_
          obtain ⟨t2, f_960, e_960⟩ := bd_some e_959
          clear e_959
          obtain ⟨hlt2, e_961⟩ := if_some e_960
          clear e_960
          refine ar_getR hX fg_RX9_63 rfl f_960 d_X9_on_68 ?_
          refine aw_iload_n (i := 1) hX rfl rfl d_X9_on_71 ?_
          obtain ⟨q3, f_962, e_962⟩ := bd_some e_961
          clear e_961
          refine aw_callV (b := 224) (av := [.ref 13, .ref t2, .int a0]) (avr := [.int a0, .ref t2, .ref 13]) hX (k_X4_goOn (cx_g hX) hF f_962) mi_X4_goOn rfl rfl w_609 w_610 w_611 (by decide) rfl (LAY_lt rfl (by decide)) rfl rfl (Nat.le_of_ble_eq_true rfl) (Nat.zero_le _) (Nat.zero_le _) d_X9_on_72 ?_
          refine aw_aload_n (i := 0) hX rfl rfl d_X9_on_75 ?_
          refine ar_getF hX hF fg_RX9_52 rfl d_X9_on_76 ?_
          show AR g X 0 0 _ _ 79 _ [.ref 224]
          refine ar_getI hX fg_RX9_299 rfl d_X9_on_79 ?_
          cases e_962
          exact aw_ireturn hX (Nat.zero_le _) (Nat.zero_le _) d_X9_on_82
        · rw [if_neg c] at e_959
          exact tj_X9_on_47 hF hX e_959 hM1 hM2
    · rw [if_neg c] at e
      exact tj_X9_on_10 hF hX e hM1 hM2
theorem k_X9_on {g : GP} (hg : g.1.stackTraces = false) (hF : gF g = true) {a0 : Int32} {h hz : AH} {z : Int32} (e : s_X9_on a0 h = some (.inl z, hz)) : Ctr g yX9_on (wsY yX9_on cX9_on 2 (some .int)) 6 0 0 [.ref 0, .int a0] NT false h (some (.int z)) NT false hz := ctr_of (lv0 := [.ref 0, .int a0]) rfl rfl (by decide) hg trivial (fun X hX hn => t_X9_on hF hX e (Nat.zero_le _) (Nat.zero_le _))
theorem kx_X9_on {g : GP} (hg : g.1.stackTraces = false) (hF : gF g = true) {a0 : Int32} {h hz : AH} {z : Nat} (e : s_X9_on a0 h = some (.inr z, hz)) : CtrX g yX9_on (wsY yX9_on cX9_on 2 (some .int)) 6 [.ref 0, .int a0] NT h z hz := ctrX_of (lv0 := [.ref 0, .int a0]) rfl rfl (by decide) hg (fun X hX => t_X9_on hF hX e (Nat.le_refl _) (Nat.le_refl _))
theorem d_X9_seen_0 : decode cX9_seen 0 = .ok (.aload_n 0, 1) := by decide +kernel
theorem d_X9_seen_1 : decode cX9_seen 1 = .ok (.iload_n 1, 1) := by decide +kernel
theorem d_X9_seen_2 : decode cX9_seen 2 = .ok (.invokevirtual 137, 3) := by decide +kernel
theorem d_X9_seen_5 : decode cX9_seen 5 = .ok (.iload_n 2, 1) := by decide +kernel
theorem d_X9_seen_6 : decode cX9_seen 6 = .ok (.ifCond .lt 37, 3) := by decide +kernel
theorem d_X9_seen_9 : decode cX9_seen 9 = .ok (.iload_n 2, 1) := by decide +kernel
theorem d_X9_seen_10 : decode cX9_seen 10 = .ok (.iconst 4, 1) := by decide +kernel
theorem d_X9_seen_11 : decode cX9_seen 11 = .ok (.isub, 1) := by decide +kernel
theorem d_X9_seen_12 : decode cX9_seen 12 = .ok (.aload_n 0, 1) := by decide +kernel
theorem d_X9_seen_13 : decode cX9_seen 13 = .ok (.getfield 63, 3) := by decide +kernel
theorem d_X9_seen_16 : decode cX9_seen 16 = .ok (.getfield 119, 3) := by decide +kernel
theorem d_X9_seen_19 : decode cX9_seen 19 = .ok (.if_icmp .ge 24, 3) := by decide +kernel
theorem d_X9_seen_22 : decode cX9_seen 22 = .ok (.aload_n 0, 1) := by decide +kernel
theorem d_X9_seen_23 : decode cX9_seen 23 = .ok (.getfield 52, 3) := by decide +kernel
theorem d_X9_seen_26 : decode cX9_seen 26 = .ok (.getfield 106, 3) := by decide +kernel
theorem d_X9_seen_29 : decode cX9_seen 29 = .ok (.ifCond .eq 14, 3) := by decide +kernel
theorem d_X9_seen_32 : decode cX9_seen 32 = .ok (.iload_n 1, 1) := by decide +kernel
theorem d_X9_seen_33 : decode cX9_seen 33 = .ok (.aload_n 0, 1) := by decide +kernel
theorem d_X9_seen_34 : decode cX9_seen 34 = .ok (.getfield 52, 3) := by decide +kernel
theorem d_X9_seen_37 : decode cX9_seen 37 = .ok (.getfield 299, 3) := by decide +kernel
theorem d_X9_seen_40 : decode cX9_seen 40 = .ok (.if_icmp .lt 11, 3) := by decide +kernel
theorem d_X9_seen_43 : decode cX9_seen 43 = .ok (.new 134, 3) := by decide +kernel
theorem d_X9_seen_46 : decode cX9_seen 46 = .ok (.dup, 1) := by decide +kernel
theorem d_X9_seen_47 : decode cX9_seen 47 = .ok (.invokespecial 136, 3) := by decide +kernel
theorem d_X9_seen_50 : decode cX9_seen 50 = .ok (.athrow, 1) := by decide +kernel
theorem d_X9_seen_51 : decode cX9_seen 51 = .ok (.iload_n 2, 1) := by decide +kernel
theorem d_X9_seen_52 : decode cX9_seen 52 = .ok (.tableswitch 91 0 3 #[32, 41, 62, 79], 32) := by decide +kernel
theorem d_X9_seen_84 : decode cX9_seen 84 = .ok (.aload_n 0, 1) := by decide +kernel
theorem d_X9_seen_85 : decode cX9_seen 85 = .ok (.getfield 52, 3) := by decide +kernel
theorem d_X9_seen_88 : decode cX9_seen 88 = .ok (.iload_n 1, 1) := by decide +kernel
theorem d_X9_seen_89 : decode cX9_seen 89 = .ok (.invokevirtual 306, 3) := by decide +kernel
theorem d_X9_seen_92 : decode cX9_seen 92 = .ok (.ireturn, 1) := by decide +kernel
theorem d_X9_seen_93 : decode cX9_seen 93 = .ok (.iconst 0, 1) := by decide +kernel
theorem d_X9_seen_94 : decode cX9_seen 94 = .ok (.aload_n 0, 1) := by decide +kernel
theorem d_X9_seen_95 : decode cX9_seen 95 = .ok (.getfield 52, 3) := by decide +kernel
theorem d_X9_seen_98 : decode cX9_seen 98 = .ok (.iload_n 1, 1) := by decide +kernel
theorem d_X9_seen_99 : decode cX9_seen 99 = .ok (.invokevirtual 306, 3) := by decide +kernel
theorem d_X9_seen_102 : decode cX9_seen 102 = .ok (.aload_n 0, 1) := by decide +kernel
theorem d_X9_seen_103 : decode cX9_seen 103 = .ok (.getfield 63, 3) := by decide +kernel
theorem d_X9_seen_106 : decode cX9_seen 106 = .ok (.getfield 110, 3) := by decide +kernel
theorem d_X9_seen_109 : decode cX9_seen 109 = .ok (.isub, 1) := by decide +kernel
theorem d_X9_seen_110 : decode cX9_seen 110 = .ok (.invokestatic 309, 3) := by decide +kernel
theorem d_X9_seen_113 : decode cX9_seen 113 = .ok (.ireturn, 1) := by decide +kernel
theorem d_X9_seen_114 : decode cX9_seen 114 = .ok (.aload_n 0, 1) := by decide +kernel
theorem d_X9_seen_115 : decode cX9_seen 115 = .ok (.getfield 52, 3) := by decide +kernel
theorem d_X9_seen_118 : decode cX9_seen 118 = .ok (.aload_n 0, 1) := by decide +kernel
theorem d_X9_seen_119 : decode cX9_seen 119 = .ok (.getfield 24, 3) := by decide +kernel
theorem d_X9_seen_122 : decode cX9_seen 122 = .ok (.aload_n 0, 1) := by decide +kernel
theorem d_X9_seen_123 : decode cX9_seen 123 = .ok (.getfield 63, 3) := by decide +kernel
theorem d_X9_seen_126 : decode cX9_seen 126 = .ok (.iload_n 1, 1) := by decide +kernel
theorem d_X9_seen_127 : decode cX9_seen 127 = .ok (.invokevirtual 312, 3) := by decide +kernel
theorem d_X9_seen_130 : decode cX9_seen 130 = .ok (.ireturn, 1) := by decide +kernel
theorem d_X9_seen_131 : decode cX9_seen 131 = .ok (.aload_n 0, 1) := by decide +kernel
theorem d_X9_seen_132 : decode cX9_seen 132 = .ok (.getfield 52, 3) := by decide +kernel
theorem d_X9_seen_135 : decode cX9_seen 135 = .ok (.getfield 315, 3) := by decide +kernel
theorem d_X9_seen_138 : decode cX9_seen 138 = .ok (.iload_n 1, 1) := by decide +kernel
theorem d_X9_seen_139 : decode cX9_seen 139 = .ok (.invokestatic 148, 3) := by decide +kernel
theorem d_X9_seen_142 : decode cX9_seen 142 = .ok (.ireturn, 1) := by decide +kernel
theorem d_X9_seen_143 : decode cX9_seen 143 = .ok (.aload_n 0, 1) := by decide +kernel
theorem d_X9_seen_144 : decode cX9_seen 144 = .ok (.getfield 52, 3) := by decide +kernel
theorem d_X9_seen_147 : decode cX9_seen 147 = .ok (.iload_n 1, 1) := by decide +kernel
theorem d_X9_seen_148 : decode cX9_seen 148 = .ok (.iload_n 2, 1) := by decide +kernel
theorem d_X9_seen_149 : decode cX9_seen 149 = .ok (.iconst 4, 1) := by decide +kernel
theorem d_X9_seen_150 : decode cX9_seen 150 = .ok (.isub, 1) := by decide +kernel
theorem d_X9_seen_151 : decode cX9_seen 151 = .ok (.invokevirtual 318, 3) := by decide +kernel
theorem d_X9_seen_154 : decode cX9_seen 154 = .ok (.ireturn, 1) := by decide +kernel
def j_X9_seen_43 (h : AH) : Option (Int32 ⊕ Nat) := some (.inr 0)
theorem tj_X9_seen_43 {g : GP} {X : MX} {mcR msR : Nat} (hF : gF g = true) (hX : Cx g RX9 cX9_seen 7 mcR msR (some .int) [] X) {d0 : Value} {d1 : Value} {d2 : Value} {h : AH} {z : (Int32 ⊕ Nat)} (e : j_X9_seen_43 h = some z) (hM1 : xc z ≤ mcR) (hM2 : xs z ≤ msR) : AR g X 0 0 (QQ g X NT false h (xo_I z) (xc z) (xs z)) h 43 [d0, d1, d2] [] := by
  unfold j_X9_seen_43 at e
  cases e
  exact ar_throw hX (thr_RX9_0) (by decide) d_X9_seen_43 d_X9_seen_46 d_X9_seen_47 d_X9_seen_50 hM1 hM2
def s_X9_seen (a0 : Int32) (a1 : Int32) (h : AH) : Option (Int32 ⊕ Nat) := bd (s_X9_needEvening a0 h) fun q1 => sm q1 (fun x2 => if a1 < 0 then j_X9_seen_43 h else bd (gR h 0 8) fun t3 => if LAY t3 = (0, 8) then if (gI h t3 3) ≤ (a1 - 4) then j_X9_seen_43 h else if (gI h 224 0) = 0 then j_X9_seen_43 h else if a0 < (gI h 224 1) then if a1 = 0 then bd (s_X4_cameOn 224 a0 h) fun x10 => some (.inl x10) else if a1 = 1 then bd (s_X4_cameOn 224 a0 h) fun x8 => bd (gR h 0 8) fun t9 => if LAY t9 = (0, 8) then some (.inl (if 0 < (x8 - (gI h t9 0)) then (x8 - (gI h t9 0)) else 0)) else none else if a1 = 2 then bd (gR h 0 8) fun t6 => if LAY t6 = (0, 8) then bd (s_X4_coinsOn 224 (some 13) (some t6) a0 h) fun x7 => some (.inl x7) else none else if a1 = 3 then bd (s_X9_at (some 227) a0 h) fun x5 => some (.inl x5) else bd (s_X4_cameOf 224 a0 (a1 - 4) h) fun x4 => some (.inl x4) else j_X9_seen_43 h else none) (fun E11 => some (.inr E11))
theorem t_X9_seen {g : GP} {X : MX} {mcR msR : Nat} (hF : gF g = true) (hX : Cx g RX9 cX9_seen 7 mcR msR (some .int) [] X) {a0 : Int32} {a1 : Int32} {h : AH} {z : (Int32 ⊕ Nat)} (e : s_X9_seen a0 a1 h = some z) (hM1 : xc z ≤ mcR) (hM2 : xs z ≤ msR) : AR g X 0 0 (QQ g X NT false h (xo_I z) (xc z) (xs z)) h 0 [.ref 0, .int a0, .int a1] [] := by
  unfold s_X9_seen at e
  refine aw_aload_n (i := 0) hX rfl rfl d_X9_seen_0 ?_
  refine aw_iload_n (i := 1) hX rfl rfl d_X9_seen_1 ?_
  obtain ⟨q1, f_963, e_963⟩ := bd_some e
  clear e
  rcases q1 with x2 | E11
  · have e_964 := sm_inl e_963
    clear e_963
    refine aw_callV (b := 0) (av := [.int a0]) (avr := [.int a0]) hX (k_X9_needEvening (cx_g hX) hF f_963) mi_X9_needEvening rfl rfl w_500 w_501 w_502 (by decide) rfl (LAY_lt rfl (by decide)) rfl rfl (Nat.le_of_ble_eq_true rfl) (Nat.zero_le _) (Nat.zero_le _) d_X9_seen_2 ?_
    refine aw_iload_n (i := 2) hX rfl rfl d_X9_seen_5 ?_
    refine aw_if_lt (t := 43) hX (by decide) d_X9_seen_6 (fun c => ?_) (fun c => ?_)
    · rw [if_pos c] at e_964
      exact tj_X9_seen_43 hF hX e_964 hM1 hM2
    · rw [if_neg c] at e_964
      refine aw_iload_n (i := 2) hX rfl rfl d_X9_seen_9 ?_
      refine aw_iconst (v := 4) hX (by decide) d_X9_seen_10 ?_
      refine aw_isub hX d_X9_seen_11 ?_
      refine aw_aload_n (i := 0) hX rfl rfl d_X9_seen_12 ?_
      obtain ⟨t3, f_965, e_965⟩ := bd_some e_964
      clear e_964
      obtain ⟨hlt3, e_966⟩ := if_some e_965
      clear e_965
      refine ar_getR hX fg_RX9_63 rfl f_965 d_X9_seen_13 ?_
      refine ar_getI hX fg_RX9_119 (by assumption) d_X9_seen_16 ?_
      refine aw_icmp_ge (t := 43) hX (by decide) d_X9_seen_19 (fun c => ?_) (fun c => ?_)
      · rw [if_pos c] at e_966
        exact tj_X9_seen_43 hF hX e_966 hM1 hM2
      · rw [if_neg c] at e_966
        refine aw_aload_n (i := 0) hX rfl rfl d_X9_seen_22 ?_
        refine ar_getF hX hF fg_RX9_52 rfl d_X9_seen_23 ?_
        show AR g X 0 0 _ _ 26 _ [.ref 224]
        refine ar_getI hX fg_RX9_106 rfl d_X9_seen_26 ?_
        refine aw_if_eq (t := 43) hX (by decide) d_X9_seen_29 (fun c => ?_) (fun c => ?_)
        · rw [if_pos c] at e_966
          exact tj_X9_seen_43 hF hX e_966 hM1 hM2
        · rw [if_neg c] at e_966
          refine aw_iload_n (i := 1) hX rfl rfl d_X9_seen_32 ?_
          refine aw_aload_n (i := 0) hX rfl rfl d_X9_seen_33 ?_
          refine ar_getF hX hF fg_RX9_52 rfl d_X9_seen_34 ?_
          show AR g X 0 0 _ _ 37 _ [.ref 224, .int a0]
          refine ar_getI hX fg_RX9_299 rfl d_X9_seen_37 ?_
          refine aw_icmp_lt (t := 51) hX (by decide) d_X9_seen_40 (fun c => ?_) (fun c => ?_)
          · rw [if_pos c] at e_966
            refine aw_iload_n (i := 2) hX rfl rfl d_X9_seen_51 ?_
            by_cases c0 : a1 = 0
            · rw [if_pos c0] at e_966
              refine aw_tableIn (off := 32) (t := 84) hX (by rw [c0]; decide) (by rw [c0]; decide) (by rw [c0]; rfl) (by decide) d_X9_seen_52 ?_
              refine aw_aload_n (i := 0) hX rfl rfl d_X9_seen_84 ?_
              refine ar_getF hX hF fg_RX9_52 rfl d_X9_seen_85 ?_
              show AR g X 0 0 _ _ 88 _ [.ref 224]
              refine aw_iload_n (i := 1) hX rfl rfl d_X9_seen_88 ?_
              obtain ⟨x10, f_967, e_967⟩ := bd_some e_966
              clear e_966
              refine aw_callV (b := 224) (av := [.int a0]) (avr := [.int a0]) hX (k_X4_cameOn (cx_g hX) hF f_967) mi_X4_cameOn rfl rfl w_619 w_620 w_621 (by decide) rfl (LAY_lt rfl (by decide)) rfl rfl (Nat.le_of_ble_eq_true rfl) (Nat.zero_le _) (Nat.zero_le _) d_X9_seen_89 ?_
              cases e_967
              exact aw_ireturn hX (Nat.zero_le _) (Nat.zero_le _) d_X9_seen_92
            rw [if_neg c0] at e_966
            by_cases c1 : a1 = 1
            · rw [if_pos c1] at e_966
              refine aw_tableIn (off := 41) (t := 93) hX (by rw [c1]; decide) (by rw [c1]; decide) (by rw [c1]; rfl) (by decide) d_X9_seen_52 ?_
              refine aw_iconst (v := 0) hX (by decide) d_X9_seen_93 ?_
              refine aw_aload_n (i := 0) hX rfl rfl d_X9_seen_94 ?_
              refine ar_getF hX hF fg_RX9_52 rfl d_X9_seen_95 ?_
              show AR g X 0 0 _ _ 98 _ [.ref 224, .int 0]
              refine aw_iload_n (i := 1) hX rfl rfl d_X9_seen_98 ?_
              obtain ⟨x8, f_968, e_968⟩ := bd_some e_966
              clear e_966
              refine aw_callV (b := 224) (av := [.int a0]) (avr := [.int a0]) hX (k_X4_cameOn (cx_g hX) hF f_968) mi_X4_cameOn rfl rfl w_619 w_620 w_621 (by decide) rfl (LAY_lt rfl (by decide)) rfl rfl (Nat.le_of_ble_eq_true rfl) (Nat.zero_le _) (Nat.zero_le _) d_X9_seen_99 ?_
              refine aw_aload_n (i := 0) hX rfl rfl d_X9_seen_102 ?_
              obtain ⟨t9, f_969, e_969⟩ := bd_some e_968
              clear e_968
              obtain ⟨hlt9, e_970⟩ := if_some e_969
              clear e_969
              refine ar_getR hX fg_RX9_63 rfl f_969 d_X9_seen_103 ?_
              refine ar_getI hX fg_RX9_110 (by assumption) d_X9_seen_106 ?_
              refine aw_isub hX d_X9_seen_109 ?_
              refine ar_imax hX w_622 mth_imax (by decide) (Nat.le_of_ble_eq_true rfl) (Nat.zero_le _) (Nat.zero_le _) d_X9_seen_110 ?_
              cases e_970
              exact aw_ireturn hX (Nat.zero_le _) (Nat.zero_le _) d_X9_seen_113
            rw [if_neg c1] at e_966
            by_cases c2 : a1 = 2
            · rw [if_pos c2] at e_966
              refine aw_tableIn (off := 62) (t := 114) hX (by rw [c2]; decide) (by rw [c2]; decide) (by rw [c2]; rfl) (by decide) d_X9_seen_52 ?_
              refine aw_aload_n (i := 0) hX rfl rfl d_X9_seen_114 ?_
              refine ar_getF hX hF fg_RX9_52 rfl d_X9_seen_115 ?_
              show AR g X 0 0 _ _ 118 _ [.ref 224]
              refine aw_aload_n (i := 0) hX rfl rfl d_X9_seen_118 ?_
              refine ar_getF hX hF fg_RX9_24 rfl d_X9_seen_119 ?_
              show AR g X 0 0 _ _ 122 _ [.ref 13, .ref 224]
              refine aw_aload_n (i := 0) hX rfl rfl d_X9_seen_122 ?_
              obtain ⟨t6, f_971, e_971⟩ := bd_some e_966
              clear e_966
              obtain ⟨hlt6, e_972⟩ := if_some e_971
              clear e_971
              refine ar_getR hX fg_RX9_63 rfl f_971 d_X9_seen_123 ?_
              refine aw_iload_n (i := 1) hX rfl rfl d_X9_seen_126 ?_
              obtain ⟨x7, f_973, e_973⟩ := bd_some e_972
              clear e_972
              refine aw_callV (b := 224) (av := [.ref 13, .ref t6, .int a0]) (avr := [.int a0, .ref t6, .ref 13]) hX (k_X4_coinsOn (cx_g hX) hF f_973) mi_X4_coinsOn rfl rfl w_615 w_616 w_617 (by decide) rfl (LAY_lt rfl (by decide)) rfl rfl (Nat.le_of_ble_eq_true rfl) (Nat.zero_le _) (Nat.zero_le _) d_X9_seen_127 ?_
              cases e_973
              exact aw_ireturn hX (Nat.zero_le _) (Nat.zero_le _) d_X9_seen_130
            rw [if_neg c2] at e_966
            by_cases c3 : a1 = 3
            · rw [if_pos c3] at e_966
              refine aw_tableIn (off := 79) (t := 131) hX (by rw [c3]; decide) (by rw [c3]; decide) (by rw [c3]; rfl) (by decide) d_X9_seen_52 ?_
              refine aw_aload_n (i := 0) hX rfl rfl d_X9_seen_131 ?_
              refine ar_getF hX hF fg_RX9_52 rfl d_X9_seen_132 ?_
              show AR g X 0 0 _ _ 135 _ [.ref 224]
              refine ar_getF hX hF fg_RX9_315 rfl d_X9_seen_135 ?_
              show AR g X 0 0 _ _ 138 _ [.ref 227]
              refine aw_iload_n (i := 1) hX rfl rfl d_X9_seen_138 ?_
              obtain ⟨x5, f_974, e_974⟩ := bd_some e_966
              clear e_966
              refine aw_callS (av := [.ref 227, .int a0]) (avr := [.int a0, .ref 227]) hX (k_X9_at (cx_g hX) hF f_974) mi_X9_at rfl rfl w_509 w_6 rfl (by decide) (Nat.le_of_ble_eq_true rfl) (Nat.zero_le _) (Nat.zero_le _) d_X9_seen_139 ?_
              cases e_974
              exact aw_ireturn hX (Nat.zero_le _) (Nat.zero_le _) d_X9_seen_142
            rw [if_neg c3] at e_966
            refine aw_tableOut (t := 143) hX (ts_out 4 (fun j hj => by match j, hj with | 0, _ => exact c0 | 1, _ => exact c1 | 2, _ => exact c2 | 3, _ => exact c3 | q + 4, hj => exact absurd hj (by omega))) (by decide) d_X9_seen_52 ?_
            refine aw_aload_n (i := 0) hX rfl rfl d_X9_seen_143 ?_
            refine ar_getF hX hF fg_RX9_52 rfl d_X9_seen_144 ?_
            show AR g X 0 0 _ _ 147 _ [.ref 224]
            refine aw_iload_n (i := 1) hX rfl rfl d_X9_seen_147 ?_
            refine aw_iload_n (i := 2) hX rfl rfl d_X9_seen_148 ?_
            refine aw_iconst (v := 4) hX (by decide) d_X9_seen_149 ?_
            refine aw_isub hX d_X9_seen_150 ?_
            obtain ⟨x4, f_975, e_975⟩ := bd_some e_966
            clear e_966
            refine aw_callV (b := 224) (av := [.int a0, .int (a1 - 4)]) (avr := [.int (a1 - 4), .int a0]) hX (k_X4_cameOf (cx_g hX) hF f_975) mi_X4_cameOf rfl rfl w_612 w_354 w_355 (by decide) rfl (LAY_lt rfl (by decide)) rfl rfl (Nat.le_of_ble_eq_true rfl) (Nat.zero_le _) (Nat.zero_le _) d_X9_seen_151 ?_
            cases e_975
            exact aw_ireturn hX (Nat.zero_le _) (Nat.zero_le _) d_X9_seen_154
          · rw [if_neg c] at e_966
            exact tj_X9_seen_43 hF hX e_966 hM1 hM2
  · have e_976 := sm_inr e_963
    clear e_963
    cases e_976
    exact aw_callVX (b := 0) (av := [.int a0]) (avr := [.int a0]) hX (kx_X9_needEvening (cx_g hX) hF f_963) mi_X9_needEvening rfl rfl w_500 w_501 w_502 (by decide) rfl (LAY_lt rfl (by decide)) rfl rfl (Nat.le_of_ble_eq_true rfl) hM1 hM2 d_X9_seen_2
theorem k_X9_seen {g : GP} (hg : g.1.stackTraces = false) (hF : gF g = true) {a0 : Int32} {a1 : Int32} {h : AH} {z : Int32} (e : s_X9_seen a0 a1 h = some (.inl z)) : Ctr g yX9_seen (wsY yX9_seen cX9_seen 3 (some .int)) 7 0 0 [.ref 0, .int a0, .int a1] NT false h (some (.int z)) NT false h := ctr_of (lv0 := [.ref 0, .int a0, .int a1]) rfl rfl (by decide) hg trivial (fun X hX hn => t_X9_seen hF hX e (Nat.zero_le _) (Nat.zero_le _))
theorem kx_X9_seen {g : GP} (hg : g.1.stackTraces = false) (hF : gF g = true) {a0 : Int32} {a1 : Int32} {h : AH} {z : Nat} (e : s_X9_seen a0 a1 h = some (.inr z)) : CtrX g yX9_seen (wsY yX9_seen cX9_seen 3 (some .int)) 7 [.ref 0, .int a0, .int a1] NT h z h := ctrX_of (lv0 := [.ref 0, .int a0, .int a1]) rfl rfl (by decide) hg (fun X hX => t_X9_seen hF hX e (Nat.le_refl _) (Nat.le_refl _))
theorem d_X9_image_0 : decode cX9_image 0 = .ok (.aload_n 0, 1) := by decide +kernel
theorem d_X9_image_1 : decode cX9_image 1 = .ok (.getfield 52, 3) := by decide +kernel
theorem d_X9_image_4 : decode cX9_image 4 = .ok (.getfield 106, 3) := by decide +kernel
theorem d_X9_image_7 : decode cX9_image 7 = .ok (.ifCond .ne 5, 3) := by decide +kernel
theorem d_X9_image_10 : decode cX9_image 10 = .ok (.iconst 0, 1) := by decide +kernel
theorem d_X9_image_11 : decode cX9_image 11 = .ok (.ireturn, 1) := by decide +kernel
theorem d_X9_image_12 : decode cX9_image 12 = .ok (.aload_n 0, 1) := by decide +kernel
theorem d_X9_image_13 : decode cX9_image 13 = .ok (.getfield 56, 3) := by decide +kernel
theorem d_X9_image_16 : decode cX9_image 16 = .ok (.aload_n 0, 1) := by decide +kernel
theorem d_X9_image_17 : decode cX9_image 17 = .ok (.getfield 52, 3) := by decide +kernel
theorem d_X9_image_20 : decode cX9_image 20 = .ok (.invokevirtual 321, 3) := by decide +kernel
theorem d_X9_image_23 : decode cX9_image 23 = .ok (.iconst 1, 1) := by decide +kernel
theorem d_X9_image_24 : decode cX9_image 24 = .ok (.ireturn, 1) := by decide +kernel
def s_X9_image (h : AH) : Option (Int32 × AH) := if (gI h 224 0) = 0 then some (0, h) else bd (s_X4_copy 228 (some 224) h) fun q1 => some (1, q1.2)
theorem t_X9_image {g : GP} {X : MX} {mcR msR : Nat} (hF : gF g = true) (hX : Cx g RX9 cX9_image 3 mcR msR (some .boolean) [] X) {h hz : AH} {z : Int32} (e : s_X9_image h = some (z, hz)) : AR g X 0 0 (QQ g X NT false hz (.inl (some (.int z))) 0 0) h 0 [.ref 0] [] := by
  unfold s_X9_image at e
  refine aw_aload_n (i := 0) hX rfl rfl d_X9_image_0 ?_
  refine ar_getF hX hF fg_RX9_52 rfl d_X9_image_1 ?_
  show AR g X 0 0 _ _ 4 _ [.ref 224]
  refine ar_getI hX fg_RX9_106 rfl d_X9_image_4 ?_
  refine aw_if_ne (t := 12) hX (by decide) d_X9_image_7 (fun c => ?_) (fun c => ?_)
  · rw [if_neg c] at e
    refine aw_aload_n (i := 0) hX rfl rfl d_X9_image_12 ?_
    refine ar_getF hX hF fg_RX9_56 rfl d_X9_image_13 ?_
    show AR g X 0 0 _ _ 16 _ [.ref 228]
    refine aw_aload_n (i := 0) hX rfl rfl d_X9_image_16 ?_
    refine ar_getF hX hF fg_RX9_52 rfl d_X9_image_17 ?_
    show AR g X 0 0 _ _ 20 _ [.ref 224, .ref 228]
    obtain ⟨q1, f_977, e_977⟩ := bd_some e
    clear e
    refine aw_callV (b := 228) (av := [.ref 224]) (avr := [.ref 224]) hX (k_X4_copy (cx_g hX) hF f_977) mi_X4_copy rfl rfl w_624 w_625 w_626 (by decide) rfl (LAY_lt rfl (by decide)) rfl rfl (Nat.le_of_ble_eq_true rfl) (Nat.zero_le _) (Nat.zero_le _) d_X9_image_20 ?_
    refine aw_iconst (v := 1) hX (by decide) d_X9_image_23 ?_
    cases e_977
    exact aw_zreturn hX (by decide) (Nat.zero_le _) (Nat.zero_le _) d_X9_image_24
  · rw [if_pos c] at e
    refine aw_iconst (v := 0) hX (by decide) d_X9_image_10 ?_
    cases e
    exact aw_zreturn hX (by decide) (Nat.zero_le _) (Nat.zero_le _) d_X9_image_11
theorem k_X9_image {g : GP} (hg : g.1.stackTraces = false) (hF : gF g = true) {h hz : AH} {z : Int32} (e : s_X9_image h = some (z, hz)) : Ctr g yX9_image (wsY yX9_image cX9_image 1 (some .boolean)) 3 0 0 [.ref 0] NT false h (some (.int z)) NT false hz := ctr_of (lv0 := [.ref 0]) rfl rfl (by decide) hg trivial (fun X hX hn => t_X9_image hF hX e)
theorem d_X9_restore_0 : decode cX9_restore 0 = .ok (.aload_n 0, 1) := by decide +kernel
theorem d_X9_restore_1 : decode cX9_restore 1 = .ok (.getfield 56, 3) := by decide +kernel
theorem d_X9_restore_4 : decode cX9_restore 4 = .ok (.getfield 106, 3) := by decide +kernel
theorem d_X9_restore_7 : decode cX9_restore 7 = .ok (.ifCond .ne 5, 3) := by decide +kernel
theorem d_X9_restore_10 : decode cX9_restore 10 = .ok (.iconst 0, 1) := by decide +kernel
theorem d_X9_restore_11 : decode cX9_restore 11 = .ok (.ireturn, 1) := by decide +kernel
theorem d_X9_restore_12 : decode cX9_restore 12 = .ok (.aload_n 0, 1) := by decide +kernel
theorem d_X9_restore_13 : decode cX9_restore 13 = .ok (.getfield 52, 3) := by decide +kernel
theorem d_X9_restore_16 : decode cX9_restore 16 = .ok (.aload_n 0, 1) := by decide +kernel
theorem d_X9_restore_17 : decode cX9_restore 17 = .ok (.getfield 56, 3) := by decide +kernel
theorem d_X9_restore_20 : decode cX9_restore 20 = .ok (.invokevirtual 321, 3) := by decide +kernel
theorem d_X9_restore_23 : decode cX9_restore 23 = .ok (.iconst 1, 1) := by decide +kernel
theorem d_X9_restore_24 : decode cX9_restore 24 = .ok (.ireturn, 1) := by decide +kernel
def s_X9_restore (h : AH) : Option (Int32 × AH) := if (gI h 228 0) = 0 then some (0, h) else bd (s_X4_copy 224 (some 228) h) fun q1 => some (1, q1.2)
theorem t_X9_restore {g : GP} {X : MX} {mcR msR : Nat} (hF : gF g = true) (hX : Cx g RX9 cX9_restore 3 mcR msR (some .boolean) [] X) {h hz : AH} {z : Int32} (e : s_X9_restore h = some (z, hz)) : AR g X 0 0 (QQ g X NT false hz (.inl (some (.int z))) 0 0) h 0 [.ref 0] [] := by
  unfold s_X9_restore at e
  refine aw_aload_n (i := 0) hX rfl rfl d_X9_restore_0 ?_
  refine ar_getF hX hF fg_RX9_56 rfl d_X9_restore_1 ?_
  show AR g X 0 0 _ _ 4 _ [.ref 228]
  refine ar_getI hX fg_RX9_106 rfl d_X9_restore_4 ?_
  refine aw_if_ne (t := 12) hX (by decide) d_X9_restore_7 (fun c => ?_) (fun c => ?_)
  · rw [if_neg c] at e
    refine aw_aload_n (i := 0) hX rfl rfl d_X9_restore_12 ?_
    refine ar_getF hX hF fg_RX9_52 rfl d_X9_restore_13 ?_
    show AR g X 0 0 _ _ 16 _ [.ref 224]
    refine aw_aload_n (i := 0) hX rfl rfl d_X9_restore_16 ?_
    refine ar_getF hX hF fg_RX9_56 rfl d_X9_restore_17 ?_
    show AR g X 0 0 _ _ 20 _ [.ref 228, .ref 224]
    obtain ⟨q1, f_978, e_978⟩ := bd_some e
    clear e
    refine aw_callV (b := 224) (av := [.ref 228]) (avr := [.ref 228]) hX (k_X4_copy (cx_g hX) hF f_978) mi_X4_copy rfl rfl w_624 w_625 w_626 (by decide) rfl (LAY_lt rfl (by decide)) rfl rfl (Nat.le_of_ble_eq_true rfl) (Nat.zero_le _) (Nat.zero_le _) d_X9_restore_20 ?_
    refine aw_iconst (v := 1) hX (by decide) d_X9_restore_23 ?_
    cases e_978
    exact aw_zreturn hX (by decide) (Nat.zero_le _) (Nat.zero_le _) d_X9_restore_24
  · rw [if_pos c] at e
    refine aw_iconst (v := 0) hX (by decide) d_X9_restore_10 ?_
    cases e
    exact aw_zreturn hX (by decide) (Nat.zero_le _) (Nat.zero_le _) d_X9_restore_11
theorem k_X9_restore {g : GP} (hg : g.1.stackTraces = false) (hF : gF g = true) {h hz : AH} {z : Int32} (e : s_X9_restore h = some (z, hz)) : Ctr g yX9_restore (wsY yX9_restore cX9_restore 1 (some .boolean)) 3 0 0 [.ref 0] NT false h (some (.int z)) NT false hz := ctr_of (lv0 := [.ref 0]) rfl rfl (by decide) hg trivial (fun X hX hn => t_X9_restore hF hX e)
