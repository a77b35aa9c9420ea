/-! 21.told: functions and contracts, by program -/
theorem d_X8_ofKind_0 : decode cX8_ofKind 0 = .ok (.aload_n 0, 1) := by decide +kernel
theorem d_X8_ofKind_1 : decode cX8_ofKind 1 = .ok (.getfield 22, 3) := by decide +kernel
theorem d_X8_ofKind_4 : decode cX8_ofKind 4 = .ok (.iload_n 1, 1) := by decide +kernel
theorem d_X8_ofKind_5 : decode cX8_ofKind 5 = .ok (.bipush 11, 2) := by decide +kernel
theorem d_X8_ofKind_7 : decode cX8_ofKind 7 = .ok (.imul, 1) := by decide +kernel
theorem d_X8_ofKind_8 : decode cX8_ofKind 8 = .ok (.iload_n 2, 1) := by decide +kernel
theorem d_X8_ofKind_9 : decode cX8_ofKind 9 = .ok (.iadd, 1) := by decide +kernel
theorem d_X8_ofKind_10 : decode cX8_ofKind 10 = .ok (.invokestatic 56, 3) := by decide +kernel
theorem d_X8_ofKind_13 : decode cX8_ofKind 13 = .ok (.ireturn, 1) := by decide +kernel
def s_X8_ofKind (th : Nat) (a0 : Int32) (a1 : Int32) (h : AH) : Option Int32 := if LAY th = (0, 8) then bd (s_X9_at (some (th + 3)) ((a0 * 11) + a1) h) fun x1 => some x1 else none
theorem t_X8_ofKind {g : GP} {X : MX} {mcR msR : Nat} (hF : gF g = true) (hX : Cx g RX8 cX8_ofKind 2 mcR msR (some .int) [] X) {th : Nat} {a0 : Int32} {a1 : Int32} {h : AH} {z : Int32} (e : s_X8_ofKind th a0 a1 h = some z) : AR g X 0 0 (QQ g X NT false h (.inl (some (.int z))) 0 0) h 0 [.ref th, .int a0, .int a1] [] := by
  unfold s_X8_ofKind at e
  obtain ⟨hl_this, e_41⟩ := if_some e
  clear e
  refine aw_aload_n (i := 0) hX rfl rfl d_X8_ofKind_0 ?_
  refine ar_getF hX hF fg_RX8_22 (by assumption) d_X8_ofKind_1 ?_
  refine aw_iload_n (i := 1) hX rfl rfl d_X8_ofKind_4 ?_
  refine aw_bipush (v := 11) hX (by decide) d_X8_ofKind_5 ?_
  refine aw_imul hX d_X8_ofKind_7 ?_
  refine aw_iload_n (i := 2) hX rfl rfl d_X8_ofKind_8 ?_
  refine aw_iadd hX d_X8_ofKind_9 ?_
  obtain ⟨x1, f_42, e_42⟩ := bd_some e_41
  clear e_41
  refine aw_callSN (av := [.ref (th + 3), .int ((a0 * 11) + a1)]) (avr := [.int ((a0 * 11) + a1), .ref (th + 3)]) hX (k_X9_at (cx_g hX) hF f_42) mi_X9_at rfl rfl nx10 w_6 (by decide) (Nat.le_of_ble_eq_true rfl) (Nat.zero_le _) (Nat.zero_le _) d_X8_ofKind_10 ?_
  cases e_42
  exact aw_ireturn hX (Nat.zero_le _) (Nat.zero_le _) d_X8_ofKind_13
theorem k_X8_ofKind {g : GP} (hg : g.1.stackTraces = false) (hF : gF g = true) {th : Nat} {a0 : Int32} {a1 : Int32} {h : AH} {z : Int32} (e : s_X8_ofKind th a0 a1 h = some z) : Ctr g yX8_ofKind (wsY yX8_ofKind cX8_ofKind 3 (some .int)) 2 0 0 [.ref th, .int a0, .int a1] NT false h (some (.int z)) NT false h := ctr_of (lv0 := [.ref th, .int a0, .int a1]) rfl rfl (by decide) hg trivial (fun X hX hn => t_X8_ofKind hF hX e)
theorem d_X8_isYoung_0 : decode cX8_isYoung 0 = .ok (.aload_n 0, 1) := by decide +kernel
theorem d_X8_isYoung_1 : decode cX8_isYoung 1 = .ok (.iload_n 1, 1) := by decide +kernel
theorem d_X8_isYoung_2 : decode cX8_isYoung 2 = .ok (.bipush 10, 2) := by decide +kernel
theorem d_X8_isYoung_4 : decode cX8_isYoung 4 = .ok (.invokevirtual 60, 3) := by decide +kernel
theorem d_X8_isYoung_7 : decode cX8_isYoung 7 = .ok (.iconst 1, 1) := by decide +kernel
theorem d_X8_isYoung_8 : decode cX8_isYoung 8 = .ok (.if_icmp .ne 7, 3) := by decide +kernel
theorem d_X8_isYoung_11 : decode cX8_isYoung 11 = .ok (.iconst 1, 1) := by decide +kernel
theorem d_X8_isYoung_12 : decode cX8_isYoung 12 = .ok (.goto 4, 3) := by decide +kernel
theorem d_X8_isYoung_15 : decode cX8_isYoung 15 = .ok (.iconst 0, 1) := by decide +kernel
theorem d_X8_isYoung_16 : decode cX8_isYoung 16 = .ok (.ireturn, 1) := by decide +kernel
def s_X8_isYoung (th : Nat) (a0 : Int32) (h : AH) : Option Int32 := if LAY th = (0, 8) then bd (s_X8_ofKind th a0 10 h) fun x1 => if x1 = 1 then some 1 else some 0 else none
theorem t_X8_isYoung {g : GP} {X : MX} {mcR msR : Nat} (hF : gF g = true) (hX : Cx g RX8 cX8_isYoung 3 mcR msR (some .boolean) [] X) {th : Nat} {a0 : Int32} {h : AH} {z : Int32} (e : s_X8_isYoung th a0 h = some z) : AR g X 0 0 (QQ g X NT false h (.inl (some (.int z))) 0 0) h 0 [.ref th, .int a0] [] := by
  unfold s_X8_isYoung at e
  obtain ⟨hl_this, e_43⟩ := if_some e
  clear e
  refine aw_aload_n (i := 0) hX rfl rfl d_X8_isYoung_0 ?_
  refine aw_iload_n (i := 1) hX rfl rfl d_X8_isYoung_1 ?_
  refine aw_bipush (v := 10) hX (by decide) d_X8_isYoung_2 ?_
  obtain ⟨x1, f_44, e_44⟩ := bd_some e_43
  clear e_43
  refine aw_callV (b := th) (av := [.int a0, .int 10]) (avr := [.int 10, .int a0]) hX (k_X8_ofKind (cx_g hX) hF f_44) mi_X8_ofKind rfl rfl w_9 w_10 w_11 (by decide) (by assumption) (LAY_lt (by assumption) (by decide)) rfl rfl (Nat.le_of_ble_eq_true rfl) (Nat.zero_le _) (Nat.zero_le _) d_X8_isYoung_4 ?_
  refine aw_iconst (v := 1) hX (by decide) d_X8_isYoung_7 ?_
  refine aw_icmp_ne (t := 15) hX (by decide) d_X8_isYoung_8 (fun c => ?_) (fun c => ?_)
  · rw [if_neg c] at e_44
    refine aw_iconst (v := 0) hX (by decide) d_X8_isYoung_15 ?_
    cases e_44
    exact aw_zreturn hX (by decide) (Nat.zero_le _) (Nat.zero_le _) d_X8_isYoung_16
  · rw [if_pos c] at e_44
    refine aw_iconst (v := 1) hX (by decide) d_X8_isYoung_11 ?_
    refine aw_goto (t := 16) hX (by decide) d_X8_isYoung_12 ?_
    cases e_44
    exact aw_zreturn hX (by decide) (Nat.zero_le _) (Nat.zero_le _) d_X8_isYoung_16
theorem k_X8_isYoung {g : GP} (hg : g.1.stackTraces = false) (hF : gF g = true) {th : Nat} {a0 : Int32} {h : AH} {z : Int32} (e : s_X8_isYoung th a0 h = some z) : Ctr g yX8_isYoung (wsY yX8_isYoung cX8_isYoung 2 (some .boolean)) 3 0 0 [.ref th, .int a0] NT false h (some (.int z)) NT false h := ctr_of (lv0 := [.ref th, .int a0]) rfl rfl (by decide) hg trivial (fun X hX hn => t_X8_isYoung hF hX e)
theorem d_X8_ofEvening_0 : decode cX8_ofEvening 0 = .ok (.aload_n 0, 1) := by decide +kernel
theorem d_X8_ofEvening_1 : decode cX8_ofEvening 1 = .ok (.getfield 15, 3) := by decide +kernel
theorem d_X8_ofEvening_4 : decode cX8_ofEvening 4 = .ok (.iload_n 1, 1) := by decide +kernel
theorem d_X8_ofEvening_5 : decode cX8_ofEvening 5 = .ok (.iconst 3, 1) := by decide +kernel
theorem d_X8_ofEvening_6 : decode cX8_ofEvening 6 = .ok (.imul, 1) := by decide +kernel
theorem d_X8_ofEvening_7 : decode cX8_ofEvening 7 = .ok (.iload_n 2, 1) := by decide +kernel
theorem d_X8_ofEvening_8 : decode cX8_ofEvening 8 = .ok (.iadd, 1) := by decide +kernel
theorem d_X8_ofEvening_9 : decode cX8_ofEvening 9 = .ok (.invokestatic 56, 3) := by decide +kernel
theorem d_X8_ofEvening_12 : decode cX8_ofEvening 12 = .ok (.ireturn, 1) := by decide +kernel
def s_X8_ofEvening (th : Nat) (a0 : Int32) (a1 : Int32) (h : AH) : Option Int32 := if LAY th = (0, 8) then bd (s_X9_at (some (th + 1)) ((a0 * 3) + a1) h) fun x1 => some x1 else none
theorem t_X8_ofEvening {g : GP} {X : MX} {mcR msR : Nat} (hF : gF g = true) (hX : Cx g RX8 cX8_ofEvening 2 mcR msR (some .int) [] X) {th : Nat} {a0 : Int32} {a1 : Int32} {h : AH} {z : Int32} (e : s_X8_ofEvening th a0 a1 h = some z) : AR g X 0 0 (QQ g X NT false h (.inl (some (.int z))) 0 0) h 0 [.ref th, .int a0, .int a1] [] := by
  unfold s_X8_ofEvening at e
  obtain ⟨hl_this, e_59⟩ := if_some e
  clear e
  refine aw_aload_n (i := 0) hX rfl rfl d_X8_ofEvening_0 ?_
  refine ar_getF hX hF fg_RX8_15 (by assumption) d_X8_ofEvening_1 ?_
  refine aw_iload_n (i := 1) hX rfl rfl d_X8_ofEvening_4 ?_
  refine aw_iconst (v := 3) hX (by decide) d_X8_ofEvening_5 ?_
  refine aw_imul hX d_X8_ofEvening_6 ?_
  refine aw_iload_n (i := 2) hX rfl rfl d_X8_ofEvening_7 ?_
  refine aw_iadd hX d_X8_ofEvening_8 ?_
  obtain ⟨x1, f_60, e_60⟩ := bd_some e_59
  clear e_59
  refine aw_callSN (av := [.ref (th + 1), .int ((a0 * 3) + a1)]) (avr := [.int ((a0 * 3) + a1), .ref (th + 1)]) hX (k_X9_at (cx_g hX) hF f_60) mi_X9_at rfl rfl nx10 w_6 (by decide) (Nat.le_of_ble_eq_true rfl) (Nat.zero_le _) (Nat.zero_le _) d_X8_ofEvening_9 ?_
  cases e_60
  exact aw_ireturn hX (Nat.zero_le _) (Nat.zero_le _) d_X8_ofEvening_12
theorem k_X8_ofEvening {g : GP} (hg : g.1.stackTraces = false) (hF : gF g = true) {th : Nat} {a0 : Int32} {a1 : Int32} {h : AH} {z : Int32} (e : s_X8_ofEvening th a0 a1 h = some z) : Ctr g yX8_ofEvening (wsY yX8_ofEvening cX8_ofEvening 3 (some .int)) 2 0 0 [.ref th, .int a0, .int a1] NT false h (some (.int z)) NT false h := ctr_of (lv0 := [.ref th, .int a0, .int a1]) rfl rfl (by decide) hg trivial (fun X hX hn => t_X8_ofEvening hF hX e)
theorem d_X8_likely_0 : decode cX8_likely 0 = .ok (.aload_n 0, 1) := by decide +kernel
theorem d_X8_likely_1 : decode cX8_likely 1 = .ok (.iload_n 1, 1) := by decide +kernel
theorem d_X8_likely_2 : decode cX8_likely 2 = .ok (.iload_n 3, 1) := by decide +kernel
theorem d_X8_likely_3 : decode cX8_likely 3 = .ok (.ifCond .eq 7, 3) := by decide +kernel
theorem d_X8_likely_6 : decode cX8_likely 6 = .ok (.iconst 2, 1) := by decide +kernel
theorem d_X8_likely_7 : decode cX8_likely 7 = .ok (.goto 4, 3) := by decide +kernel
theorem d_X8_likely_10 : decode cX8_likely 10 = .ok (.iconst 1, 1) := by decide +kernel
theorem d_X8_likely_11 : decode cX8_likely 11 = .ok (.invokevirtual 60, 3) := by decide +kernel
theorem d_X8_likely_14 : decode cX8_likely 14 = .ok (.i2l, 1) := by decide +kernel
theorem d_X8_likely_15 : decode cX8_likely 15 = .ok (.lstore 4, 2) := by decide +kernel
theorem d_X8_likely_17 : decode cX8_likely 17 = .ok (.ldc2_w 64, 3) := by decide +kernel
theorem d_X8_likely_20 : decode cX8_likely 20 = .ok (.aload_n 0, 1) := by decide +kernel
theorem d_X8_likely_21 : decode cX8_likely 21 = .ok (.iload_n 2, 1) := by decide +kernel
theorem d_X8_likely_22 : decode cX8_likely 22 = .ok (.iconst 2, 1) := by decide +kernel
theorem d_X8_likely_23 : decode cX8_likely 23 = .ok (.invokevirtual 66, 3) := by decide +kernel
theorem d_X8_likely_26 : decode cX8_likely 26 = .ok (.i2l, 1) := by decide +kernel
theorem d_X8_likely_27 : decode cX8_likely 27 = .ok (.aload_n 0, 1) := by decide +kernel
theorem d_X8_likely_28 : decode cX8_likely 28 = .ok (.iload_n 1, 1) := by decide +kernel
theorem d_X8_likely_29 : decode cX8_likely 29 = .ok (.iconst 3, 1) := by decide +kernel
theorem d_X8_likely_30 : decode cX8_likely 30 = .ok (.invokevirtual 60, 3) := by decide +kernel
theorem d_X8_likely_33 : decode cX8_likely 33 = .ok (.i2l, 1) := by decide +kernel
theorem d_X8_likely_34 : decode cX8_likely 34 = .ok (.lmul, 1) := by decide +kernel
theorem d_X8_likely_35 : decode cX8_likely 35 = .ok (.lsub, 1) := by decide +kernel
theorem d_X8_likely_36 : decode cX8_likely 36 = .ok (.lstore 6, 2) := by decide +kernel
theorem d_X8_likely_38 : decode cX8_likely 38 = .ok (.lload 4, 2) := by decide +kernel
theorem d_X8_likely_40 : decode cX8_likely 40 = .ok (.lload 6, 2) := by decide +kernel
theorem d_X8_likely_42 : decode cX8_likely 42 = .ok (.lmul, 1) := by decide +kernel
theorem d_X8_likely_43 : decode cX8_likely 43 = .ok (.ldc2_w 69, 3) := by decide +kernel
theorem d_X8_likely_46 : decode cX8_likely 46 = .ok (.ldiv, 1) := by decide +kernel
theorem d_X8_likely_47 : decode cX8_likely 47 = .ok (.l2i, 1) := by decide +kernel
theorem d_X8_likely_48 : decode cX8_likely 48 = .ok (.ireturn, 1) := by decide +kernel
def j_X8_likely_11 (v0 : Nat) (v1 : Int32) (v2 : Int32) (k0 : Int32) (k1 : Int32) (k2 : Nat) (h : AH) : Option Int32 := bd (s_X8_ofKind k2 k1 k0 h) fun x1 => bd (s_X8_ofEvening v0 v2 2 h) fun x2 => bd (s_X8_ofKind v0 v1 3 h) fun x3 => bd (ldivF (x1.toInt64 * (1000000 - (x2.toInt64 * x3.toInt64))) 1000) fun x4 => some x4.toInt32
theorem tj_X8_likely_11 {g : GP} {X : MX} {mcR msR : Nat} (hF : gF g = true) (hX : Cx g RX8 cX8_likely 3 mcR msR (some .int) [] X) {v0 : Nat} {v1 : Int32} {v2 : Int32} {k0 : Int32} {k1 : Int32} {k2 : Nat} (hl_0 : LAY v0 = (0, 8)) (hl_1 : LAY k2 = (0, 8)) {d3 : Value} {d4 : Value} {d5 : Value} {d6 : Value} {d7 : Value} {h : AH} {z : Int32} (e : j_X8_likely_11 v0 v1 v2 k0 k1 k2 h = some z) : AR g X 0 0 (QQ g X NT false h (.inl (some (.int z))) 0 0) h 11 [.ref v0, .int v1, .int v2, d3, d4, d5, d6, d7] [.int k0, .int k1, .ref k2] := by
  unfold j_X8_likely_11 at e
  obtain ⟨x1, f_74, e_74⟩ := bd_some e
  clear e
  refine aw_callV (b := k2) (av := [.int k1, .int k0]) (avr := [.int k0, .int k1]) hX (k_X8_ofKind (cx_g hX) hF f_74) mi_X8_ofKind rfl rfl w_9 w_10 w_11 (by decide) (by assumption) (LAY_lt (by assumption) (by decide)) rfl rfl (Nat.le_of_ble_eq_true rfl) (Nat.zero_le _) (Nat.zero_le _) d_X8_likely_11 ?_
  refine aw_i2l hX d_X8_likely_14 ?_
  refine aw_lstore (i := 4) (lv2 := [.ref v0, .int v1, .int v2, _, .long x1.toInt64, jk, d6, d7]) hX rfl rfl d_X8_likely_15 ?_
  refine aw_ldc2 hX w_46 d_X8_likely_17 ?_
  refine aw_aload_n (i := 0) hX rfl rfl d_X8_likely_20 ?_
  refine aw_iload_n (i := 2) hX rfl rfl d_X8_likely_21 ?_
  refine aw_iconst (v := 2) hX (by decide) d_X8_likely_22 ?_
  obtain ⟨x2, f_75, e_75⟩ := bd_some e_74
  clear e_74
  refine aw_callV (b := v0) (av := [.int v2, .int 2]) (avr := [.int 2, .int v2]) hX (k_X8_ofEvening (cx_g hX) hF f_75) mi_X8_ofEvening rfl rfl w_47 w_33 w_34 (by decide) (by assumption) (LAY_lt (by assumption) (by decide)) rfl rfl (Nat.le_of_ble_eq_true rfl) (Nat.zero_le _) (Nat.zero_le _) d_X8_likely_23 ?_
  refine aw_i2l hX d_X8_likely_26 ?_
  refine aw_aload_n (i := 0) hX rfl rfl d_X8_likely_27 ?_
  refine aw_iload_n (i := 1) hX rfl rfl d_X8_likely_28 ?_
  refine aw_iconst (v := 3) hX (by decide) d_X8_likely_29 ?_
  obtain ⟨x3, f_76, e_76⟩ := bd_some e_75
  clear e_75
  refine aw_callV (b := v0) (av := [.int v1, .int 3]) (avr := [.int 3, .int v1]) hX (k_X8_ofKind (cx_g hX) hF f_76) mi_X8_ofKind rfl rfl w_9 w_10 w_11 (by decide) (by assumption) (LAY_lt (by assumption) (by decide)) rfl rfl (Nat.le_of_ble_eq_true rfl) (Nat.zero_le _) (Nat.zero_le _) d_X8_likely_30 ?_
  refine aw_i2l hX d_X8_likely_33 ?_
  refine aw_lmul hX d_X8_likely_34 ?_
  refine aw_lsub hX d_X8_likely_35 ?_
  refine aw_lstore (i := 6) (lv2 := [.ref v0, .int v1, .int v2, _, .long x1.toInt64, jk, .long (1000000 - (x2.toInt64 * x3.toInt64)), jk]) hX rfl rfl d_X8_likely_36 ?_
  refine aw_lload (i := 4) hX rfl d_X8_likely_38 ?_
  refine aw_lload (i := 6) hX rfl d_X8_likely_40 ?_
  refine aw_lmul hX d_X8_likely_42 ?_
  refine aw_ldc2 hX w_48 d_X8_likely_43 ?_
  obtain ⟨x4, f_77, e_77⟩ := bd_some e_76
  clear e_76
  refine ar_ldiv hX f_77 d_X8_likely_46 ?_
  refine aw_l2i hX d_X8_likely_47 ?_
  cases e_77
  exact aw_ireturn hX (Nat.zero_le _) (Nat.zero_le _) d_X8_likely_48
def s_X8_likely (th : Nat) (a0 : Int32) (a1 : Int32) (a2 : Int32) (h : AH) : Option Int32 := if LAY th = (0, 8) then if a2 = 0 then j_X8_likely_11 th a0 a1 1 a0 th h else j_X8_likely_11 th a0 a1 2 a0 th h else none
theorem t_X8_likely {g : GP} {X : MX} {mcR msR : Nat} (hF : gF g = true) (hX : Cx g RX8 cX8_likely 3 mcR msR (some .int) [] X) {th : Nat} {a0 : Int32} {a1 : Int32} {a2 : Int32} {h : AH} {z : Int32} (e : s_X8_likely th a0 a1 a2 h = some z) : AR g X 0 0 (QQ g X NT false h (.inl (some (.int z))) 0 0) h 0 [.ref th, .int a0, .int a1, .int a2, jk, jk, jk, jk] [] := by
  unfold s_X8_likely at e
  obtain ⟨hl_this, e_78⟩ := if_some e
  clear e
  refine aw_aload_n (i := 0) hX rfl rfl d_X8_likely_0 ?_
  refine aw_iload_n (i := 1) hX rfl rfl d_X8_likely_1 ?_
  refine aw_iload_n (i := 3) hX rfl rfl d_X8_likely_2 ?_
  refine aw_if_eq (t := 10) hX (by decide) d_X8_likely_3 (fun c => ?_) (fun c => ?_)
  · rw [if_pos c] at e_78
    refine aw_iconst (v := 1) hX (by decide) d_X8_likely_10 ?_
    exact tj_X8_likely_11 hF hX (by assumption) (by assumption) e_78
  · rw [if_neg c] at e_78
    refine aw_iconst (v := 2) hX (by decide) d_X8_likely_6 ?_
    refine aw_goto (t := 11) hX (by decide) d_X8_likely_7 ?_
    exact tj_X8_likely_11 hF hX (by assumption) (by assumption) e_78
theorem k_X8_likely {g : GP} (hg : g.1.stackTraces = false) (hF : gF g = true) {th : Nat} {a0 : Int32} {a1 : Int32} {a2 : Int32} {h : AH} {z : Int32} (e : s_X8_likely th a0 a1 a2 h = some z) : Ctr g yX8_likely (wsY yX8_likely cX8_likely 8 (some .int)) 3 0 0 [.ref th, .int a0, .int a1, .int a2] NT false h (some (.int z)) NT false h := ctr_of (lv0 := [.ref th, .int a0, .int a1, .int a2, jk, jk, jk, jk]) rfl rfl (by decide) hg trivial (fun X hX hn => t_X8_likely hF hX e)
theorem d_X8_setFrom_0 : decode cX8_setFrom 0 = .ok (.iconst 0, 1) := by decide +kernel
theorem d_X8_setFrom_1 : decode cX8_setFrom 1 = .ok (.istore_n 2, 1) := by decide +kernel
theorem d_X8_setFrom_2 : decode cX8_setFrom 2 = .ok (.iload_n 1, 1) := by decide +kernel
theorem d_X8_setFrom_3 : decode cX8_setFrom 3 = .ok (.istore_n 3, 1) := by decide +kernel
theorem d_X8_setFrom_4 : decode cX8_setFrom 4 = .ok (.iload_n 3, 1) := by decide +kernel
theorem d_X8_setFrom_5 : decode cX8_setFrom 5 = .ok (.aload_n 0, 1) := by decide +kernel
theorem d_X8_setFrom_6 : decode cX8_setFrom 6 = .ok (.getfield 44, 3) := by decide +kernel
theorem d_X8_setFrom_9 : decode cX8_setFrom 9 = .ok (.if_icmp .ge 20, 3) := by decide +kernel
theorem d_X8_setFrom_12 : decode cX8_setFrom 12 = .ok (.iload_n 2, 1) := by decide +kernel
theorem d_X8_setFrom_13 : decode cX8_setFrom 13 = .ok (.aload_n 0, 1) := by decide +kernel
theorem d_X8_setFrom_14 : decode cX8_setFrom 14 = .ok (.getfield 19, 3) := by decide +kernel
theorem d_X8_setFrom_17 : decode cX8_setFrom 17 = .ok (.iload_n 3, 1) := by decide +kernel
theorem d_X8_setFrom_18 : decode cX8_setFrom 18 = .ok (.invokestatic 56, 3) := by decide +kernel
theorem d_X8_setFrom_21 : decode cX8_setFrom 21 = .ok (.iadd, 1) := by decide +kernel
theorem d_X8_setFrom_22 : decode cX8_setFrom 22 = .ok (.istore_n 2, 1) := by decide +kernel
theorem d_X8_setFrom_23 : decode cX8_setFrom 23 = .ok (.iinc 3 1, 3) := by decide +kernel
theorem d_X8_setFrom_26 : decode cX8_setFrom 26 = .ok (.goto (-22), 3) := by decide +kernel
theorem d_X8_setFrom_29 : decode cX8_setFrom 29 = .ok (.iload_n 2, 1) := by decide +kernel
theorem d_X8_setFrom_30 : decode cX8_setFrom 30 = .ok (.ireturn, 1) := by decide +kernel
def l_X8_setFrom_4 (p0 : Nat) (h : AH) (s : (Int32 × Int32)) : Option ((Int32 × Int32) ⊕ Int32) := if (gI h p0 2) ≤ s.2 then some (.inr s.1) else bd (s_X9_at (some (p0 + 2)) s.2 h) fun x1 => some (.inl ((s.1 + x1), s.2 + 1))
theorem tb_X8_setFrom_4 {g : GP} {X : MX} {mcR msR : Nat} (hF : gF g = true) (hX : Cx g RX8 cX8_setFrom 2 mcR msR (some .int) [] X) {Q : State → Prop} {p0 : Nat} {s : (Int32 × Int32)} (hl_0 : LAY p0 = (0, 8)) {d1 : Value} {h : AH} {z : ((Int32 × Int32) ⊕ Int32)} (e : l_X8_setFrom_4 p0 h s = some z) (kI : ∀ (s2 : (Int32 × Int32)) (xd1 : Value), z = .inl s2 → AR g X 0 0 Q h 4 [.ref p0, xd1, .int s2.1, .int s2.2] []) (kE0 : ∀ (yy : Int32) (y0 : Value) (y1 : Value) (y3 : Value), z = .inr yy → AR g X 0 0 Q h 29 [y0, y1, .int yy, y3] []) : AR g X 0 0 Q h 4 [.ref p0, d1, .int s.1, .int s.2] [] := by
  unfold l_X8_setFrom_4 at e
  refine aw_iload_n (i := 3) hX rfl rfl d_X8_setFrom_4 ?_
  refine aw_aload_n (i := 0) hX rfl rfl d_X8_setFrom_5 ?_
  refine ar_getI hX fg_RX8_44 (by assumption) d_X8_setFrom_6 ?_
  refine aw_icmp_ge (t := 29) hX (by decide) d_X8_setFrom_9 (fun c => ?_) (fun c => ?_)
  · rw [if_pos c] at e
    cases e
    exact kE0 s.1 _ _ _ rfl
  · rw [if_neg c] at e
    refine aw_iload_n (i := 2) hX rfl rfl d_X8_setFrom_12 ?_
    refine aw_aload_n (i := 0) hX rfl rfl d_X8_setFrom_13 ?_
    refine ar_getF hX hF fg_RX8_19 (by assumption) d_X8_setFrom_14 ?_
    refine aw_iload_n (i := 3) hX rfl rfl d_X8_setFrom_17 ?_
    obtain ⟨x1, f_281, e_281⟩ := bd_some e
    clear e
    refine aw_callSN (av := [.ref (p0 + 2), .int s.2]) (avr := [.int s.2, .ref (p0 + 2)]) hX (k_X9_at (cx_g hX) hF f_281) mi_X9_at rfl rfl nx10 w_6 (by decide) (Nat.le_of_ble_eq_true rfl) (Nat.zero_le _) (Nat.zero_le _) d_X8_setFrom_18 ?_
    refine aw_iadd hX d_X8_setFrom_21 ?_
    refine aw_istore_n (i := 2) (lv2 := [.ref p0, _, .int (s.1 + x1), .int s.2]) hX rfl rfl rfl d_X8_setFrom_22 ?_
    refine aw_iinc (i := 3) (lv2 := [.ref p0, _, .int (s.1 + x1), .int (s.2 + 1)]) hX rfl rfl rfl rfl d_X8_setFrom_23 ?_
    refine aw_goto (t := 4) hX (by decide) d_X8_setFrom_26 ?_
    cases e_281
    exact kI ((s.1 + x1), s.2 + 1) _ rfl
theorem ti_X8_setFrom_4 {g : GP} {X : MX} {mcR msR : Nat} (hF : gF g = true) (hX : Cx g RX8 cX8_setFrom 2 mcR msR (some .int) [] X) {Q : State → Prop} {p0 : Nat} (hl_0 : LAY p0 = (0, 8)) {y : Int32} {h : AH} (kE0 : ∀ (y_0 : Value) (y_1 : Value) (y_3 : Value), AR g X 0 0 Q h 29 [y_0, y_1, .int y, y_3] []) (n : Nat) : ∀ (s : (Int32 × Int32)) (d1 : Value), lpP (l_X8_setFrom_4 p0 h) n s = some y → AR g X 0 0 Q h 4 [.ref p0, d1, .int s.1, .int s.2] [] := by
  induction n with
  | zero => intro s d1 e; cases e
  | succ n ih =>
    intro s d1 e
    obtain ⟨x, e1, e2⟩ := lpP_succ e
    rcases e2 with ⟨s2, rfl, e3⟩ | rfl
    · exact tb_X8_setFrom_4 hF hX hl_0 e1 (fun s3 x0 hs => by cases hs; exact ih _ _  e3) (fun yy x0 x1 x2 hy => by cases hy)
    · exact tb_X8_setFrom_4 hF hX hl_0 e1 (fun s3 x0 hs => by cases hs) (fun yy x0 x1 x2 hy => by cases hy; exact kE0 x0 x1 x2)
theorem t_X8_setFrom_4 {g : GP} {X : MX} {mcR msR : Nat} (hF : gF g = true) (hX : Cx g RX8 cX8_setFrom 2 mcR msR (some .int) [] X) {Q : State → Prop} {p0 : Nat} (hl_0 : LAY p0 = (0, 8)) {s : (Int32 × Int32)} {d1 : Value} {h : AH} {n : Nat} {y : Int32} (e : lpP (l_X8_setFrom_4 p0 h) n s = some y) (kE0 : ∀ (y_0 : Value) (y_1 : Value) (y_3 : Value), AR g X 0 0 Q h 29 [y_0, y_1, .int y, y_3] []) : AR g X 0 0 Q h 4 [.ref p0, d1, .int s.1, .int s.2] [] := ti_X8_setFrom_4 hF hX hl_0 kE0 n _ _  e
def s_X8_setFrom (th : Nat) (a0 : Int32) (h : AH) : Option Int32 := if LAY th = (0, 8) then bd (lpP (l_X8_setFrom_4 th h) FU (0, a0)) fun y2 => some y2 else none
theorem t_X8_setFrom {g : GP} {X : MX} {mcR msR : Nat} (hF : gF g = true) (hX : Cx g RX8 cX8_setFrom 2 mcR msR (some .int) [] X) {th : Nat} {a0 : Int32} {h : AH} {z : Int32} (e : s_X8_setFrom th a0 h = some z) : AR g X 0 0 (QQ g X NT false h (.inl (some (.int z))) 0 0) h 0 [.ref th, .int a0, jk, jk] [] := by
  unfold s_X8_setFrom at e
  obtain ⟨hl_this, e_282⟩ := if_some e
  clear e
  refine aw_iconst (v := 0) hX (by decide) d_X8_setFrom_0 ?_
  refine aw_istore_n (i := 2) (lv2 := [.ref th, .int a0, .int 0, jk]) hX rfl rfl rfl d_X8_setFrom_1 ?_
  refine aw_iload_n (i := 1) hX rfl rfl d_X8_setFrom_2 ?_
  refine aw_istore_n (i := 3) (lv2 := [.ref th, .int a0, .int 0, .int a0]) hX rfl rfl rfl d_X8_setFrom_3 ?_
  obtain ⟨y2, f_283, e_283⟩ := bd_some e_282
  clear e_282
  refine t_X8_setFrom_4 hF hX (by assumption) f_283 (fun d3_0 d3_1 d3_3 => ?_)
  refine aw_iload_n (i := 2) hX rfl rfl d_X8_setFrom_29 ?_
  cases e_283
  exact aw_ireturn hX (Nat.zero_le _) (Nat.zero_le _) d_X8_setFrom_30
theorem k_X8_setFrom {g : GP} (hg : g.1.stackTraces = false) (hF : gF g = true) {th : Nat} {a0 : Int32} {h : AH} {z : Int32} (e : s_X8_setFrom th a0 h = some z) : Ctr g yX8_setFrom (wsY yX8_setFrom cX8_setFrom 4 (some .int)) 2 0 0 [.ref th, .int a0] NT false h (some (.int z)) NT false h := ctr_of (lv0 := [.ref th, .int a0, jk, jk]) rfl rfl (by decide) hg trivial (fun X hX hn => t_X8_setFrom hF hX e)
theorem d_X8_clear_0 : decode cX8_clear 0 = .ok (.aload_n 0, 1) := by decide +kernel
theorem d_X8_clear_1 : decode cX8_clear 1 = .ok (.iconst 1, 1) := by decide +kernel
theorem d_X8_clear_2 : decode cX8_clear 2 = .ok (.putfield 9, 3) := by decide +kernel
theorem d_X8_clear_5 : decode cX8_clear 5 = .ok (.aload_n 0, 1) := by decide +kernel
theorem d_X8_clear_6 : decode cX8_clear 6 = .ok (.iconst 0, 1) := by decide +kernel
theorem d_X8_clear_7 : decode cX8_clear 7 = .ok (.putfield 41, 3) := by decide +kernel
theorem d_X8_clear_10 : decode cX8_clear 10 = .ok (.aload_n 0, 1) := by decide +kernel
theorem d_X8_clear_11 : decode cX8_clear 11 = .ok (.iconst 0, 1) := by decide +kernel
theorem d_X8_clear_12 : decode cX8_clear 12 = .ok (.putfield 44, 3) := by decide +kernel
theorem d_X8_clear_15 : decode cX8_clear 15 = .ok (.aload_n 0, 1) := by decide +kernel
theorem d_X8_clear_16 : decode cX8_clear 16 = .ok (.iconst 0, 1) := by decide +kernel
theorem d_X8_clear_17 : decode cX8_clear 17 = .ok (.putfield 47, 3) := by decide +kernel
theorem d_X8_clear_20 : decode cX8_clear 20 = .ok (.aload_n 0, 1) := by decide +kernel
theorem d_X8_clear_21 : decode cX8_clear 21 = .ok (.iconst 0, 1) := by decide +kernel
theorem d_X8_clear_22 : decode cX8_clear 22 = .ok (.putfield 50, 3) := by decide +kernel
theorem d_X8_clear_25 : decode cX8_clear 25 = .ok (.aload_n 0, 1) := by decide +kernel
theorem d_X8_clear_26 : decode cX8_clear 26 = .ok (.iconst 0, 1) := by decide +kernel
theorem d_X8_clear_27 : decode cX8_clear 27 = .ok (.putfield 53, 3) := by decide +kernel
theorem d_X8_clear_30 : decode cX8_clear 30 = .ok (.aload_n 0, 1) := by decide +kernel
theorem d_X8_clear_31 : decode cX8_clear 31 = .ok (.getfield 15, 3) := by decide +kernel
theorem d_X8_clear_34 : decode cX8_clear 34 = .ok (.iconst 0, 1) := by decide +kernel
theorem d_X8_clear_35 : decode cX8_clear 35 = .ok (.invokestatic 37, 3) := by decide +kernel
theorem d_X8_clear_38 : decode cX8_clear 38 = .ok (.aload_n 0, 1) := by decide +kernel
theorem d_X8_clear_39 : decode cX8_clear 39 = .ok (.getfield 19, 3) := by decide +kernel
theorem d_X8_clear_42 : decode cX8_clear 42 = .ok (.iconst 0, 1) := by decide +kernel
theorem d_X8_clear_43 : decode cX8_clear 43 = .ok (.invokestatic 37, 3) := by decide +kernel
theorem d_X8_clear_46 : decode cX8_clear 46 = .ok (.aload_n 0, 1) := by decide +kernel
theorem d_X8_clear_47 : decode cX8_clear 47 = .ok (.getfield 22, 3) := by decide +kernel
theorem d_X8_clear_50 : decode cX8_clear 50 = .ok (.iconst 0, 1) := by decide +kernel
theorem d_X8_clear_51 : decode cX8_clear 51 = .ok (.invokestatic 37, 3) := by decide +kernel
theorem d_X8_clear_54 : decode cX8_clear 54 = .ok (.aload_n 0, 1) := by decide +kernel
theorem d_X8_clear_55 : decode cX8_clear 55 = .ok (.getfield 25, 3) := by decide +kernel
theorem d_X8_clear_58 : decode cX8_clear 58 = .ok (.iconst 0, 1) := by decide +kernel
theorem d_X8_clear_59 : decode cX8_clear 59 = .ok (.invokestatic 37, 3) := by decide +kernel
theorem d_X8_clear_62 : decode cX8_clear 62 = .ok (.aload_n 0, 1) := by decide +kernel
theorem d_X8_clear_63 : decode cX8_clear 63 = .ok (.getfield 28, 3) := by decide +kernel
theorem d_X8_clear_66 : decode cX8_clear 66 = .ok (.iconst 0, 1) := by decide +kernel
theorem d_X8_clear_67 : decode cX8_clear 67 = .ok (.invokestatic 37, 3) := by decide +kernel
theorem d_X8_clear_70 : decode cX8_clear 70 = .ok (.aload_n 0, 1) := by decide +kernel
theorem d_X8_clear_71 : decode cX8_clear 71 = .ok (.getfield 31, 3) := by decide +kernel
theorem d_X8_clear_74 : decode cX8_clear 74 = .ok (.iconst 0, 1) := by decide +kernel
theorem d_X8_clear_75 : decode cX8_clear 75 = .ok (.invokestatic 37, 3) := by decide +kernel
theorem d_X8_clear_78 : decode cX8_clear 78 = .ok (.aload_n 0, 1) := by decide +kernel
theorem d_X8_clear_79 : decode cX8_clear 79 = .ok (.getfield 34, 3) := by decide +kernel
theorem d_X8_clear_82 : decode cX8_clear 82 = .ok (.iconst (-1), 1) := by decide +kernel
theorem d_X8_clear_83 : decode cX8_clear 83 = .ok (.invokestatic 37, 3) := by decide +kernel
theorem d_X8_clear_86 : decode cX8_clear 86 = .ok (.return_, 1) := by decide +kernel
def s_X8_clear (th : Nat) (h : AH) : Option (Unit × AH) := if LAY th = (0, 8) then bd (s_X9_fillRow (some (th + 1)) 0 (sI (sI (sI (sI (sI (sI h th 0 1) th 1 0) th 2 0) th 3 0) th 4 0) th 5 0)) fun q1 => bd (s_X9_fillRow (some (th + 2)) 0 q1.2) fun q2 => bd (s_X9_fillRow (some (th + 3)) 0 q2.2) fun q3 => bd (s_X9_fillRow (some (th + 4)) 0 q3.2) fun q4 => bd (s_X9_fillRow (some (th + 5)) 0 q4.2) fun q5 => bd (s_X9_fillRow (some (th + 6)) 0 q5.2) fun q6 => bd (s_X9_fillRow (some (th + 7)) (-1) q6.2) fun q7 => some ((), q7.2) else none
theorem t_X8_clear {g : GP} {X : MX} {mcR msR : Nat} (hF : gF g = true) (hX : Cx g RX8 cX8_clear 2 mcR msR none [] X) {th : Nat} {h hz : AH} {z : Unit} (e : s_X8_clear th h = some (z, hz)) : AR g X 0 0 (QQ g X NT false hz (.inl none) 0 0) h 0 [.ref th] [] := by
  unfold s_X8_clear at e
  obtain ⟨hl_this, e_541⟩ := if_some e
  clear e
  refine aw_aload_n (i := 0) hX rfl rfl d_X8_clear_0 ?_
  refine aw_iconst (v := 1) hX (by decide) d_X8_clear_1 ?_
  refine ar_putI hX fp_RX8_9 (by assumption) d_X8_clear_2 ?_
  refine aw_aload_n (i := 0) hX rfl rfl d_X8_clear_5 ?_
  refine aw_iconst (v := 0) hX (by decide) d_X8_clear_6 ?_
  refine ar_putI hX fp_RX8_41 (by assumption) d_X8_clear_7 ?_
  refine aw_aload_n (i := 0) hX rfl rfl d_X8_clear_10 ?_
  refine aw_iconst (v := 0) hX (by decide) d_X8_clear_11 ?_
  refine ar_putI hX fp_RX8_44 (by assumption) d_X8_clear_12 ?_
  refine aw_aload_n (i := 0) hX rfl rfl d_X8_clear_15 ?_
  refine aw_iconst (v := 0) hX (by decide) d_X8_clear_16 ?_
  refine ar_putI hX fp_RX8_47 (by assumption) d_X8_clear_17 ?_
  refine aw_aload_n (i := 0) hX rfl rfl d_X8_clear_20 ?_
  refine aw_iconst (v := 0) hX (by decide) d_X8_clear_21 ?_
  refine ar_putI hX fp_RX8_50 (by assumption) d_X8_clear_22 ?_
  refine aw_aload_n (i := 0) hX rfl rfl d_X8_clear_25 ?_
  refine aw_iconst (v := 0) hX (by decide) d_X8_clear_26 ?_
  refine ar_putI hX fp_RX8_53 (by assumption) d_X8_clear_27 ?_
  refine aw_aload_n (i := 0) hX rfl rfl d_X8_clear_30 ?_
  refine ar_getF hX hF fg_RX8_15 (by assumption) d_X8_clear_31 ?_
  refine aw_iconst (v := 0) hX (by decide) d_X8_clear_34 ?_
  obtain ⟨q1, f_542, e_542⟩ := bd_some e_541
  clear e_541
  refine aw_callSN (av := [.ref (th + 1), .int 0]) (avr := [.int 0, .ref (th + 1)]) hX (k_X9_fillRow (cx_g hX) hF f_542) mi_X9_fillRow rfl rfl nx2 w_178 (by decide) (Nat.le_of_ble_eq_true rfl) (Nat.zero_le _) (Nat.zero_le _) d_X8_clear_35 ?_
  refine aw_aload_n (i := 0) hX rfl rfl d_X8_clear_38 ?_
  refine ar_getF hX hF fg_RX8_19 (by assumption) d_X8_clear_39 ?_
  refine aw_iconst (v := 0) hX (by decide) d_X8_clear_42 ?_
  obtain ⟨q2, f_543, e_543⟩ := bd_some e_542
  clear e_542
  refine aw_callSN (av := [.ref (th + 2), .int 0]) (avr := [.int 0, .ref (th + 2)]) hX (k_X9_fillRow (cx_g hX) hF f_543) mi_X9_fillRow rfl rfl nx2 w_178 (by decide) (Nat.le_of_ble_eq_true rfl) (Nat.zero_le _) (Nat.zero_le _) d_X8_clear_43 ?_
  refine aw_aload_n (i := 0) hX rfl rfl d_X8_clear_46 ?_
  refine ar_getF hX hF fg_RX8_22 (by assumption) d_X8_clear_47 ?_
  refine aw_iconst (v := 0) hX (by decide) d_X8_clear_50 ?_
  obtain ⟨q3, f_544, e_544⟩ := bd_some e_543
  clear e_543
  refine aw_callSN (av := [.ref (th + 3), .int 0]) (avr := [.int 0, .ref (th + 3)]) hX (k_X9_fillRow (cx_g hX) hF f_544) mi_X9_fillRow rfl rfl nx2 w_178 (by decide) (Nat.le_of_ble_eq_true rfl) (Nat.zero_le _) (Nat.zero_le _) d_X8_clear_51 ?_
  refine aw_aload_n (i := 0) hX rfl rfl d_X8_clear_54 ?_
  refine ar_getF hX hF fg_RX8_25 (by assumption) d_X8_clear_55 ?_
  refine aw_iconst (v := 0) hX (by decide) d_X8_clear_58 ?_
  obtain ⟨q4, f_545, e_545⟩ := bd_some e_544
  clear e_544
  refine aw_callSN (av := [.ref (th + 4), .int 0]) (avr := [.int 0, .ref (th + 4)]) hX (k_X9_fillRow (cx_g hX) hF f_545) mi_X9_fillRow rfl rfl nx2 w_178 (by decide) (Nat.le_of_ble_eq_true rfl) (Nat.zero_le _) (Nat.zero_le _) d_X8_clear_59 ?_
  refine aw_aload_n (i := 0) hX rfl rfl d_X8_clear_62 ?_
  refine ar_getF hX hF fg_RX8_28 (by assumption) d_X8_clear_63 ?_
  refine aw_iconst (v := 0) hX (by decide) d_X8_clear_66 ?_
  obtain ⟨q5, f_546, e_546⟩ := bd_some e_545
  clear e_545
  refine aw_callSN (av := [.ref (th + 5), .int 0]) (avr := [.int 0, .ref (th + 5)]) hX (k_X9_fillRow (cx_g hX) hF f_546) mi_X9_fillRow rfl rfl nx2 w_178 (by decide) (Nat.le_of_ble_eq_true rfl) (Nat.zero_le _) (Nat.zero_le _) d_X8_clear_67 ?_
  refine aw_aload_n (i := 0) hX rfl rfl d_X8_clear_70 ?_
  refine ar_getF hX hF fg_RX8_31 (by assumption) d_X8_clear_71 ?_
  refine aw_iconst (v := 0) hX (by decide) d_X8_clear_74 ?_
  obtain ⟨q6, f_547, e_547⟩ := bd_some e_546
  clear e_546
  refine aw_callSN (av := [.ref (th + 6), .int 0]) (avr := [.int 0, .ref (th + 6)]) hX (k_X9_fillRow (cx_g hX) hF f_547) mi_X9_fillRow rfl rfl nx2 w_178 (by decide) (Nat.le_of_ble_eq_true rfl) (Nat.zero_le _) (Nat.zero_le _) d_X8_clear_75 ?_
  refine aw_aload_n (i := 0) hX rfl rfl d_X8_clear_78 ?_
  refine ar_getF hX hF fg_RX8_34 (by assumption) d_X8_clear_79 ?_
  refine aw_iconst (v := (-1)) hX (by decide) d_X8_clear_82 ?_
  obtain ⟨q7, f_548, e_548⟩ := bd_some e_547
  clear e_547
  refine aw_callSN (av := [.ref (th + 7), .int (-1)]) (avr := [.int (-1), .ref (th + 7)]) hX (k_X9_fillRow (cx_g hX) hF f_548) mi_X9_fillRow rfl rfl nx2 w_178 (by decide) (Nat.le_of_ble_eq_true rfl) (Nat.zero_le _) (Nat.zero_le _) d_X8_clear_83 ?_
  cases e_548
  exact aw_return hX (Nat.zero_le _) (Nat.zero_le _) d_X8_clear_86
theorem k_X8_clear {g : GP} (hg : g.1.stackTraces = false) (hF : gF g = true) {th : Nat} {h hz : AH} {z : Unit} (e : s_X8_clear th h = some (z, hz)) : Ctr g yX8_clear (wsY yX8_clear cX8_clear 1 none) 2 0 0 [.ref th] NT false h none NT false hz := ctr_of (lv0 := [.ref th]) rfl rfl (by decide) hg trivial (fun X hX hn => t_X8_clear hF hX e)
theorem d_X8_people_0 : decode cX8_people 0 = .ok (.iconst 0, 1) := by decide +kernel
theorem d_X8_people_1 : decode cX8_people 1 = .ok (.istore_n 1, 1) := by decide +kernel
theorem d_X8_people_2 : decode cX8_people 2 = .ok (.iconst 0, 1) := by decide +kernel
theorem d_X8_people_3 : decode cX8_people 3 = .ok (.istore_n 2, 1) := by decide +kernel
theorem d_X8_people_4 : decode cX8_people 4 = .ok (.iload_n 2, 1) := by decide +kernel
theorem d_X8_people_5 : decode cX8_people 5 = .ok (.aload_n 0, 1) := by decide +kernel
theorem d_X8_people_6 : decode cX8_people 6 = .ok (.getfield 47, 3) := by decide +kernel
theorem d_X8_people_9 : decode cX8_people 9 = .ok (.if_icmp .ge 20, 3) := by decide +kernel
theorem d_X8_people_12 : decode cX8_people 12 = .ok (.iload_n 1, 1) := by decide +kernel
theorem d_X8_people_13 : decode cX8_people 13 = .ok (.aload_n 0, 1) := by decide +kernel
theorem d_X8_people_14 : decode cX8_people 14 = .ok (.getfield 25, 3) := by decide +kernel
theorem d_X8_people_17 : decode cX8_people 17 = .ok (.iload_n 2, 1) := by decide +kernel
theorem d_X8_people_18 : decode cX8_people 18 = .ok (.invokestatic 56, 3) := by decide +kernel
theorem d_X8_people_21 : decode cX8_people 21 = .ok (.iadd, 1) := by decide +kernel
theorem d_X8_people_22 : decode cX8_people 22 = .ok (.istore_n 1, 1) := by decide +kernel
theorem d_X8_people_23 : decode cX8_people 23 = .ok (.iinc 2 1, 3) := by decide +kernel
theorem d_X8_people_26 : decode cX8_people 26 = .ok (.goto (-22), 3) := by decide +kernel
theorem d_X8_people_29 : decode cX8_people 29 = .ok (.iload_n 1, 1) := by decide +kernel
theorem d_X8_people_30 : decode cX8_people 30 = .ok (.ireturn, 1) := by decide +kernel
def l_X8_people_4 (p0 : Nat) (h : AH) (s : (Int32 × Int32)) : Option ((Int32 × Int32) ⊕ Int32) := if (gI h p0 3) ≤ s.2 then some (.inr s.1) else bd (s_X9_at (some (p0 + 4)) s.2 h) fun x1 => some (.inl ((s.1 + x1), s.2 + 1))
theorem tb_X8_people_4 {g : GP} {X : MX} {mcR msR : Nat} (hF : gF g = true) (hX : Cx g RX8 cX8_people 2 mcR msR (some .int) [] X) {Q : State → Prop} {p0 : Nat} {s : (Int32 × Int32)} (hl_0 : LAY p0 = (0, 8)) {h : AH} {z : ((Int32 × Int32) ⊕ Int32)} (e : l_X8_people_4 p0 h s = some z) (kI : ∀ (s2 : (Int32 × Int32)), z = .inl s2 → AR g X 0 0 Q h 4 [.ref p0, .int s2.1, .int s2.2] []) (kE0 : ∀ (yy : Int32) (y0 : Value) (y2 : Value), z = .inr yy → AR g X 0 0 Q h 29 [y0, .int yy, y2] []) : AR g X 0 0 Q h 4 [.ref p0, .int s.1, .int s.2] [] := by
  unfold l_X8_people_4 at e
  refine aw_iload_n (i := 2) hX rfl rfl d_X8_people_4 ?_
  refine aw_aload_n (i := 0) hX rfl rfl d_X8_people_5 ?_
  refine ar_getI hX fg_RX8_47 (by assumption) d_X8_people_6 ?_
  refine aw_icmp_ge (t := 29) hX (by decide) d_X8_people_9 (fun c => ?_) (fun c => ?_)
  · rw [if_pos c] at e
    cases e
    exact kE0 s.1 _ _ rfl
  · rw [if_neg c] at e
    refine aw_iload_n (i := 1) hX rfl rfl d_X8_people_12 ?_
    refine aw_aload_n (i := 0) hX rfl rfl d_X8_people_13 ?_
    refine ar_getF hX hF fg_RX8_25 (by assumption) d_X8_people_14 ?_
    refine aw_iload_n (i := 2) hX rfl rfl d_X8_people_17 ?_
    obtain ⟨x1, f_744, e_744⟩ := bd_some e
    clear e
    refine aw_callSN (av := [.ref (p0 + 4), .int s.2]) (avr := [.int s.2, .ref (p0 + 4)]) hX (k_X9_at (cx_g hX) hF f_744) mi_X9_at rfl rfl nx10 w_6 (by decide) (Nat.le_of_ble_eq_true rfl) (Nat.zero_le _) (Nat.zero_le _) d_X8_people_18 ?_
    refine aw_iadd hX d_X8_people_21 ?_
    refine aw_istore_n (i := 1) (lv2 := [.ref p0, .int (s.1 + x1), .int s.2]) hX rfl rfl rfl d_X8_people_22 ?_
    refine aw_iinc (i := 2) (lv2 := [.ref p0, .int (s.1 + x1), .int (s.2 + 1)]) hX rfl rfl rfl rfl d_X8_people_23 ?_
    refine aw_goto (t := 4) hX (by decide) d_X8_people_26 ?_
    cases e_744
    exact kI ((s.1 + x1), s.2 + 1)  rfl
theorem ti_X8_people_4 {g : GP} {X : MX} {mcR msR : Nat} (hF : gF g = true) (hX : Cx g RX8 cX8_people 2 mcR msR (some .int) [] X) {Q : State → Prop} {p0 : Nat} (hl_0 : LAY p0 = (0, 8)) {y : Int32} {h : AH} (kE0 : ∀ (y_0 : Value) (y_2 : Value), AR g X 0 0 Q h 29 [y_0, .int y, y_2] []) (n : Nat) : ∀ (s : (Int32 × Int32)), lpP (l_X8_people_4 p0 h) n s = some y → AR g X 0 0 Q h 4 [.ref p0, .int s.1, .int s.2] [] := by
  induction n with
  | zero => intro s e; cases e
  | succ n ih =>
    intro s e
    obtain ⟨x, e1, e2⟩ := lpP_succ e
    rcases e2 with ⟨s2, rfl, e3⟩ | rfl
    · exact tb_X8_people_4 hF hX hl_0 e1 (fun s3  hs => by cases hs; exact ih _   e3) (fun yy x0 x1 hy => by cases hy)
    · exact tb_X8_people_4 hF hX hl_0 e1 (fun s3  hs => by cases hs) (fun yy x0 x1 hy => by cases hy; exact kE0 x0 x1)
theorem t_X8_people_4 {g : GP} {X : MX} {mcR msR : Nat} (hF : gF g = true) (hX : Cx g RX8 cX8_people 2 mcR msR (some .int) [] X) {Q : State → Prop} {p0 : Nat} (hl_0 : LAY p0 = (0, 8)) {s : (Int32 × Int32)} {h : AH} {n : Nat} {y : Int32} (e : lpP (l_X8_people_4 p0 h) n s = some y) (kE0 : ∀ (y_0 : Value) (y_2 : Value), AR g X 0 0 Q h 29 [y_0, .int y, y_2] []) : AR g X 0 0 Q h 4 [.ref p0, .int s.1, .int s.2] [] := ti_X8_people_4 hF hX hl_0 kE0 n _   e
def s_X8_people (th : Nat) (h : AH) : Option Int32 := if LAY th = (0, 8) then bd (lpP (l_X8_people_4 th h) FU (0, 0)) fun y2 => some y2 else none
theorem t_X8_people {g : GP} {X : MX} {mcR msR : Nat} (hF : gF g = true) (hX : Cx g RX8 cX8_people 2 mcR msR (some .int) [] X) {th : Nat} {h : AH} {z : Int32} (e : s_X8_people th h = some z) : AR g X 0 0 (QQ g X NT false h (.inl (some (.int z))) 0 0) h 0 [.ref th, jk, jk] [] := by
  unfold s_X8_people at e
  obtain ⟨hl_this, e_745⟩ := if_some e
  clear e
  refine aw_iconst (v := 0) hX (by decide) d_X8_people_0 ?_
  refine aw_istore_n (i := 1) (lv2 := [.ref th, .int 0, jk]) hX rfl rfl rfl d_X8_people_1 ?_
  refine aw_iconst (v := 0) hX (by decide) d_X8_people_2 ?_
  refine aw_istore_n (i := 2) (lv2 := [.ref th, .int 0, .int 0]) hX rfl rfl rfl d_X8_people_3 ?_
  obtain ⟨y2, f_746, e_746⟩ := bd_some e_745
  clear e_745
  refine t_X8_people_4 hF hX (by assumption) f_746 (fun d3_0 d3_2 => ?_)
  refine aw_iload_n (i := 1) hX rfl rfl d_X8_people_29 ?_
  cases e_746
  exact aw_ireturn hX (Nat.zero_le _) (Nat.zero_le _) d_X8_people_30
theorem k_X8_people {g : GP} (hg : g.1.stackTraces = false) (hF : gF g = true) {th : Nat} {h : AH} {z : Int32} (e : s_X8_people th h = some z) : Ctr g yX8_people (wsY yX8_people cX8_people 3 (some .int)) 2 0 0 [.ref th] NT false h (some (.int z)) NT false h := ctr_of (lv0 := [.ref th, jk, jk]) rfl rfl (by decide) hg trivial (fun X hX hn => t_X8_people hF hX e)
theorem d_X8_ticketBits_0 : decode cX8_ticketBits 0 = .ok (.iconst 1, 1) := by decide +kernel
theorem d_X8_ticketBits_1 : decode cX8_ticketBits 1 = .ok (.istore_n 1, 1) := by decide +kernel
theorem d_X8_ticketBits_2 : decode cX8_ticketBits 2 = .ok (.iconst 1, 1) := by decide +kernel
theorem d_X8_ticketBits_3 : decode cX8_ticketBits 3 = .ok (.istore_n 2, 1) := by decide +kernel
theorem d_X8_ticketBits_4 : decode cX8_ticketBits 4 = .ok (.iload_n 2, 1) := by decide +kernel
theorem d_X8_ticketBits_5 : decode cX8_ticketBits 5 = .ok (.iconst 5, 1) := by decide +kernel
theorem d_X8_ticketBits_6 : decode cX8_ticketBits 6 = .ok (.if_icmp .ge 27, 3) := by decide +kernel
theorem d_X8_ticketBits_9 : decode cX8_ticketBits 9 = .ok (.aload_n 0, 1) := by decide +kernel
theorem d_X8_ticketBits_10 : decode cX8_ticketBits 10 = .ok (.getfield 34, 3) := by decide +kernel
theorem d_X8_ticketBits_13 : decode cX8_ticketBits 13 = .ok (.iload_n 2, 1) := by decide +kernel
theorem d_X8_ticketBits_14 : decode cX8_ticketBits 14 = .ok (.invokestatic 56, 3) := by decide +kernel
theorem d_X8_ticketBits_17 : decode cX8_ticketBits 17 = .ok (.iconst (-1), 1) := by decide +kernel
theorem d_X8_ticketBits_18 : decode cX8_ticketBits 18 = .ok (.if_icmp .eq 9, 3) := by decide +kernel
theorem d_X8_ticketBits_21 : decode cX8_ticketBits 21 = .ok (.iload_n 1, 1) := by decide +kernel
theorem d_X8_ticketBits_22 : decode cX8_ticketBits 22 = .ok (.iconst 1, 1) := by decide +kernel
theorem d_X8_ticketBits_23 : decode cX8_ticketBits 23 = .ok (.iload_n 2, 1) := by decide +kernel
theorem d_X8_ticketBits_24 : decode cX8_ticketBits 24 = .ok (.ishl, 1) := by decide +kernel
theorem d_X8_ticketBits_25 : decode cX8_ticketBits 25 = .ok (.ior, 1) := by decide +kernel
theorem d_X8_ticketBits_26 : decode cX8_ticketBits 26 = .ok (.istore_n 1, 1) := by decide +kernel
theorem d_X8_ticketBits_27 : decode cX8_ticketBits 27 = .ok (.iinc 2 1, 3) := by decide +kernel
theorem d_X8_ticketBits_30 : decode cX8_ticketBits 30 = .ok (.goto (-26), 3) := by decide +kernel
theorem d_X8_ticketBits_33 : decode cX8_ticketBits 33 = .ok (.iload_n 1, 1) := by decide +kernel
theorem d_X8_ticketBits_34 : decode cX8_ticketBits 34 = .ok (.ireturn, 1) := by decide +kernel
def j_X8_ticketBits_27_4 (p0 : Nat) (v1 : Int32) (v2 : Int32) (h : AH) : Option ((Int32 × Int32) ⊕ Int32) := some (.inl (v1, v2 + 1))
theorem tj_X8_ticketBits_27_4 {g : GP} {X : MX} {mcR msR : Nat} (hF : gF g = true) (hX : Cx g RX8 cX8_ticketBits 2 mcR msR (some .int) [] X) {Q : State → Prop} {p0 : Nat} {v1 : Int32} {v2 : Int32} (hl_0 : LAY p0 = (0, 8)) {h : AH} {z : ((Int32 × Int32) ⊕ Int32)} (e : j_X8_ticketBits_27_4 p0 v1 v2 h = some z) (kI : ∀ (s2 : (Int32 × Int32)), z = .inl s2 → AR g X 0 0 Q h 4 [.ref p0, .int s2.1, .int s2.2] []) (kE0 : ∀ (yy : Int32) (y0 : Value) (y2 : Value), z = .inr yy → AR g X 0 0 Q h 33 [y0, .int yy, y2] []) : AR g X 0 0 Q h 27 [.ref p0, .int v1, .int v2] [] := by
  unfold j_X8_ticketBits_27_4 at e
  refine aw_iinc (i := 2) (lv2 := [.ref p0, .int v1, .int (v2 + 1)]) hX rfl rfl rfl rfl d_X8_ticketBits_27 ?_
  refine aw_goto (t := 4) hX (by decide) d_X8_ticketBits_30 ?_
  cases e
  exact kI (v1, v2 + 1)  rfl
def l_X8_ticketBits_4 (p0 : Nat) (h : AH) (s : (Int32 × Int32)) : Option ((Int32 × Int32) ⊕ Int32) := if 5 ≤ s.2 then some (.inr s.1) else bd (s_X9_at (some (p0 + 7)) s.2 h) fun x1 => if x1 = (-1) then j_X8_ticketBits_27_4 p0 s.1 s.2 h else j_X8_ticketBits_27_4 p0 (s.1 ||| (1 <<< (s.2 &&& 31))) s.2 h
theorem tb_X8_ticketBits_4 {g : GP} {X : MX} {mcR msR : Nat} (hF : gF g = true) (hX : Cx g RX8 cX8_ticketBits 2 mcR msR (some .int) [] X) {Q : State → Prop} {p0 : Nat} {s : (Int32 × Int32)} (hl_0 : LAY p0 = (0, 8)) {h : AH} {z : ((Int32 × Int32) ⊕ Int32)} (e : l_X8_ticketBits_4 p0 h s = some z) (kI : ∀ (s2 : (Int32 × Int32)), z = .inl s2 → AR g X 0 0 Q h 4 [.ref p0, .int s2.1, .int s2.2] []) (kE0 : ∀ (yy : Int32) (y0 : Value) (y2 : Value), z = .inr yy → AR g X 0 0 Q h 33 [y0, .int yy, y2] []) : AR g X 0 0 Q h 4 [.ref p0, .int s.1, .int s.2] [] := by
  unfold l_X8_ticketBits_4 at e
  refine aw_iload_n (i := 2) hX rfl rfl d_X8_ticketBits_4 ?_
  refine aw_iconst (v := 5) hX (by decide) d_X8_ticketBits_5 ?_
  refine aw_icmp_ge (t := 33) hX (by decide) d_X8_ticketBits_6 (fun c => ?_) (fun c => ?_)
  · rw [if_pos c] at e
    cases e
    exact kE0 s.1 _ _ rfl
  · rw [if_neg c] at e
    refine aw_aload_n (i := 0) hX rfl rfl d_X8_ticketBits_9 ?_
    refine ar_getF hX hF fg_RX8_34 (by assumption) d_X8_ticketBits_10 ?_
    refine aw_iload_n (i := 2) hX rfl rfl d_X8_ticketBits_13 ?_
    obtain ⟨x1, f_747, e_747⟩ := bd_some e
    clear e
    refine aw_callSN (av := [.ref (p0 + 7), .int s.2]) (avr := [.int s.2, .ref (p0 + 7)]) hX (k_X9_at (cx_g hX) hF f_747) mi_X9_at rfl rfl nx10 w_6 (by decide) (Nat.le_of_ble_eq_true rfl) (Nat.zero_le _) (Nat.zero_le _) d_X8_ticketBits_14 ?_
    refine aw_iconst (v := (-1)) hX (by decide) d_X8_ticketBits_17 ?_
    refine aw_icmp_eq (t := 27) hX (by decide) d_X8_ticketBits_18 (fun c => ?_) (fun c => ?_)
    · rw [if_pos c] at e_747
      exact tj_X8_ticketBits_27_4 hF hX (by assumption) e_747 kI kE0
    · rw [if_neg c] at e_747
      refine aw_iload_n (i := 1) hX rfl rfl d_X8_ticketBits_21 ?_
      refine aw_iconst (v := 1) hX (by decide) d_X8_ticketBits_22 ?_
      refine aw_iload_n (i := 2) hX rfl rfl d_X8_ticketBits_23 ?_
      refine aw_ishl hX d_X8_ticketBits_24 ?_
      refine aw_ior hX d_X8_ticketBits_25 ?_
      refine aw_istore_n (i := 1) (lv2 := [.ref p0, .int (s.1 ||| (1 <<< (s.2 &&& 31))), .int s.2]) hX rfl rfl rfl d_X8_ticketBits_26 ?_
      exact tj_X8_ticketBits_27_4 hF hX (by assumption) e_747 kI kE0
theorem ti_X8_ticketBits_4 {g : GP} {X : MX} {mcR msR : Nat} (hF : gF g = true) (hX : Cx g RX8 cX8_ticketBits 2 mcR msR (some .int) [] X) {Q : State → Prop} {p0 : Nat} (hl_0 : LAY p0 = (0, 8)) {y : Int32} {h : AH} (kE0 : ∀ (y_0 : Value) (y_2 : Value), AR g X 0 0 Q h 33 [y_0, .int y, y_2] []) (n : Nat) : ∀ (s : (Int32 × Int32)), lpP (l_X8_ticketBits_4 p0 h) n s = some y → AR g X 0 0 Q h 4 [.ref p0, .int s.1, .int s.2] [] := by
  induction n with
  | zero => intro s e; cases e
  | succ n ih =>
    intro s e
    obtain ⟨x, e1, e2⟩ := lpP_succ e
    rcases e2 with ⟨s2, rfl, e3⟩ | rfl
    · exact tb_X8_ticketBits_4 hF hX hl_0 e1 (fun s3  hs => by cases hs; exact ih _   e3) (fun yy x0 x1 hy => by cases hy)
    · exact tb_X8_ticketBits_4 hF hX hl_0 e1 (fun s3  hs => by cases hs) (fun yy x0 x1 hy => by cases hy; exact kE0 x0 x1)
theorem t_X8_ticketBits_4 {g : GP} {X : MX} {mcR msR : Nat} (hF : gF g = true) (hX : Cx g RX8 cX8_ticketBits 2 mcR msR (some .int) [] X) {Q : State → Prop} {p0 : Nat} (hl_0 : LAY p0 = (0, 8)) {s : (Int32 × Int32)} {h : AH} {n : Nat} {y : Int32} (e : lpP (l_X8_ticketBits_4 p0 h) n s = some y) (kE0 : ∀ (y_0 : Value) (y_2 : Value), AR g X 0 0 Q h 33 [y_0, .int y, y_2] []) : AR g X 0 0 Q h 4 [.ref p0, .int s.1, .int s.2] [] := ti_X8_ticketBits_4 hF hX hl_0 kE0 n _   e
def s_X8_ticketBits (th : Nat) (h : AH) : Option Int32 := if LAY th = (0, 8) then bd (lpP (l_X8_ticketBits_4 th h) FU (1, 1)) fun y2 => some y2 else none
theorem t_X8_ticketBits {g : GP} {X : MX} {mcR msR : Nat} (hF : gF g = true) (hX : Cx g RX8 cX8_ticketBits 2 mcR msR (some .int) [] X) {th : Nat} {h : AH} {z : Int32} (e : s_X8_ticketBits th h = some z) : AR g X 0 0 (QQ g X NT false h (.inl (some (.int z))) 0 0) h 0 [.ref th, jk, jk] [] := by
  unfold s_X8_ticketBits at e
  obtain ⟨hl_this, e_748⟩ := if_some e
  clear e
  refine aw_iconst (v := 1) hX (by decide) d_X8_ticketBits_0 ?_
  refine aw_istore_n (i := 1) (lv2 := [.ref th, .int 1, jk]) hX rfl rfl rfl d_X8_ticketBits_1 ?_
  refine aw_iconst (v := 1) hX (by decide) d_X8_ticketBits_2 ?_
  refine aw_istore_n (i := 2) (lv2 := [.ref th, .int 1, .int 1]) hX rfl rfl rfl d_X8_ticketBits_3 ?_
  obtain ⟨y2, f_749, e_749⟩ := bd_some e_748
  clear e_748
  refine t_X8_ticketBits_4 hF hX (by assumption) f_749 (fun d3_0 d3_2 => ?_)
  refine aw_iload_n (i := 1) hX rfl rfl d_X8_ticketBits_33 ?_
  cases e_749
  exact aw_ireturn hX (Nat.zero_le _) (Nat.zero_le _) d_X8_ticketBits_34
theorem k_X8_ticketBits {g : GP} (hg : g.1.stackTraces = false) (hF : gF g = true) {th : Nat} {h : AH} {z : Int32} (e : s_X8_ticketBits th h = some z) : Ctr g yX8_ticketBits (wsY yX8_ticketBits cX8_ticketBits 3 (some .int)) 2 0 0 [.ref th] NT false h (some (.int z)) NT false h := ctr_of (lv0 := [.ref th, jk, jk]) rfl rfl (by decide) hg trivial (fun X hX hn => t_X8_ticketBits hF hX e)
