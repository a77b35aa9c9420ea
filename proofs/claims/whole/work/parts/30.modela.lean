/-! 30.modela: functions and contracts, by program -/
theorem d_X10_thrown_0 : decode cX10_thrown 0 = .ok (.aload_n 0, 1) := by decide +kernel
theorem d_X10_thrown_1 : decode cX10_thrown 1 = .ok (.getfield 133, 3) := by decide +kernel
theorem d_X10_thrown_4 : decode cX10_thrown 4 = .ok (.ireturn, 1) := by decide +kernel
def s_X10_thrown (h : AH) : Option Int32 := some (gI h 240 0)
theorem t_X10_thrown {g : GP} {X : MX} {mcR msR : Nat} (hF : gF g = true) (hX : Cx g RX10 cX10_thrown 1 mcR msR (some .int) [] X) {h : AH} {z : Int32} (e : s_X10_thrown h = some z) : AR g X 0 0 (QQ g X NT false h (.inl (some (.int z))) 0 0) h 0 [.ref 240] [] := by
  unfold s_X10_thrown at e
  refine aw_aload_n (i := 0) hX rfl rfl d_X10_thrown_0 ?_
  refine ar_getI hX fg_RX10_133 rfl d_X10_thrown_1 ?_
  cases e
  exact aw_ireturn hX (Nat.zero_le _) (Nat.zero_le _) d_X10_thrown_4
theorem k_X10_thrown {g : GP} (hg : g.1.stackTraces = false) (hF : gF g = true) {h : AH} {z : Int32} (e : s_X10_thrown h = some z) : Ctr g yX10_thrown (wsY yX10_thrown cX10_thrown 1 (some .int)) 1 0 0 [.ref 240] NT false h (some (.int z)) NT false h := ctr_of (lv0 := [.ref 240]) rfl rfl (by decide) hg trivial (fun X hX hn => t_X10_thrown hF hX e)
theorem d_X10_right_0 : decode cX10_right 0 = .ok (.aload_n 0, 1) := by decide +kernel
theorem d_X10_right_1 : decode cX10_right 1 = .ok (.getfield 133, 3) := by decide +kernel
theorem d_X10_right_4 : decode cX10_right 4 = .ok (.ifCond .ne 12, 3) := by decide +kernel
theorem d_X10_right_7 : decode cX10_right 7 = .ok (.iload_n 1, 1) := by decide +kernel
theorem d_X10_right_8 : decode cX10_right 8 = .ok (.ifCond .ne 8, 3) := by decide +kernel
theorem d_X10_right_11 : decode cX10_right 11 = .ok (.aload_n 0, 1) := by decide +kernel
theorem d_X10_right_12 : decode cX10_right 12 = .ok (.iload_n 2, 1) := by decide +kernel
theorem d_X10_right_13 : decode cX10_right 13 = .ok (.putfield 133, 3) := by decide +kernel
theorem d_X10_right_16 : decode cX10_right 16 = .ok (.aload_n 0, 1) := by decide +kernel
theorem d_X10_right_17 : decode cX10_right 17 = .ok (.getfield 133, 3) := by decide +kernel
theorem d_X10_right_20 : decode cX10_right 20 = .ok (.ifCond .ne 7, 3) := by decide +kernel
theorem d_X10_right_23 : decode cX10_right 23 = .ok (.iconst 1, 1) := by decide +kernel
theorem d_X10_right_24 : decode cX10_right 24 = .ok (.goto 4, 3) := by decide +kernel
theorem d_X10_right_27 : decode cX10_right 27 = .ok (.iconst 0, 1) := by decide +kernel
theorem d_X10_right_28 : decode cX10_right 28 = .ok (.ireturn, 1) := by decide +kernel
def j_X10_right_16 (h : AH) : Option (Int32 × AH) := if (gI h 240 0) = 0 then some (1, h) else some (0, h)
theorem tj_X10_right_16 {g : GP} {X : MX} {mcR msR : Nat} (hF : gF g = true) (hX : Cx g RX10 cX10_right 1 mcR msR (some .boolean) [] X) {d1 : Value} {d2 : Value} {h hz : AH} {z : Int32} (e : j_X10_right_16 h = some (z, hz)) : AR g X 0 0 (QQ g X NT false hz (.inl (some (.int z))) 0 0) h 16 [.ref 240, d1, d2] [] := by
  unfold j_X10_right_16 at e
  refine aw_aload_n (i := 0) hX rfl rfl d_X10_right_16 ?_
  refine ar_getI hX fg_RX10_133 rfl d_X10_right_17 ?_
  refine aw_if_ne (t := 27) hX (by decide) d_X10_right_20 (fun c => ?_) (fun c => ?_)
  · rw [if_neg c] at e
    refine aw_iconst (v := 0) hX (by decide) d_X10_right_27 ?_
    cases e
    exact aw_zreturn hX (by decide) (Nat.zero_le _) (Nat.zero_le _) d_X10_right_28
  · rw [if_pos c] at e
    refine aw_iconst (v := 1) hX (by decide) d_X10_right_23 ?_
    refine aw_goto (t := 28) hX (by decide) d_X10_right_24 ?_
    cases e
    exact aw_zreturn hX (by decide) (Nat.zero_le _) (Nat.zero_le _) d_X10_right_28
def s_X10_right (a0 : Int32) (a1 : Int32) (h : AH) : Option (Int32 × AH) := if (gI h 240 0) = 0 then if a0 = 0 then j_X10_right_16 (sI h 240 0 a1) else j_X10_right_16 h else j_X10_right_16 h
theorem t_X10_right {g : GP} {X : MX} {mcR msR : Nat} (hF : gF g = true) (hX : Cx g RX10 cX10_right 1 mcR msR (some .boolean) [] X) {a0 : Int32} {a1 : Int32} {h hz : AH} {z : Int32} (e : s_X10_right a0 a1 h = some (z, hz)) : AR g X 0 0 (QQ g X NT false hz (.inl (some (.int z))) 0 0) h 0 [.ref 240, .int a0, .int a1] [] := by
  unfold s_X10_right at e
  refine aw_aload_n (i := 0) hX rfl rfl d_X10_right_0 ?_
  refine ar_getI hX fg_RX10_133 rfl d_X10_right_1 ?_
  refine aw_if_ne (t := 16) hX (by decide) d_X10_right_4 (fun c => ?_) (fun c => ?_)
  · rw [if_neg c] at e
    exact tj_X10_right_16 hF hX e
  · rw [if_pos c] at e
    refine aw_iload_n (i := 1) hX rfl rfl d_X10_right_7 ?_
    refine aw_if_ne (t := 16) hX (by decide) d_X10_right_8 (fun c => ?_) (fun c => ?_)
    · rw [if_neg c] at e
      exact tj_X10_right_16 hF hX e
    · rw [if_pos c] at e
      refine aw_aload_n (i := 0) hX rfl rfl d_X10_right_11 ?_
      refine aw_iload_n (i := 2) hX rfl rfl d_X10_right_12 ?_
      refine ar_putI hX fp_RX10_133 rfl d_X10_right_13 ?_
      exact tj_X10_right_16 hF hX e
theorem k_X10_right {g : GP} (hg : g.1.stackTraces = false) (hF : gF g = true) {a0 : Int32} {a1 : Int32} {h hz : AH} {z : Int32} (e : s_X10_right a0 a1 h = some (z, hz)) : Ctr g yX10_right (wsY yX10_right cX10_right 3 (some .boolean)) 1 0 0 [.ref 240, .int a0, .int a1] NT false h (some (.int z)) NT false hz := ctr_of (lv0 := [.ref 240, .int a0, .int a1]) rfl rfl (by decide) hg trivial (fun X hX hn => t_X10_right hF hX e)
theorem d_X10_within_0 : decode cX10_within 0 = .ok (.iload_n 0, 1) := by decide +kernel
theorem d_X10_within_1 : decode cX10_within 1 = .ok (.iload_n 1, 1) := by decide +kernel
theorem d_X10_within_2 : decode cX10_within 2 = .ok (.if_icmp .lt 12, 3) := by decide +kernel
theorem d_X10_within_5 : decode cX10_within 5 = .ok (.iload_n 0, 1) := by decide +kernel
theorem d_X10_within_6 : decode cX10_within 6 = .ok (.iload_n 2, 1) := by decide +kernel
theorem d_X10_within_7 : decode cX10_within 7 = .ok (.if_icmp .gt 7, 3) := by decide +kernel
theorem d_X10_within_10 : decode cX10_within 10 = .ok (.iconst 1, 1) := by decide +kernel
theorem d_X10_within_11 : decode cX10_within 11 = .ok (.goto 4, 3) := by decide +kernel
theorem d_X10_within_14 : decode cX10_within 14 = .ok (.iconst 0, 1) := by decide +kernel
theorem d_X10_within_15 : decode cX10_within 15 = .ok (.ireturn, 1) := by decide +kernel
def s_X10_within (a0 : Int32) (a1 : Int32) (a2 : Int32) (h : AH) : Option Int32 := if a0 < a1 then some 0 else if a2 < a0 then some 0 else some 1
theorem t_X10_within {g : GP} {X : MX} {mcR msR : Nat} (hF : gF g = true) (hX : Cx g RX10 cX10_within 1 mcR msR (some .boolean) [] X) {a0 : Int32} {a1 : Int32} {a2 : Int32} {h : AH} {z : Int32} (e : s_X10_within a0 a1 a2 h = some z) : AR g X 0 0 (QQ g X NT false h (.inl (some (.int z))) 0 0) h 0 [.int a0, .int a1, .int a2] [] := by
  unfold s_X10_within at e
  refine aw_iload_n (i := 0) hX rfl rfl d_X10_within_0 ?_
  refine aw_iload_n (i := 1) hX rfl rfl d_X10_within_1 ?_
  refine aw_icmp_lt (t := 14) hX (by decide) d_X10_within_2 (fun c => ?_) (fun c => ?_)
  · rw [if_pos c] at e
    refine aw_iconst (v := 0) hX (by decide) d_X10_within_14 ?_
    cases e
    exact aw_zreturn hX (by decide) (Nat.zero_le _) (Nat.zero_le _) d_X10_within_15
  · rw [if_neg c] at e
    refine aw_iload_n (i := 0) hX rfl rfl d_X10_within_5 ?_
    refine aw_iload_n (i := 2) hX rfl rfl d_X10_within_6 ?_
    refine aw_icmp_gt (t := 14) hX (by decide) d_X10_within_7 (fun c => ?_) (fun c => ?_)
    · rw [if_pos c] at e
      refine aw_iconst (v := 0) hX (by decide) d_X10_within_14 ?_
      cases e
      exact aw_zreturn hX (by decide) (Nat.zero_le _) (Nat.zero_le _) d_X10_within_15
    · rw [if_neg c] at e
      refine aw_iconst (v := 1) hX (by decide) d_X10_within_10 ?_
      refine aw_goto (t := 15) hX (by decide) d_X10_within_11 ?_
      cases e
      exact aw_zreturn hX (by decide) (Nat.zero_le _) (Nat.zero_le _) d_X10_within_15
theorem k_X10_within {g : GP} (hg : g.1.stackTraces = false) (hF : gF g = true) {a0 : Int32} {a1 : Int32} {a2 : Int32} {h : AH} {z : Int32} (e : s_X10_within a0 a1 a2 h = some z) : Ctr g yX10_within (wsY yX10_within cX10_within 3 (some .boolean)) 1 0 0 [.int a0, .int a1, .int a2] NT false h (some (.int z)) NT false h := ctr_of (lv0 := [.int a0, .int a1, .int a2]) rfl rfl (by decide) hg trivial (fun X hX hn => t_X10_within hF hX e)
theorem d_X10_floor_0 : decode cX10_floor 0 = .ok (.lload_n 0, 1) := by decide +kernel
theorem d_X10_floor_1 : decode cX10_floor 1 = .ok (.lload_n 2, 1) := by decide +kernel
theorem d_X10_floor_2 : decode cX10_floor 2 = .ok (.ldiv, 1) := by decide +kernel
theorem d_X10_floor_3 : decode cX10_floor 3 = .ok (.lstore 4, 2) := by decide +kernel
theorem d_X10_floor_5 : decode cX10_floor 5 = .ok (.lload_n 0, 1) := by decide +kernel
theorem d_X10_floor_6 : decode cX10_floor 6 = .ok (.lload_n 2, 1) := by decide +kernel
theorem d_X10_floor_7 : decode cX10_floor 7 = .ok (.lrem, 1) := by decide +kernel
theorem d_X10_floor_8 : decode cX10_floor 8 = .ok (.lconst 0, 1) := by decide +kernel
theorem d_X10_floor_9 : decode cX10_floor 9 = .ok (.lcmp, 1) := by decide +kernel
theorem d_X10_floor_10 : decode cX10_floor 10 = .ok (.ifCond .eq 35, 3) := by decide +kernel
theorem d_X10_floor_13 : decode cX10_floor 13 = .ok (.lload_n 0, 1) := by decide +kernel
theorem d_X10_floor_14 : decode cX10_floor 14 = .ok (.lconst 0, 1) := by decide +kernel
theorem d_X10_floor_15 : decode cX10_floor 15 = .ok (.lcmp, 1) := by decide +kernel
theorem d_X10_floor_16 : decode cX10_floor 16 = .ok (.ifCond .ge 7, 3) := by decide +kernel
theorem d_X10_floor_19 : decode cX10_floor 19 = .ok (.iconst 1, 1) := by decide +kernel
theorem d_X10_floor_20 : decode cX10_floor 20 = .ok (.goto 4, 3) := by decide +kernel
theorem d_X10_floor_23 : decode cX10_floor 23 = .ok (.iconst 0, 1) := by decide +kernel
theorem d_X10_floor_24 : decode cX10_floor 24 = .ok (.lload_n 2, 1) := by decide +kernel
theorem d_X10_floor_25 : decode cX10_floor 25 = .ok (.lconst 0, 1) := by decide +kernel
theorem d_X10_floor_26 : decode cX10_floor 26 = .ok (.lcmp, 1) := by decide +kernel
theorem d_X10_floor_27 : decode cX10_floor 27 = .ok (.ifCond .ge 7, 3) := by decide +kernel
theorem d_X10_floor_30 : decode cX10_floor 30 = .ok (.iconst 1, 1) := by decide +kernel
theorem d_X10_floor_31 : decode cX10_floor 31 = .ok (.goto 4, 3) := by decide +kernel
theorem d_X10_floor_34 : decode cX10_floor 34 = .ok (.iconst 0, 1) := by decide +kernel
theorem d_X10_floor_35 : decode cX10_floor 35 = .ok (.if_icmp .eq 10, 3) := by decide +kernel
theorem d_X10_floor_38 : decode cX10_floor 38 = .ok (.lload 4, 2) := by decide +kernel
theorem d_X10_floor_40 : decode cX10_floor 40 = .ok (.lconst 1, 1) := by decide +kernel
theorem d_X10_floor_41 : decode cX10_floor 41 = .ok (.lsub, 1) := by decide +kernel
theorem d_X10_floor_42 : decode cX10_floor 42 = .ok (.goto 5, 3) := by decide +kernel
theorem d_X10_floor_45 : decode cX10_floor 45 = .ok (.lload 4, 2) := by decide +kernel
theorem d_X10_floor_47 : decode cX10_floor 47 = .ok (.lreturn, 1) := by decide +kernel
def j_X10_floor_35 (v4 : Int64) (k0 : Int32) (k1 : Int32) (h : AH) : Option Int64 := if k1 = k0 then some v4 else some (v4 - 1)
theorem tj_X10_floor_35 {g : GP} {X : MX} {mcR msR : Nat} (hF : gF g = true) (hX : Cx g RX10 cX10_floor 1 mcR msR (some .long) [] X) {v4 : Int64} {k0 : Int32} {k1 : Int32} {d0 : Value} {d1 : Value} {d2 : Value} {d3 : Value} {h : AH} {z : Int64} (e : j_X10_floor_35 v4 k0 k1 h = some z) : AR g X 0 0 (QQ g X NT false h (.inl (some (.long z))) 0 0) h 35 [d0, d1, d2, d3, .long v4, jk] [.int k0, .int k1] := by
  unfold j_X10_floor_35 at e
  refine aw_icmp_eq (t := 45) hX (by decide) d_X10_floor_35 (fun c => ?_) (fun c => ?_)
  · rw [if_pos c] at e
    refine aw_lload (i := 4) hX rfl d_X10_floor_45 ?_
    cases e
    exact aw_lreturn hX (Nat.zero_le _) (Nat.zero_le _) d_X10_floor_47
  · rw [if_neg c] at e
    refine aw_lload (i := 4) hX rfl d_X10_floor_38 ?_
    refine aw_lconst (v := 1) hX (by decide) d_X10_floor_40 ?_
    refine aw_lsub hX d_X10_floor_41 ?_
    refine aw_goto (t := 47) hX (by decide) d_X10_floor_42 ?_
    cases e
    exact aw_lreturn hX (Nat.zero_le _) (Nat.zero_le _) d_X10_floor_47
def j_X10_floor_24 (v2 : Int64) (v4 : Int64) (k0 : Int32) (h : AH) : Option Int64 := if 0 ≤ v2 then j_X10_floor_35 v4 0 k0 h else j_X10_floor_35 v4 1 k0 h
theorem tj_X10_floor_24 {g : GP} {X : MX} {mcR msR : Nat} (hF : gF g = true) (hX : Cx g RX10 cX10_floor 1 mcR msR (some .long) [] X) {v2 : Int64} {v4 : Int64} {k0 : Int32} {d0 : Value} {d1 : Value} {h : AH} {z : Int64} (e : j_X10_floor_24 v2 v4 k0 h = some z) : AR g X 0 0 (QQ g X NT false h (.inl (some (.long z))) 0 0) h 24 [d0, d1, .long v2, jk, .long v4, jk] [.int k0] := by
  unfold j_X10_floor_24 at e
  refine aw_lload_n (i := 2) hX rfl rfl d_X10_floor_24 ?_
  refine aw_lconst (v := 0) hX (by decide) d_X10_floor_25 ?_
  refine aw_lcmp hX d_X10_floor_26 ?_
  refine aw_if_ge (t := 34) hX (by decide) d_X10_floor_27 (fun c => ?_) (fun c => ?_)
  · replace c := lc_ge.mp c
    rw [if_pos c] at e
    refine aw_iconst (v := 0) hX (by decide) d_X10_floor_34 ?_
    exact tj_X10_floor_35 hF hX e
  · replace c := fun q => c (lc_ge.mpr q)
    rw [if_neg c] at e
    refine aw_iconst (v := 1) hX (by decide) d_X10_floor_30 ?_
    refine aw_goto (t := 35) hX (by decide) d_X10_floor_31 ?_
    exact tj_X10_floor_35 hF hX e
def s_X10_floor (a0 : Int64) (a1 : Int64) (h : AH) : Option Int64 := bd (ldivF a0 a1) fun x1 => bd (lremF a0 a1) fun x2 => if x2 = 0 then some x1 else if 0 ≤ a0 then j_X10_floor_24 a1 x1 0 h else j_X10_floor_24 a1 x1 1 h
theorem t_X10_floor {g : GP} {X : MX} {mcR msR : Nat} (hF : gF g = true) (hX : Cx g RX10 cX10_floor 1 mcR msR (some .long) [] X) {a0 : Int64} {a1 : Int64} {h : AH} {z : Int64} (e : s_X10_floor a0 a1 h = some z) : AR g X 0 0 (QQ g X NT false h (.inl (some (.long z))) 0 0) h 0 [.long a0, jk, .long a1, jk, jk, jk] [] := by
  unfold s_X10_floor at e
  refine aw_lload_n (i := 0) hX rfl rfl d_X10_floor_0 ?_
  refine aw_lload_n (i := 2) hX rfl rfl d_X10_floor_1 ?_
  obtain ⟨x1, f_979, e_979⟩ := bd_some e
  clear e
  refine ar_ldiv hX f_979 d_X10_floor_2 ?_
  refine aw_lstore (i := 4) (lv2 := [.long a0, jk, .long a1, jk, .long x1, jk]) hX rfl rfl d_X10_floor_3 ?_
  refine aw_lload_n (i := 0) hX rfl rfl d_X10_floor_5 ?_
  refine aw_lload_n (i := 2) hX rfl rfl d_X10_floor_6 ?_
  obtain ⟨x2, f_980, e_980⟩ := bd_some e_979
  clear e_979
  refine ar_lrem hX f_980 d_X10_floor_7 ?_
  refine aw_lconst (v := 0) hX (by decide) d_X10_floor_8 ?_
  refine aw_lcmp hX d_X10_floor_9 ?_
  refine aw_if_eq (t := 45) hX (by decide) d_X10_floor_10 (fun c => ?_) (fun c => ?_)
  · replace c := lc_eq.mp c
    rw [if_pos c] at e_980
    refine aw_lload (i := 4) hX rfl d_X10_floor_45 ?_
    cases e_980
    exact aw_lreturn hX (Nat.zero_le _) (Nat.zero_le _) d_X10_floor_47
  · replace c := fun q => c (lc_eq.mpr q)
    rw [if_neg c] at e_980
    refine aw_lload_n (i := 0) hX rfl rfl d_X10_floor_13 ?_
    refine aw_lconst (v := 0) hX (by decide) d_X10_floor_14 ?_
    refine aw_lcmp hX d_X10_floor_15 ?_
    refine aw_if_ge (t := 23) hX (by decide) d_X10_floor_16 (fun c => ?_) (fun c => ?_)
    · replace c := lc_ge.mp c
      rw [if_pos c] at e_980
      refine aw_iconst (v := 0) hX (by decide) d_X10_floor_23 ?_
      exact tj_X10_floor_24 hF hX e_980
    · replace c := fun q => c (lc_ge.mpr q)
      rw [if_neg c] at e_980
      refine aw_iconst (v := 1) hX (by decide) d_X10_floor_19 ?_
      refine aw_goto (t := 24) hX (by decide) d_X10_floor_20 ?_
      exact tj_X10_floor_24 hF hX e_980
theorem k_X10_floor {g : GP} (hg : g.1.stackTraces = false) (hF : gF g = true) {a0 : Int64} {a1 : Int64} {h : AH} {z : Int64} (e : s_X10_floor a0 a1 h = some z) : Ctr g yX10_floor (wsY yX10_floor cX10_floor 6 (some .long)) 1 0 0 [.long a0, .long a1] NT false h (some (.long z)) NT false h := ctr_of (lv0 := [.long a0, jk, .long a1, jk, jk, jk]) rfl rfl (by decide) hg trivial (fun X hX hn => t_X10_floor hF hX e)
theorem d_X10_lays_0 : decode cX10_lays 0 = .ok (.bipush 24, 2) := by decide +kernel
theorem d_X10_lays_2 : decode cX10_lays 2 = .ok (.istore_n 2, 1) := by decide +kernel
theorem d_X10_lays_3 : decode cX10_lays 3 = .ok (.iload_n 2, 1) := by decide +kernel
theorem d_X10_lays_4 : decode cX10_lays 4 = .ok (.ifCond .lt 35, 3) := by decide +kernel
theorem d_X10_lays_7 : decode cX10_lays 7 = .ok (.aload_n 0, 1) := by decide +kernel
theorem d_X10_lays_8 : decode cX10_lays 8 = .ok (.getfield 26, 3) := by decide +kernel
theorem d_X10_lays_11 : decode cX10_lays 11 = .ok (.aload_n 0, 1) := by decide +kernel
theorem d_X10_lays_12 : decode cX10_lays 12 = .ok (.getfield 136, 3) := by decide +kernel
theorem d_X10_lays_15 : decode cX10_lays 15 = .ok (.iload_n 1, 1) := by decide +kernel
theorem d_X10_lays_16 : decode cX10_lays 16 = .ok (.iload_n 2, 1) := by decide +kernel
theorem d_X10_lays_17 : decode cX10_lays 17 = .ok (.ishr, 1) := by decide +kernel
theorem d_X10_lays_18 : decode cX10_lays 18 = .ok (.sipush 255, 3) := by decide +kernel
theorem d_X10_lays_21 : decode cX10_lays 21 = .ok (.iand, 1) := by decide +kernel
theorem d_X10_lays_22 : decode cX10_lays 22 = .ok (.iastore, 1) := by decide +kernel
theorem d_X10_lays_23 : decode cX10_lays 23 = .ok (.aload_n 0, 1) := by decide +kernel
theorem d_X10_lays_24 : decode cX10_lays 24 = .ok (.dup, 1) := by decide +kernel
theorem d_X10_lays_25 : decode cX10_lays 25 = .ok (.getfield 136, 3) := by decide +kernel
theorem d_X10_lays_28 : decode cX10_lays 28 = .ok (.iconst 1, 1) := by decide +kernel
theorem d_X10_lays_29 : decode cX10_lays 29 = .ok (.iadd, 1) := by decide +kernel
theorem d_X10_lays_30 : decode cX10_lays 30 = .ok (.putfield 136, 3) := by decide +kernel
theorem d_X10_lays_33 : decode cX10_lays 33 = .ok (.iinc 2 (-8), 3) := by decide +kernel
theorem d_X10_lays_36 : decode cX10_lays 36 = .ok (.goto (-33), 3) := by decide +kernel
theorem d_X10_lays_39 : decode cX10_lays 39 = .ok (.return_, 1) := by decide +kernel
def l_X10_lays_3 (p1 : Int32) (s : Int32) (h : AH) : Option ((Int32 ⊕ Unit) × AH) := if s < 0 then some (.inr (), h) else bd (stI h 245 (gI h 240 12) ((p1 >>> (s &&& 31)) &&& 255)) fun m1 => some (.inl (s + (-8)), sI m1 240 12 ((gI m1 240 12) + 1))
theorem tb_X10_lays_3 {g : GP} {X : MX} {mcR msR : Nat} (hF : gF g = true) (hX : Cx g RX10 cX10_lays 1 mcR msR none [] X) {Q : State → Prop} {p1 : Int32} {s : Int32} {h hz : AH} {z : (Int32 ⊕ Unit)} (e : l_X10_lays_3 p1 s h = some (z, hz)) (kI : ∀ (s2 : Int32), z = .inl s2 → AR g X 0 0 Q hz 3 [.ref 240, .int p1, .int s2] []) (kE0 : ∀ (yy : Unit) (y0 : Value) (y1 : Value) (y2 : Value), z = .inr yy → AR g X 0 0 Q hz 39 [y0, y1, y2] []) : AR g X 0 0 Q h 3 [.ref 240, .int p1, .int s] [] := by
  unfold l_X10_lays_3 at e
  refine aw_iload_n (i := 2) hX rfl rfl d_X10_lays_3 ?_
  refine aw_if_lt (t := 39) hX (by decide) d_X10_lays_4 (fun c => ?_) (fun c => ?_)
  · rw [if_pos c] at e
    cases e
    exact kE0 () _ _ _ rfl
  · rw [if_neg c] at e
    refine aw_aload_n (i := 0) hX rfl rfl d_X10_lays_7 ?_
    refine ar_getF hX hF fg_RX10_26 rfl d_X10_lays_8 ?_
    show AR g X 0 0 _ _ 11 _ [.ref 245]
    refine aw_aload_n (i := 0) hX rfl rfl d_X10_lays_11 ?_
    refine ar_getI hX fg_RX10_136 rfl d_X10_lays_12 ?_
    refine aw_iload_n (i := 1) hX rfl rfl d_X10_lays_15 ?_
    refine aw_iload_n (i := 2) hX rfl rfl d_X10_lays_16 ?_
    refine aw_ishr hX d_X10_lays_17 ?_
    refine aw_sipush (v := 255) hX (by decide) d_X10_lays_18 ?_
    refine aw_iand hX d_X10_lays_21 ?_
    obtain ⟨m1, f_981, e_981⟩ := bd_some e
    clear e
    refine ar_iastore hX f_981 d_X10_lays_22 ?_
    refine aw_aload_n (i := 0) hX rfl rfl d_X10_lays_23 ?_
    refine aw_dup hX rfl d_X10_lays_24 ?_
    refine ar_getI hX fg_RX10_136 rfl d_X10_lays_25 ?_
    refine aw_iconst (v := 1) hX (by decide) d_X10_lays_28 ?_
    refine aw_iadd hX d_X10_lays_29 ?_
    refine ar_putI hX fp_RX10_136 rfl d_X10_lays_30 ?_
    refine aw_iinc (i := 2) (lv2 := [.ref 240, .int p1, .int (s + (-8))]) hX rfl (iz (b := (-8)) (by decide)) rfl rfl d_X10_lays_33 ?_
    refine aw_goto (t := 3) hX (by decide) d_X10_lays_36 ?_
    cases e_981
    exact kI (s + (-8))  rfl
theorem ti_X10_lays_3 {g : GP} {X : MX} {mcR msR : Nat} (hF : gF g = true) (hX : Cx g RX10 cX10_lays 1 mcR msR none [] X) {Q : State → Prop} {p1 : Int32} {y : Unit} {hz : AH} (kE0 : ∀ (y_0 : Value) (y_1 : Value) (y_2 : Value), AR g X 0 0 Q hz 39 [y_0, y_1, y_2] []) (n : Nat) : ∀ (s : Int32) (h : AH), lpH (l_X10_lays_3 p1) n s h = some (y, hz) → AR g X 0 0 Q h 3 [.ref 240, .int p1, .int s] [] := by
  induction n with
  | zero => intro s h e; cases e
  | succ n ih =>
    intro s h e
    obtain ⟨x, h1, e1, e2⟩ := lpH_succ e
    rcases e2 with ⟨s2, rfl, e3⟩ | ⟨rfl, rfl⟩
    · exact tb_X10_lays_3 hF hX e1 (fun s3  hs => by cases hs; exact ih _  _ e3) (fun yy x0 x1 x2 hy => by cases hy)
    · exact tb_X10_lays_3 hF hX e1 (fun s3  hs => by cases hs) (fun yy x0 x1 x2 hy => by cases hy; exact kE0 x0 x1 x2)
theorem t_X10_lays_3 {g : GP} {X : MX} {mcR msR : Nat} (hF : gF g = true) (hX : Cx g RX10 cX10_lays 1 mcR msR none [] X) {Q : State → Prop} {p1 : Int32} {s : Int32} {h hz : AH} {n : Nat} {y : Unit} (e : lpH (l_X10_lays_3 p1) n s h = some (y, hz)) (kE0 : ∀ (y_0 : Value) (y_1 : Value) (y_2 : Value), AR g X 0 0 Q hz 39 [y_0, y_1, y_2] []) : AR g X 0 0 Q h 3 [.ref 240, .int p1, .int s] [] := ti_X10_lays_3 hF hX kE0 n _  _ e
def s_X10_lays (a0 : Int32) (h : AH) : Option (Unit × AH) := bd (lpH (l_X10_lays_3 a0) FU 24 h) fun y2 => some ((), y2.2)
theorem t_X10_lays {g : GP} {X : MX} {mcR msR : Nat} (hF : gF g = true) (hX : Cx g RX10 cX10_lays 1 mcR msR none [] X) {a0 : Int32} {h hz : AH} {z : Unit} (e : s_X10_lays a0 h = some (z, hz)) : AR g X 0 0 (QQ g X NT false hz (.inl none) 0 0) h 0 [.ref 240, .int a0, jk] [] := by
  unfold s_X10_lays at e
  refine aw_bipush (v := 24) hX (by decide) d_X10_lays_0 ?_
  refine aw_istore_n (i := 2) (lv2 := [.ref 240, .int a0, .int 24]) hX rfl rfl rfl d_X10_lays_2 ?_
  obtain ⟨y2, f_982, e_982⟩ := bd_some e
  clear e
  refine t_X10_lays_3 hF hX f_982 (fun d3_0 d3_1 d3_2 => ?_)
  cases e_982
  exact aw_return hX (Nat.zero_le _) (Nat.zero_le _) d_X10_lays_39
theorem k_X10_lays {g : GP} (hg : g.1.stackTraces = false) (hF : gF g = true) {a0 : Int32} {h hz : AH} {z : Unit} (e : s_X10_lays a0 h = some (z, hz)) : Ctr g yX10_lays (wsY yX10_lays cX10_lays 3 none) 1 0 0 [.ref 240, .int a0] NT false h none NT false hz := ctr_of (lv0 := [.ref 240, .int a0, jk]) rfl rfl (by decide) hg trivial (fun X hX hn => t_X10_lays hF hX e)
theorem d_X10_feed_0 : decode cX10_feed 0 = .ok (.aload_n 0, 1) := by decide +kernel
theorem d_X10_feed_1 : decode cX10_feed 1 = .ok (.iconst 0, 1) := by decide +kernel
theorem d_X10_feed_2 : decode cX10_feed 2 = .ok (.putfield 133, 3) := by decide +kernel
theorem d_X10_feed_5 : decode cX10_feed 5 = .ok (.aload_n 0, 1) := by decide +kernel
theorem d_X10_feed_6 : decode cX10_feed 6 = .ok (.getfield 136, 3) := by decide +kernel
theorem d_X10_feed_9 : decode cX10_feed 9 = .ok (.bipush 20, 2) := by decide +kernel
theorem d_X10_feed_11 : decode cX10_feed 11 = .ok (.iadd, 1) := by decide +kernel
theorem d_X10_feed_12 : decode cX10_feed 12 = .ok (.sipush 700, 3) := by decide +kernel
theorem d_X10_feed_15 : decode cX10_feed 15 = .ok (.if_icmp .le 5, 3) := by decide +kernel
theorem d_X10_feed_18 : decode cX10_feed 18 = .ok (.iconst (-1), 1) := by decide +kernel
theorem d_X10_feed_19 : decode cX10_feed 19 = .ok (.ireturn, 1) := by decide +kernel
theorem d_X10_feed_20 : decode cX10_feed 20 = .ok (.aload_n 0, 1) := by decide +kernel
theorem d_X10_feed_21 : decode cX10_feed 21 = .ok (.iload_n 1, 1) := by decide +kernel
theorem d_X10_feed_22 : decode cX10_feed 22 = .ok (.invokevirtual 139, 3) := by decide +kernel
theorem d_X10_feed_25 : decode cX10_feed 25 = .ok (.aload_n 0, 1) := by decide +kernel
theorem d_X10_feed_26 : decode cX10_feed 26 = .ok (.iload_n 2, 1) := by decide +kernel
theorem d_X10_feed_27 : decode cX10_feed 27 = .ok (.invokevirtual 139, 3) := by decide +kernel
theorem d_X10_feed_30 : decode cX10_feed 30 = .ok (.aload_n 0, 1) := by decide +kernel
theorem d_X10_feed_31 : decode cX10_feed 31 = .ok (.iload_n 3, 1) := by decide +kernel
theorem d_X10_feed_32 : decode cX10_feed 32 = .ok (.invokevirtual 139, 3) := by decide +kernel
theorem d_X10_feed_35 : decode cX10_feed 35 = .ok (.aload_n 0, 1) := by decide +kernel
theorem d_X10_feed_36 : decode cX10_feed 36 = .ok (.iload 4, 2) := by decide +kernel
theorem d_X10_feed_38 : decode cX10_feed 38 = .ok (.invokevirtual 139, 3) := by decide +kernel
theorem d_X10_feed_41 : decode cX10_feed 41 = .ok (.aload_n 0, 1) := by decide +kernel
theorem d_X10_feed_42 : decode cX10_feed 42 = .ok (.iload 5, 2) := by decide +kernel
theorem d_X10_feed_44 : decode cX10_feed 44 = .ok (.invokevirtual 139, 3) := by decide +kernel
theorem d_X10_feed_47 : decode cX10_feed 47 = .ok (.aload_n 0, 1) := by decide +kernel
theorem d_X10_feed_48 : decode cX10_feed 48 = .ok (.getfield 136, 3) := by decide +kernel
theorem d_X10_feed_51 : decode cX10_feed 51 = .ok (.ireturn, 1) := by decide +kernel
def s_X10_feed (a0 : Int32) (a1 : Int32) (a2 : Int32) (a3 : Int32) (a4 : Int32) (h : AH) : Option (Int32 × AH) := if ((gI (sI h 240 0 0) 240 12) + 20) ≤ 700 then bd (s_X10_lays a0 (sI h 240 0 0)) fun q1 => bd (s_X10_lays a1 q1.2) fun q2 => bd (s_X10_lays a2 q2.2) fun q3 => bd (s_X10_lays a3 q3.2) fun q4 => bd (s_X10_lays a4 q4.2) fun q5 => some ((gI q5.2 240 12), q5.2) else some ((-1), sI h 240 0 0)
theorem t_X10_feed {g : GP} {X : MX} {mcR msR : Nat} (hF : gF g = true) (hX : Cx g RX10 cX10_feed 2 mcR msR (some .int) [] X) {a0 : Int32} {a1 : Int32} {a2 : Int32} {a3 : Int32} {a4 : Int32} {h hz : AH} {z : Int32} (e : s_X10_feed a0 a1 a2 a3 a4 h = some (z, hz)) : AR g X 0 0 (QQ g X NT false hz (.inl (some (.int z))) 0 0) h 0 [.ref 240, .int a0, .int a1, .int a2, .int a3, .int a4] [] := by
  unfold s_X10_feed at e
  refine aw_aload_n (i := 0) hX rfl rfl d_X10_feed_0 ?_
  refine aw_iconst (v := 0) hX (by decide) d_X10_feed_1 ?_
  refine ar_putI hX fp_RX10_133 rfl d_X10_feed_2 ?_
  refine aw_aload_n (i := 0) hX rfl rfl d_X10_feed_5 ?_
  refine ar_getI hX fg_RX10_136 rfl d_X10_feed_6 ?_
  refine aw_bipush (v := 20) hX (by decide) d_X10_feed_9 ?_
  refine aw_iadd hX d_X10_feed_11 ?_
  refine aw_sipush (v := 700) hX (by decide) d_X10_feed_12 ?_
  refine aw_icmp_le (t := 20) hX (by decide) d_X10_feed_15 (fun c => ?_) (fun c => ?_)
  · rw [if_pos c] at e
    refine aw_aload_n (i := 0) hX rfl rfl d_X10_feed_20 ?_
    refine aw_iload_n (i := 1) hX rfl rfl d_X10_feed_21 ?_
    obtain ⟨q1, f_983, e_983⟩ := bd_some e
    clear e
    refine aw_callV (b := 240) (av := [.int a0]) (avr := [.int a0]) hX (k_X10_lays (cx_g hX) hF f_983) mi_X10_lays rfl rfl w_632 w_633 w_634 (by decide) rfl (LAY_lt rfl (by decide)) rfl rfl (Nat.le_of_ble_eq_true rfl) (Nat.zero_le _) (Nat.zero_le _) d_X10_feed_22 ?_
    refine aw_aload_n (i := 0) hX rfl rfl d_X10_feed_25 ?_
    refine aw_iload_n (i := 2) hX rfl rfl d_X10_feed_26 ?_
    obtain ⟨q2, f_984, e_984⟩ := bd_some e_983
    clear e_983
    refine aw_callV (b := 240) (av := [.int a1]) (avr := [.int a1]) hX (k_X10_lays (cx_g hX) hF f_984) mi_X10_lays rfl rfl w_632 w_633 w_634 (by decide) rfl (LAY_lt rfl (by decide)) rfl rfl (Nat.le_of_ble_eq_true rfl) (Nat.zero_le _) (Nat.zero_le _) d_X10_feed_27 ?_
    refine aw_aload_n (i := 0) hX rfl rfl d_X10_feed_30 ?_
    refine aw_iload_n (i := 3) hX rfl rfl d_X10_feed_31 ?_
    obtain ⟨q3, f_985, e_985⟩ := bd_some e_984
    clear e_984
    refine aw_callV (b := 240) (av := [.int a2]) (avr := [.int a2]) hX (k_X10_lays (cx_g hX) hF f_985) mi_X10_lays rfl rfl w_632 w_633 w_634 (by decide) rfl (LAY_lt rfl (by decide)) rfl rfl (Nat.le_of_ble_eq_true rfl) (Nat.zero_le _) (Nat.zero_le _) d_X10_feed_32 ?_
    refine aw_aload_n (i := 0) hX rfl rfl d_X10_feed_35 ?_
    refine aw_iload (i := 4) hX rfl d_X10_feed_36 ?_
    obtain ⟨q4, f_986, e_986⟩ := bd_some e_985
    clear e_985
    refine aw_callV (b := 240) (av := [.int a3]) (avr := [.int a3]) hX (k_X10_lays (cx_g hX) hF f_986) mi_X10_lays rfl rfl w_632 w_633 w_634 (by decide) rfl (LAY_lt rfl (by decide)) rfl rfl (Nat.le_of_ble_eq_true rfl) (Nat.zero_le _) (Nat.zero_le _) d_X10_feed_38 ?_
    refine aw_aload_n (i := 0) hX rfl rfl d_X10_feed_41 ?_
    refine aw_iload (i := 5) hX rfl d_X10_feed_42 ?_
    obtain ⟨q5, f_987, e_987⟩ := bd_some e_986
    clear e_986
    refine aw_callV (b := 240) (av := [.int a4]) (avr := [.int a4]) hX (k_X10_lays (cx_g hX) hF f_987) mi_X10_lays rfl rfl w_632 w_633 w_634 (by decide) rfl (LAY_lt rfl (by decide)) rfl rfl (Nat.le_of_ble_eq_true rfl) (Nat.zero_le _) (Nat.zero_le _) d_X10_feed_44 ?_
    refine aw_aload_n (i := 0) hX rfl rfl d_X10_feed_47 ?_
    refine ar_getI hX fg_RX10_136 rfl d_X10_feed_48 ?_
    cases e_987
    exact aw_ireturn hX (Nat.zero_le _) (Nat.zero_le _) d_X10_feed_51
  · rw [if_neg c] at e
    refine aw_iconst (v := (-1)) hX (by decide) d_X10_feed_18 ?_
    cases e
    exact aw_ireturn hX (Nat.zero_le _) (Nat.zero_le _) d_X10_feed_19
theorem k_X10_feed {g : GP} (hg : g.1.stackTraces = false) (hF : gF g = true) {a0 : Int32} {a1 : Int32} {a2 : Int32} {a3 : Int32} {a4 : Int32} {h hz : AH} {z : Int32} (e : s_X10_feed a0 a1 a2 a3 a4 h = some (z, hz)) : Ctr g yX10_feed (wsY yX10_feed cX10_feed 6 (some .int)) 2 0 0 [.ref 240, .int a0, .int a1, .int a2, .int a3, .int a4] NT false h (some (.int z)) NT false hz := ctr_of (lv0 := [.ref 240, .int a0, .int a1, .int a2, .int a3, .int a4]) rfl rfl (by decide) hg trivial (fun X hX hn => t_X10_feed hF hX e)
theorem d_X10_byteAt_0 : decode cX10_byteAt 0 = .ok (.iload_n 1, 1) := by decide +kernel
theorem d_X10_byteAt_1 : decode cX10_byteAt 1 = .ok (.aload_n 0, 1) := by decide +kernel
theorem d_X10_byteAt_2 : decode cX10_byteAt 2 = .ok (.getfield 143, 3) := by decide +kernel
theorem d_X10_byteAt_5 : decode cX10_byteAt 5 = .ok (.if_icmp .ge 12, 3) := by decide +kernel
theorem d_X10_byteAt_8 : decode cX10_byteAt 8 = .ok (.aload_n 0, 1) := by decide +kernel
theorem d_X10_byteAt_9 : decode cX10_byteAt 9 = .ok (.getfield 26, 3) := by decide +kernel
theorem d_X10_byteAt_12 : decode cX10_byteAt 12 = .ok (.iload_n 1, 1) := by decide +kernel
theorem d_X10_byteAt_13 : decode cX10_byteAt 13 = .ok (.iaload, 1) := by decide +kernel
theorem d_X10_byteAt_14 : decode cX10_byteAt 14 = .ok (.goto 4, 3) := by decide +kernel
theorem d_X10_byteAt_17 : decode cX10_byteAt 17 = .ok (.iconst 0, 1) := by decide +kernel
theorem d_X10_byteAt_18 : decode cX10_byteAt 18 = .ok (.ireturn, 1) := by decide +kernel
def s_X10_byteAt (a0 : Int32) (h : AH) : Option Int32 := if (gI h 240 16) ≤ a0 then some 0 else bd (ldI h 245 a0) fun x1 => some x1
theorem t_X10_byteAt {g : GP} {X : MX} {mcR msR : Nat} (hF : gF g = true) (hX : Cx g RX10 cX10_byteAt 1 mcR msR (some .int) [] X) {a0 : Int32} {h : AH} {z : Int32} (e : s_X10_byteAt a0 h = some z) : AR g X 0 0 (QQ g X NT false h (.inl (some (.int z))) 0 0) h 0 [.ref 240, .int a0] [] := by
  unfold s_X10_byteAt at e
  refine aw_iload_n (i := 1) hX rfl rfl d_X10_byteAt_0 ?_
  refine aw_aload_n (i := 0) hX rfl rfl d_X10_byteAt_1 ?_
  refine ar_getI hX fg_RX10_143 rfl d_X10_byteAt_2 ?_
  refine aw_icmp_ge (t := 17) hX (by decide) d_X10_byteAt_5 (fun c => ?_) (fun c => ?_)
  · rw [if_pos c] at e
    refine aw_iconst (v := 0) hX (by decide) d_X10_byteAt_17 ?_
    cases e
    exact aw_ireturn hX (Nat.zero_le _) (Nat.zero_le _) d_X10_byteAt_18
  · rw [if_neg c] at e
    refine aw_aload_n (i := 0) hX rfl rfl d_X10_byteAt_8 ?_
    refine ar_getF hX hF fg_RX10_26 rfl d_X10_byteAt_9 ?_
    show AR g X 0 0 _ _ 12 _ [.ref 245]
    refine aw_iload_n (i := 1) hX rfl rfl d_X10_byteAt_12 ?_
    obtain ⟨x1, f_988, e_988⟩ := bd_some e
    clear e
    refine ar_iaload hX f_988 d_X10_byteAt_13 ?_
    refine aw_goto (t := 18) hX (by decide) d_X10_byteAt_14 ?_
    cases e_988
    exact aw_ireturn hX (Nat.zero_le _) (Nat.zero_le _) d_X10_byteAt_18
theorem k_X10_byteAt {g : GP} (hg : g.1.stackTraces = false) (hF : gF g = true) {a0 : Int32} {h : AH} {z : Int32} (e : s_X10_byteAt a0 h = some z) : Ctr g yX10_byteAt (wsY yX10_byteAt cX10_byteAt 2 (some .int)) 1 0 0 [.ref 240, .int a0] NT false h (some (.int z)) NT false h := ctr_of (lv0 := [.ref 240, .int a0]) rfl rfl (by decide) hg trivial (fun X hX hn => t_X10_byteAt hF hX e)
theorem d_X10_isLetter_0 : decode cX10_isLetter 0 = .ok (.iload_n 0, 1) := by decide +kernel
theorem d_X10_isLetter_1 : decode cX10_isLetter 1 = .ok (.bipush 97, 2) := by decide +kernel
theorem d_X10_isLetter_3 : decode cX10_isLetter 3 = .ok (.if_icmp .lt 13, 3) := by decide +kernel
theorem d_X10_isLetter_6 : decode cX10_isLetter 6 = .ok (.iload_n 0, 1) := by decide +kernel
theorem d_X10_isLetter_7 : decode cX10_isLetter 7 = .ok (.bipush 122, 2) := by decide +kernel
theorem d_X10_isLetter_9 : decode cX10_isLetter 9 = .ok (.if_icmp .gt 7, 3) := by decide +kernel
theorem d_X10_isLetter_12 : decode cX10_isLetter 12 = .ok (.iconst 1, 1) := by decide +kernel
theorem d_X10_isLetter_13 : decode cX10_isLetter 13 = .ok (.goto 4, 3) := by decide +kernel
theorem d_X10_isLetter_16 : decode cX10_isLetter 16 = .ok (.iconst 0, 1) := by decide +kernel
theorem d_X10_isLetter_17 : decode cX10_isLetter 17 = .ok (.ireturn, 1) := by decide +kernel
def s_X10_isLetter (a0 : Int32) (h : AH) : Option Int32 := if a0 < 97 then some 0 else if 122 < a0 then some 0 else some 1
theorem t_X10_isLetter {g : GP} {X : MX} {mcR msR : Nat} (hF : gF g = true) (hX : Cx g RX10 cX10_isLetter 1 mcR msR (some .boolean) [] X) {a0 : Int32} {h : AH} {z : Int32} (e : s_X10_isLetter a0 h = some z) : AR g X 0 0 (QQ g X NT false h (.inl (some (.int z))) 0 0) h 0 [.int a0] [] := by
  unfold s_X10_isLetter at e
  refine aw_iload_n (i := 0) hX rfl rfl d_X10_isLetter_0 ?_
  refine aw_bipush (v := 97) hX (by decide) d_X10_isLetter_1 ?_
  refine aw_icmp_lt (t := 16) hX (by decide) d_X10_isLetter_3 (fun c => ?_) (fun c => ?_)
  · rw [if_pos c] at e
    refine aw_iconst (v := 0) hX (by decide) d_X10_isLetter_16 ?_
    cases e
    exact aw_zreturn hX (by decide) (Nat.zero_le _) (Nat.zero_le _) d_X10_isLetter_17
  · rw [if_neg c] at e
    refine aw_iload_n (i := 0) hX rfl rfl d_X10_isLetter_6 ?_
    refine aw_bipush (v := 122) hX (by decide) d_X10_isLetter_7 ?_
    refine aw_icmp_gt (t := 16) hX (by decide) d_X10_isLetter_9 (fun c => ?_) (fun c => ?_)
    · rw [if_pos c] at e
      refine aw_iconst (v := 0) hX (by decide) d_X10_isLetter_16 ?_
      cases e
      exact aw_zreturn hX (by decide) (Nat.zero_le _) (Nat.zero_le _) d_X10_isLetter_17
    · rw [if_neg c] at e
      refine aw_iconst (v := 1) hX (by decide) d_X10_isLetter_12 ?_
      refine aw_goto (t := 17) hX (by decide) d_X10_isLetter_13 ?_
      cases e
      exact aw_zreturn hX (by decide) (Nat.zero_le _) (Nat.zero_le _) d_X10_isLetter_17
theorem k_X10_isLetter {g : GP} (hg : g.1.stackTraces = false) (hF : gF g = true) {a0 : Int32} {h : AH} {z : Int32} (e : s_X10_isLetter a0 h = some z) : Ctr g yX10_isLetter (wsY yX10_isLetter cX10_isLetter 1 (some .boolean)) 1 0 0 [.int a0] NT false h (some (.int z)) NT false h := ctr_of (lv0 := [.int a0]) rfl rfl (by decide) hg trivial (fun X hX hn => t_X10_isLetter hF hX e)
theorem d_X10_isDigit_0 : decode cX10_isDigit 0 = .ok (.iload_n 0, 1) := by decide +kernel
theorem d_X10_isDigit_1 : decode cX10_isDigit 1 = .ok (.bipush 48, 2) := by decide +kernel
theorem d_X10_isDigit_3 : decode cX10_isDigit 3 = .ok (.if_icmp .lt 13, 3) := by decide +kernel
theorem d_X10_isDigit_6 : decode cX10_isDigit 6 = .ok (.iload_n 0, 1) := by decide +kernel
theorem d_X10_isDigit_7 : decode cX10_isDigit 7 = .ok (.bipush 57, 2) := by decide +kernel
theorem d_X10_isDigit_9 : decode cX10_isDigit 9 = .ok (.if_icmp .gt 7, 3) := by decide +kernel
theorem d_X10_isDigit_12 : decode cX10_isDigit 12 = .ok (.iconst 1, 1) := by decide +kernel
theorem d_X10_isDigit_13 : decode cX10_isDigit 13 = .ok (.goto 4, 3) := by decide +kernel
theorem d_X10_isDigit_16 : decode cX10_isDigit 16 = .ok (.iconst 0, 1) := by decide +kernel
theorem d_X10_isDigit_17 : decode cX10_isDigit 17 = .ok (.ireturn, 1) := by decide +kernel
def s_X10_isDigit (a0 : Int32) (h : AH) : Option Int32 := if a0 < 48 then some 0 else if 57 < a0 then some 0 else some 1
theorem t_X10_isDigit {g : GP} {X : MX} {mcR msR : Nat} (hF : gF g = true) (hX : Cx g RX10 cX10_isDigit 1 mcR msR (some .boolean) [] X) {a0 : Int32} {h : AH} {z : Int32} (e : s_X10_isDigit a0 h = some z) : AR g X 0 0 (QQ g X NT false h (.inl (some (.int z))) 0 0) h 0 [.int a0] [] := by
  unfold s_X10_isDigit at e
  refine aw_iload_n (i := 0) hX rfl rfl d_X10_isDigit_0 ?_
  refine aw_bipush (v := 48) hX (by decide) d_X10_isDigit_1 ?_
  refine aw_icmp_lt (t := 16) hX (by decide) d_X10_isDigit_3 (fun c => ?_) (fun c => ?_)
  · rw [if_pos c] at e
    refine aw_iconst (v := 0) hX (by decide) d_X10_isDigit_16 ?_
    cases e
    exact aw_zreturn hX (by decide) (Nat.zero_le _) (Nat.zero_le _) d_X10_isDigit_17
  · rw [if_neg c] at e
    refine aw_iload_n (i := 0) hX rfl rfl d_X10_isDigit_6 ?_
    refine aw_bipush (v := 57) hX (by decide) d_X10_isDigit_7 ?_
    refine aw_icmp_gt (t := 16) hX (by decide) d_X10_isDigit_9 (fun c => ?_) (fun c => ?_)
    · rw [if_pos c] at e
      refine aw_iconst (v := 0) hX (by decide) d_X10_isDigit_16 ?_
      cases e
      exact aw_zreturn hX (by decide) (Nat.zero_le _) (Nat.zero_le _) d_X10_isDigit_17
    · rw [if_neg c] at e
      refine aw_iconst (v := 1) hX (by decide) d_X10_isDigit_12 ?_
      refine aw_goto (t := 17) hX (by decide) d_X10_isDigit_13 ?_
      cases e
      exact aw_zreturn hX (by decide) (Nat.zero_le _) (Nat.zero_le _) d_X10_isDigit_17
theorem k_X10_isDigit {g : GP} (hg : g.1.stackTraces = false) (hF : gF g = true) {a0 : Int32} {h : AH} {z : Int32} (e : s_X10_isDigit a0 h = some z) : Ctr g yX10_isDigit (wsY yX10_isDigit cX10_isDigit 1 (some .boolean)) 1 0 0 [.int a0] NT false h (some (.int z)) NT false h := ctr_of (lv0 := [.int a0]) rfl rfl (by decide) hg trivial (fun X hX hn => t_X10_isDigit hF hX e)
theorem d_X10_steps_0 : decode cX10_steps 0 = .ok (.aload_n 0, 1) := by decide +kernel
theorem d_X10_steps_1 : decode cX10_steps 1 = .ok (.getfield 146, 3) := by decide +kernel
theorem d_X10_steps_4 : decode cX10_steps 4 = .ok (.aload_n 0, 1) := by decide +kernel
theorem d_X10_steps_5 : decode cX10_steps 5 = .ok (.getfield 143, 3) := by decide +kernel
theorem d_X10_steps_8 : decode cX10_steps 8 = .ok (.if_icmp .ge 42, 3) := by decide +kernel
theorem d_X10_steps_11 : decode cX10_steps 11 = .ok (.aload_n 0, 1) := by decide +kernel
theorem d_X10_steps_12 : decode cX10_steps 12 = .ok (.aload_n 0, 1) := by decide +kernel
theorem d_X10_steps_13 : decode cX10_steps 13 = .ok (.getfield 146, 3) := by decide +kernel
theorem d_X10_steps_16 : decode cX10_steps 16 = .ok (.invokevirtual 149, 3) := by decide +kernel
theorem d_X10_steps_19 : decode cX10_steps 19 = .ok (.bipush 32, 2) := by decide +kernel
theorem d_X10_steps_21 : decode cX10_steps 21 = .ok (.if_icmp .eq 16, 3) := by decide +kernel
theorem d_X10_steps_24 : decode cX10_steps 24 = .ok (.aload_n 0, 1) := by decide +kernel
theorem d_X10_steps_25 : decode cX10_steps 25 = .ok (.aload_n 0, 1) := by decide +kernel
theorem d_X10_steps_26 : decode cX10_steps 26 = .ok (.getfield 146, 3) := by decide +kernel
theorem d_X10_steps_29 : decode cX10_steps 29 = .ok (.invokevirtual 149, 3) := by decide +kernel
theorem d_X10_steps_32 : decode cX10_steps 32 = .ok (.bipush 10, 2) := by decide +kernel
theorem d_X10_steps_34 : decode cX10_steps 34 = .ok (.if_icmp .ne 16, 3) := by decide +kernel
theorem d_X10_steps_37 : decode cX10_steps 37 = .ok (.aload_n 0, 1) := by decide +kernel
theorem d_X10_steps_38 : decode cX10_steps 38 = .ok (.dup, 1) := by decide +kernel
theorem d_X10_steps_39 : decode cX10_steps 39 = .ok (.getfield 146, 3) := by decide +kernel
theorem d_X10_steps_42 : decode cX10_steps 42 = .ok (.iconst 1, 1) := by decide +kernel
theorem d_X10_steps_43 : decode cX10_steps 43 = .ok (.iadd, 1) := by decide +kernel
theorem d_X10_steps_44 : decode cX10_steps 44 = .ok (.putfield 146, 3) := by decide +kernel
theorem d_X10_steps_47 : decode cX10_steps 47 = .ok (.goto (-47), 3) := by decide +kernel
theorem d_X10_steps_50 : decode cX10_steps 50 = .ok (.aload_n 0, 1) := by decide +kernel
theorem d_X10_steps_51 : decode cX10_steps 51 = .ok (.aload_n 0, 1) := by decide +kernel
theorem d_X10_steps_52 : decode cX10_steps 52 = .ok (.getfield 146, 3) := by decide +kernel
theorem d_X10_steps_55 : decode cX10_steps 55 = .ok (.putfield 153, 3) := by decide +kernel
theorem d_X10_steps_58 : decode cX10_steps 58 = .ok (.aload_n 0, 1) := by decide +kernel
theorem d_X10_steps_59 : decode cX10_steps 59 = .ok (.lconst 0, 1) := by decide +kernel
theorem d_X10_steps_60 : decode cX10_steps 60 = .ok (.putfield 156, 3) := by decide +kernel
theorem d_X10_steps_63 : decode cX10_steps 63 = .ok (.aload_n 0, 1) := by decide +kernel
theorem d_X10_steps_64 : decode cX10_steps 64 = .ok (.iconst 0, 1) := by decide +kernel
theorem d_X10_steps_65 : decode cX10_steps 65 = .ok (.putfield 160, 3) := by decide +kernel
theorem d_X10_steps_68 : decode cX10_steps 68 = .ok (.aload_n 0, 1) := by decide +kernel
theorem d_X10_steps_69 : decode cX10_steps 69 = .ok (.aload_n 0, 1) := by decide +kernel
theorem d_X10_steps_70 : decode cX10_steps 70 = .ok (.getfield 146, 3) := by decide +kernel
theorem d_X10_steps_73 : decode cX10_steps 73 = .ok (.invokevirtual 149, 3) := by decide +kernel
theorem d_X10_steps_76 : decode cX10_steps 76 = .ok (.istore_n 1, 1) := by decide +kernel
theorem d_X10_steps_77 : decode cX10_steps 77 = .ok (.aload_n 0, 1) := by decide +kernel
theorem d_X10_steps_78 : decode cX10_steps 78 = .ok (.getfield 146, 3) := by decide +kernel
theorem d_X10_steps_81 : decode cX10_steps 81 = .ok (.aload_n 0, 1) := by decide +kernel
theorem d_X10_steps_82 : decode cX10_steps 82 = .ok (.getfield 143, 3) := by decide +kernel
theorem d_X10_steps_85 : decode cX10_steps 85 = .ok (.if_icmp .lt 11, 3) := by decide +kernel
theorem d_X10_steps_88 : decode cX10_steps 88 = .ok (.aload_n 0, 1) := by decide +kernel
theorem d_X10_steps_89 : decode cX10_steps 89 = .ok (.iconst 0, 1) := by decide +kernel
theorem d_X10_steps_90 : decode cX10_steps 90 = .ok (.putfield 163, 3) := by decide +kernel
theorem d_X10_steps_93 : decode cX10_steps 93 = .ok (.goto 185, 3) := by decide +kernel
theorem d_X10_steps_96 : decode cX10_steps 96 = .ok (.iload_n 1, 1) := by decide +kernel
theorem d_X10_steps_97 : decode cX10_steps 97 = .ok (.invokestatic 166, 3) := by decide +kernel
theorem d_X10_steps_100 : decode cX10_steps 100 = .ok (.ifCond .eq 75, 3) := by decide +kernel
theorem d_X10_steps_103 : decode cX10_steps 103 = .ok (.aload_n 0, 1) := by decide +kernel
theorem d_X10_steps_104 : decode cX10_steps 104 = .ok (.aload_n 0, 1) := by decide +kernel
theorem d_X10_steps_105 : decode cX10_steps 105 = .ok (.getfield 146, 3) := by decide +kernel
theorem d_X10_steps_108 : decode cX10_steps 108 = .ok (.invokevirtual 149, 3) := by decide +kernel
theorem d_X10_steps_111 : decode cX10_steps 111 = .ok (.invokestatic 166, 3) := by decide +kernel
theorem d_X10_steps_114 : decode cX10_steps 114 = .ok (.ifCond .eq 53, 3) := by decide +kernel
theorem d_X10_steps_117 : decode cX10_steps 117 = .ok (.aload_n 0, 1) := by decide +kernel
theorem d_X10_steps_118 : decode cX10_steps 118 = .ok (.getfield 146, 3) := by decide +kernel
theorem d_X10_steps_121 : decode cX10_steps 121 = .ok (.aload_n 0, 1) := by decide +kernel
theorem d_X10_steps_122 : decode cX10_steps 122 = .ok (.getfield 153, 3) := by decide +kernel
theorem d_X10_steps_125 : decode cX10_steps 125 = .ok (.isub, 1) := by decide +kernel
theorem d_X10_steps_126 : decode cX10_steps 126 = .ok (.bipush 8, 2) := by decide +kernel
theorem d_X10_steps_128 : decode cX10_steps 128 = .ok (.if_icmp .ge 26, 3) := by decide +kernel
theorem d_X10_steps_131 : decode cX10_steps 131 = .ok (.aload_n 0, 1) := by decide +kernel
theorem d_X10_steps_132 : decode cX10_steps 132 = .ok (.aload_n 0, 1) := by decide +kernel
theorem d_X10_steps_133 : decode cX10_steps 133 = .ok (.getfield 156, 3) := by decide +kernel
theorem d_X10_steps_136 : decode cX10_steps 136 = .ok (.iconst 5, 1) := by decide +kernel
theorem d_X10_steps_137 : decode cX10_steps 137 = .ok (.lshl, 1) := by decide +kernel
theorem d_X10_steps_138 : decode cX10_steps 138 = .ok (.aload_n 0, 1) := by decide +kernel
theorem d_X10_steps_139 : decode cX10_steps 139 = .ok (.aload_n 0, 1) := by decide +kernel
theorem d_X10_steps_140 : decode cX10_steps 140 = .ok (.getfield 146, 3) := by decide +kernel
theorem d_X10_steps_143 : decode cX10_steps 143 = .ok (.invokevirtual 149, 3) := by decide +kernel
theorem d_X10_steps_146 : decode cX10_steps 146 = .ok (.bipush 96, 2) := by decide +kernel
theorem d_X10_steps_148 : decode cX10_steps 148 = .ok (.isub, 1) := by decide +kernel
theorem d_X10_steps_149 : decode cX10_steps 149 = .ok (.i2l, 1) := by decide +kernel
theorem d_X10_steps_150 : decode cX10_steps 150 = .ok (.lor, 1) := by decide +kernel
theorem d_X10_steps_151 : decode cX10_steps 151 = .ok (.putfield 156, 3) := by decide +kernel
theorem d_X10_steps_154 : decode cX10_steps 154 = .ok (.aload_n 0, 1) := by decide +kernel
theorem d_X10_steps_155 : decode cX10_steps 155 = .ok (.dup, 1) := by decide +kernel
theorem d_X10_steps_156 : decode cX10_steps 156 = .ok (.getfield 146, 3) := by decide +kernel
theorem d_X10_steps_159 : decode cX10_steps 159 = .ok (.iconst 1, 1) := by decide +kernel
theorem d_X10_steps_160 : decode cX10_steps 160 = .ok (.iadd, 1) := by decide +kernel
theorem d_X10_steps_161 : decode cX10_steps 161 = .ok (.putfield 146, 3) := by decide +kernel
theorem d_X10_steps_164 : decode cX10_steps 164 = .ok (.goto (-61), 3) := by decide +kernel
theorem d_X10_steps_167 : decode cX10_steps 167 = .ok (.aload_n 0, 1) := by decide +kernel
theorem d_X10_steps_168 : decode cX10_steps 168 = .ok (.iconst 1, 1) := by decide +kernel
theorem d_X10_steps_169 : decode cX10_steps 169 = .ok (.putfield 163, 3) := by decide +kernel
theorem d_X10_steps_172 : decode cX10_steps 172 = .ok (.goto 106, 3) := by decide +kernel
theorem d_X10_steps_175 : decode cX10_steps 175 = .ok (.iload_n 1, 1) := by decide +kernel
theorem d_X10_steps_176 : decode cX10_steps 176 = .ok (.invokestatic 170, 3) := by decide +kernel
theorem d_X10_steps_179 : decode cX10_steps 179 = .ok (.ifCond .eq 74, 3) := by decide +kernel
theorem d_X10_steps_182 : decode cX10_steps 182 = .ok (.aload_n 0, 1) := by decide +kernel
theorem d_X10_steps_183 : decode cX10_steps 183 = .ok (.aload_n 0, 1) := by decide +kernel
theorem d_X10_steps_184 : decode cX10_steps 184 = .ok (.getfield 146, 3) := by decide +kernel
theorem d_X10_steps_187 : decode cX10_steps 187 = .ok (.invokevirtual 149, 3) := by decide +kernel
theorem d_X10_steps_190 : decode cX10_steps 190 = .ok (.invokestatic 170, 3) := by decide +kernel
theorem d_X10_steps_193 : decode cX10_steps 193 = .ok (.ifCond .eq 52, 3) := by decide +kernel
theorem d_X10_steps_196 : decode cX10_steps 196 = .ok (.aload_n 0, 1) := by decide +kernel
theorem d_X10_steps_197 : decode cX10_steps 197 = .ok (.getfield 146, 3) := by decide +kernel
theorem d_X10_steps_200 : decode cX10_steps 200 = .ok (.aload_n 0, 1) := by decide +kernel
theorem d_X10_steps_201 : decode cX10_steps 201 = .ok (.getfield 153, 3) := by decide +kernel
theorem d_X10_steps_204 : decode cX10_steps 204 = .ok (.isub, 1) := by decide +kernel
theorem d_X10_steps_205 : decode cX10_steps 205 = .ok (.iconst 4, 1) := by decide +kernel
theorem d_X10_steps_206 : decode cX10_steps 206 = .ok (.if_icmp .ge 26, 3) := by decide +kernel
theorem d_X10_steps_209 : decode cX10_steps 209 = .ok (.aload_n 0, 1) := by decide +kernel
theorem d_X10_steps_210 : decode cX10_steps 210 = .ok (.bipush 10, 2) := by decide +kernel
theorem d_X10_steps_212 : decode cX10_steps 212 = .ok (.aload_n 0, 1) := by decide +kernel
theorem d_X10_steps_213 : decode cX10_steps 213 = .ok (.getfield 160, 3) := by decide +kernel
theorem d_X10_steps_216 : decode cX10_steps 216 = .ok (.imul, 1) := by decide +kernel
theorem d_X10_steps_217 : decode cX10_steps 217 = .ok (.aload_n 0, 1) := by decide +kernel
theorem d_X10_steps_218 : decode cX10_steps 218 = .ok (.aload_n 0, 1) := by decide +kernel
theorem d_X10_steps_219 : decode cX10_steps 219 = .ok (.getfield 146, 3) := by decide +kernel
theorem d_X10_steps_222 : decode cX10_steps 222 = .ok (.invokevirtual 149, 3) := by decide +kernel
theorem d_X10_steps_225 : decode cX10_steps 225 = .ok (.iadd, 1) := by decide +kernel
theorem d_X10_steps_226 : decode cX10_steps 226 = .ok (.bipush 48, 2) := by decide +kernel
theorem d_X10_steps_228 : decode cX10_steps 228 = .ok (.isub, 1) := by decide +kernel
theorem d_X10_steps_229 : decode cX10_steps 229 = .ok (.putfield 160, 3) := by decide +kernel
theorem d_X10_steps_232 : decode cX10_steps 232 = .ok (.aload_n 0, 1) := by decide +kernel
theorem d_X10_steps_233 : decode cX10_steps 233 = .ok (.dup, 1) := by decide +kernel
theorem d_X10_steps_234 : decode cX10_steps 234 = .ok (.getfield 146, 3) := by decide +kernel
theorem d_X10_steps_237 : decode cX10_steps 237 = .ok (.iconst 1, 1) := by decide +kernel
theorem d_X10_steps_238 : decode cX10_steps 238 = .ok (.iadd, 1) := by decide +kernel
theorem d_X10_steps_239 : decode cX10_steps 239 = .ok (.putfield 146, 3) := by decide +kernel
theorem d_X10_steps_242 : decode cX10_steps 242 = .ok (.goto (-60), 3) := by decide +kernel
theorem d_X10_steps_245 : decode cX10_steps 245 = .ok (.aload_n 0, 1) := by decide +kernel
theorem d_X10_steps_246 : decode cX10_steps 246 = .ok (.iconst 2, 1) := by decide +kernel
theorem d_X10_steps_247 : decode cX10_steps 247 = .ok (.putfield 163, 3) := by decide +kernel
theorem d_X10_steps_250 : decode cX10_steps 250 = .ok (.goto 28, 3) := by decide +kernel
theorem d_X10_steps_253 : decode cX10_steps 253 = .ok (.aload_n 0, 1) := by decide +kernel
theorem d_X10_steps_254 : decode cX10_steps 254 = .ok (.dup, 1) := by decide +kernel
theorem d_X10_steps_255 : decode cX10_steps 255 = .ok (.getfield 146, 3) := by decide +kernel
theorem d_X10_steps_258 : decode cX10_steps 258 = .ok (.iconst 1, 1) := by decide +kernel
theorem d_X10_steps_259 : decode cX10_steps 259 = .ok (.iadd, 1) := by decide +kernel
theorem d_X10_steps_260 : decode cX10_steps 260 = .ok (.putfield 146, 3) := by decide +kernel
theorem d_X10_steps_263 : decode cX10_steps 263 = .ok (.aload_n 0, 1) := by decide +kernel
theorem d_X10_steps_264 : decode cX10_steps 264 = .ok (.iload_n 1, 1) := by decide +kernel
theorem d_X10_steps_265 : decode cX10_steps 265 = .ok (.bipush 59, 2) := by decide +kernel
theorem d_X10_steps_267 : decode cX10_steps 267 = .ok (.if_icmp .ne 7, 3) := by decide +kernel
theorem d_X10_steps_270 : decode cX10_steps 270 = .ok (.iconst 3, 1) := by decide +kernel
theorem d_X10_steps_271 : decode cX10_steps 271 = .ok (.goto 4, 3) := by decide +kernel
theorem d_X10_steps_274 : decode cX10_steps 274 = .ok (.iconst 4, 1) := by decide +kernel
theorem d_X10_steps_275 : decode cX10_steps 275 = .ok (.putfield 163, 3) := by decide +kernel
theorem d_X10_steps_278 : decode cX10_steps 278 = .ok (.aload_n 0, 1) := by decide +kernel
theorem d_X10_steps_279 : decode cX10_steps 279 = .ok (.aload_n 0, 1) := by decide +kernel
theorem d_X10_steps_280 : decode cX10_steps 280 = .ok (.getfield 146, 3) := by decide +kernel
theorem d_X10_steps_283 : decode cX10_steps 283 = .ok (.aload_n 0, 1) := by decide +kernel
theorem d_X10_steps_284 : decode cX10_steps 284 = .ok (.getfield 153, 3) := by decide +kernel
theorem d_X10_steps_287 : decode cX10_steps 287 = .ok (.isub, 1) := by decide +kernel
theorem d_X10_steps_288 : decode cX10_steps 288 = .ok (.putfield 173, 3) := by decide +kernel
theorem d_X10_steps_291 : decode cX10_steps 291 = .ok (.return_, 1) := by decide +kernel
def j_X10_steps_37_0 (h : AH) : Option ((Unit ⊕ Unit) × AH) := some (.inl (), sI h 240 17 ((gI h 240 17) + 1))
theorem tj_X10_steps_37_0 {g : GP} {X : MX} {mcR msR : Nat} (hF : gF g = true) (hX : Cx g RX10 cX10_steps 2 mcR msR none [] X) {Q : State → Prop} {d1 : Value} {h hz : AH} {z : (Unit ⊕ Unit)} (e : j_X10_steps_37_0 h = some (z, hz)) (kI : ∀ (s2 : Unit) (xd1 : Value), z = .inl s2 → AR g X 0 0 Q hz 0 [.ref 240, xd1] []) (kE0 : ∀ (yy : Unit) (y1 : Value), z = .inr yy → AR g X 0 0 Q hz 50 [.ref 240, y1] []) : AR g X 0 0 Q h 37 [.ref 240, d1] [] := by
  unfold j_X10_steps_37_0 at e
  refine aw_aload_n (i := 0) hX rfl rfl d_X10_steps_37 ?_
  refine aw_dup hX rfl d_X10_steps_38 ?_
  refine ar_getI hX fg_RX10_146 rfl d_X10_steps_39 ?_
  refine aw_iconst (v := 1) hX (by decide) d_X10_steps_42 ?_
  refine aw_iadd hX d_X10_steps_43 ?_
  refine ar_putI hX fp_RX10_146 rfl d_X10_steps_44 ?_
  refine aw_goto (t := 0) hX (by decide) d_X10_steps_47 ?_
  cases e
  exact kI () _ rfl
def l_X10_steps_0 (s : Unit) (h : AH) : Option ((Unit ⊕ Unit) × AH) := if (gI h 240 16) ≤ (gI h 240 17) then some (.inr (), h) else bd (s_X10_byteAt (gI h 240 17) h) fun x1 => if x1 = 32 then j_X10_steps_37_0 h else bd (s_X10_byteAt (gI h 240 17) h) fun x2 => if x2 = 10 then j_X10_steps_37_0 h else some (.inr (), h)
theorem tb_X10_steps_0 {g : GP} {X : MX} {mcR msR : Nat} (hF : gF g = true) (hX : Cx g RX10 cX10_steps 2 mcR msR none [] X) {Q : State → Prop} {s : Unit} {d1 : Value} {h hz : AH} {z : (Unit ⊕ Unit)} (e : l_X10_steps_0 s h = some (z, hz)) (kI : ∀ (s2 : Unit) (xd1 : Value), z = .inl s2 → AR g X 0 0 Q hz 0 [.ref 240, xd1] []) (kE0 : ∀ (yy : Unit) (y1 : Value), z = .inr yy → AR g X 0 0 Q hz 50 [.ref 240, y1] []) : AR g X 0 0 Q h 0 [.ref 240, d1] [] := by
  unfold l_X10_steps_0 at e
  refine aw_aload_n (i := 0) hX rfl rfl d_X10_steps_0 ?_
  refine ar_getI hX fg_RX10_146 rfl d_X10_steps_1 ?_
  refine aw_aload_n (i := 0) hX rfl rfl d_X10_steps_4 ?_
  refine ar_getI hX fg_RX10_143 rfl d_X10_steps_5 ?_
  refine aw_icmp_ge (t := 50) hX (by decide) d_X10_steps_8 (fun c => ?_) (fun c => ?_)
  · rw [if_pos c] at e
    cases e
    exact kE0 () _ rfl
  · rw [if_neg c] at e
    refine aw_aload_n (i := 0) hX rfl rfl d_X10_steps_11 ?_
    refine aw_aload_n (i := 0) hX rfl rfl d_X10_steps_12 ?_
    refine ar_getI hX fg_RX10_146 rfl d_X10_steps_13 ?_
    obtain ⟨x1, f_989, e_989⟩ := bd_some e
    clear e
    refine aw_callV (b := 240) (av := [.int (gI h 240 17)]) (avr := [.int (gI h 240 17)]) hX (k_X10_byteAt (cx_g hX) hF f_989) mi_X10_byteAt rfl rfl w_638 w_639 w_640 (by decide) rfl (LAY_lt rfl (by decide)) rfl rfl (Nat.le_of_ble_eq_true rfl) (Nat.zero_le _) (Nat.zero_le _) d_X10_steps_16 ?_
    refine aw_bipush (v := 32) hX (by decide) d_X10_steps_19 ?_
    refine aw_icmp_eq (t := 37) hX (by decide) d_X10_steps_21 (fun c => ?_) (fun c => ?_)
    · rw [if_pos c] at e_989
      exact tj_X10_steps_37_0 hF hX e_989 kI kE0
    · rw [if_neg c] at e_989
      refine aw_aload_n (i := 0) hX rfl rfl d_X10_steps_24 ?_
      refine aw_aload_n (i := 0) hX rfl rfl d_X10_steps_25 ?_
      refine ar_getI hX fg_RX10_146 rfl d_X10_steps_26 ?_
      obtain ⟨x2, f_990, e_990⟩ := bd_some e_989
      clear e_989
      refine aw_callV (b := 240) (av := [.int (gI h 240 17)]) (avr := [.int (gI h 240 17)]) hX (k_X10_byteAt (cx_g hX) hF f_990) mi_X10_byteAt rfl rfl w_638 w_639 w_640 (by decide) rfl (LAY_lt rfl (by decide)) rfl rfl (Nat.le_of_ble_eq_true rfl) (Nat.zero_le _) (Nat.zero_le _) d_X10_steps_29 ?_
      refine aw_bipush (v := 10) hX (by decide) d_X10_steps_32 ?_
      refine aw_icmp_ne (t := 50) hX (by decide) d_X10_steps_34 (fun c => ?_) (fun c => ?_)
      · rw [if_neg c] at e_990
        cases e_990
        exact kE0 () _ rfl
      · rw [if_pos c] at e_990
        exact tj_X10_steps_37_0 hF hX e_990 kI kE0
theorem ti_X10_steps_0 {g : GP} {X : MX} {mcR msR : Nat} (hF : gF g = true) (hX : Cx g RX10 cX10_steps 2 mcR msR none [] X) {Q : State → Prop} {y : Unit} {hz : AH} (kE0 : ∀ (y_1 : Value), AR g X 0 0 Q hz 50 [.ref 240, y_1] []) (n : Nat) : ∀ (s : Unit) (d1 : Value) (h : AH), lpH (l_X10_steps_0) n s h = some (y, hz) → AR g X 0 0 Q h 0 [.ref 240, d1] [] := by
  induction n with
  | zero => intro s d1 h e; cases e
  | succ n ih =>
    intro s d1 h e
    obtain ⟨x, h1, e1, e2⟩ := lpH_succ e
    rcases e2 with ⟨s2, rfl, e3⟩ | ⟨rfl, rfl⟩
    · exact tb_X10_steps_0 hF hX e1 (fun s3 x0 hs => by cases hs; exact ih _ _ _ e3) (fun yy x0 hy => by cases hy)
    · exact tb_X10_steps_0 hF hX e1 (fun s3 x0 hs => by cases hs) (fun yy x0 hy => by cases hy; exact kE0 x0)
theorem t_X10_steps_0 {g : GP} {X : MX} {mcR msR : Nat} (hF : gF g = true) (hX : Cx g RX10 cX10_steps 2 mcR msR none [] X) {Q : State → Prop} {s : Unit} {d1 : Value} {h hz : AH} {n : Nat} {y : Unit} (e : lpH (l_X10_steps_0) n s h = some (y, hz)) (kE0 : ∀ (y_1 : Value), AR g X 0 0 Q hz 50 [.ref 240, y_1] []) : AR g X 0 0 Q h 0 [.ref 240, d1] [] := ti_X10_steps_0 hF hX kE0 n _ _ _ e
def j_X10_steps_278 (h : AH) : Option (Unit × AH) := some ((), sI h 240 20 ((gI h 240 17) - (gI h 240 19)))
theorem tj_X10_steps_278 {g : GP} {X : MX} {mcR msR : Nat} (hF : gF g = true) (hX : Cx g RX10 cX10_steps 2 mcR msR none [] X) {d1 : Value} {h hz : AH} {z : Unit} (e : j_X10_steps_278 h = some (z, hz)) : AR g X 0 0 (QQ g X NT false hz (.inl none) 0 0) h 278 [.ref 240, d1] [] := by
  unfold j_X10_steps_278 at e
  refine aw_aload_n (i := 0) hX rfl rfl d_X10_steps_278 ?_
  refine aw_aload_n (i := 0) hX rfl rfl d_X10_steps_279 ?_
  refine ar_getI hX fg_RX10_146 rfl d_X10_steps_280 ?_
  refine aw_aload_n (i := 0) hX rfl rfl d_X10_steps_283 ?_
  refine ar_getI hX fg_RX10_153 rfl d_X10_steps_284 ?_
  refine aw_isub hX d_X10_steps_287 ?_
  refine ar_putI hX fp_RX10_173 rfl d_X10_steps_288 ?_
  cases e
  exact aw_return hX (Nat.zero_le _) (Nat.zero_le _) d_X10_steps_291
def j_X10_steps_275 (k0 : Int32) (h : AH) : Option (Unit × AH) := j_X10_steps_278 (sI h 240 18 k0)
theorem tj_X10_steps_275 {g : GP} {X : MX} {mcR msR : Nat} (hF : gF g = true) (hX : Cx g RX10 cX10_steps 2 mcR msR none [] X) {k0 : Int32} {d1 : Value} {h hz : AH} {z : Unit} (e : j_X10_steps_275 k0 h = some (z, hz)) : AR g X 0 0 (QQ g X NT false hz (.inl none) 0 0) h 275 [.ref 240, d1] [.int k0, .ref 240] := by
  unfold j_X10_steps_275 at e
  refine ar_putI hX fp_RX10_163 rfl d_X10_steps_275 ?_
  exact tj_X10_steps_278 hF hX e
def j_X10_steps_232_182 (h : AH) : Option ((Unit ⊕ Unit) × AH) := some (.inl (), sI h 240 17 ((gI h 240 17) + 1))
theorem tj_X10_steps_232_182 {g : GP} {X : MX} {mcR msR : Nat} (hF : gF g = true) (hX : Cx g RX10 cX10_steps 2 mcR msR none [] X) {Q : State → Prop} {d1 : Value} {h hz : AH} {z : (Unit ⊕ Unit)} (e : j_X10_steps_232_182 h = some (z, hz)) (kI : ∀ (s2 : Unit) (xd1 : Value), z = .inl s2 → AR g X 0 0 Q hz 182 [.ref 240, xd1] []) (kE0 : ∀ (yy : Unit) (y1 : Value), z = .inr yy → AR g X 0 0 Q hz 245 [.ref 240, y1] []) : AR g X 0 0 Q h 232 [.ref 240, d1] [] := by
  unfold j_X10_steps_232_182 at e
  refine aw_aload_n (i := 0) hX rfl rfl d_X10_steps_232 ?_
  refine aw_dup hX rfl d_X10_steps_233 ?_
  refine ar_getI hX fg_RX10_146 rfl d_X10_steps_234 ?_
  refine aw_iconst (v := 1) hX (by decide) d_X10_steps_237 ?_
  refine aw_iadd hX d_X10_steps_238 ?_
  refine ar_putI hX fp_RX10_146 rfl d_X10_steps_239 ?_
  refine aw_goto (t := 182) hX (by decide) d_X10_steps_242 ?_
  cases e
  exact kI () _ rfl
def l_X10_steps_182 (s : Unit) (h : AH) : Option ((Unit ⊕ Unit) × AH) := bd (s_X10_byteAt (gI h 240 17) h) fun x8 => bd (s_X10_isDigit x8 h) fun x9 => if x9 = 0 then some (.inr (), h) else if 4 ≤ ((gI h 240 17) - (gI h 240 19)) then j_X10_steps_232_182 h else bd (s_X10_byteAt (gI h 240 17) h) fun x10 => j_X10_steps_232_182 (sI h 240 21 (((10 * (gI h 240 21)) + x10) - 48))
theorem tb_X10_steps_182 {g : GP} {X : MX} {mcR msR : Nat} (hF : gF g = true) (hX : Cx g RX10 cX10_steps 2 mcR msR none [] X) {Q : State → Prop} {s : Unit} {d1 : Value} {h hz : AH} {z : (Unit ⊕ Unit)} (e : l_X10_steps_182 s h = some (z, hz)) (kI : ∀ (s2 : Unit) (xd1 : Value), z = .inl s2 → AR g X 0 0 Q hz 182 [.ref 240, xd1] []) (kE0 : ∀ (yy : Unit) (y1 : Value), z = .inr yy → AR g X 0 0 Q hz 245 [.ref 240, y1] []) : AR g X 0 0 Q h 182 [.ref 240, d1] [] := by
  unfold l_X10_steps_182 at e
  refine aw_aload_n (i := 0) hX rfl rfl d_X10_steps_182 ?_
  refine aw_aload_n (i := 0) hX rfl rfl d_X10_steps_183 ?_
  refine ar_getI hX fg_RX10_146 rfl d_X10_steps_184 ?_
  obtain ⟨x8, f_991, e_991⟩ := bd_some e
  clear e
  refine aw_callV (b := 240) (av := [.int (gI h 240 17)]) (avr := [.int (gI h 240 17)]) hX (k_X10_byteAt (cx_g hX) hF f_991) mi_X10_byteAt rfl rfl w_638 w_639 w_640 (by decide) rfl (LAY_lt rfl (by decide)) rfl rfl (Nat.le_of_ble_eq_true rfl) (Nat.zero_le _) (Nat.zero_le _) d_X10_steps_187 ?_
  obtain ⟨x9, f_992, e_992⟩ := bd_some e_991
  clear e_991
  refine aw_callS (av := [.int x8]) (avr := [.int x8]) hX (k_X10_isDigit (cx_g hX) hF f_992) mi_X10_isDigit rfl rfl w_648 w_649 rfl (by decide) (Nat.le_of_ble_eq_true rfl) (Nat.zero_le _) (Nat.zero_le _) d_X10_steps_190 ?_
  refine aw_if_eq (t := 245) hX (by decide) d_X10_steps_193 (fun c => ?_) (fun c => ?_)
  · rw [if_pos c] at e_992
    cases e_992
    exact kE0 () _ rfl
  · rw [if_neg c] at e_992
    refine aw_aload_n (i := 0) hX rfl rfl d_X10_steps_196 ?_
    refine ar_getI hX fg_RX10_146 rfl d_X10_steps_197 ?_
    refine aw_aload_n (i := 0) hX rfl rfl d_X10_steps_200 ?_
    refine ar_getI hX fg_RX10_153 rfl d_X10_steps_201 ?_
    refine aw_isub hX d_X10_steps_204 ?_
    refine aw_iconst (v := 4) hX (by decide) d_X10_steps_205 ?_
    refine aw_icmp_ge (t := 232) hX (by decide) d_X10_steps_206 (fun c => ?_) (fun c => ?_)
    · rw [if_pos c] at e_992
      exact tj_X10_steps_232_182 hF hX e_992 kI kE0
    · rw [if_neg c] at e_992
      refine aw_aload_n (i := 0) hX rfl rfl d_X10_steps_209 ?_
      refine aw_bipush (v := 10) hX (by decide) d_X10_steps_210 ?_
      refine aw_aload_n (i := 0) hX rfl rfl d_X10_steps_212 ?_
      refine ar_getI hX fg_RX10_160 rfl d_X10_steps_213 ?_
      refine aw_imul hX d_X10_steps_216 ?_
      refine aw_aload_n (i := 0) hX rfl rfl d_X10_steps_217 ?_
      refine aw_aload_n (i := 0) hX rfl rfl d_X10_steps_218 ?_
      refine ar_getI hX fg_RX10_146 rfl d_X10_steps_219 ?_
      obtain ⟨x10, f_993, e_993⟩ := bd_some e_992
      clear e_992
      refine aw_callV (b := 240) (av := [.int (gI h 240 17)]) (avr := [.int (gI h 240 17)]) hX (k_X10_byteAt (cx_g hX) hF f_993) mi_X10_byteAt rfl rfl w_638 w_639 w_640 (by decide) rfl (LAY_lt rfl (by decide)) rfl rfl (Nat.le_of_ble_eq_true rfl) (Nat.zero_le _) (Nat.zero_le _) d_X10_steps_222 ?_
      refine aw_iadd hX d_X10_steps_225 ?_
      refine aw_bipush (v := 48) hX (by decide) d_X10_steps_226 ?_
      refine aw_isub hX d_X10_steps_228 ?_
      refine ar_putI hX fp_RX10_160 rfl d_X10_steps_229 ?_
      exact tj_X10_steps_232_182 hF hX e_993 kI kE0
theorem ti_X10_steps_182 {g : GP} {X : MX} {mcR msR : Nat} (hF : gF g = true) (hX : Cx g RX10 cX10_steps 2 mcR msR none [] X) {Q : State → Prop} {y : Unit} {hz : AH} (kE0 : ∀ (y_1 : Value), AR g X 0 0 Q hz 245 [.ref 240, y_1] []) (n : Nat) : ∀ (s : Unit) (d1 : Value) (h : AH), lpH (l_X10_steps_182) n s h = some (y, hz) → AR g X 0 0 Q h 182 [.ref 240, d1] [] := by
  induction n with
  | zero => intro s d1 h e; cases e
  | succ n ih =>
    intro s d1 h e
    obtain ⟨x, h1, e1, e2⟩ := lpH_succ e
    rcases e2 with ⟨s2, rfl, e3⟩ | ⟨rfl, rfl⟩
    · exact tb_X10_steps_182 hF hX e1 (fun s3 x0 hs => by cases hs; exact ih _ _ _ e3) (fun yy x0 hy => by cases hy)
    · exact tb_X10_steps_182 hF hX e1 (fun s3 x0 hs => by cases hs) (fun yy x0 hy => by cases hy; exact kE0 x0)
theorem t_X10_steps_182 {g : GP} {X : MX} {mcR msR : Nat} (hF : gF g = true) (hX : Cx g RX10 cX10_steps 2 mcR msR none [] X) {Q : State → Prop} {s : Unit} {d1 : Value} {h hz : AH} {n : Nat} {y : Unit} (e : lpH (l_X10_steps_182) n s h = some (y, hz)) (kE0 : ∀ (y_1 : Value), AR g X 0 0 Q hz 245 [.ref 240, y_1] []) : AR g X 0 0 Q h 182 [.ref 240, d1] [] := ti_X10_steps_182 hF hX kE0 n _ _ _ e
def j_X10_steps_154_103 (h : AH) : Option ((Unit ⊕ Unit) × AH) := some (.inl (), sI h 240 17 ((gI h 240 17) + 1))
theorem tj_X10_steps_154_103 {g : GP} {X : MX} {mcR msR : Nat} (hF : gF g = true) (hX : Cx g RX10 cX10_steps 2 mcR msR none [] X) {Q : State → Prop} {d1 : Value} {h hz : AH} {z : (Unit ⊕ Unit)} (e : j_X10_steps_154_103 h = some (z, hz)) (kI : ∀ (s2 : Unit) (xd1 : Value), z = .inl s2 → AR g X 0 0 Q hz 103 [.ref 240, xd1] []) (kE0 : ∀ (yy : Unit) (y1 : Value), z = .inr yy → AR g X 0 0 Q hz 167 [.ref 240, y1] []) : AR g X 0 0 Q h 154 [.ref 240, d1] [] := by
  unfold j_X10_steps_154_103 at e
  refine aw_aload_n (i := 0) hX rfl rfl d_X10_steps_154 ?_
  refine aw_dup hX rfl d_X10_steps_155 ?_
  refine ar_getI hX fg_RX10_146 rfl d_X10_steps_156 ?_
  refine aw_iconst (v := 1) hX (by decide) d_X10_steps_159 ?_
  refine aw_iadd hX d_X10_steps_160 ?_
  refine ar_putI hX fp_RX10_146 rfl d_X10_steps_161 ?_
  refine aw_goto (t := 103) hX (by decide) d_X10_steps_164 ?_
  cases e
  exact kI () _ rfl
def l_X10_steps_103 (s : Unit) (h : AH) : Option ((Unit ⊕ Unit) × AH) := bd (s_X10_byteAt (gI h 240 17) h) fun x13 => bd (s_X10_isLetter x13 h) fun x14 => if x14 = 0 then some (.inr (), h) else if 8 ≤ ((gI h 240 17) - (gI h 240 19)) then j_X10_steps_154_103 h else bd (s_X10_byteAt (gI h 240 17) h) fun x15 => j_X10_steps_154_103 (sL h 240 22 ((lshlF (gL h 240 22) 5) ||| ((x15 - 96).toInt64)))
theorem tb_X10_steps_103 {g : GP} {X : MX} {mcR msR : Nat} (hF : gF g = true) (hX : Cx g RX10 cX10_steps 2 mcR msR none [] X) {Q : State → Prop} {s : Unit} {d1 : Value} {h hz : AH} {z : (Unit ⊕ Unit)} (e : l_X10_steps_103 s h = some (z, hz)) (kI : ∀ (s2 : Unit) (xd1 : Value), z = .inl s2 → AR g X 0 0 Q hz 103 [.ref 240, xd1] []) (kE0 : ∀ (yy : Unit) (y1 : Value), z = .inr yy → AR g X 0 0 Q hz 167 [.ref 240, y1] []) : AR g X 0 0 Q h 103 [.ref 240, d1] [] := by
  unfold l_X10_steps_103 at e
  refine aw_aload_n (i := 0) hX rfl rfl d_X10_steps_103 ?_
  refine aw_aload_n (i := 0) hX rfl rfl d_X10_steps_104 ?_
  refine ar_getI hX fg_RX10_146 rfl d_X10_steps_105 ?_
  obtain ⟨x13, f_994, e_994⟩ := bd_some e
  clear e
  refine aw_callV (b := 240) (av := [.int (gI h 240 17)]) (avr := [.int (gI h 240 17)]) hX (k_X10_byteAt (cx_g hX) hF f_994) mi_X10_byteAt rfl rfl w_638 w_639 w_640 (by decide) rfl (LAY_lt rfl (by decide)) rfl rfl (Nat.le_of_ble_eq_true rfl) (Nat.zero_le _) (Nat.zero_le _) d_X10_steps_108 ?_
  obtain ⟨x14, f_995, e_995⟩ := bd_some e_994
  clear e_994
  refine aw_callS (av := [.int x13]) (avr := [.int x13]) hX (k_X10_isLetter (cx_g hX) hF f_995) mi_X10_isLetter rfl rfl w_645 w_646 rfl (by decide) (Nat.le_of_ble_eq_true rfl) (Nat.zero_le _) (Nat.zero_le _) d_X10_steps_111 ?_
  refine aw_if_eq (t := 167) hX (by decide) d_X10_steps_114 (fun c => ?_) (fun c => ?_)
  · rw [if_pos c] at e_995
    cases e_995
    exact kE0 () _ rfl
  · rw [if_neg c] at e_995
    refine aw_aload_n (i := 0) hX rfl rfl d_X10_steps_117 ?_
    refine ar_getI hX fg_RX10_146 rfl d_X10_steps_118 ?_
    refine aw_aload_n (i := 0) hX rfl rfl d_X10_steps_121 ?_
    refine ar_getI hX fg_RX10_153 rfl d_X10_steps_122 ?_
    refine aw_isub hX d_X10_steps_125 ?_
    refine aw_bipush (v := 8) hX (by decide) d_X10_steps_126 ?_
    refine aw_icmp_ge (t := 154) hX (by decide) d_X10_steps_128 (fun c => ?_) (fun c => ?_)
    · rw [if_pos c] at e_995
      exact tj_X10_steps_154_103 hF hX e_995 kI kE0
    · rw [if_neg c] at e_995
      refine aw_aload_n (i := 0) hX rfl rfl d_X10_steps_131 ?_
      refine aw_aload_n (i := 0) hX rfl rfl d_X10_steps_132 ?_
      refine ar_getL hX fg_RX10_156 rfl d_X10_steps_133 ?_
      refine aw_iconst (v := 5) hX (by decide) d_X10_steps_136 ?_
      refine aw_lshl hX d_X10_steps_137 ?_
      refine aw_aload_n (i := 0) hX rfl rfl d_X10_steps_138 ?_
      refine aw_aload_n (i := 0) hX rfl rfl d_X10_steps_139 ?_
      refine ar_getI hX fg_RX10_146 rfl d_X10_steps_140 ?_
      obtain ⟨x15, f_996, e_996⟩ := bd_some e_995
      clear e_995
      refine aw_callV (b := 240) (av := [.int (gI h 240 17)]) (avr := [.int (gI h 240 17)]) hX (k_X10_byteAt (cx_g hX) hF f_996) mi_X10_byteAt rfl rfl w_638 w_639 w_640 (by decide) rfl (LAY_lt rfl (by decide)) rfl rfl (Nat.le_of_ble_eq_true rfl) (Nat.zero_le _) (Nat.zero_le _) d_X10_steps_143 ?_
      refine aw_bipush (v := 96) hX (by decide) d_X10_steps_146 ?_
      refine aw_isub hX d_X10_steps_148 ?_
      refine aw_i2l hX d_X10_steps_149 ?_
      refine aw_lor hX d_X10_steps_150 ?_
      refine ar_putL hX fp_RX10_156 rfl d_X10_steps_151 ?_
      exact tj_X10_steps_154_103 hF hX e_996 kI kE0
theorem ti_X10_steps_103 {g : GP} {X : MX} {mcR msR : Nat} (hF : gF g = true) (hX : Cx g RX10 cX10_steps 2 mcR msR none [] X) {Q : State → Prop} {y : Unit} {hz : AH} (kE0 : ∀ (y_1 : Value), AR g X 0 0 Q hz 167 [.ref 240, y_1] []) (n : Nat) : ∀ (s : Unit) (d1 : Value) (h : AH), lpH (l_X10_steps_103) n s h = some (y, hz) → AR g X 0 0 Q h 103 [.ref 240, d1] [] := by
  induction n with
  | zero => intro s d1 h e; cases e
  | succ n ih =>
    intro s d1 h e
    obtain ⟨x, h1, e1, e2⟩ := lpH_succ e
    rcases e2 with ⟨s2, rfl, e3⟩ | ⟨rfl, rfl⟩
    · exact tb_X10_steps_103 hF hX e1 (fun s3 x0 hs => by cases hs; exact ih _ _ _ e3) (fun yy x0 hy => by cases hy)
    · exact tb_X10_steps_103 hF hX e1 (fun s3 x0 hs => by cases hs) (fun yy x0 hy => by cases hy; exact kE0 x0)
theorem t_X10_steps_103 {g : GP} {X : MX} {mcR msR : Nat} (hF : gF g = true) (hX : Cx g RX10 cX10_steps 2 mcR msR none [] X) {Q : State → Prop} {s : Unit} {d1 : Value} {h hz : AH} {n : Nat} {y : Unit} (e : lpH (l_X10_steps_103) n s h = some (y, hz)) (kE0 : ∀ (y_1 : Value), AR g X 0 0 Q hz 167 [.ref 240, y_1] []) : AR g X 0 0 Q h 103 [.ref 240, d1] [] := ti_X10_steps_103 hF hX kE0 n _ _ _ e
def j_X10_steps_50 (h : AH) : Option (Unit × AH) := bd (s_X10_byteAt (gI (sI (sL (sI h 240 19 (gI h 240 17)) 240 22 0) 240 21 0) 240 17) (sI (sL (sI h 240 19 (gI h 240 17)) 240 22 0) 240 21 0)) fun x5 => if (gI (sI (sL (sI h 240 19 (gI h 240 17)) 240 22 0) 240 21 0) 240 17) < (gI (sI (sL (sI h 240 19 (gI h 240 17)) 240 22 0) 240 21 0) 240 16) then bd (s_X10_isLetter x5 (sI (sL (sI h 240 19 (gI h 240 17)) 240 22 0) 240 21 0)) fun x6 => if x6 = 0 then bd (s_X10_isDigit x5 (sI (sL (sI h 240 19 (gI h 240 17)) 240 22 0) 240 21 0)) fun x7 => if x7 = 0 then if x5 = 59 then j_X10_steps_275 3 (sI (sI (sL (sI h 240 19 (gI h 240 17)) 240 22 0) 240 21 0) 240 17 ((gI (sI (sL (sI h 240 19 (gI h 240 17)) 240 22 0) 240 21 0) 240 17) + 1)) else j_X10_steps_275 4 (sI (sI (sL (sI h 240 19 (gI h 240 17)) 240 22 0) 240 21 0) 240 17 ((gI (sI (sL (sI h 240 19 (gI h 240 17)) 240 22 0) 240 21 0) 240 17) + 1)) else bd (lpH (l_X10_steps_182) FU () (sI (sL (sI h 240 19 (gI h 240 17)) 240 22 0) 240 21 0)) fun y11 => j_X10_steps_278 (sI y11.2 240 18 2) else bd (lpH (l_X10_steps_103) FU () (sI (sL (sI h 240 19 (gI h 240 17)) 240 22 0) 240 21 0)) fun y16 => j_X10_steps_278 (sI y16.2 240 18 1) else j_X10_steps_278 (sI (sI (sL (sI h 240 19 (gI h 240 17)) 240 22 0) 240 21 0) 240 18 0)
theorem tj_X10_steps_50 {g : GP} {X : MX} {mcR msR : Nat} (hF : gF g = true) (hX : Cx g RX10 cX10_steps 2 mcR msR none [] X) {d1 : Value} {h hz : AH} {z : Unit} (e : j_X10_steps_50 h = some (z, hz)) : AR g X 0 0 (QQ g X NT false hz (.inl none) 0 0) h 50 [.ref 240, d1] [] := by
  unfold j_X10_steps_50 at e
  refine aw_aload_n (i := 0) hX rfl rfl d_X10_steps_50 ?_
  refine aw_aload_n (i := 0) hX rfl rfl d_X10_steps_51 ?_
  refine ar_getI hX fg_RX10_146 rfl d_X10_steps_52 ?_
  refine ar_putI hX fp_RX10_153 rfl d_X10_steps_55 ?_
  refine aw_aload_n (i := 0) hX rfl rfl d_X10_steps_58 ?_
  refine aw_lconst (v := 0) hX (by decide) d_X10_steps_59 ?_
  refine ar_putL hX fp_RX10_156 rfl d_X10_steps_60 ?_
  refine aw_aload_n (i := 0) hX rfl rfl d_X10_steps_63 ?_
  refine aw_iconst (v := 0) hX (by decide) d_X10_steps_64 ?_
  refine ar_putI hX fp_RX10_160 rfl d_X10_steps_65 ?_
  refine aw_aload_n (i := 0) hX rfl rfl d_X10_steps_68 ?_
  refine aw_aload_n (i := 0) hX rfl rfl d_X10_steps_69 ?_
  refine ar_getI hX fg_RX10_146 rfl d_X10_steps_70 ?_
  obtain ⟨x5, f_997, e_997⟩ := bd_some e
  clear e
  refine aw_callV (b := 240) (av := [.int (gI (sI (sL (sI h 240 19 (gI h 240 17)) 240 22 0) 240 21 0) 240 17)]) (avr := [.int (gI (sI (sL (sI h 240 19 (gI h 240 17)) 240 22 0) 240 21 0) 240 17)]) hX (k_X10_byteAt (cx_g hX) hF f_997) mi_X10_byteAt rfl rfl w_638 w_639 w_640 (by decide) rfl (LAY_lt rfl (by decide)) rfl rfl (Nat.le_of_ble_eq_true rfl) (Nat.zero_le _) (Nat.zero_le _) d_X10_steps_73 ?_
  refine aw_istore_n (i := 1) (lv2 := [.ref 240, .int x5]) hX rfl rfl rfl d_X10_steps_76 ?_
  refine aw_aload_n (i := 0) hX rfl rfl d_X10_steps_77 ?_
  refine ar_getI hX fg_RX10_146 rfl d_X10_steps_78 ?_
  refine aw_aload_n (i := 0) hX rfl rfl d_X10_steps_81 ?_
  refine ar_getI hX fg_RX10_143 rfl d_X10_steps_82 ?_
  refine aw_icmp_lt (t := 96) hX (by decide) d_X10_steps_85 (fun c => ?_) (fun c => ?_)
  · rw [if_pos c] at e_997
    refine aw_iload_n (i := 1) hX rfl rfl d_X10_steps_96 ?_
    obtain ⟨x6, f_998, e_998⟩ := bd_some e_997
    clear e_997
    refine aw_callS (av := [.int x5]) (avr := [.int x5]) hX (k_X10_isLetter (cx_g hX) hF f_998) mi_X10_isLetter rfl rfl w_645 w_646 rfl (by decide) (Nat.le_of_ble_eq_true rfl) (Nat.zero_le _) (Nat.zero_le _) d_X10_steps_97 ?_
    refine aw_if_eq (t := 175) hX (by decide) d_X10_steps_100 (fun c => ?_) (fun c => ?_)
    · rw [if_pos c] at e_998
      refine aw_iload_n (i := 1) hX rfl rfl d_X10_steps_175 ?_
      obtain ⟨x7, f_999, e_999⟩ := bd_some e_998
      clear e_998
      refine aw_callS (av := [.int x5]) (avr := [.int x5]) hX (k_X10_isDigit (cx_g hX) hF f_999) mi_X10_isDigit rfl rfl w_648 w_649 rfl (by decide) (Nat.le_of_ble_eq_true rfl) (Nat.zero_le _) (Nat.zero_le _) d_X10_steps_176 ?_
      refine aw_if_eq (t := 253) hX (by decide) d_X10_steps_179 (fun c => ?_) (fun c => ?_)
      · rw [if_pos c] at e_999
        refine aw_aload_n (i := 0) hX rfl rfl d_X10_steps_253 ?_
        refine aw_dup hX rfl d_X10_steps_254 ?_
        refine ar_getI hX fg_RX10_146 rfl d_X10_steps_255 ?_
        refine aw_iconst (v := 1) hX (by decide) d_X10_steps_258 ?_
        refine aw_iadd hX d_X10_steps_259 ?_
        refine ar_putI hX fp_RX10_146 rfl d_X10_steps_260 ?_
        refine aw_aload_n (i := 0) hX rfl rfl d_X10_steps_263 ?_
        refine aw_iload_n (i := 1) hX rfl rfl d_X10_steps_264 ?_
        refine aw_bipush (v := 59) hX (by decide) d_X10_steps_265 ?_
        refine aw_icmp_ne (t := 274) hX (by decide) d_X10_steps_267 (fun c => ?_) (fun c => ?_)
        · rw [if_neg c] at e_999
          refine aw_iconst (v := 4) hX (by decide) d_X10_steps_274 ?_
          exact tj_X10_steps_275 hF hX e_999
        · rw [if_pos c] at e_999
          refine aw_iconst (v := 3) hX (by decide) d_X10_steps_270 ?_
          refine aw_goto (t := 275) hX (by decide) d_X10_steps_271 ?_
          exact tj_X10_steps_275 hF hX e_999
      · rw [if_neg c] at e_999
        obtain ⟨y11, f_1000, e_1000⟩ := bd_some e_999
        clear e_999
        refine t_X10_steps_182 hF hX f_1000 (fun d12_1 => ?_)
        refine aw_aload_n (i := 0) hX rfl rfl d_X10_steps_245 ?_
        refine aw_iconst (v := 2) hX (by decide) d_X10_steps_246 ?_
        refine ar_putI hX fp_RX10_163 rfl d_X10_steps_247 ?_
        refine aw_goto (t := 278) hX (by decide) d_X10_steps_250 ?_
        exact tj_X10_steps_278 hF hX e_1000
    · rw [if_neg c] at e_998
      obtain ⟨y16, f_1001, e_1001⟩ := bd_some e_998
      clear e_998
      refine t_X10_steps_103 hF hX f_1001 (fun d17_1 => ?_)
      refine aw_aload_n (i := 0) hX rfl rfl d_X10_steps_167 ?_
      refine aw_iconst (v := 1) hX (by decide) d_X10_steps_168 ?_
      refine ar_putI hX fp_RX10_163 rfl d_X10_steps_169 ?_
      refine aw_goto (t := 278) hX (by decide) d_X10_steps_172 ?_
      exact tj_X10_steps_278 hF hX e_1001
  · rw [if_neg c] at e_997
    refine aw_aload_n (i := 0) hX rfl rfl d_X10_steps_88 ?_
    refine aw_iconst (v := 0) hX (by decide) d_X10_steps_89 ?_
    refine ar_putI hX fp_RX10_163 rfl d_X10_steps_90 ?_
    refine aw_goto (t := 278) hX (by decide) d_X10_steps_93 ?_
    exact tj_X10_steps_278 hF hX e_997
def s_X10_steps (h : AH) : Option (Unit × AH) := bd (lpH (l_X10_steps_0) FU () h) fun y3 => j_X10_steps_50 y3.2
theorem t_X10_steps {g : GP} {X : MX} {mcR msR : Nat} (hF : gF g = true) (hX : Cx g RX10 cX10_steps 2 mcR msR none [] X) {h hz : AH} {z : Unit} (e : s_X10_steps h = some (z, hz)) : AR g X 0 0 (QQ g X NT false hz (.inl none) 0 0) h 0 [.ref 240, jk] [] := by
  unfold s_X10_steps at e
  obtain ⟨y3, f_1002, e_1002⟩ := bd_some e
  clear e
  refine t_X10_steps_0 hF hX f_1002 (fun d4_1 => ?_)
  exact tj_X10_steps_50 hF hX e_1002
theorem k_X10_steps {g : GP} (hg : g.1.stackTraces = false) (hF : gF g = true) {h hz : AH} {z : Unit} (e : s_X10_steps h = some (z, hz)) : Ctr g yX10_steps (wsY yX10_steps cX10_steps 2 none) 2 0 0 [.ref 240] NT false h none NT false hz := ctr_of (lv0 := [.ref 240, jk]) rfl rfl (by decide) hg trivial (fun X hX hn => t_X10_steps hF hX e)
theorem d_X10_spelled_0 : decode cX10_spelled 0 = .ok (.iload_n 0, 1) := by decide +kernel
theorem d_X10_spelled_1 : decode cX10_spelled 1 = .ok (.bipush 96, 2) := by decide +kernel
theorem d_X10_spelled_3 : decode cX10_spelled 3 = .ok (.isub, 1) := by decide +kernel
theorem d_X10_spelled_4 : decode cX10_spelled 4 = .ok (.i2l, 1) := by decide +kernel
theorem d_X10_spelled_5 : decode cX10_spelled 5 = .ok (.lstore 7, 2) := by decide +kernel
theorem d_X10_spelled_7 : decode cX10_spelled 7 = .ok (.iload_n 1, 1) := by decide +kernel
theorem d_X10_spelled_8 : decode cX10_spelled 8 = .ok (.ifCond .eq 15, 3) := by decide +kernel
theorem d_X10_spelled_11 : decode cX10_spelled 11 = .ok (.lload 7, 2) := by decide +kernel
theorem d_X10_spelled_13 : decode cX10_spelled 13 = .ok (.iconst 5, 1) := by decide +kernel
theorem d_X10_spelled_14 : decode cX10_spelled 14 = .ok (.lshl, 1) := by decide +kernel
theorem d_X10_spelled_15 : decode cX10_spelled 15 = .ok (.iload_n 1, 1) := by decide +kernel
theorem d_X10_spelled_16 : decode cX10_spelled 16 = .ok (.bipush 96, 2) := by decide +kernel
theorem d_X10_spelled_18 : decode cX10_spelled 18 = .ok (.isub, 1) := by decide +kernel
theorem d_X10_spelled_19 : decode cX10_spelled 19 = .ok (.i2l, 1) := by decide +kernel
theorem d_X10_spelled_20 : decode cX10_spelled 20 = .ok (.lor, 1) := by decide +kernel
theorem d_X10_spelled_21 : decode cX10_spelled 21 = .ok (.lstore 7, 2) := by decide +kernel
theorem d_X10_spelled_23 : decode cX10_spelled 23 = .ok (.iload_n 2, 1) := by decide +kernel
theorem d_X10_spelled_24 : decode cX10_spelled 24 = .ok (.ifCond .eq 15, 3) := by decide +kernel
theorem d_X10_spelled_27 : decode cX10_spelled 27 = .ok (.lload 7, 2) := by decide +kernel
theorem d_X10_spelled_29 : decode cX10_spelled 29 = .ok (.iconst 5, 1) := by decide +kernel
theorem d_X10_spelled_30 : decode cX10_spelled 30 = .ok (.lshl, 1) := by decide +kernel
theorem d_X10_spelled_31 : decode cX10_spelled 31 = .ok (.iload_n 2, 1) := by decide +kernel
theorem d_X10_spelled_32 : decode cX10_spelled 32 = .ok (.bipush 96, 2) := by decide +kernel
theorem d_X10_spelled_34 : decode cX10_spelled 34 = .ok (.isub, 1) := by decide +kernel
theorem d_X10_spelled_35 : decode cX10_spelled 35 = .ok (.i2l, 1) := by decide +kernel
theorem d_X10_spelled_36 : decode cX10_spelled 36 = .ok (.lor, 1) := by decide +kernel
theorem d_X10_spelled_37 : decode cX10_spelled 37 = .ok (.lstore 7, 2) := by decide +kernel
theorem d_X10_spelled_39 : decode cX10_spelled 39 = .ok (.iload_n 3, 1) := by decide +kernel
theorem d_X10_spelled_40 : decode cX10_spelled 40 = .ok (.ifCond .eq 15, 3) := by decide +kernel
theorem d_X10_spelled_43 : decode cX10_spelled 43 = .ok (.lload 7, 2) := by decide +kernel
theorem d_X10_spelled_45 : decode cX10_spelled 45 = .ok (.iconst 5, 1) := by decide +kernel
theorem d_X10_spelled_46 : decode cX10_spelled 46 = .ok (.lshl, 1) := by decide +kernel
theorem d_X10_spelled_47 : decode cX10_spelled 47 = .ok (.iload_n 3, 1) := by decide +kernel
theorem d_X10_spelled_48 : decode cX10_spelled 48 = .ok (.bipush 96, 2) := by decide +kernel
theorem d_X10_spelled_50 : decode cX10_spelled 50 = .ok (.isub, 1) := by decide +kernel
theorem d_X10_spelled_51 : decode cX10_spelled 51 = .ok (.i2l, 1) := by decide +kernel
theorem d_X10_spelled_52 : decode cX10_spelled 52 = .ok (.lor, 1) := by decide +kernel
theorem d_X10_spelled_53 : decode cX10_spelled 53 = .ok (.lstore 7, 2) := by decide +kernel
theorem d_X10_spelled_55 : decode cX10_spelled 55 = .ok (.iload 4, 2) := by decide +kernel
theorem d_X10_spelled_57 : decode cX10_spelled 57 = .ok (.ifCond .eq 16, 3) := by decide +kernel
theorem d_X10_spelled_60 : decode cX10_spelled 60 = .ok (.lload 7, 2) := by decide +kernel
theorem d_X10_spelled_62 : decode cX10_spelled 62 = .ok (.iconst 5, 1) := by decide +kernel
theorem d_X10_spelled_63 : decode cX10_spelled 63 = .ok (.lshl, 1) := by decide +kernel
theorem d_X10_spelled_64 : decode cX10_spelled 64 = .ok (.iload 4, 2) := by decide +kernel
theorem d_X10_spelled_66 : decode cX10_spelled 66 = .ok (.bipush 96, 2) := by decide +kernel
theorem d_X10_spelled_68 : decode cX10_spelled 68 = .ok (.isub, 1) := by decide +kernel
theorem d_X10_spelled_69 : decode cX10_spelled 69 = .ok (.i2l, 1) := by decide +kernel
theorem d_X10_spelled_70 : decode cX10_spelled 70 = .ok (.lor, 1) := by decide +kernel
theorem d_X10_spelled_71 : decode cX10_spelled 71 = .ok (.lstore 7, 2) := by decide +kernel
theorem d_X10_spelled_73 : decode cX10_spelled 73 = .ok (.iload 5, 2) := by decide +kernel
theorem d_X10_spelled_75 : decode cX10_spelled 75 = .ok (.ifCond .eq 16, 3) := by decide +kernel
theorem d_X10_spelled_78 : decode cX10_spelled 78 = .ok (.lload 7, 2) := by decide +kernel
theorem d_X10_spelled_80 : decode cX10_spelled 80 = .ok (.iconst 5, 1) := by decide +kernel
theorem d_X10_spelled_81 : decode cX10_spelled 81 = .ok (.lshl, 1) := by decide +kernel
theorem d_X10_spelled_82 : decode cX10_spelled 82 = .ok (.iload 5, 2) := by decide +kernel
theorem d_X10_spelled_84 : decode cX10_spelled 84 = .ok (.bipush 96, 2) := by decide +kernel
theorem d_X10_spelled_86 : decode cX10_spelled 86 = .ok (.isub, 1) := by decide +kernel
theorem d_X10_spelled_87 : decode cX10_spelled 87 = .ok (.i2l, 1) := by decide +kernel
theorem d_X10_spelled_88 : decode cX10_spelled 88 = .ok (.lor, 1) := by decide +kernel
theorem d_X10_spelled_89 : decode cX10_spelled 89 = .ok (.lstore 7, 2) := by decide +kernel
theorem d_X10_spelled_91 : decode cX10_spelled 91 = .ok (.iload 6, 2) := by decide +kernel
theorem d_X10_spelled_93 : decode cX10_spelled 93 = .ok (.ifCond .eq 16, 3) := by decide +kernel
theorem d_X10_spelled_96 : decode cX10_spelled 96 = .ok (.lload 7, 2) := by decide +kernel
theorem d_X10_spelled_98 : decode cX10_spelled 98 = .ok (.iconst 5, 1) := by decide +kernel
theorem d_X10_spelled_99 : decode cX10_spelled 99 = .ok (.lshl, 1) := by decide +kernel
theorem d_X10_spelled_100 : decode cX10_spelled 100 = .ok (.iload 6, 2) := by decide +kernel
theorem d_X10_spelled_102 : decode cX10_spelled 102 = .ok (.bipush 96, 2) := by decide +kernel
theorem d_X10_spelled_104 : decode cX10_spelled 104 = .ok (.isub, 1) := by decide +kernel
theorem d_X10_spelled_105 : decode cX10_spelled 105 = .ok (.i2l, 1) := by decide +kernel
theorem d_X10_spelled_106 : decode cX10_spelled 106 = .ok (.lor, 1) := by decide +kernel
theorem d_X10_spelled_107 : decode cX10_spelled 107 = .ok (.lstore 7, 2) := by decide +kernel
theorem d_X10_spelled_109 : decode cX10_spelled 109 = .ok (.lload 7, 2) := by decide +kernel
theorem d_X10_spelled_111 : decode cX10_spelled 111 = .ok (.lreturn, 1) := by decide +kernel
def j_X10_spelled_91 (v6 : Int32) (v7 : Int64) (h : AH) : Option Int64 := if v6 = 0 then some v7 else some ((lshlF v7 5) ||| ((v6 - 96).toInt64))
theorem tj_X10_spelled_91 {g : GP} {X : MX} {mcR msR : Nat} (hF : gF g = true) (hX : Cx g RX10 cX10_spelled 1 mcR msR (some .long) [] X) {v6 : Int32} {v7 : Int64} {d0 : Value} {d1 : Value} {d2 : Value} {d3 : Value} {d4 : Value} {d5 : Value} {h : AH} {z : Int64} (e : j_X10_spelled_91 v6 v7 h = some z) : AR g X 0 0 (QQ g X NT false h (.inl (some (.long z))) 0 0) h 91 [d0, d1, d2, d3, d4, d5, .int v6, .long v7, jk] [] := by
  unfold j_X10_spelled_91 at e
  refine aw_iload (i := 6) hX rfl d_X10_spelled_91 ?_
  refine aw_if_eq (t := 109) hX (by decide) d_X10_spelled_93 (fun c => ?_) (fun c => ?_)
  · rw [if_pos c] at e
    refine aw_lload (i := 7) hX rfl d_X10_spelled_109 ?_
    cases e
    exact aw_lreturn hX (Nat.zero_le _) (Nat.zero_le _) d_X10_spelled_111
  · rw [if_neg c] at e
    refine aw_lload (i := 7) hX rfl d_X10_spelled_96 ?_
    refine aw_iconst (v := 5) hX (by decide) d_X10_spelled_98 ?_
    refine aw_lshl hX d_X10_spelled_99 ?_
    refine aw_iload (i := 6) hX rfl d_X10_spelled_100 ?_
    refine aw_bipush (v := 96) hX (by decide) d_X10_spelled_102 ?_
    refine aw_isub hX d_X10_spelled_104 ?_
    refine aw_i2l hX d_X10_spelled_105 ?_
    refine aw_lor hX d_X10_spelled_106 ?_
    refine aw_lstore (i := 7) (lv2 := [d0, d1, d2, d3, d4, d5, .int v6, .long ((lshlF v7 5) ||| ((v6 - 96).toInt64)), jk]) hX rfl rfl d_X10_spelled_107 ?_
    refine aw_lload (i := 7) hX rfl d_X10_spelled_109 ?_
    cases e
    exact aw_lreturn hX (Nat.zero_le _) (Nat.zero_le _) d_X10_spelled_111
def j_X10_spelled_73 (v5 : Int32) (v6 : Int32) (v7 : Int64) (h : AH) : Option Int64 := if v5 = 0 then j_X10_spelled_91 v6 v7 h else j_X10_spelled_91 v6 ((lshlF v7 5) ||| ((v5 - 96).toInt64)) h
theorem tj_X10_spelled_73 {g : GP} {X : MX} {mcR msR : Nat} (hF : gF g = true) (hX : Cx g RX10 cX10_spelled 1 mcR msR (some .long) [] X) {v5 : Int32} {v6 : Int32} {v7 : Int64} {d0 : Value} {d1 : Value} {d2 : Value} {d3 : Value} {d4 : Value} {h : AH} {z : Int64} (e : j_X10_spelled_73 v5 v6 v7 h = some z) : AR g X 0 0 (QQ g X NT false h (.inl (some (.long z))) 0 0) h 73 [d0, d1, d2, d3, d4, .int v5, .int v6, .long v7, jk] [] := by
  unfold j_X10_spelled_73 at e
  refine aw_iload (i := 5) hX rfl d_X10_spelled_73 ?_
  refine aw_if_eq (t := 91) hX (by decide) d_X10_spelled_75 (fun c => ?_) (fun c => ?_)
  · rw [if_pos c] at e
    exact tj_X10_spelled_91 hF hX e
  · rw [if_neg c] at e
    refine aw_lload (i := 7) hX rfl d_X10_spelled_78 ?_
    refine aw_iconst (v := 5) hX (by decide) d_X10_spelled_80 ?_
    refine aw_lshl hX d_X10_spelled_81 ?_
    refine aw_iload (i := 5) hX rfl d_X10_spelled_82 ?_
    refine aw_bipush (v := 96) hX (by decide) d_X10_spelled_84 ?_
    refine aw_isub hX d_X10_spelled_86 ?_
    refine aw_i2l hX d_X10_spelled_87 ?_
    refine aw_lor hX d_X10_spelled_88 ?_
    refine aw_lstore (i := 7) (lv2 := [d0, d1, d2, d3, d4, .int v5, .int v6, .long ((lshlF v7 5) ||| ((v5 - 96).toInt64)), jk]) hX rfl rfl d_X10_spelled_89 ?_
    exact tj_X10_spelled_91 hF hX e
def j_X10_spelled_55 (v4 : Int32) (v5 : Int32) (v6 : Int32) (v7 : Int64) (h : AH) : Option Int64 := if v4 = 0 then j_X10_spelled_73 v5 v6 v7 h else j_X10_spelled_73 v5 v6 ((lshlF v7 5) ||| ((v4 - 96).toInt64)) h
theorem tj_X10_spelled_55 {g : GP} {X : MX} {mcR msR : Nat} (hF : gF g = true) (hX : Cx g RX10 cX10_spelled 1 mcR msR (some .long) [] X) {v4 : Int32} {v5 : Int32} {v6 : Int32} {v7 : Int64} {d0 : Value} {d1 : Value} {d2 : Value} {d3 : Value} {h : AH} {z : Int64} (e : j_X10_spelled_55 v4 v5 v6 v7 h = some z) : AR g X 0 0 (QQ g X NT false h (.inl (some (.long z))) 0 0) h 55 [d0, d1, d2, d3, .int v4, .int v5, .int v6, .long v7, jk] [] := by
  unfold j_X10_spelled_55 at e
  refine aw_iload (i := 4) hX rfl d_X10_spelled_55 ?_
  refine aw_if_eq (t := 73) hX (by decide) d_X10_spelled_57 (fun c => ?_) (fun c => ?_)
  · rw [if_pos c] at e
    exact tj_X10_spelled_73 hF hX e
  · rw [if_neg c] at e
    refine aw_lload (i := 7) hX rfl d_X10_spelled_60 ?_
    refine aw_iconst (v := 5) hX (by decide) d_X10_spelled_62 ?_
    refine aw_lshl hX d_X10_spelled_63 ?_
    refine aw_iload (i := 4) hX rfl d_X10_spelled_64 ?_
    refine aw_bipush (v := 96) hX (by decide) d_X10_spelled_66 ?_
    refine aw_isub hX d_X10_spelled_68 ?_
    refine aw_i2l hX d_X10_spelled_69 ?_
    refine aw_lor hX d_X10_spelled_70 ?_
    refine aw_lstore (i := 7) (lv2 := [d0, d1, d2, d3, .int v4, .int v5, .int v6, .long ((lshlF v7 5) ||| ((v4 - 96).toInt64)), jk]) hX rfl rfl d_X10_spelled_71 ?_
    exact tj_X10_spelled_73 hF hX e
def j_X10_spelled_39 (v3 : Int32) (v4 : Int32) (v5 : Int32) (v6 : Int32) (v7 : Int64) (h : AH) : Option Int64 := if v3 = 0 then j_X10_spelled_55 v4 v5 v6 v7 h else j_X10_spelled_55 v4 v5 v6 ((lshlF v7 5) ||| ((v3 - 96).toInt64)) h
theorem tj_X10_spelled_39 {g : GP} {X : MX} {mcR msR : Nat} (hF : gF g = true) (hX : Cx g RX10 cX10_spelled 1 mcR msR (some .long) [] X) {v3 : Int32} {v4 : Int32} {v5 : Int32} {v6 : Int32} {v7 : Int64} {d0 : Value} {d1 : Value} {d2 : Value} {h : AH} {z : Int64} (e : j_X10_spelled_39 v3 v4 v5 v6 v7 h = some z) : AR g X 0 0 (QQ g X NT false h (.inl (some (.long z))) 0 0) h 39 [d0, d1, d2, .int v3, .int v4, .int v5, .int v6, .long v7, jk] [] := by
  unfold j_X10_spelled_39 at e
  refine aw_iload_n (i := 3) hX rfl rfl d_X10_spelled_39 ?_
  refine aw_if_eq (t := 55) hX (by decide) d_X10_spelled_40 (fun c => ?_) (fun c => ?_)
  · rw [if_pos c] at e
    exact tj_X10_spelled_55 hF hX e
  · rw [if_neg c] at e
    refine aw_lload (i := 7) hX rfl d_X10_spelled_43 ?_
    refine aw_iconst (v := 5) hX (by decide) d_X10_spelled_45 ?_
    refine aw_lshl hX d_X10_spelled_46 ?_
    refine aw_iload_n (i := 3) hX rfl rfl d_X10_spelled_47 ?_
    refine aw_bipush (v := 96) hX (by decide) d_X10_spelled_48 ?_
    refine aw_isub hX d_X10_spelled_50 ?_
    refine aw_i2l hX d_X10_spelled_51 ?_
    refine aw_lor hX d_X10_spelled_52 ?_
    refine aw_lstore (i := 7) (lv2 := [d0, d1, d2, .int v3, .int v4, .int v5, .int v6, .long ((lshlF v7 5) ||| ((v3 - 96).toInt64)), jk]) hX rfl rfl d_X10_spelled_53 ?_
    exact tj_X10_spelled_55 hF hX e
def j_X10_spelled_23 (v2 : Int32) (v3 : Int32) (v4 : Int32) (v5 : Int32) (v6 : Int32) (v7 : Int64) (h : AH) : Option Int64 := if v2 = 0 then j_X10_spelled_39 v3 v4 v5 v6 v7 h else j_X10_spelled_39 v3 v4 v5 v6 ((lshlF v7 5) ||| ((v2 - 96).toInt64)) h
theorem tj_X10_spelled_23 {g : GP} {X : MX} {mcR msR : Nat} (hF : gF g = true) (hX : Cx g RX10 cX10_spelled 1 mcR msR (some .long) [] X) {v2 : Int32} {v3 : Int32} {v4 : Int32} {v5 : Int32} {v6 : Int32} {v7 : Int64} {d0 : Value} {d1 : Value} {h : AH} {z : Int64} (e : j_X10_spelled_23 v2 v3 v4 v5 v6 v7 h = some z) : AR g X 0 0 (QQ g X NT false h (.inl (some (.long z))) 0 0) h 23 [d0, d1, .int v2, .int v3, .int v4, .int v5, .int v6, .long v7, jk] [] := by
  unfold j_X10_spelled_23 at e
  refine aw_iload_n (i := 2) hX rfl rfl d_X10_spelled_23 ?_
  refine aw_if_eq (t := 39) hX (by decide) d_X10_spelled_24 (fun c => ?_) (fun c => ?_)
  · rw [if_pos c] at e
    exact tj_X10_spelled_39 hF hX e
  · rw [if_neg c] at e
    refine aw_lload (i := 7) hX rfl d_X10_spelled_27 ?_
    refine aw_iconst (v := 5) hX (by decide) d_X10_spelled_29 ?_
    refine aw_lshl hX d_X10_spelled_30 ?_
    refine aw_iload_n (i := 2) hX rfl rfl d_X10_spelled_31 ?_
    refine aw_bipush (v := 96) hX (by decide) d_X10_spelled_32 ?_
    refine aw_isub hX d_X10_spelled_34 ?_
    refine aw_i2l hX d_X10_spelled_35 ?_
    refine aw_lor hX d_X10_spelled_36 ?_
    refine aw_lstore (i := 7) (lv2 := [d0, d1, .int v2, .int v3, .int v4, .int v5, .int v6, .long ((lshlF v7 5) ||| ((v2 - 96).toInt64)), jk]) hX rfl rfl d_X10_spelled_37 ?_
    exact tj_X10_spelled_39 hF hX e
def s_X10_spelled (a0 : Int32) (a1 : Int32) (a2 : Int32) (a3 : Int32) (a4 : Int32) (a5 : Int32) (a6 : Int32) (h : AH) : Option Int64 := if a1 = 0 then j_X10_spelled_23 a2 a3 a4 a5 a6 ((a0 - 96).toInt64) h else j_X10_spelled_23 a2 a3 a4 a5 a6 ((lshlF ((a0 - 96).toInt64) 5) ||| ((a1 - 96).toInt64)) h
theorem t_X10_spelled {g : GP} {X : MX} {mcR msR : Nat} (hF : gF g = true) (hX : Cx g RX10 cX10_spelled 1 mcR msR (some .long) [] X) {a0 : Int32} {a1 : Int32} {a2 : Int32} {a3 : Int32} {a4 : Int32} {a5 : Int32} {a6 : Int32} {h : AH} {z : Int64} (e : s_X10_spelled a0 a1 a2 a3 a4 a5 a6 h = some z) : AR g X 0 0 (QQ g X NT false h (.inl (some (.long z))) 0 0) h 0 [.int a0, .int a1, .int a2, .int a3, .int a4, .int a5, .int a6, jk, jk] [] := by
  unfold s_X10_spelled at e
  refine aw_iload_n (i := 0) hX rfl rfl d_X10_spelled_0 ?_
  refine aw_bipush (v := 96) hX (by decide) d_X10_spelled_1 ?_
  refine aw_isub hX d_X10_spelled_3 ?_
  refine aw_i2l hX d_X10_spelled_4 ?_
  refine aw_lstore (i := 7) (lv2 := [.int a0, .int a1, .int a2, .int a3, .int a4, .int a5, .int a6, .long ((a0 - 96).toInt64), jk]) hX rfl rfl d_X10_spelled_5 ?_
  refine aw_iload_n (i := 1) hX rfl rfl d_X10_spelled_7 ?_
  refine aw_if_eq (t := 23) hX (by decide) d_X10_spelled_8 (fun c => ?_) (fun c => ?_)
  · rw [if_pos c] at e
    exact tj_X10_spelled_23 hF hX e
  · rw [if_neg c] at e
    refine aw_lload (i := 7) hX rfl d_X10_spelled_11 ?_
    refine aw_iconst (v := 5) hX (by decide) d_X10_spelled_13 ?_
    refine aw_lshl hX d_X10_spelled_14 ?_
    refine aw_iload_n (i := 1) hX rfl rfl d_X10_spelled_15 ?_
    refine aw_bipush (v := 96) hX (by decide) d_X10_spelled_16 ?_
    refine aw_isub hX d_X10_spelled_18 ?_
    refine aw_i2l hX d_X10_spelled_19 ?_
    refine aw_lor hX d_X10_spelled_20 ?_
    refine aw_lstore (i := 7) (lv2 := [.int a0, .int a1, .int a2, .int a3, .int a4, .int a5, .int a6, .long ((lshlF ((a0 - 96).toInt64) 5) ||| ((a1 - 96).toInt64)), jk]) hX rfl rfl d_X10_spelled_21 ?_
    exact tj_X10_spelled_23 hF hX e
theorem k_X10_spelled {g : GP} (hg : g.1.stackTraces = false) (hF : gF g = true) {a0 : Int32} {a1 : Int32} {a2 : Int32} {a3 : Int32} {a4 : Int32} {a5 : Int32} {a6 : Int32} {h : AH} {z : Int64} (e : s_X10_spelled a0 a1 a2 a3 a4 a5 a6 h = some z) : Ctr g yX10_spelled (wsY yX10_spelled cX10_spelled 9 (some .long)) 1 0 0 [.int a0, .int a1, .int a2, .int a3, .int a4, .int a5, .int a6] NT false h (some (.long z)) NT false h := ctr_of (lv0 := [.int a0, .int a1, .int a2, .int a3, .int a4, .int a5, .int a6, jk, jk]) rfl rfl (by decide) hg trivial (fun X hX hn => t_X10_spelled hF hX e)
theorem d_X10_letters_0 : decode cX10_letters 0 = .ok (.iload_n 0, 1) := by decide +kernel
theorem d_X10_letters_1 : decode cX10_letters 1 = .ok (.tableswitch 371 0 17 #[87, 104, 120, 138, 155, 171, 186, 200, 214, 230, 245, 261, 278, 292, 308, 324, 340, 356], 87) := by decide +kernel
theorem d_X10_letters_88 : decode cX10_letters 88 = .ok (.bipush 99, 2) := by decide +kernel
theorem d_X10_letters_90 : decode cX10_letters 90 = .ok (.bipush 104, 2) := by decide +kernel
theorem d_X10_letters_92 : decode cX10_letters 92 = .ok (.bipush 97, 2) := by decide +kernel
theorem d_X10_letters_94 : decode cX10_letters 94 = .ok (.bipush 105, 2) := by decide +kernel
theorem d_X10_letters_96 : decode cX10_letters 96 = .ok (.bipush 114, 2) := by decide +kernel
theorem d_X10_letters_98 : decode cX10_letters 98 = .ok (.bipush 115, 2) := by decide +kernel
theorem d_X10_letters_100 : decode cX10_letters 100 = .ok (.iconst 0, 1) := by decide +kernel
theorem d_X10_letters_101 : decode cX10_letters 101 = .ok (.invokestatic 176, 3) := by decide +kernel
theorem d_X10_letters_104 : decode cX10_letters 104 = .ok (.lreturn, 1) := by decide +kernel
theorem d_X10_letters_105 : decode cX10_letters 105 = .ok (.bipush 99, 2) := by decide +kernel
theorem d_X10_letters_107 : decode cX10_letters 107 = .ok (.bipush 111, 2) := by decide +kernel
theorem d_X10_letters_109 : decode cX10_letters 109 = .ok (.bipush 115, 2) := by decide +kernel
theorem d_X10_letters_111 : decode cX10_letters 111 = .ok (.bipush 116, 2) := by decide +kernel
theorem d_X10_letters_113 : decode cX10_letters 113 = .ok (.bipush 115, 2) := by decide +kernel
theorem d_X10_letters_115 : decode cX10_letters 115 = .ok (.iconst 0, 1) := by decide +kernel
theorem d_X10_letters_116 : decode cX10_letters 116 = .ok (.iconst 0, 1) := by decide +kernel
theorem d_X10_letters_117 : decode cX10_letters 117 = .ok (.invokestatic 176, 3) := by decide +kernel
theorem d_X10_letters_120 : decode cX10_letters 120 = .ok (.lreturn, 1) := by decide +kernel
theorem d_X10_letters_121 : decode cX10_letters 121 = .ok (.bipush 101, 2) := by decide +kernel
theorem d_X10_letters_123 : decode cX10_letters 123 = .ok (.bipush 118, 2) := by decide +kernel
theorem d_X10_letters_125 : decode cX10_letters 125 = .ok (.bipush 101, 2) := by decide +kernel
theorem d_X10_letters_127 : decode cX10_letters 127 = .ok (.bipush 110, 2) := by decide +kernel
theorem d_X10_letters_129 : decode cX10_letters 129 = .ok (.bipush 105, 2) := by decide +kernel
theorem d_X10_letters_131 : decode cX10_letters 131 = .ok (.bipush 110, 2) := by decide +kernel
theorem d_X10_letters_133 : decode cX10_letters 133 = .ok (.bipush 103, 2) := by decide +kernel
theorem d_X10_letters_135 : decode cX10_letters 135 = .ok (.invokestatic 176, 3) := by decide +kernel
theorem d_X10_letters_138 : decode cX10_letters 138 = .ok (.lreturn, 1) := by decide +kernel
theorem d_X10_letters_139 : decode cX10_letters 139 = .ok (.bipush 112, 2) := by decide +kernel
theorem d_X10_letters_141 : decode cX10_letters 141 = .ok (.bipush 101, 2) := by decide +kernel
theorem d_X10_letters_143 : decode cX10_letters 143 = .ok (.bipush 111, 2) := by decide +kernel
theorem d_X10_letters_145 : decode cX10_letters 145 = .ok (.bipush 112, 2) := by decide +kernel
theorem d_X10_letters_147 : decode cX10_letters 147 = .ok (.bipush 108, 2) := by decide +kernel
theorem d_X10_letters_149 : decode cX10_letters 149 = .ok (.bipush 101, 2) := by decide +kernel
theorem d_X10_letters_151 : decode cX10_letters 151 = .ok (.iconst 0, 1) := by decide +kernel
theorem d_X10_letters_152 : decode cX10_letters 152 = .ok (.invokestatic 176, 3) := by decide +kernel
theorem d_X10_letters_155 : decode cX10_letters 155 = .ok (.lreturn, 1) := by decide +kernel
theorem d_X10_letters_156 : decode cX10_letters 156 = .ok (.bipush 115, 2) := by decide +kernel
theorem d_X10_letters_158 : decode cX10_letters 158 = .ok (.bipush 101, 2) := by decide +kernel
theorem d_X10_letters_160 : decode cX10_letters 160 = .ok (.bipush 97, 2) := by decide +kernel
theorem d_X10_letters_162 : decode cX10_letters 162 = .ok (.bipush 116, 2) := by decide +kernel
theorem d_X10_letters_164 : decode cX10_letters 164 = .ok (.bipush 115, 2) := by decide +kernel
theorem d_X10_letters_166 : decode cX10_letters 166 = .ok (.iconst 0, 1) := by decide +kernel
theorem d_X10_letters_167 : decode cX10_letters 167 = .ok (.iconst 0, 1) := by decide +kernel
theorem d_X10_letters_168 : decode cX10_letters 168 = .ok (.invokestatic 176, 3) := by decide +kernel
theorem d_X10_letters_171 : decode cX10_letters 171 = .ok (.lreturn, 1) := by decide +kernel
theorem d_X10_letters_172 : decode cX10_letters 172 = .ok (.bipush 121, 2) := by decide +kernel
theorem d_X10_letters_174 : decode cX10_letters 174 = .ok (.bipush 101, 2) := by decide +kernel
theorem d_X10_letters_176 : decode cX10_letters 176 = .ok (.bipush 97, 2) := by decide +kernel
theorem d_X10_letters_178 : decode cX10_letters 178 = .ok (.bipush 114, 2) := by decide +kernel
theorem d_X10_letters_180 : decode cX10_letters 180 = .ok (.iconst 0, 1) := by decide +kernel
theorem d_X10_letters_181 : decode cX10_letters 181 = .ok (.iconst 0, 1) := by decide +kernel
theorem d_X10_letters_182 : decode cX10_letters 182 = .ok (.iconst 0, 1) := by decide +kernel
theorem d_X10_letters_183 : decode cX10_letters 183 = .ok (.invokestatic 176, 3) := by decide +kernel
theorem d_X10_letters_186 : decode cX10_letters 186 = .ok (.lreturn, 1) := by decide +kernel
theorem d_X10_letters_187 : decode cX10_letters 187 = .ok (.bipush 116, 2) := by decide +kernel
theorem d_X10_letters_189 : decode cX10_letters 189 = .ok (.bipush 101, 2) := by decide +kernel
theorem d_X10_letters_191 : decode cX10_letters 191 = .ok (.bipush 110, 2) := by decide +kernel
theorem d_X10_letters_193 : decode cX10_letters 193 = .ok (.iconst 0, 1) := by decide +kernel
theorem d_X10_letters_194 : decode cX10_letters 194 = .ok (.iconst 0, 1) := by decide +kernel
theorem d_X10_letters_195 : decode cX10_letters 195 = .ok (.iconst 0, 1) := by decide +kernel
theorem d_X10_letters_196 : decode cX10_letters 196 = .ok (.iconst 0, 1) := by decide +kernel
theorem d_X10_letters_197 : decode cX10_letters 197 = .ok (.invokestatic 176, 3) := by decide +kernel
theorem d_X10_letters_200 : decode cX10_letters 200 = .ok (.lreturn, 1) := by decide +kernel
theorem d_X10_letters_201 : decode cX10_letters 201 = .ok (.bipush 115, 2) := by decide +kernel
theorem d_X10_letters_203 : decode cX10_letters 203 = .ok (.bipush 101, 2) := by decide +kernel
theorem d_X10_letters_205 : decode cX10_letters 205 = .ok (.bipush 116, 2) := by decide +kernel
theorem d_X10_letters_207 : decode cX10_letters 207 = .ok (.iconst 0, 1) := by decide +kernel
theorem d_X10_letters_208 : decode cX10_letters 208 = .ok (.iconst 0, 1) := by decide +kernel
theorem d_X10_letters_209 : decode cX10_letters 209 = .ok (.iconst 0, 1) := by decide +kernel
theorem d_X10_letters_210 : decode cX10_letters 210 = .ok (.iconst 0, 1) := by decide +kernel
theorem d_X10_letters_211 : decode cX10_letters 211 = .ok (.invokestatic 176, 3) := by decide +kernel
theorem d_X10_letters_214 : decode cX10_letters 214 = .ok (.lreturn, 1) := by decide +kernel
theorem d_X10_letters_215 : decode cX10_letters 215 = .ok (.bipush 99, 2) := by decide +kernel
theorem d_X10_letters_217 : decode cX10_letters 217 = .ok (.bipush 104, 2) := by decide +kernel
theorem d_X10_letters_219 : decode cX10_letters 219 = .ok (.bipush 101, 2) := by decide +kernel
theorem d_X10_letters_221 : decode cX10_letters 221 = .ok (.bipush 97, 2) := by decide +kernel
theorem d_X10_letters_223 : decode cX10_letters 223 = .ok (.bipush 112, 2) := by decide +kernel
theorem d_X10_letters_225 : decode cX10_letters 225 = .ok (.iconst 0, 1) := by decide +kernel
theorem d_X10_letters_226 : decode cX10_letters 226 = .ok (.iconst 0, 1) := by decide +kernel
theorem d_X10_letters_227 : decode cX10_letters 227 = .ok (.invokestatic 176, 3) := by decide +kernel
theorem d_X10_letters_230 : decode cX10_letters 230 = .ok (.lreturn, 1) := by decide +kernel
theorem d_X10_letters_231 : decode cX10_letters 231 = .ok (.bipush 114, 2) := by decide +kernel
theorem d_X10_letters_233 : decode cX10_letters 233 = .ok (.bipush 97, 2) := by decide +kernel
theorem d_X10_letters_235 : decode cX10_letters 235 = .ok (.bipush 105, 2) := by decide +kernel
theorem d_X10_letters_237 : decode cX10_letters 237 = .ok (.bipush 110, 2) := by decide +kernel
theorem d_X10_letters_239 : decode cX10_letters 239 = .ok (.iconst 0, 1) := by decide +kernel
theorem d_X10_letters_240 : decode cX10_letters 240 = .ok (.iconst 0, 1) := by decide +kernel
theorem d_X10_letters_241 : decode cX10_letters 241 = .ok (.iconst 0, 1) := by decide +kernel
theorem d_X10_letters_242 : decode cX10_letters 242 = .ok (.invokestatic 176, 3) := by decide +kernel
theorem d_X10_letters_245 : decode cX10_letters 245 = .ok (.lreturn, 1) := by decide +kernel
theorem d_X10_letters_246 : decode cX10_letters 246 = .ok (.bipush 99, 2) := by decide +kernel
theorem d_X10_letters_248 : decode cX10_letters 248 = .ok (.bipush 111, 2) := by decide +kernel
theorem d_X10_letters_250 : decode cX10_letters 250 = .ok (.bipush 109, 2) := by decide +kernel
theorem d_X10_letters_252 : decode cX10_letters 252 = .ok (.bipush 101, 2) := by decide +kernel
theorem d_X10_letters_254 : decode cX10_letters 254 = .ok (.bipush 115, 2) := by decide +kernel
theorem d_X10_letters_256 : decode cX10_letters 256 = .ok (.iconst 0, 1) := by decide +kernel
theorem d_X10_letters_257 : decode cX10_letters 257 = .ok (.iconst 0, 1) := by decide +kernel
theorem d_X10_letters_258 : decode cX10_letters 258 = .ok (.invokestatic 176, 3) := by decide +kernel
theorem d_X10_letters_261 : decode cX10_letters 261 = .ok (.lreturn, 1) := by decide +kernel
theorem d_X10_letters_262 : decode cX10_letters 262 = .ok (.bipush 116, 2) := by decide +kernel
theorem d_X10_letters_264 : decode cX10_letters 264 = .ok (.bipush 104, 2) := by decide +kernel
theorem d_X10_letters_266 : decode cX10_letters 266 = .ok (.bipush 105, 2) := by decide +kernel
theorem d_X10_letters_268 : decode cX10_letters 268 = .ok (.bipush 110, 2) := by decide +kernel
theorem d_X10_letters_270 : decode cX10_letters 270 = .ok (.bipush 107, 2) := by decide +kernel
theorem d_X10_letters_272 : decode cX10_letters 272 = .ok (.bipush 115, 2) := by decide +kernel
theorem d_X10_letters_274 : decode cX10_letters 274 = .ok (.iconst 0, 1) := by decide +kernel
theorem d_X10_letters_275 : decode cX10_letters 275 = .ok (.invokestatic 176, 3) := by decide +kernel
theorem d_X10_letters_278 : decode cX10_letters 278 = .ok (.lreturn, 1) := by decide +kernel
theorem d_X10_letters_279 : decode cX10_letters 279 = .ok (.bipush 119, 2) := by decide +kernel
theorem d_X10_letters_281 : decode cX10_letters 281 = .ok (.bipush 101, 2) := by decide +kernel
theorem d_X10_letters_283 : decode cX10_letters 283 = .ok (.bipush 116, 2) := by decide +kernel
theorem d_X10_letters_285 : decode cX10_letters 285 = .ok (.iconst 0, 1) := by decide +kernel
theorem d_X10_letters_286 : decode cX10_letters 286 = .ok (.iconst 0, 1) := by decide +kernel
theorem d_X10_letters_287 : decode cX10_letters 287 = .ok (.iconst 0, 1) := by decide +kernel
theorem d_X10_letters_288 : decode cX10_letters 288 = .ok (.iconst 0, 1) := by decide +kernel
theorem d_X10_letters_289 : decode cX10_letters 289 = .ok (.invokestatic 176, 3) := by decide +kernel
theorem d_X10_letters_292 : decode cX10_letters 292 = .ok (.lreturn, 1) := by decide +kernel
theorem d_X10_letters_293 : decode cX10_letters 293 = .ok (.bipush 104, 2) := by decide +kernel
theorem d_X10_letters_295 : decode cX10_letters 295 = .ok (.bipush 97, 2) := by decide +kernel
theorem d_X10_letters_297 : decode cX10_letters 297 = .ok (.bipush 98, 2) := by decide +kernel
theorem d_X10_letters_299 : decode cX10_letters 299 = .ok (.bipush 105, 2) := by decide +kernel
theorem d_X10_letters_301 : decode cX10_letters 301 = .ok (.bipush 116, 2) := by decide +kernel
theorem d_X10_letters_303 : decode cX10_letters 303 = .ok (.iconst 0, 1) := by decide +kernel
theorem d_X10_letters_304 : decode cX10_letters 304 = .ok (.iconst 0, 1) := by decide +kernel
theorem d_X10_letters_305 : decode cX10_letters 305 = .ok (.invokestatic 176, 3) := by decide +kernel
theorem d_X10_letters_308 : decode cX10_letters 308 = .ok (.lreturn, 1) := by decide +kernel
theorem d_X10_letters_309 : decode cX10_letters 309 = .ok (.bipush 102, 2) := by decide +kernel
theorem d_X10_letters_311 : decode cX10_letters 311 = .ok (.bipush 97, 2) := by decide +kernel
theorem d_X10_letters_313 : decode cX10_letters 313 = .ok (.bipush 108, 2) := by decide +kernel
theorem d_X10_letters_315 : decode cX10_letters 315 = .ok (.bipush 108, 2) := by decide +kernel
theorem d_X10_letters_317 : decode cX10_letters 317 = .ok (.bipush 115, 2) := by decide +kernel
theorem d_X10_letters_319 : decode cX10_letters 319 = .ok (.iconst 0, 1) := by decide +kernel
theorem d_X10_letters_320 : decode cX10_letters 320 = .ok (.iconst 0, 1) := by decide +kernel
theorem d_X10_letters_321 : decode cX10_letters 321 = .ok (.invokestatic 176, 3) := by decide +kernel
theorem d_X10_letters_324 : decode cX10_letters 324 = .ok (.lreturn, 1) := by decide +kernel
theorem d_X10_letters_325 : decode cX10_letters 325 = .ok (.bipush 119, 2) := by decide +kernel
theorem d_X10_letters_327 : decode cX10_letters 327 = .ok (.bipush 111, 2) := by decide +kernel
theorem d_X10_letters_329 : decode cX10_letters 329 = .ok (.bipush 114, 2) := by decide +kernel
theorem d_X10_letters_331 : decode cX10_letters 331 = .ok (.bipush 116, 2) := by decide +kernel
theorem d_X10_letters_333 : decode cX10_letters 333 = .ok (.bipush 104, 2) := by decide +kernel
theorem d_X10_letters_335 : decode cX10_letters 335 = .ok (.iconst 0, 1) := by decide +kernel
theorem d_X10_letters_336 : decode cX10_letters 336 = .ok (.iconst 0, 1) := by decide +kernel
theorem d_X10_letters_337 : decode cX10_letters 337 = .ok (.invokestatic 176, 3) := by decide +kernel
theorem d_X10_letters_340 : decode cX10_letters 340 = .ok (.lreturn, 1) := by decide +kernel
theorem d_X10_letters_341 : decode cX10_letters 341 = .ok (.bipush 121, 2) := by decide +kernel
theorem d_X10_letters_343 : decode cX10_letters 343 = .ok (.bipush 111, 2) := by decide +kernel
theorem d_X10_letters_345 : decode cX10_letters 345 = .ok (.bipush 117, 2) := by decide +kernel
theorem d_X10_letters_347 : decode cX10_letters 347 = .ok (.bipush 110, 2) := by decide +kernel
theorem d_X10_letters_349 : decode cX10_letters 349 = .ok (.bipush 103, 2) := by decide +kernel
theorem d_X10_letters_351 : decode cX10_letters 351 = .ok (.iconst 0, 1) := by decide +kernel
theorem d_X10_letters_352 : decode cX10_letters 352 = .ok (.iconst 0, 1) := by decide +kernel
theorem d_X10_letters_353 : decode cX10_letters 353 = .ok (.invokestatic 176, 3) := by decide +kernel
theorem d_X10_letters_356 : decode cX10_letters 356 = .ok (.lreturn, 1) := by decide +kernel
theorem d_X10_letters_357 : decode cX10_letters 357 = .ok (.bipush 97, 2) := by decide +kernel
theorem d_X10_letters_359 : decode cX10_letters 359 = .ok (.bipush 100, 2) := by decide +kernel
theorem d_X10_letters_361 : decode cX10_letters 361 = .ok (.bipush 100, 2) := by decide +kernel
theorem d_X10_letters_363 : decode cX10_letters 363 = .ok (.bipush 115, 2) := by decide +kernel
theorem d_X10_letters_365 : decode cX10_letters 365 = .ok (.iconst 0, 1) := by decide +kernel
theorem d_X10_letters_366 : decode cX10_letters 366 = .ok (.iconst 0, 1) := by decide +kernel
theorem d_X10_letters_367 : decode cX10_letters 367 = .ok (.iconst 0, 1) := by decide +kernel
theorem d_X10_letters_368 : decode cX10_letters 368 = .ok (.invokestatic 176, 3) := by decide +kernel
theorem d_X10_letters_371 : decode cX10_letters 371 = .ok (.lreturn, 1) := by decide +kernel
theorem d_X10_letters_372 : decode cX10_letters 372 = .ok (.bipush 111, 2) := by decide +kernel
theorem d_X10_letters_374 : decode cX10_letters 374 = .ok (.bipush 102, 2) := by decide +kernel
theorem d_X10_letters_376 : decode cX10_letters 376 = .ok (.iconst 0, 1) := by decide +kernel
theorem d_X10_letters_377 : decode cX10_letters 377 = .ok (.iconst 0, 1) := by decide +kernel
theorem d_X10_letters_378 : decode cX10_letters 378 = .ok (.iconst 0, 1) := by decide +kernel
theorem d_X10_letters_379 : decode cX10_letters 379 = .ok (.iconst 0, 1) := by decide +kernel
theorem d_X10_letters_380 : decode cX10_letters 380 = .ok (.iconst 0, 1) := by decide +kernel
theorem d_X10_letters_381 : decode cX10_letters 381 = .ok (.invokestatic 176, 3) := by decide +kernel
theorem d_X10_letters_384 : decode cX10_letters 384 = .ok (.lreturn, 1) := by decide +kernel
def s_X10_letters (a0 : Int32) (h : AH) : Option Int64 := if a0 = 0 then bd (s_X10_spelled 99 104 97 105 114 115 0 h) fun x19 => some x19 else if a0 = 1 then bd (s_X10_spelled 99 111 115 116 115 0 0 h) fun x18 => some x18 else if a0 = 2 then bd (s_X10_spelled 101 118 101 110 105 110 103 h) fun x17 => some x17 else if a0 = 3 then bd (s_X10_spelled 112 101 111 112 108 101 0 h) fun x16 => some x16 else if a0 = 4 then bd (s_X10_spelled 115 101 97 116 115 0 0 h) fun x15 => some x15 else if a0 = 5 then bd (s_X10_spelled 121 101 97 114 0 0 0 h) fun x14 => some x14 else if a0 = 6 then bd (s_X10_spelled 116 101 110 0 0 0 0 h) fun x13 => some x13 else if a0 = 7 then bd (s_X10_spelled 115 101 116 0 0 0 0 h) fun x12 => some x12 else if a0 = 8 then bd (s_X10_spelled 99 104 101 97 112 0 0 h) fun x11 => some x11 else if a0 = 9 then bd (s_X10_spelled 114 97 105 110 0 0 0 h) fun x10 => some x10 else if a0 = 10 then bd (s_X10_spelled 99 111 109 101 115 0 0 h) fun x9 => some x9 else if a0 = 11 then bd (s_X10_spelled 116 104 105 110 107 115 0 h) fun x8 => some x8 else if a0 = 12 then bd (s_X10_spelled 119 101 116 0 0 0 0 h) fun x7 => some x7 else if a0 = 13 then bd (s_X10_spelled 104 97 98 105 116 0 0 h) fun x6 => some x6 else if a0 = 14 then bd (s_X10_spelled 102 97 108 108 115 0 0 h) fun x5 => some x5 else if a0 = 15 then bd (s_X10_spelled 119 111 114 116 104 0 0 h) fun x4 => some x4 else if a0 = 16 then bd (s_X10_spelled 121 111 117 110 103 0 0 h) fun x3 => some x3 else if a0 = 17 then bd (s_X10_spelled 97 100 100 115 0 0 0 h) fun x2 => some x2 else bd (s_X10_spelled 111 102 0 0 0 0 0 h) fun x1 => some x1
theorem t_X10_letters {g : GP} {X : MX} {mcR msR : Nat} (hF : gF g = true) (hX : Cx g RX10 cX10_letters 2 mcR msR (some .long) [] X) {a0 : Int32} {h : AH} {z : Int64} (e : s_X10_letters a0 h = some z) : AR g X 0 0 (QQ g X NT false h (.inl (some (.long z))) 0 0) h 0 [.int a0] [] := by
  unfold s_X10_letters at e
  refine aw_iload_n (i := 0) hX rfl rfl d_X10_letters_0 ?_
  by_cases c0 : a0 = 0
  · rw [if_pos c0] at e
    refine aw_tableIn (off := 87) (t := 88) hX (by rw [c0]; decide) (by rw [c0]; decide) (by rw [c0]; rfl) (by decide) d_X10_letters_1 ?_
    refine aw_bipush (v := 99) hX (by decide) d_X10_letters_88 ?_
    refine aw_bipush (v := 104) hX (by decide) d_X10_letters_90 ?_
    refine aw_bipush (v := 97) hX (by decide) d_X10_letters_92 ?_
    refine aw_bipush (v := 105) hX (by decide) d_X10_letters_94 ?_
    refine aw_bipush (v := 114) hX (by decide) d_X10_letters_96 ?_
    refine aw_bipush (v := 115) hX (by decide) d_X10_letters_98 ?_
    refine aw_iconst (v := 0) hX (by decide) d_X10_letters_100 ?_
    obtain ⟨x19, f_1003, e_1003⟩ := bd_some e
    clear e
    refine aw_callS (av := [.int 99, .int 104, .int 97, .int 105, .int 114, .int 115, .int 0]) (avr := [.int 0, .int 115, .int 114, .int 105, .int 97, .int 104, .int 99]) hX (k_X10_spelled (cx_g hX) hF f_1003) mi_X10_spelled rfl rfl w_653 w_654 rfl (by decide) (Nat.le_of_ble_eq_true rfl) (Nat.zero_le _) (Nat.zero_le _) d_X10_letters_101 ?_
    cases e_1003
    exact aw_lreturn hX (Nat.zero_le _) (Nat.zero_le _) d_X10_letters_104
  rw [if_neg c0] at e
  by_cases c1 : a0 = 1
  · rw [if_pos c1] at e
    refine aw_tableIn (off := 104) (t := 105) hX (by rw [c1]; decide) (by rw [c1]; decide) (by rw [c1]; rfl) (by decide) d_X10_letters_1 ?_
    refine aw_bipush (v := 99) hX (by decide) d_X10_letters_105 ?_
    refine aw_bipush (v := 111) hX (by decide) d_X10_letters_107 ?_
    refine aw_bipush (v := 115) hX (by decide) d_X10_letters_109 ?_
    refine aw_bipush (v := 116) hX (by decide) d_X10_letters_111 ?_
    refine aw_bipush (v := 115) hX (by decide) d_X10_letters_113 ?_
    refine aw_iconst (v := 0) hX (by decide) d_X10_letters_115 ?_
    refine aw_iconst (v := 0) hX (by decide) d_X10_letters_116 ?_
    obtain ⟨x18, f_1004, e_1004⟩ := bd_some e
    clear e
    refine aw_callS (av := [.int 99, .int 111, .int 115, .int 116, .int 115, .int 0, .int 0]) (avr := [.int 0, .int 0, .int 115, .int 116, .int 115, .int 111, .int 99]) hX (k_X10_spelled (cx_g hX) hF f_1004) mi_X10_spelled rfl rfl w_653 w_654 rfl (by decide) (Nat.le_of_ble_eq_true rfl) (Nat.zero_le _) (Nat.zero_le _) d_X10_letters_117 ?_
    cases e_1004
    exact aw_lreturn hX (Nat.zero_le _) (Nat.zero_le _) d_X10_letters_120
  rw [if_neg c1] at e
  by_cases c2 : a0 = 2
  · rw [if_pos c2] at e
    refine aw_tableIn (off := 120) (t := 121) hX (by rw [c2]; decide) (by rw [c2]; decide) (by rw [c2]; rfl) (by decide) d_X10_letters_1 ?_
    refine aw_bipush (v := 101) hX (by decide) d_X10_letters_121 ?_
    refine aw_bipush (v := 118) hX (by decide) d_X10_letters_123 ?_
    refine aw_bipush (v := 101) hX (by decide) d_X10_letters_125 ?_
    refine aw_bipush (v := 110) hX (by decide) d_X10_letters_127 ?_
    refine aw_bipush (v := 105) hX (by decide) d_X10_letters_129 ?_
    refine aw_bipush (v := 110) hX (by decide) d_X10_letters_131 ?_
    refine aw_bipush (v := 103) hX (by decide) d_X10_letters_133 ?_
    obtain ⟨x17, f_1005, e_1005⟩ := bd_some e
    clear e
    refine aw_callS (av := [.int 101, .int 118, .int 101, .int 110, .int 105, .int 110, .int 103]) (avr := [.int 103, .int 110, .int 105, .int 110, .int 101, .int 118, .int 101]) hX (k_X10_spelled (cx_g hX) hF f_1005) mi_X10_spelled rfl rfl w_653 w_654 rfl (by decide) (Nat.le_of_ble_eq_true rfl) (Nat.zero_le _) (Nat.zero_le _) d_X10_letters_135 ?_
    cases e_1005
    exact aw_lreturn hX (Nat.zero_le _) (Nat.zero_le _) d_X10_letters_138
  rw [if_neg c2] at e
  by_cases c3 : a0 = 3
  · rw [if_pos c3] at e
    refine aw_tableIn (off := 138) (t := 139) hX (by rw [c3]; decide) (by rw [c3]; decide) (by rw [c3]; rfl) (by decide) d_X10_letters_1 ?_
    refine aw_bipush (v := 112) hX (by decide) d_X10_letters_139 ?_
    refine aw_bipush (v := 101) hX (by decide) d_X10_letters_141 ?_
    refine aw_bipush (v := 111) hX (by decide) d_X10_letters_143 ?_
    refine aw_bipush (v := 112) hX (by decide) d_X10_letters_145 ?_
    refine aw_bipush (v := 108) hX (by decide) d_X10_letters_147 ?_
    refine aw_bipush (v := 101) hX (by decide) d_X10_letters_149 ?_
    refine aw_iconst (v := 0) hX (by decide) d_X10_letters_151 ?_
    obtain ⟨x16, f_1006, e_1006⟩ := bd_some e
    clear e
    refine aw_callS (av := [.int 112, .int 101, .int 111, .int 112, .int 108, .int 101, .int 0]) (avr := [.int 0, .int 101, .int 108, .int 112, .int 111, .int 101, .int 112]) hX (k_X10_spelled (cx_g hX) hF f_1006) mi_X10_spelled rfl rfl w_653 w_654 rfl (by decide) (Nat.le_of_ble_eq_true rfl) (Nat.zero_le _) (Nat.zero_le _) d_X10_letters_152 ?_
    cases e_1006
    exact aw_lreturn hX (Nat.zero_le _) (Nat.zero_le _) d_X10_letters_155
  rw [if_neg c3] at e
  by_cases c4 : a0 = 4
  · rw [if_pos c4] at e
    refine aw_tableIn (off := 155) (t := 156) hX (by rw [c4]; decide) (by rw [c4]; decide) (by rw [c4]; rfl) (by decide) d_X10_letters_1 ?_
    refine aw_bipush (v := 115) hX (by decide) d_X10_letters_156 ?_
    refine aw_bipush (v := 101) hX (by decide) d_X10_letters_158 ?_
    refine aw_bipush (v := 97) hX (by decide) d_X10_letters_160 ?_
    refine aw_bipush (v := 116) hX (by decide) d_X10_letters_162 ?_
    refine aw_bipush (v := 115) hX (by decide) d_X10_letters_164 ?_
    refine aw_iconst (v := 0) hX (by decide) d_X10_letters_166 ?_
    refine aw_iconst (v := 0) hX (by decide) d_X10_letters_167 ?_
    obtain ⟨x15, f_1007, e_1007⟩ := bd_some e
    clear e
    refine aw_callS (av := [.int 115, .int 101, .int 97, .int 116, .int 115, .int 0, .int 0]) (avr := [.int 0, .int 0, .int 115, .int 116, .int 97, .int 101, .int 115]) hX (k_X10_spelled (cx_g hX) hF f_1007) mi_X10_spelled rfl rfl w_653 w_654 rfl (by decide) (Nat.le_of_ble_eq_true rfl) (Nat.zero_le _) (Nat.zero_le _) d_X10_letters_168 ?_
    cases e_1007
    exact aw_lreturn hX (Nat.zero_le _) (Nat.zero_le _) d_X10_letters_171
  rw [if_neg c4] at e
  by_cases c5 : a0 = 5
  · rw [if_pos c5] at e
    refine aw_tableIn (off := 171) (t := 172) hX (by rw [c5]; decide) (by rw [c5]; decide) (by rw [c5]; rfl) (by decide) d_X10_letters_1 ?_
    refine aw_bipush (v := 121) hX (by decide) d_X10_letters_172 ?_
    refine aw_bipush (v := 101) hX (by decide) d_X10_letters_174 ?_
    refine aw_bipush (v := 97) hX (by decide) d_X10_letters_176 ?_
    refine aw_bipush (v := 114) hX (by decide) d_X10_letters_178 ?_
    refine aw_iconst (v := 0) hX (by decide) d_X10_letters_180 ?_
    refine aw_iconst (v := 0) hX (by decide) d_X10_letters_181 ?_
    refine aw_iconst (v := 0) hX (by decide) d_X10_letters_182 ?_
    obtain ⟨x14, f_1008, e_1008⟩ := bd_some e
    clear e
    refine aw_callS (av := [.int 121, .int 101, .int 97, .int 114, .int 0, .int 0, .int 0]) (avr := [.int 0, .int 0, .int 0, .int 114, .int 97, .int 101, .int 121]) hX (k_X10_spelled (cx_g hX) hF f_1008) mi_X10_spelled rfl rfl w_653 w_654 rfl (by decide) (Nat.le_of_ble_eq_true rfl) (Nat.zero_le _) (Nat.zero_le _) d_X10_letters_183 ?_
    cases e_1008
    exact aw_lreturn hX (Nat.zero_le _) (Nat.zero_le _) d_X10_letters_186
  rw [if_neg c5] at e
  by_cases c6 : a0 = 6
  · rw [if_pos c6] at e
    refine aw_tableIn (off := 186) (t := 187) hX (by rw [c6]; decide) (by rw [c6]; decide) (by rw [c6]; rfl) (by decide) d_X10_letters_1 ?_
    refine aw_bipush (v := 116) hX (by decide) d_X10_letters_187 ?_
    refine aw_bipush (v := 101) hX (by decide) d_X10_letters_189 ?_
    refine aw_bipush (v := 110) hX (by decide) d_X10_letters_191 ?_
    refine aw_iconst (v := 0) hX (by decide) d_X10_letters_193 ?_
    refine aw_iconst (v := 0) hX (by decide) d_X10_letters_194 ?_
    refine aw_iconst (v := 0) hX (by decide) d_X10_letters_195 ?_
    refine aw_iconst (v := 0) hX (by decide) d_X10_letters_196 ?_
    obtain ⟨x13, f_1009, e_1009⟩ := bd_some e
    clear e
    refine aw_callS (av := [.int 116, .int 101, .int 110, .int 0, .int 0, .int 0, .int 0]) (avr := [.int 0, .int 0, .int 0, .int 0, .int 110, .int 101, .int 116]) hX (k_X10_spelled (cx_g hX) hF f_1009) mi_X10_spelled rfl rfl w_653 w_654 rfl (by decide) (Nat.le_of_ble_eq_true rfl) (Nat.zero_le _) (Nat.zero_le _) d_X10_letters_197 ?_
    cases e_1009
    exact aw_lreturn hX (Nat.zero_le _) (Nat.zero_le _) d_X10_letters_200
  rw [if_neg c6] at e
  by_cases c7 : a0 = 7
  · rw [if_pos c7] at e
    refine aw_tableIn (off := 200) (t := 201) hX (by rw [c7]; decide) (by rw [c7]; decide) (by rw [c7]; rfl) (by decide) d_X10_letters_1 ?_
    refine aw_bipush (v := 115) hX (by decide) d_X10_letters_201 ?_
    refine aw_bipush (v := 101) hX (by decide) d_X10_letters_203 ?_
    refine aw_bipush (v := 116) hX (by decide) d_X10_letters_205 ?_
    refine aw_iconst (v := 0) hX (by decide) d_X10_letters_207 ?_
    refine aw_iconst (v := 0) hX (by decide) d_X10_letters_208 ?_
    refine aw_iconst (v := 0) hX (by decide) d_X10_letters_209 ?_
    refine aw_iconst (v := 0) hX (by decide) d_X10_letters_210 ?_
    obtain ⟨x12, f_1010, e_1010⟩ := bd_some e
    clear e
    refine aw_callS (av := [.int 115, .int 101, .int 116, .int 0, .int 0, .int 0, .int 0]) (avr := [.int 0, .int 0, .int 0, .int 0, .int 116, .int 101, .int 115]) hX (k_X10_spelled (cx_g hX) hF f_1010) mi_X10_spelled rfl rfl w_653 w_654 rfl (by decide) (Nat.le_of_ble_eq_true rfl) (Nat.zero_le _) (Nat.zero_le _) d_X10_letters_211 ?_
    cases e_1010
    exact aw_lreturn hX (Nat.zero_le _) (Nat.zero_le _) d_X10_letters_214
  rw [if_neg c7] at e
  by_cases c8 : a0 = 8
  · rw [if_pos c8] at e
    refine aw_tableIn (off := 214) (t := 215) hX (by rw [c8]; decide) (by rw [c8]; decide) (by rw [c8]; rfl) (by decide) d_X10_letters_1 ?_
    refine aw_bipush (v := 99) hX (by decide) d_X10_letters_215 ?_
    refine aw_bipush (v := 104) hX (by decide) d_X10_letters_217 ?_
    refine aw_bipush (v := 101) hX (by decide) d_X10_letters_219 ?_
    refine aw_bipush (v := 97) hX (by decide) d_X10_letters_221 ?_
    refine aw_bipush (v := 112) hX (by decide) d_X10_letters_223 ?_
    refine aw_iconst (v := 0) hX (by decide) d_X10_letters_225 ?_
    refine aw_iconst (v := 0) hX (by decide) d_X10_letters_226 ?_
    obtain ⟨x11, f_1011, e_1011⟩ := bd_some e
    clear e
    refine aw_callS (av := [.int 99, .int 104, .int 101, .int 97, .int 112, .int 0, .int 0]) (avr := [.int 0, .int 0, .int 112, .int 97, .int 101, .int 104, .int 99]) hX (k_X10_spelled (cx_g hX) hF f_1011) mi_X10_spelled rfl rfl w_653 w_654 rfl (by decide) (Nat.le_of_ble_eq_true rfl) (Nat.zero_le _) (Nat.zero_le _) d_X10_letters_227 ?_
    cases e_1011
    exact aw_lreturn hX (Nat.zero_le _) (Nat.zero_le _) d_X10_letters_230
  rw [if_neg c8] at e
  by_cases c9 : a0 = 9
  · rw [if_pos c9] at e
    refine aw_tableIn (off := 230) (t := 231) hX (by rw [c9]; decide) (by rw [c9]; decide) (by rw [c9]; rfl) (by decide) d_X10_letters_1 ?_
    refine aw_bipush (v := 114) hX (by decide) d_X10_letters_231 ?_
    refine aw_bipush (v := 97) hX (by decide) d_X10_letters_233 ?_
    refine aw_bipush (v := 105) hX (by decide) d_X10_letters_235 ?_
    refine aw_bipush (v := 110) hX (by decide) d_X10_letters_237 ?_
    refine aw_iconst (v := 0) hX (by decide) d_X10_letters_239 ?_
    refine aw_iconst (v := 0) hX (by decide) d_X10_letters_240 ?_
    refine aw_iconst (v := 0) hX (by decide) d_X10_letters_241 ?_
    obtain ⟨x10, f_1012, e_1012⟩ := bd_some e
    clear e
    refine aw_callS (av := [.int 114, .int 97, .int 105, .int 110, .int 0, .int 0, .int 0]) (avr := [.int 0, .int 0, .int 0, .int 110, .int 105, .int 97, .int 114]) hX (k_X10_spelled (cx_g hX) hF f_1012) mi_X10_spelled rfl rfl w_653 w_654 rfl (by decide) (Nat.le_of_ble_eq_true rfl) (Nat.zero_le _) (Nat.zero_le _) d_X10_letters_242 ?_
    cases e_1012
    exact aw_lreturn hX (Nat.zero_le _) (Nat.zero_le _) d_X10_letters_245
  rw [if_neg c9] at e
  by_cases c10 : a0 = 10
  · rw [if_pos c10] at e
    refine aw_tableIn (off := 245) (t := 246) hX (by rw [c10]; decide) (by rw [c10]; decide) (by rw [c10]; rfl) (by decide) d_X10_letters_1 ?_
    refine aw_bipush (v := 99) hX (by decide) d_X10_letters_246 ?_
    refine aw_bipush (v := 111) hX (by decide) d_X10_letters_248 ?_
    refine aw_bipush (v := 109) hX (by decide) d_X10_letters_250 ?_
    refine aw_bipush (v := 101) hX (by decide) d_X10_letters_252 ?_
    refine aw_bipush (v := 115) hX (by decide) d_X10_letters_254 ?_
    refine aw_iconst (v := 0) hX (by decide) d_X10_letters_256 ?_
    refine aw_iconst (v := 0) hX (by decide) d_X10_letters_257 ?_
    obtain ⟨x9, f_1013, e_1013⟩ := bd_some e
    clear e
    refine aw_callS (av := [.int 99, .int 111, .int 109, .int 101, .int 115, .int 0, .int 0]) (avr := [.int 0, .int 0, .int 115, .int 101, .int 109, .int 111, .int 99]) hX (k_X10_spelled (cx_g hX) hF f_1013) mi_X10_spelled rfl rfl w_653 w_654 rfl (by decide) (Nat.le_of_ble_eq_true rfl) (Nat.zero_le _) (Nat.zero_le _) d_X10_letters_258 ?_
    cases e_1013
    exact aw_lreturn hX (Nat.zero_le _) (Nat.zero_le _) d_X10_letters_261
  rw [if_neg c10] at e
  by_cases c11 : a0 = 11
  · rw [if_pos c11] at e
    refine aw_tableIn (off := 261) (t := 262) hX (by rw [c11]; decide) (by rw [c11]; decide) (by rw [c11]; rfl) (by decide) d_X10_letters_1 ?_
    refine aw_bipush (v := 116) hX (by decide) d_X10_letters_262 ?_
    refine aw_bipush (v := 104) hX (by decide) d_X10_letters_264 ?_
    refine aw_bipush (v := 105) hX (by decide) d_X10_letters_266 ?_
    refine aw_bipush (v := 110) hX (by decide) d_X10_letters_268 ?_
    refine aw_bipush (v := 107) hX (by decide) d_X10_letters_270 ?_
    refine aw_bipush (v := 115) hX (by decide) d_X10_letters_272 ?_
    refine aw_iconst (v := 0) hX (by decide) d_X10_letters_274 ?_
    obtain ⟨x8, f_1014, e_1014⟩ := bd_some e
    clear e
    refine aw_callS (av := [.int 116, .int 104, .int 105, .int 110, .int 107, .int 115, .int 0]) (avr := [.int 0, .int 115, .int 107, .int 110, .int 105, .int 104, .int 116]) hX (k_X10_spelled (cx_g hX) hF f_1014) mi_X10_spelled rfl rfl w_653 w_654 rfl (by decide) (Nat.le_of_ble_eq_true rfl) (Nat.zero_le _) (Nat.zero_le _) d_X10_letters_275 ?_
    cases e_1014
    exact aw_lreturn hX (Nat.zero_le _) (Nat.zero_le _) d_X10_letters_278
  rw [if_neg c11] at e
  by_cases c12 : a0 = 12
  · rw [if_pos c12] at e
    refine aw_tableIn (off := 278) (t := 279) hX (by rw [c12]; decide) (by rw [c12]; decide) (by rw [c12]; rfl) (by decide) d_X10_letters_1 ?_
    refine aw_bipush (v := 119) hX (by decide) d_X10_letters_279 ?_
    refine aw_bipush (v := 101) hX (by decide) d_X10_letters_281 ?_
    refine aw_bipush (v := 116) hX (by decide) d_X10_letters_283 ?_
    refine aw_iconst (v := 0) hX (by decide) d_X10_letters_285 ?_
    refine aw_iconst (v := 0) hX (by decide) d_X10_letters_286 ?_
    refine aw_iconst (v := 0) hX (by decide) d_X10_letters_287 ?_
    refine aw_iconst (v := 0) hX (by decide) d_X10_letters_288 ?_
    obtain ⟨x7, f_1015, e_1015⟩ := bd_some e
    clear e
    refine aw_callS (av := [.int 119, .int 101, .int 116, .int 0, .int 0, .int 0, .int 0]) (avr := [.int 0, .int 0, .int 0, .int 0, .int 116, .int 101, .int 119]) hX (k_X10_spelled (cx_g hX) hF f_1015) mi_X10_spelled rfl rfl w_653 w_654 rfl (by decide) (Nat.le_of_ble_eq_true rfl) (Nat.zero_le _) (Nat.zero_le _) d_X10_letters_289 ?_
    cases e_1015
    exact aw_lreturn hX (Nat.zero_le _) (Nat.zero_le _) d_X10_letters_292
  rw [if_neg c12] at e
  by_cases c13 : a0 = 13
  · rw [if_pos c13] at e
    refine aw_tableIn (off := 292) (t := 293) hX (by rw [c13]; decide) (by rw [c13]; decide) (by rw [c13]; rfl) (by decide) d_X10_letters_1 ?_
    refine aw_bipush (v := 104) hX (by decide) d_X10_letters_293 ?_
    refine aw_bipush (v := 97) hX (by decide) d_X10_letters_295 ?_
    refine aw_bipush (v := 98) hX (by decide) d_X10_letters_297 ?_
    refine aw_bipush (v := 105) hX (by decide) d_X10_letters_299 ?_
    refine aw_bipush (v := 116) hX (by decide) d_X10_letters_301 ?_
    refine aw_iconst (v := 0) hX (by decide) d_X10_letters_303 ?_
    refine aw_iconst (v := 0) hX (by decide) d_X10_letters_304 ?_
    obtain ⟨x6, f_1016, e_1016⟩ := bd_some e
    clear e
    refine aw_callS (av := [.int 104, .int 97, .int 98, .int 105, .int 116, .int 0, .int 0]) (avr := [.int 0, .int 0, .int 116, .int 105, .int 98, .int 97, .int 104]) hX (k_X10_spelled (cx_g hX) hF f_1016) mi_X10_spelled rfl rfl w_653 w_654 rfl (by decide) (Nat.le_of_ble_eq_true rfl) (Nat.zero_le _) (Nat.zero_le _) d_X10_letters_305 ?_
    cases e_1016
    exact aw_lreturn hX (Nat.zero_le _) (Nat.zero_le _) d_X10_letters_308
  rw [if_neg c13] at e
  by_cases c14 : a0 = 14
  · rw [if_pos c14] at e
    refine aw_tableIn (off := 308) (t := 309) hX (by rw [c14]; decide) (by rw [c14]; decide) (by rw [c14]; rfl) (by decide) d_X10_letters_1 ?_
    refine aw_bipush (v := 102) hX (by decide) d_X10_letters_309 ?_
    refine aw_bipush (v := 97) hX (by decide) d_X10_letters_311 ?_
    refine aw_bipush (v := 108) hX (by decide) d_X10_letters_313 ?_
    refine aw_bipush (v := 108) hX (by decide) d_X10_letters_315 ?_
    refine aw_bipush (v := 115) hX (by decide) d_X10_letters_317 ?_
    refine aw_iconst (v := 0) hX (by decide) d_X10_letters_319 ?_
    refine aw_iconst (v := 0) hX (by decide) d_X10_letters_320 ?_
    obtain ⟨x5, f_1017, e_1017⟩ := bd_some e
    clear e
    refine aw_callS (av := [.int 102, .int 97, .int 108, .int 108, .int 115, .int 0, .int 0]) (avr := [.int 0, .int 0, .int 115, .int 108, .int 108, .int 97, .int 102]) hX (k_X10_spelled (cx_g hX) hF f_1017) mi_X10_spelled rfl rfl w_653 w_654 rfl (by decide) (Nat.le_of_ble_eq_true rfl) (Nat.zero_le _) (Nat.zero_le _) d_X10_letters_321 ?_
    cases e_1017
    exact aw_lreturn hX (Nat.zero_le _) (Nat.zero_le _) d_X10_letters_324
  rw [if_neg c14] at e
  by_cases c15 : a0 = 15
  · rw [if_pos c15] at e
    refine aw_tableIn (off := 324) (t := 325) hX (by rw [c15]; decide) (by rw [c15]; decide) (by rw [c15]; rfl) (by decide) d_X10_letters_1 ?_
    refine aw_bipush (v := 119) hX (by decide) d_X10_letters_325 ?_
    refine aw_bipush (v := 111) hX (by decide) d_X10_letters_327 ?_
    refine aw_bipush (v := 114) hX (by decide) d_X10_letters_329 ?_
    refine aw_bipush (v := 116) hX (by decide) d_X10_letters_331 ?_
    refine aw_bipush (v := 104) hX (by decide) d_X10_letters_333 ?_
    refine aw_iconst (v := 0) hX (by decide) d_X10_letters_335 ?_
    refine aw_iconst (v := 0) hX (by decide) d_X10_letters_336 ?_
    obtain ⟨x4, f_1018, e_1018⟩ := bd_some e
    clear e
    refine aw_callS (av := [.int 119, .int 111, .int 114, .int 116, .int 104, .int 0, .int 0]) (avr := [.int 0, .int 0, .int 104, .int 116, .int 114, .int 111, .int 119]) hX (k_X10_spelled (cx_g hX) hF f_1018) mi_X10_spelled rfl rfl w_653 w_654 rfl (by decide) (Nat.le_of_ble_eq_true rfl) (Nat.zero_le _) (Nat.zero_le _) d_X10_letters_337 ?_
    cases e_1018
    exact aw_lreturn hX (Nat.zero_le _) (Nat.zero_le _) d_X10_letters_340
  rw [if_neg c15] at e
  by_cases c16 : a0 = 16
  · rw [if_pos c16] at e
    refine aw_tableIn (off := 340) (t := 341) hX (by rw [c16]; decide) (by rw [c16]; decide) (by rw [c16]; rfl) (by decide) d_X10_letters_1 ?_
    refine aw_bipush (v := 121) hX (by decide) d_X10_letters_341 ?_
    refine aw_bipush (v := 111) hX (by decide) d_X10_letters_343 ?_
    refine aw_bipush (v := 117) hX (by decide) d_X10_letters_345 ?_
    refine aw_bipush (v := 110) hX (by decide) d_X10_letters_347 ?_
    refine aw_bipush (v := 103) hX (by decide) d_X10_letters_349 ?_
    refine aw_iconst (v := 0) hX (by decide) d_X10_letters_351 ?_
    refine aw_iconst (v := 0) hX (by decide) d_X10_letters_352 ?_
    obtain ⟨x3, f_1019, e_1019⟩ := bd_some e
    clear e
    refine aw_callS (av := [.int 121, .int 111, .int 117, .int 110, .int 103, .int 0, .int 0]) (avr := [.int 0, .int 0, .int 103, .int 110, .int 117, .int 111, .int 121]) hX (k_X10_spelled (cx_g hX) hF f_1019) mi_X10_spelled rfl rfl w_653 w_654 rfl (by decide) (Nat.le_of_ble_eq_true rfl) (Nat.zero_le _) (Nat.zero_le _) d_X10_letters_353 ?_
    cases e_1019
    exact aw_lreturn hX (Nat.zero_le _) (Nat.zero_le _) d_X10_letters_356
  rw [if_neg c16] at e
  by_cases c17 : a0 = 17
  · rw [if_pos c17] at e
    refine aw_tableIn (off := 356) (t := 357) hX (by rw [c17]; decide) (by rw [c17]; decide) (by rw [c17]; rfl) (by decide) d_X10_letters_1 ?_
    refine aw_bipush (v := 97) hX (by decide) d_X10_letters_357 ?_
    refine aw_bipush (v := 100) hX (by decide) d_X10_letters_359 ?_
    refine aw_bipush (v := 100) hX (by decide) d_X10_letters_361 ?_
    refine aw_bipush (v := 115) hX (by decide) d_X10_letters_363 ?_
    refine aw_iconst (v := 0) hX (by decide) d_X10_letters_365 ?_
    refine aw_iconst (v := 0) hX (by decide) d_X10_letters_366 ?_
    refine aw_iconst (v := 0) hX (by decide) d_X10_letters_367 ?_
    obtain ⟨x2, f_1020, e_1020⟩ := bd_some e
    clear e
    refine aw_callS (av := [.int 97, .int 100, .int 100, .int 115, .int 0, .int 0, .int 0]) (avr := [.int 0, .int 0, .int 0, .int 115, .int 100, .int 100, .int 97]) hX (k_X10_spelled (cx_g hX) hF f_1020) mi_X10_spelled rfl rfl w_653 w_654 rfl (by decide) (Nat.le_of_ble_eq_true rfl) (Nat.zero_le _) (Nat.zero_le _) d_X10_letters_368 ?_
    cases e_1020
    exact aw_lreturn hX (Nat.zero_le _) (Nat.zero_le _) d_X10_letters_371
  rw [if_neg c17] at e
  refine aw_tableOut (t := 372) hX (ts_out 18 (fun j hj => by match j, hj with | 0, _ => exact c0 | 1, _ => exact c1 | 2, _ => exact c2 | 3, _ => exact c3 | 4, _ => exact c4 | 5, _ => exact c5 | 6, _ => exact c6 | 7, _ => exact c7 | 8, _ => exact c8 | 9, _ => exact c9 | 10, _ => exact c10 | 11, _ => exact c11 | 12, _ => exact c12 | 13, _ => exact c13 | 14, _ => exact c14 | 15, _ => exact c15 | 16, _ => exact c16 | 17, _ => exact c17 | q + 18, hj => exact absurd hj (by omega))) (by decide) d_X10_letters_1 ?_
  refine aw_bipush (v := 111) hX (by decide) d_X10_letters_372 ?_
  refine aw_bipush (v := 102) hX (by decide) d_X10_letters_374 ?_
  refine aw_iconst (v := 0) hX (by decide) d_X10_letters_376 ?_
  refine aw_iconst (v := 0) hX (by decide) d_X10_letters_377 ?_
  refine aw_iconst (v := 0) hX (by decide) d_X10_letters_378 ?_
  refine aw_iconst (v := 0) hX (by decide) d_X10_letters_379 ?_
  refine aw_iconst (v := 0) hX (by decide) d_X10_letters_380 ?_
  obtain ⟨x1, f_1021, e_1021⟩ := bd_some e
  clear e
  refine aw_callS (av := [.int 111, .int 102, .int 0, .int 0, .int 0, .int 0, .int 0]) (avr := [.int 0, .int 0, .int 0, .int 0, .int 0, .int 102, .int 111]) hX (k_X10_spelled (cx_g hX) hF f_1021) mi_X10_spelled rfl rfl w_653 w_654 rfl (by decide) (Nat.le_of_ble_eq_true rfl) (Nat.zero_le _) (Nat.zero_le _) d_X10_letters_381 ?_
  cases e_1021
  exact aw_lreturn hX (Nat.zero_le _) (Nat.zero_le _) d_X10_letters_384
theorem k_X10_letters {g : GP} (hg : g.1.stackTraces = false) (hF : gF g = true) {a0 : Int32} {h : AH} {z : Int64} (e : s_X10_letters a0 h = some z) : Ctr g yX10_letters (wsY yX10_letters cX10_letters 1 (some .long)) 2 0 0 [.int a0] NT false h (some (.long z)) NT false h := ctr_of (lv0 := [.int a0]) rfl rfl (by decide) hg trivial (fun X hX hn => t_X10_letters hF hX e)
theorem d_X10_is_0 : decode cX10_is 0 = .ok (.aload_n 0, 1) := by decide +kernel
theorem d_X10_is_1 : decode cX10_is 1 = .ok (.getfield 163, 3) := by decide +kernel
theorem d_X10_is_4 : decode cX10_is 4 = .ok (.iconst 1, 1) := by decide +kernel
theorem d_X10_is_5 : decode cX10_is 5 = .ok (.if_icmp .ne 28, 3) := by decide +kernel
theorem d_X10_is_8 : decode cX10_is 8 = .ok (.aload_n 0, 1) := by decide +kernel
theorem d_X10_is_9 : decode cX10_is 9 = .ok (.getfield 173, 3) := by decide +kernel
theorem d_X10_is_12 : decode cX10_is 12 = .ok (.bipush 8, 2) := by decide +kernel
theorem d_X10_is_14 : decode cX10_is 14 = .ok (.if_icmp .ge 19, 3) := by decide +kernel
theorem d_X10_is_17 : decode cX10_is 17 = .ok (.aload_n 0, 1) := by decide +kernel
theorem d_X10_is_18 : decode cX10_is 18 = .ok (.getfield 156, 3) := by decide +kernel
theorem d_X10_is_21 : decode cX10_is 21 = .ok (.iload_n 1, 1) := by decide +kernel
theorem d_X10_is_22 : decode cX10_is 22 = .ok (.invokestatic 180, 3) := by decide +kernel
theorem d_X10_is_25 : decode cX10_is 25 = .ok (.lcmp, 1) := by decide +kernel
theorem d_X10_is_26 : decode cX10_is 26 = .ok (.ifCond .ne 7, 3) := by decide +kernel
theorem d_X10_is_29 : decode cX10_is 29 = .ok (.iconst 1, 1) := by decide +kernel
theorem d_X10_is_30 : decode cX10_is 30 = .ok (.goto 4, 3) := by decide +kernel
theorem d_X10_is_33 : decode cX10_is 33 = .ok (.iconst 0, 1) := by decide +kernel
theorem d_X10_is_34 : decode cX10_is 34 = .ok (.ireturn, 1) := by decide +kernel
def s_X10_is (a0 : Int32) (h : AH) : Option Int32 := if (gI h 240 18) = 1 then if (8 : Int32) ≤ (gI h 240 20) then some 0 else bd (s_X10_letters a0 h) fun x1 => if (gL h 240 22) = x1 then some 1 else some 0 else some 0
theorem t_X10_is {g : GP} {X : MX} {mcR msR : Nat} (hF : gF g = true) (hX : Cx g RX10 cX10_is 3 mcR msR (some .boolean) [] X) {a0 : Int32} {h : AH} {z : Int32} (e : s_X10_is a0 h = some z) : AR g X 0 0 (QQ g X NT false h (.inl (some (.int z))) 0 0) h 0 [.ref 240, .int a0] [] := by
  unfold s_X10_is at e
  refine aw_aload_n (i := 0) hX rfl rfl d_X10_is_0 ?_
  refine ar_getI hX fg_RX10_163 rfl d_X10_is_1 ?_
  refine aw_iconst (v := 1) hX (by decide) d_X10_is_4 ?_
  refine aw_icmp_ne (t := 33) hX (by decide) d_X10_is_5 (fun c => ?_) (fun c => ?_)
  · rw [if_neg c] at e
    refine aw_iconst (v := 0) hX (by decide) d_X10_is_33 ?_
    cases e
    exact aw_zreturn hX (by decide) (Nat.zero_le _) (Nat.zero_le _) d_X10_is_34
  · rw [if_pos c] at e
    refine aw_aload_n (i := 0) hX rfl rfl d_X10_is_8 ?_
    refine ar_getI hX fg_RX10_173 rfl d_X10_is_9 ?_
    refine aw_bipush (v := 8) hX (by decide) d_X10_is_12 ?_
    refine aw_icmp_ge (t := 33) hX (by decide) d_X10_is_14 (fun c => ?_) (fun c => ?_)
    · rw [if_pos c] at e
      refine aw_iconst (v := 0) hX (by decide) d_X10_is_33 ?_
      cases e
      exact aw_zreturn hX (by decide) (Nat.zero_le _) (Nat.zero_le _) d_X10_is_34
    · rw [if_neg c] at e
      refine aw_aload_n (i := 0) hX rfl rfl d_X10_is_17 ?_
      refine ar_getL hX fg_RX10_156 rfl d_X10_is_18 ?_
      refine aw_iload_n (i := 1) hX rfl rfl d_X10_is_21 ?_
      obtain ⟨x1, f_1022, e_1022⟩ := bd_some e
      clear e
      refine aw_callS (av := [.int a0]) (avr := [.int a0]) hX (k_X10_letters (cx_g hX) hF f_1022) mi_X10_letters rfl rfl w_656 w_657 rfl (by decide) (Nat.le_of_ble_eq_true rfl) (Nat.zero_le _) (Nat.zero_le _) d_X10_is_22 ?_
      refine aw_lcmp hX d_X10_is_25 ?_
      refine aw_if_ne (t := 33) hX (by decide) d_X10_is_26 (fun c => ?_) (fun c => ?_)
      · replace c := fun q => c (lc_eq.mpr q)
        rw [if_neg c] at e_1022
        refine aw_iconst (v := 0) hX (by decide) d_X10_is_33 ?_
        cases e_1022
        exact aw_zreturn hX (by decide) (Nat.zero_le _) (Nat.zero_le _) d_X10_is_34
      · replace c := lc_eq.mp c
        rw [if_pos c] at e_1022
        refine aw_iconst (v := 1) hX (by decide) d_X10_is_29 ?_
        refine aw_goto (t := 34) hX (by decide) d_X10_is_30 ?_
        cases e_1022
        exact aw_zreturn hX (by decide) (Nat.zero_le _) (Nat.zero_le _) d_X10_is_34
theorem k_X10_is {g : GP} (hg : g.1.stackTraces = false) (hF : gF g = true) {a0 : Int32} {h : AH} {z : Int32} (e : s_X10_is a0 h = some z) : Ctr g yX10_is (wsY yX10_is cX10_is 2 (some .boolean)) 3 0 0 [.ref 240, .int a0] NT false h (some (.int z)) NT false h := ctr_of (lv0 := [.ref 240, .int a0]) rfl rfl (by decide) hg trivial (fun X hX hn => t_X10_is hF hX e)
theorem d_X10_wrong_0 : decode cX10_wrong 0 = .ok (.aload_n 0, 1) := by decide +kernel
theorem d_X10_wrong_1 : decode cX10_wrong 1 = .ok (.getfield 184, 3) := by decide +kernel
theorem d_X10_wrong_4 : decode cX10_wrong 4 = .ok (.ifCond .eq 4, 3) := by decide +kernel
theorem d_X10_wrong_7 : decode cX10_wrong 7 = .ok (.return_, 1) := by decide +kernel
theorem d_X10_wrong_8 : decode cX10_wrong 8 = .ok (.aload_n 0, 1) := by decide +kernel
theorem d_X10_wrong_9 : decode cX10_wrong 9 = .ok (.iload_n 1, 1) := by decide +kernel
theorem d_X10_wrong_10 : decode cX10_wrong 10 = .ok (.putfield 184, 3) := by decide +kernel
theorem d_X10_wrong_13 : decode cX10_wrong 13 = .ok (.aload_n 0, 1) := by decide +kernel
theorem d_X10_wrong_14 : decode cX10_wrong 14 = .ok (.aload_n 0, 1) := by decide +kernel
theorem d_X10_wrong_15 : decode cX10_wrong 15 = .ok (.getfield 153, 3) := by decide +kernel
theorem d_X10_wrong_18 : decode cX10_wrong 18 = .ok (.putfield 29, 3) := by decide +kernel
theorem d_X10_wrong_21 : decode cX10_wrong 21 = .ok (.return_, 1) := by decide +kernel
def s_X10_wrong (a0 : Int32) (h : AH) : Option (Unit × AH) := if (gI h 240 13) = 0 then some ((), sI (sI h 240 13 a0) 240 14 (gI (sI h 240 13 a0) 240 19)) else some ((), h)
theorem t_X10_wrong {g : GP} {X : MX} {mcR msR : Nat} (hF : gF g = true) (hX : Cx g RX10 cX10_wrong 1 mcR msR none [] X) {a0 : Int32} {h hz : AH} {z : Unit} (e : s_X10_wrong a0 h = some (z, hz)) : AR g X 0 0 (QQ g X NT false hz (.inl none) 0 0) h 0 [.ref 240, .int a0] [] := by
  unfold s_X10_wrong at e
  refine aw_aload_n (i := 0) hX rfl rfl d_X10_wrong_0 ?_
  refine ar_getI hX fg_RX10_184 rfl d_X10_wrong_1 ?_
  refine aw_if_eq (t := 8) hX (by decide) d_X10_wrong_4 (fun c => ?_) (fun c => ?_)
  · rw [if_pos c] at e
    refine aw_aload_n (i := 0) hX rfl rfl d_X10_wrong_8 ?_
    refine aw_iload_n (i := 1) hX rfl rfl d_X10_wrong_9 ?_
    refine ar_putI hX fp_RX10_184 rfl d_X10_wrong_10 ?_
    refine aw_aload_n (i := 0) hX rfl rfl d_X10_wrong_13 ?_
    refine aw_aload_n (i := 0) hX rfl rfl d_X10_wrong_14 ?_
    refine ar_getI hX fg_RX10_153 rfl d_X10_wrong_15 ?_
    refine ar_putI hX fp_RX10_29 rfl d_X10_wrong_18 ?_
    cases e
    exact aw_return hX (Nat.zero_le _) (Nat.zero_le _) d_X10_wrong_21
  · rw [if_neg c] at e
    cases e
    exact aw_return hX (Nat.zero_le _) (Nat.zero_le _) d_X10_wrong_7
theorem k_X10_wrong {g : GP} (hg : g.1.stackTraces = false) (hF : gF g = true) {a0 : Int32} {h hz : AH} {z : Unit} (e : s_X10_wrong a0 h = some (z, hz)) : Ctr g yX10_wrong (wsY yX10_wrong cX10_wrong 2 none) 1 0 0 [.ref 240, .int a0] NT false h none NT false hz := ctr_of (lv0 := [.ref 240, .int a0]) rfl rfl (by decide) hg trivial (fun X hX hn => t_X10_wrong hF hX e)
theorem d_X10_isGood_0 : decode cX10_isGood 0 = .ok (.aload_n 0, 1) := by decide +kernel
theorem d_X10_isGood_1 : decode cX10_isGood 1 = .ok (.getfield 184, 3) := by decide +kernel
theorem d_X10_isGood_4 : decode cX10_isGood 4 = .ok (.ifCond .ne 7, 3) := by decide +kernel
theorem d_X10_isGood_7 : decode cX10_isGood 7 = .ok (.iconst 1, 1) := by decide +kernel
theorem d_X10_isGood_8 : decode cX10_isGood 8 = .ok (.goto 4, 3) := by decide +kernel
theorem d_X10_isGood_11 : decode cX10_isGood 11 = .ok (.iconst 0, 1) := by decide +kernel
theorem d_X10_isGood_12 : decode cX10_isGood 12 = .ok (.ireturn, 1) := by decide +kernel
def s_X10_isGood (h : AH) : Option Int32 := if (gI h 240 13) = 0 then some 1 else some 0
theorem t_X10_isGood {g : GP} {X : MX} {mcR msR : Nat} (hF : gF g = true) (hX : Cx g RX10 cX10_isGood 1 mcR msR (some .boolean) [] X) {h : AH} {z : Int32} (e : s_X10_isGood h = some z) : AR g X 0 0 (QQ g X NT false h (.inl (some (.int z))) 0 0) h 0 [.ref 240] [] := by
  unfold s_X10_isGood at e
  refine aw_aload_n (i := 0) hX rfl rfl d_X10_isGood_0 ?_
  refine ar_getI hX fg_RX10_184 rfl d_X10_isGood_1 ?_
  refine aw_if_ne (t := 11) hX (by decide) d_X10_isGood_4 (fun c => ?_) (fun c => ?_)
  · rw [if_neg c] at e
    refine aw_iconst (v := 0) hX (by decide) d_X10_isGood_11 ?_
    cases e
    exact aw_zreturn hX (by decide) (Nat.zero_le _) (Nat.zero_le _) d_X10_isGood_12
  · rw [if_pos c] at e
    refine aw_iconst (v := 1) hX (by decide) d_X10_isGood_7 ?_
    refine aw_goto (t := 12) hX (by decide) d_X10_isGood_8 ?_
    cases e
    exact aw_zreturn hX (by decide) (Nat.zero_le _) (Nat.zero_le _) d_X10_isGood_12
theorem k_X10_isGood {g : GP} (hg : g.1.stackTraces = false) (hF : gF g = true) {h : AH} {z : Int32} (e : s_X10_isGood h = some z) : Ctr g yX10_isGood (wsY yX10_isGood cX10_isGood 1 (some .boolean)) 1 0 0 [.ref 240] NT false h (some (.int z)) NT false h := ctr_of (lv0 := [.ref 240]) rfl rfl (by decide) hg trivial (fun X hX hn => t_X10_isGood hF hX e)
theorem d_X10_need_0 : decode cX10_need 0 = .ok (.aload_n 0, 1) := by decide +kernel
theorem d_X10_need_1 : decode cX10_need 1 = .ok (.invokevirtual 187, 3) := by decide +kernel
theorem d_X10_need_4 : decode cX10_need 4 = .ok (.ifCond .ne 4, 3) := by decide +kernel
theorem d_X10_need_7 : decode cX10_need 7 = .ok (.return_, 1) := by decide +kernel
theorem d_X10_need_8 : decode cX10_need 8 = .ok (.iload_n 1, 1) := by decide +kernel
theorem d_X10_need_9 : decode cX10_need 9 = .ok (.ifCond .eq 10, 3) := by decide +kernel
theorem d_X10_need_12 : decode cX10_need 12 = .ok (.aload_n 0, 1) := by decide +kernel
theorem d_X10_need_13 : decode cX10_need 13 = .ok (.invokevirtual 191, 3) := by decide +kernel
theorem d_X10_need_16 : decode cX10_need 16 = .ok (.goto 8, 3) := by decide +kernel
theorem d_X10_need_19 : decode cX10_need 19 = .ok (.aload_n 0, 1) := by decide +kernel
theorem d_X10_need_20 : decode cX10_need 20 = .ok (.iconst 1, 1) := by decide +kernel
theorem d_X10_need_21 : decode cX10_need 21 = .ok (.invokevirtual 194, 3) := by decide +kernel
theorem d_X10_need_24 : decode cX10_need 24 = .ok (.return_, 1) := by decide +kernel
def s_X10_need (a0 : Int32) (h : AH) : Option (Unit × AH) := bd (s_X10_isGood h) fun x1 => if x1 = 0 then some ((), h) else if a0 = 0 then bd (s_X10_wrong 1 h) fun q2 => some ((), q2.2) else bd (s_X10_steps h) fun q3 => some ((), q3.2)
theorem t_X10_need {g : GP} {X : MX} {mcR msR : Nat} (hF : gF g = true) (hX : Cx g RX10 cX10_need 3 mcR msR none [] X) {a0 : Int32} {h hz : AH} {z : Unit} (e : s_X10_need a0 h = some (z, hz)) : AR g X 0 0 (QQ g X NT false hz (.inl none) 0 0) h 0 [.ref 240, .int a0] [] := by
  unfold s_X10_need at e
  refine aw_aload_n (i := 0) hX rfl rfl d_X10_need_0 ?_
  obtain ⟨x1, f_1023, e_1023⟩ := bd_some e
  clear e
  refine aw_callV (b := 240) (av := []) (avr := []) hX (k_X10_isGood (cx_g hX) hF f_1023) mi_X10_isGood rfl rfl w_661 w_662 w_663 (by decide) rfl (LAY_lt rfl (by decide)) rfl rfl (Nat.le_of_ble_eq_true rfl) (Nat.zero_le _) (Nat.zero_le _) d_X10_need_1 ?_
  refine aw_if_ne (t := 8) hX (by decide) d_X10_need_4 (fun c => ?_) (fun c => ?_)
  · rw [if_neg c] at e_1023
    refine aw_iload_n (i := 1) hX rfl rfl d_X10_need_8 ?_
    refine aw_if_eq (t := 19) hX (by decide) d_X10_need_9 (fun c => ?_) (fun c => ?_)
    · rw [if_pos c] at e_1023
      refine aw_aload_n (i := 0) hX rfl rfl d_X10_need_19 ?_
      refine aw_iconst (v := 1) hX (by decide) d_X10_need_20 ?_
      obtain ⟨q2, f_1024, e_1024⟩ := bd_some e_1023
      clear e_1023
      refine aw_callV (b := 240) (av := [.int 1]) (avr := [.int 1]) hX (k_X10_wrong (cx_g hX) hF f_1024) mi_X10_wrong rfl rfl w_665 w_666 w_667 (by decide) rfl (LAY_lt rfl (by decide)) rfl rfl (Nat.le_of_ble_eq_true rfl) (Nat.zero_le _) (Nat.zero_le _) d_X10_need_21 ?_
      cases e_1024
      exact aw_return hX (Nat.zero_le _) (Nat.zero_le _) d_X10_need_24
    · rw [if_neg c] at e_1023
      refine aw_aload_n (i := 0) hX rfl rfl d_X10_need_12 ?_
      obtain ⟨q3, f_1025, e_1025⟩ := bd_some e_1023
      clear e_1023
      refine aw_callV (b := 240) (av := []) (avr := []) hX (k_X10_steps (cx_g hX) hF f_1025) mi_X10_steps rfl rfl w_669 w_670 w_671 (by decide) rfl (LAY_lt rfl (by decide)) rfl rfl (Nat.le_of_ble_eq_true rfl) (Nat.zero_le _) (Nat.zero_le _) d_X10_need_13 ?_
      refine aw_goto (t := 24) hX (by decide) d_X10_need_16 ?_
      cases e_1025
      exact aw_return hX (Nat.zero_le _) (Nat.zero_le _) d_X10_need_24
  · rw [if_pos c] at e_1023
    cases e_1023
    exact aw_return hX (Nat.zero_le _) (Nat.zero_le _) d_X10_need_7
theorem k_X10_need {g : GP} (hg : g.1.stackTraces = false) (hF : gF g = true) {a0 : Int32} {h hz : AH} {z : Unit} (e : s_X10_need a0 h = some (z, hz)) : Ctr g yX10_need (wsY yX10_need cX10_need 2 none) 3 0 0 [.ref 240, .int a0] NT false h none NT false hz := ctr_of (lv0 := [.ref 240, .int a0]) rfl rfl (by decide) hg trivial (fun X hX hn => t_X10_need hF hX e)
theorem d_X10_number_0 : decode cX10_number 0 = .ok (.aload_n 0, 1) := by decide +kernel
theorem d_X10_number_1 : decode cX10_number 1 = .ok (.invokevirtual 187, 3) := by decide +kernel
theorem d_X10_number_4 : decode cX10_number 4 = .ok (.ifCond .ne 5, 3) := by decide +kernel
theorem d_X10_number_7 : decode cX10_number 7 = .ok (.iconst 0, 1) := by decide +kernel
theorem d_X10_number_8 : decode cX10_number 8 = .ok (.ireturn, 1) := by decide +kernel
theorem d_X10_number_9 : decode cX10_number 9 = .ok (.aload_n 0, 1) := by decide +kernel
theorem d_X10_number_10 : decode cX10_number 10 = .ok (.getfield 163, 3) := by decide +kernel
theorem d_X10_number_13 : decode cX10_number 13 = .ok (.iconst 2, 1) := by decide +kernel
theorem d_X10_number_14 : decode cX10_number 14 = .ok (.if_icmp .eq 11, 3) := by decide +kernel
theorem d_X10_number_17 : decode cX10_number 17 = .ok (.aload_n 0, 1) := by decide +kernel
theorem d_X10_number_18 : decode cX10_number 18 = .ok (.iconst 1, 1) := by decide +kernel
theorem d_X10_number_19 : decode cX10_number 19 = .ok (.invokevirtual 194, 3) := by decide +kernel
theorem d_X10_number_22 : decode cX10_number 22 = .ok (.goto 32, 3) := by decide +kernel
theorem d_X10_number_25 : decode cX10_number 25 = .ok (.aload_n 0, 1) := by decide +kernel
theorem d_X10_number_26 : decode cX10_number 26 = .ok (.getfield 173, 3) := by decide +kernel
theorem d_X10_number_29 : decode cX10_number 29 = .ok (.iconst 4, 1) := by decide +kernel
theorem d_X10_number_30 : decode cX10_number 30 = .ok (.if_icmp .gt 19, 3) := by decide +kernel
theorem d_X10_number_33 : decode cX10_number 33 = .ok (.aload_n 0, 1) := by decide +kernel
theorem d_X10_number_34 : decode cX10_number 34 = .ok (.getfield 160, 3) := by decide +kernel
theorem d_X10_number_37 : decode cX10_number 37 = .ok (.iload_n 1, 1) := by decide +kernel
theorem d_X10_number_38 : decode cX10_number 38 = .ok (.if_icmp .lt 11, 3) := by decide +kernel
theorem d_X10_number_41 : decode cX10_number 41 = .ok (.aload_n 0, 1) := by decide +kernel
theorem d_X10_number_42 : decode cX10_number 42 = .ok (.getfield 160, 3) := by decide +kernel
theorem d_X10_number_45 : decode cX10_number 45 = .ok (.iload_n 2, 1) := by decide +kernel
theorem d_X10_number_46 : decode cX10_number 46 = .ok (.if_icmp .le 8, 3) := by decide +kernel
theorem d_X10_number_49 : decode cX10_number 49 = .ok (.aload_n 0, 1) := by decide +kernel
theorem d_X10_number_50 : decode cX10_number 50 = .ok (.iconst 2, 1) := by decide +kernel
theorem d_X10_number_51 : decode cX10_number 51 = .ok (.invokevirtual 194, 3) := by decide +kernel
theorem d_X10_number_54 : decode cX10_number 54 = .ok (.aload_n 0, 1) := by decide +kernel
theorem d_X10_number_55 : decode cX10_number 55 = .ok (.getfield 160, 3) := by decide +kernel
theorem d_X10_number_58 : decode cX10_number 58 = .ok (.istore_n 3, 1) := by decide +kernel
theorem d_X10_number_59 : decode cX10_number 59 = .ok (.aload_n 0, 1) := by decide +kernel
theorem d_X10_number_60 : decode cX10_number 60 = .ok (.invokevirtual 187, 3) := by decide +kernel
theorem d_X10_number_63 : decode cX10_number 63 = .ok (.ifCond .eq 7, 3) := by decide +kernel
theorem d_X10_number_66 : decode cX10_number 66 = .ok (.aload_n 0, 1) := by decide +kernel
theorem d_X10_number_67 : decode cX10_number 67 = .ok (.invokevirtual 191, 3) := by decide +kernel
theorem d_X10_number_70 : decode cX10_number 70 = .ok (.iload_n 3, 1) := by decide +kernel
theorem d_X10_number_71 : decode cX10_number 71 = .ok (.ireturn, 1) := by decide +kernel
def j_X10_number_54 (h : AH) : Option (Int32 × AH) := bd (s_X10_isGood h) fun x3 => if x3 = 0 then some ((gI h 240 21), h) else bd (s_X10_steps h) fun q4 => some ((gI h 240 21), q4.2)
theorem tj_X10_number_54 {g : GP} {X : MX} {mcR msR : Nat} (hF : gF g = true) (hX : Cx g RX10 cX10_number 3 mcR msR (some .int) [] X) {d1 : Value} {d2 : Value} {d3 : Value} {h hz : AH} {z : Int32} (e : j_X10_number_54 h = some (z, hz)) : AR g X 0 0 (QQ g X NT false hz (.inl (some (.int z))) 0 0) h 54 [.ref 240, d1, d2, d3] [] := by
  unfold j_X10_number_54 at e
  refine aw_aload_n (i := 0) hX rfl rfl d_X10_number_54 ?_
  refine ar_getI hX fg_RX10_160 rfl d_X10_number_55 ?_
  refine aw_istore_n (i := 3) (lv2 := [.ref 240, d1, _, .int (gI h 240 21)]) hX rfl rfl rfl d_X10_number_58 ?_
  refine aw_aload_n (i := 0) hX rfl rfl d_X10_number_59 ?_
  obtain ⟨x3, f_1026, e_1026⟩ := bd_some e
  clear e
  refine aw_callV (b := 240) (av := []) (avr := []) hX (k_X10_isGood (cx_g hX) hF f_1026) mi_X10_isGood rfl rfl w_661 w_662 w_663 (by decide) rfl (LAY_lt rfl (by decide)) rfl rfl (Nat.le_of_ble_eq_true rfl) (Nat.zero_le _) (Nat.zero_le _) d_X10_number_60 ?_
  refine aw_if_eq (t := 70) hX (by decide) d_X10_number_63 (fun c => ?_) (fun c => ?_)
  · rw [if_pos c] at e_1026
    refine aw_iload_n (i := 3) hX rfl rfl d_X10_number_70 ?_
    cases e_1026
    exact aw_ireturn hX (Nat.zero_le _) (Nat.zero_le _) d_X10_number_71
  · rw [if_neg c] at e_1026
    refine aw_aload_n (i := 0) hX rfl rfl d_X10_number_66 ?_
    obtain ⟨q4, f_1027, e_1027⟩ := bd_some e_1026
    clear e_1026
    refine aw_callV (b := 240) (av := []) (avr := []) hX (k_X10_steps (cx_g hX) hF f_1027) mi_X10_steps rfl rfl w_669 w_670 w_671 (by decide) rfl (LAY_lt rfl (by decide)) rfl rfl (Nat.le_of_ble_eq_true rfl) (Nat.zero_le _) (Nat.zero_le _) d_X10_number_67 ?_
    refine aw_iload_n (i := 3) hX rfl rfl d_X10_number_70 ?_
    cases e_1027
    exact aw_ireturn hX (Nat.zero_le _) (Nat.zero_le _) d_X10_number_71
def j_X10_number_49 (h : AH) : Option (Int32 × AH) := bd (s_X10_wrong 2 h) fun q2 => j_X10_number_54 q2.2
theorem tj_X10_number_49 {g : GP} {X : MX} {mcR msR : Nat} (hF : gF g = true) (hX : Cx g RX10 cX10_number 3 mcR msR (some .int) [] X) {d1 : Value} {d2 : Value} {d3 : Value} {h hz : AH} {z : Int32} (e : j_X10_number_49 h = some (z, hz)) : AR g X 0 0 (QQ g X NT false hz (.inl (some (.int z))) 0 0) h 49 [.ref 240, d1, d2, d3] [] := by
  unfold j_X10_number_49 at e
  refine aw_aload_n (i := 0) hX rfl rfl d_X10_number_49 ?_
  refine aw_iconst (v := 2) hX (by decide) d_X10_number_50 ?_
  obtain ⟨q2, f_1028, e_1028⟩ := bd_some e
  clear e
  refine aw_callV (b := 240) (av := [.int 2]) (avr := [.int 2]) hX (k_X10_wrong (cx_g hX) hF f_1028) mi_X10_wrong rfl rfl w_665 w_666 w_667 (by decide) rfl (LAY_lt rfl (by decide)) rfl rfl (Nat.le_of_ble_eq_true rfl) (Nat.zero_le _) (Nat.zero_le _) d_X10_number_51 ?_
  exact tj_X10_number_54 hF hX e_1028
def s_X10_number (a0 : Int32) (a1 : Int32) (h : AH) : Option (Int32 × AH) := bd (s_X10_isGood h) fun x1 => if x1 = 0 then some (0, h) else if (gI h 240 18) = 2 then if (4 : Int32) < (gI h 240 20) then j_X10_number_49 h else if (gI h 240 21) < a0 then j_X10_number_49 h else if (gI h 240 21) ≤ a1 then j_X10_number_54 h else j_X10_number_49 h else bd (s_X10_wrong 1 h) fun q5 => j_X10_number_54 q5.2
theorem t_X10_number {g : GP} {X : MX} {mcR msR : Nat} (hF : gF g = true) (hX : Cx g RX10 cX10_number 3 mcR msR (some .int) [] X) {a0 : Int32} {a1 : Int32} {h hz : AH} {z : Int32} (e : s_X10_number a0 a1 h = some (z, hz)) : AR g X 0 0 (QQ g X NT false hz (.inl (some (.int z))) 0 0) h 0 [.ref 240, .int a0, .int a1, jk] [] := by
  unfold s_X10_number at e
  refine aw_aload_n (i := 0) hX rfl rfl d_X10_number_0 ?_
  obtain ⟨x1, f_1029, e_1029⟩ := bd_some e
  clear e
  refine aw_callV (b := 240) (av := []) (avr := []) hX (k_X10_isGood (cx_g hX) hF f_1029) mi_X10_isGood rfl rfl w_661 w_662 w_663 (by decide) rfl (LAY_lt rfl (by decide)) rfl rfl (Nat.le_of_ble_eq_true rfl) (Nat.zero_le _) (Nat.zero_le _) d_X10_number_1 ?_
  refine aw_if_ne (t := 9) hX (by decide) d_X10_number_4 (fun c => ?_) (fun c => ?_)
  · rw [if_neg c] at e_1029
    refine aw_aload_n (i := 0) hX rfl rfl d_X10_number_9 ?_
    refine ar_getI hX fg_RX10_163 rfl d_X10_number_10 ?_
    refine aw_iconst (v := 2) hX (by decide) d_X10_number_13 ?_
    refine aw_icmp_eq (t := 25) hX (by decide) d_X10_number_14 (fun c => ?_) (fun c => ?_)
    · rw [if_pos c] at e_1029
      refine aw_aload_n (i := 0) hX rfl rfl d_X10_number_25 ?_
      refine ar_getI hX fg_RX10_173 rfl d_X10_number_26 ?_
      refine aw_iconst (v := 4) hX (by decide) d_X10_number_29 ?_
      refine aw_icmp_gt (t := 49) hX (by decide) d_X10_number_30 (fun c => ?_) (fun c => ?_)
      · rw [if_pos c] at e_1029
        exact tj_X10_number_49 hF hX e_1029
      · rw [if_neg c] at e_1029
        refine aw_aload_n (i := 0) hX rfl rfl d_X10_number_33 ?_
        refine ar_getI hX fg_RX10_160 rfl d_X10_number_34 ?_
        refine aw_iload_n (i := 1) hX rfl rfl d_X10_number_37 ?_
        refine aw_icmp_lt (t := 49) hX (by decide) d_X10_number_38 (fun c => ?_) (fun c => ?_)
        · rw [if_pos c] at e_1029
          exact tj_X10_number_49 hF hX e_1029
        · rw [if_neg c] at e_1029
          refine aw_aload_n (i := 0) hX rfl rfl d_X10_number_41 ?_
          refine ar_getI hX fg_RX10_160 rfl d_X10_number_42 ?_
          refine aw_iload_n (i := 2) hX rfl rfl d_X10_number_45 ?_
          refine aw_icmp_le (t := 54) hX (by decide) d_X10_number_46 (fun c => ?_) (fun c => ?_)
          · rw [if_pos c] at e_1029
            exact tj_X10_number_54 hF hX e_1029
          · rw [if_neg c] at e_1029
            exact tj_X10_number_49 hF hX e_1029
    · rw [if_neg c] at e_1029
      refine aw_aload_n (i := 0) hX rfl rfl d_X10_number_17 ?_
      refine aw_iconst (v := 1) hX (by decide) d_X10_number_18 ?_
      obtain ⟨q5, f_1030, e_1030⟩ := bd_some e_1029
      clear e_1029
      refine aw_callV (b := 240) (av := [.int 1]) (avr := [.int 1]) hX (k_X10_wrong (cx_g hX) hF f_1030) mi_X10_wrong rfl rfl w_665 w_666 w_667 (by decide) rfl (LAY_lt rfl (by decide)) rfl rfl (Nat.le_of_ble_eq_true rfl) (Nat.zero_le _) (Nat.zero_le _) d_X10_number_19 ?_
      refine aw_goto (t := 54) hX (by decide) d_X10_number_22 ?_
      exact tj_X10_number_54 hF hX e_1030
  · rw [if_pos c] at e_1029
    refine aw_iconst (v := 0) hX (by decide) d_X10_number_7 ?_
    cases e_1029
    exact aw_ireturn hX (Nat.zero_le _) (Nat.zero_le _) d_X10_number_8
theorem k_X10_number {g : GP} (hg : g.1.stackTraces = false) (hF : gF g = true) {a0 : Int32} {a1 : Int32} {h hz : AH} {z : Int32} (e : s_X10_number a0 a1 h = some (z, hz)) : Ctr g yX10_number (wsY yX10_number cX10_number 4 (some .int)) 3 0 0 [.ref 240, .int a0, .int a1] NT false h (some (.int z)) NT false hz := ctr_of (lv0 := [.ref 240, .int a0, .int a1, jk]) rfl rfl (by decide) hg trivial (fun X hX hn => t_X10_number hF hX e)
theorem d_X10_named_0 : decode cX10_named 0 = .ok (.aload_n 0, 1) := by decide +kernel
theorem d_X10_named_1 : decode cX10_named 1 = .ok (.aload_n 0, 1) := by decide +kernel
theorem d_X10_named_2 : decode cX10_named 2 = .ok (.iload_n 1, 1) := by decide +kernel
theorem d_X10_named_3 : decode cX10_named 3 = .ok (.invokevirtual 197, 3) := by decide +kernel
theorem d_X10_named_6 : decode cX10_named 6 = .ok (.invokevirtual 200, 3) := by decide +kernel
theorem d_X10_named_9 : decode cX10_named 9 = .ok (.aload_n 0, 1) := by decide +kernel
theorem d_X10_named_10 : decode cX10_named 10 = .ok (.iload_n 2, 1) := by decide +kernel
theorem d_X10_named_11 : decode cX10_named 11 = .ok (.iload_n 3, 1) := by decide +kernel
theorem d_X10_named_12 : decode cX10_named 12 = .ok (.invokevirtual 204, 3) := by decide +kernel
theorem d_X10_named_15 : decode cX10_named 15 = .ok (.ireturn, 1) := by decide +kernel
def s_X10_named (a0 : Int32) (a1 : Int32) (a2 : Int32) (h : AH) : Option (Int32 × AH) := bd (s_X10_is a0 h) fun x1 => bd (s_X10_need x1 h) fun q2 => bd (s_X10_number a1 a2 q2.2) fun q3 => some (q3.1, q3.2)
theorem t_X10_named {g : GP} {X : MX} {mcR msR : Nat} (hF : gF g = true) (hX : Cx g RX10 cX10_named 4 mcR msR (some .int) [] X) {a0 : Int32} {a1 : Int32} {a2 : Int32} {h hz : AH} {z : Int32} (e : s_X10_named a0 a1 a2 h = some (z, hz)) : AR g X 0 0 (QQ g X NT false hz (.inl (some (.int z))) 0 0) h 0 [.ref 240, .int a0, .int a1, .int a2] [] := by
  unfold s_X10_named at e
  refine aw_aload_n (i := 0) hX rfl rfl d_X10_named_0 ?_
  refine aw_aload_n (i := 0) hX rfl rfl d_X10_named_1 ?_
  refine aw_iload_n (i := 1) hX rfl rfl d_X10_named_2 ?_
  obtain ⟨x1, f_1031, e_1031⟩ := bd_some e
  clear e
  refine aw_callV (b := 240) (av := [.int a0]) (avr := [.int a0]) hX (k_X10_is (cx_g hX) hF f_1031) mi_X10_is rfl rfl w_673 w_674 w_675 (by decide) rfl (LAY_lt rfl (by decide)) rfl rfl (Nat.le_of_ble_eq_true rfl) (Nat.zero_le _) (Nat.zero_le _) d_X10_named_3 ?_
  obtain ⟨q2, f_1032, e_1032⟩ := bd_some e_1031
  clear e_1031
  refine aw_callV (b := 240) (av := [.int x1]) (avr := [.int x1]) hX (k_X10_need (cx_g hX) hF f_1032) mi_X10_need rfl rfl w_677 w_678 w_679 (by decide) rfl (LAY_lt rfl (by decide)) rfl rfl (Nat.le_of_ble_eq_true rfl) (Nat.zero_le _) (Nat.zero_le _) d_X10_named_6 ?_
  refine aw_aload_n (i := 0) hX rfl rfl d_X10_named_9 ?_
  refine aw_iload_n (i := 2) hX rfl rfl d_X10_named_10 ?_
  refine aw_iload_n (i := 3) hX rfl rfl d_X10_named_11 ?_
  obtain ⟨q3, f_1033, e_1033⟩ := bd_some e_1032
  clear e_1032
  refine aw_callV (b := 240) (av := [.int a1, .int a2]) (avr := [.int a2, .int a1]) hX (k_X10_number (cx_g hX) hF f_1033) mi_X10_number rfl rfl w_681 w_682 w_683 (by decide) rfl (LAY_lt rfl (by decide)) rfl rfl (Nat.le_of_ble_eq_true rfl) (Nat.zero_le _) (Nat.zero_le _) d_X10_named_12 ?_
  cases e_1033
  exact aw_ireturn hX (Nat.zero_le _) (Nat.zero_le _) d_X10_named_15
theorem k_X10_named {g : GP} (hg : g.1.stackTraces = false) (hF : gF g = true) {a0 : Int32} {a1 : Int32} {a2 : Int32} {h hz : AH} {z : Int32} (e : s_X10_named a0 a1 a2 h = some (z, hz)) : Ctr g yX10_named (wsY yX10_named cX10_named 4 (some .int)) 4 0 0 [.ref 240, .int a0, .int a1, .int a2] NT false h (some (.int z)) NT false hz := ctr_of (lv0 := [.ref 240, .int a0, .int a1, .int a2]) rfl rfl (by decide) hg trivial (fun X hX hn => t_X10_named hF hX e)
theorem d_X10_perhaps_0 : decode cX10_perhaps 0 = .ok (.aload_n 0, 1) := by decide +kernel
theorem d_X10_perhaps_1 : decode cX10_perhaps 1 = .ok (.invokevirtual 187, 3) := by decide +kernel
theorem d_X10_perhaps_4 : decode cX10_perhaps 4 = .ok (.ifCond .eq 21, 3) := by decide +kernel
theorem d_X10_perhaps_7 : decode cX10_perhaps 7 = .ok (.aload_n 0, 1) := by decide +kernel
theorem d_X10_perhaps_8 : decode cX10_perhaps 8 = .ok (.iload_n 1, 1) := by decide +kernel
theorem d_X10_perhaps_9 : decode cX10_perhaps 9 = .ok (.invokevirtual 197, 3) := by decide +kernel
theorem d_X10_perhaps_12 : decode cX10_perhaps 12 = .ok (.ifCond .eq 13, 3) := by decide +kernel
theorem d_X10_perhaps_15 : decode cX10_perhaps 15 = .ok (.aload_n 0, 1) := by decide +kernel
theorem d_X10_perhaps_16 : decode cX10_perhaps 16 = .ok (.iload_n 1, 1) := by decide +kernel
theorem d_X10_perhaps_17 : decode cX10_perhaps 17 = .ok (.iload_n 2, 1) := by decide +kernel
theorem d_X10_perhaps_18 : decode cX10_perhaps 18 = .ok (.iload_n 3, 1) := by decide +kernel
theorem d_X10_perhaps_19 : decode cX10_perhaps 19 = .ok (.invokevirtual 208, 3) := by decide +kernel
theorem d_X10_perhaps_22 : decode cX10_perhaps 22 = .ok (.goto 5, 3) := by decide +kernel
theorem d_X10_perhaps_25 : decode cX10_perhaps 25 = .ok (.iload 4, 2) := by decide +kernel
theorem d_X10_perhaps_27 : decode cX10_perhaps 27 = .ok (.ireturn, 1) := by decide +kernel
def s_X10_perhaps (a0 : Int32) (a1 : Int32) (a2 : Int32) (a3 : Int32) (h : AH) : Option (Int32 × AH) := bd (s_X10_isGood h) fun x1 => if x1 = 0 then some (a3, h) else bd (s_X10_is a0 h) fun x2 => if x2 = 0 then some (a3, h) else bd (s_X10_named a0 a1 a2 h) fun q3 => some (q3.1, q3.2)
theorem t_X10_perhaps {g : GP} {X : MX} {mcR msR : Nat} (hF : gF g = true) (hX : Cx g RX10 cX10_perhaps 5 mcR msR (some .int) [] X) {a0 : Int32} {a1 : Int32} {a2 : Int32} {a3 : Int32} {h hz : AH} {z : Int32} (e : s_X10_perhaps a0 a1 a2 a3 h = some (z, hz)) : AR g X 0 0 (QQ g X NT false hz (.inl (some (.int z))) 0 0) h 0 [.ref 240, .int a0, .int a1, .int a2, .int a3] [] := by
  unfold s_X10_perhaps at e
  refine aw_aload_n (i := 0) hX rfl rfl d_X10_perhaps_0 ?_
  obtain ⟨x1, f_1034, e_1034⟩ := bd_some e
  clear e
  refine aw_callV (b := 240) (av := []) (avr := []) hX (k_X10_isGood (cx_g hX) hF f_1034) mi_X10_isGood rfl rfl w_661 w_662 w_663 (by decide) rfl (LAY_lt rfl (by decide)) rfl rfl (Nat.le_of_ble_eq_true rfl) (Nat.zero_le _) (Nat.zero_le _) d_X10_perhaps_1 ?_
  refine aw_if_eq (t := 25) hX (by decide) d_X10_perhaps_4 (fun c => ?_) (fun c => ?_)
  · rw [if_pos c] at e_1034
    refine aw_iload (i := 4) hX rfl d_X10_perhaps_25 ?_
    cases e_1034
    exact aw_ireturn hX (Nat.zero_le _) (Nat.zero_le _) d_X10_perhaps_27
  · rw [if_neg c] at e_1034
    refine aw_aload_n (i := 0) hX rfl rfl d_X10_perhaps_7 ?_
    refine aw_iload_n (i := 1) hX rfl rfl d_X10_perhaps_8 ?_
    obtain ⟨x2, f_1035, e_1035⟩ := bd_some e_1034
    clear e_1034
    refine aw_callV (b := 240) (av := [.int a0]) (avr := [.int a0]) hX (k_X10_is (cx_g hX) hF f_1035) mi_X10_is rfl rfl w_673 w_674 w_675 (by decide) rfl (LAY_lt rfl (by decide)) rfl rfl (Nat.le_of_ble_eq_true rfl) (Nat.zero_le _) (Nat.zero_le _) d_X10_perhaps_9 ?_
    refine aw_if_eq (t := 25) hX (by decide) d_X10_perhaps_12 (fun c => ?_) (fun c => ?_)
    · rw [if_pos c] at e_1035
      refine aw_iload (i := 4) hX rfl d_X10_perhaps_25 ?_
      cases e_1035
      exact aw_ireturn hX (Nat.zero_le _) (Nat.zero_le _) d_X10_perhaps_27
    · rw [if_neg c] at e_1035
      refine aw_aload_n (i := 0) hX rfl rfl d_X10_perhaps_15 ?_
      refine aw_iload_n (i := 1) hX rfl rfl d_X10_perhaps_16 ?_
      refine aw_iload_n (i := 2) hX rfl rfl d_X10_perhaps_17 ?_
      refine aw_iload_n (i := 3) hX rfl rfl d_X10_perhaps_18 ?_
      obtain ⟨q3, f_1036, e_1036⟩ := bd_some e_1035
      clear e_1035
      refine aw_callV (b := 240) (av := [.int a0, .int a1, .int a2]) (avr := [.int a2, .int a1, .int a0]) hX (k_X10_named (cx_g hX) hF f_1036) mi_X10_named rfl rfl w_685 w_686 w_687 (by decide) rfl (LAY_lt rfl (by decide)) rfl rfl (Nat.le_of_ble_eq_true rfl) (Nat.zero_le _) (Nat.zero_le _) d_X10_perhaps_19 ?_
      refine aw_goto (t := 27) hX (by decide) d_X10_perhaps_22 ?_
      cases e_1036
      exact aw_ireturn hX (Nat.zero_le _) (Nat.zero_le _) d_X10_perhaps_27
theorem k_X10_perhaps {g : GP} (hg : g.1.stackTraces = false) (hF : gF g = true) {a0 : Int32} {a1 : Int32} {a2 : Int32} {a3 : Int32} {h hz : AH} {z : Int32} (e : s_X10_perhaps a0 a1 a2 a3 h = some (z, hz)) : Ctr g yX10_perhaps (wsY yX10_perhaps cX10_perhaps 5 (some .int)) 5 0 0 [.ref 240, .int a0, .int a1, .int a2, .int a3] NT false h (some (.int z)) NT false hz := ctr_of (lv0 := [.ref 240, .int a0, .int a1, .int a2, .int a3]) rfl rfl (by decide) hg trivial (fun X hX hn => t_X10_perhaps hF hX e)
theorem d_X10_readsEvening_0 : decode cX10_readsEvening 0 = .ok (.aload_n 0, 1) := by decide +kernel
theorem d_X10_readsEvening_1 : decode cX10_readsEvening 1 = .ok (.getfield 212, 3) := by decide +kernel
theorem d_X10_readsEvening_4 : decode cX10_readsEvening 4 = .ok (.bipush 16, 2) := by decide +kernel
theorem d_X10_readsEvening_6 : decode cX10_readsEvening 6 = .ok (.if_icmp .ne 8, 3) := by decide +kernel
theorem d_X10_readsEvening_9 : decode cX10_readsEvening 9 = .ok (.aload_n 0, 1) := by decide +kernel
theorem d_X10_readsEvening_10 : decode cX10_readsEvening 10 = .ok (.iconst 2, 1) := by decide +kernel
theorem d_X10_readsEvening_11 : decode cX10_readsEvening 11 = .ok (.invokevirtual 194, 3) := by decide +kernel
theorem d_X10_readsEvening_14 : decode cX10_readsEvening 14 = .ok (.aload_n 0, 1) := by decide +kernel
theorem d_X10_readsEvening_15 : decode cX10_readsEvening 15 = .ok (.invokevirtual 187, 3) := by decide +kernel
theorem d_X10_readsEvening_18 : decode cX10_readsEvening 18 = .ok (.ifCond .ne 4, 3) := by decide +kernel
theorem d_X10_readsEvening_21 : decode cX10_readsEvening 21 = .ok (.return_, 1) := by decide +kernel
theorem d_X10_readsEvening_22 : decode cX10_readsEvening 22 = .ok (.aload_n 0, 1) := by decide +kernel
theorem d_X10_readsEvening_23 : decode cX10_readsEvening 23 = .ok (.invokevirtual 191, 3) := by decide +kernel
theorem d_X10_readsEvening_26 : decode cX10_readsEvening 26 = .ok (.iconst 4, 1) := by decide +kernel
theorem d_X10_readsEvening_27 : decode cX10_readsEvening 27 = .ok (.aload_n 0, 1) := by decide +kernel
theorem d_X10_readsEvening_28 : decode cX10_readsEvening 28 = .ok (.getfield 212, 3) := by decide +kernel
theorem d_X10_readsEvening_31 : decode cX10_readsEvening 31 = .ok (.imul, 1) := by decide +kernel
theorem d_X10_readsEvening_32 : decode cX10_readsEvening 32 = .ok (.istore_n 1, 1) := by decide +kernel
theorem d_X10_readsEvening_33 : decode cX10_readsEvening 33 = .ok (.aload_n 0, 1) := by decide +kernel
theorem d_X10_readsEvening_34 : decode cX10_readsEvening 34 = .ok (.getfield 35, 3) := by decide +kernel
theorem d_X10_readsEvening_37 : decode cX10_readsEvening 37 = .ok (.iload_n 1, 1) := by decide +kernel
theorem d_X10_readsEvening_38 : decode cX10_readsEvening 38 = .ok (.aload_n 0, 1) := by decide +kernel
theorem d_X10_readsEvening_39 : decode cX10_readsEvening 39 = .ok (.iconst 0, 1) := by decide +kernel
theorem d_X10_readsEvening_40 : decode cX10_readsEvening 40 = .ok (.iconst 3, 1) := by decide +kernel
theorem d_X10_readsEvening_41 : decode cX10_readsEvening 41 = .ok (.invokevirtual 204, 3) := by decide +kernel
theorem d_X10_readsEvening_44 : decode cX10_readsEvening 44 = .ok (.iastore, 1) := by decide +kernel
theorem d_X10_readsEvening_45 : decode cX10_readsEvening 45 = .ok (.aload_n 0, 1) := by decide +kernel
theorem d_X10_readsEvening_46 : decode cX10_readsEvening 46 = .ok (.getfield 35, 3) := by decide +kernel
theorem d_X10_readsEvening_49 : decode cX10_readsEvening 49 = .ok (.iload_n 1, 1) := by decide +kernel
theorem d_X10_readsEvening_50 : decode cX10_readsEvening 50 = .ok (.iconst 1, 1) := by decide +kernel
theorem d_X10_readsEvening_51 : decode cX10_readsEvening 51 = .ok (.iadd, 1) := by decide +kernel
theorem d_X10_readsEvening_52 : decode cX10_readsEvening 52 = .ok (.aload_n 0, 1) := by decide +kernel
theorem d_X10_readsEvening_53 : decode cX10_readsEvening 53 = .ok (.iconst 0, 1) := by decide +kernel
theorem d_X10_readsEvening_54 : decode cX10_readsEvening 54 = .ok (.sipush 999, 3) := by decide +kernel
theorem d_X10_readsEvening_57 : decode cX10_readsEvening 57 = .ok (.invokevirtual 204, 3) := by decide +kernel
theorem d_X10_readsEvening_60 : decode cX10_readsEvening 60 = .ok (.iastore, 1) := by decide +kernel
theorem d_X10_readsEvening_61 : decode cX10_readsEvening 61 = .ok (.aload_n 0, 1) := by decide +kernel
theorem d_X10_readsEvening_62 : decode cX10_readsEvening 62 = .ok (.getfield 35, 3) := by decide +kernel
theorem d_X10_readsEvening_65 : decode cX10_readsEvening 65 = .ok (.iload_n 1, 1) := by decide +kernel
theorem d_X10_readsEvening_66 : decode cX10_readsEvening 66 = .ok (.iconst 2, 1) := by decide +kernel
theorem d_X10_readsEvening_67 : decode cX10_readsEvening 67 = .ok (.iadd, 1) := by decide +kernel
theorem d_X10_readsEvening_68 : decode cX10_readsEvening 68 = .ok (.aload_n 0, 1) := by decide +kernel
theorem d_X10_readsEvening_69 : decode cX10_readsEvening 69 = .ok (.bipush 9, 2) := by decide +kernel
theorem d_X10_readsEvening_71 : decode cX10_readsEvening 71 = .ok (.iconst 0, 1) := by decide +kernel
theorem d_X10_readsEvening_72 : decode cX10_readsEvening 72 = .ok (.sipush 1000, 3) := by decide +kernel
theorem d_X10_readsEvening_75 : decode cX10_readsEvening 75 = .ok (.iconst 0, 1) := by decide +kernel
theorem d_X10_readsEvening_76 : decode cX10_readsEvening 76 = .ok (.invokevirtual 215, 3) := by decide +kernel
theorem d_X10_readsEvening_79 : decode cX10_readsEvening 79 = .ok (.iastore, 1) := by decide +kernel
theorem d_X10_readsEvening_80 : decode cX10_readsEvening 80 = .ok (.aload_n 0, 1) := by decide +kernel
theorem d_X10_readsEvening_81 : decode cX10_readsEvening 81 = .ok (.getfield 35, 3) := by decide +kernel
theorem d_X10_readsEvening_84 : decode cX10_readsEvening 84 = .ok (.iload_n 1, 1) := by decide +kernel
theorem d_X10_readsEvening_85 : decode cX10_readsEvening 85 = .ok (.iconst 3, 1) := by decide +kernel
theorem d_X10_readsEvening_86 : decode cX10_readsEvening 86 = .ok (.iadd, 1) := by decide +kernel
theorem d_X10_readsEvening_87 : decode cX10_readsEvening 87 = .ok (.iconst 0, 1) := by decide +kernel
theorem d_X10_readsEvening_88 : decode cX10_readsEvening 88 = .ok (.iastore, 1) := by decide +kernel
theorem d_X10_readsEvening_89 : decode cX10_readsEvening 89 = .ok (.aload_n 0, 1) := by decide +kernel
theorem d_X10_readsEvening_90 : decode cX10_readsEvening 90 = .ok (.invokevirtual 187, 3) := by decide +kernel
theorem d_X10_readsEvening_93 : decode cX10_readsEvening 93 = .ok (.ifCond .eq 13, 3) := by decide +kernel
theorem d_X10_readsEvening_96 : decode cX10_readsEvening 96 = .ok (.aload_n 0, 1) := by decide +kernel
theorem d_X10_readsEvening_97 : decode cX10_readsEvening 97 = .ok (.dup, 1) := by decide +kernel
theorem d_X10_readsEvening_98 : decode cX10_readsEvening 98 = .ok (.getfield 212, 3) := by decide +kernel
theorem d_X10_readsEvening_101 : decode cX10_readsEvening 101 = .ok (.iconst 1, 1) := by decide +kernel
theorem d_X10_readsEvening_102 : decode cX10_readsEvening 102 = .ok (.iadd, 1) := by decide +kernel
theorem d_X10_readsEvening_103 : decode cX10_readsEvening 103 = .ok (.putfield 212, 3) := by decide +kernel
theorem d_X10_readsEvening_106 : decode cX10_readsEvening 106 = .ok (.return_, 1) := by decide +kernel
def j_X10_readsEvening_14 (h : AH) : Option (Unit × AH) := bd (s_X10_isGood h) fun x1 => if x1 = 0 then some ((), h) else bd (s_X10_steps h) fun q2 => bd (s_X10_number 0 3 q2.2) fun q3 => bd (stI q3.2 247 (4 * (gI q2.2 240 25)) q3.1) fun m4 => bd (s_X10_number 0 999 m4) fun q5 => bd (stI q5.2 247 ((4 * (gI q2.2 240 25)) + 1) q5.1) fun m6 => bd (s_X10_perhaps 9 0 1000 0 m6) fun q7 => bd (stI q7.2 247 ((4 * (gI q2.2 240 25)) + 2) q7.1) fun m8 => bd (stI m8 247 ((4 * (gI q2.2 240 25)) + 3) 0) fun m9 => bd (s_X10_isGood m9) fun x10 => if x10 = 0 then some ((), m9) else some ((), sI m9 240 25 ((gI m9 240 25) + 1))
theorem tj_X10_readsEvening_14 {g : GP} {X : MX} {mcR msR : Nat} (hF : gF g = true) (hX : Cx g RX10 cX10_readsEvening 6 mcR msR none [] X) {d1 : Value} {h hz : AH} {z : Unit} (e : j_X10_readsEvening_14 h = some (z, hz)) : AR g X 0 0 (QQ g X NT false hz (.inl none) 0 0) h 14 [.ref 240, d1] [] := by
  unfold j_X10_readsEvening_14 at e
  refine aw_aload_n (i := 0) hX rfl rfl d_X10_readsEvening_14 ?_
  obtain ⟨x1, f_1037, e_1037⟩ := bd_some e
  clear e
  refine aw_callV (b := 240) (av := []) (avr := []) hX (k_X10_isGood (cx_g hX) hF f_1037) mi_X10_isGood rfl rfl w_661 w_662 w_663 (by decide) rfl (LAY_lt rfl (by decide)) rfl rfl (Nat.le_of_ble_eq_true rfl) (Nat.zero_le _) (Nat.zero_le _) d_X10_readsEvening_15 ?_
  refine aw_if_ne (t := 22) hX (by decide) d_X10_readsEvening_18 (fun c => ?_) (fun c => ?_)
  · rw [if_neg c] at e_1037
    refine aw_aload_n (i := 0) hX rfl rfl d_X10_readsEvening_22 ?_
    obtain ⟨q2, f_1038, e_1038⟩ := bd_some e_1037
    clear e_1037
    refine aw_callV (b := 240) (av := []) (avr := []) hX (k_X10_steps (cx_g hX) hF f_1038) mi_X10_steps rfl rfl w_669 w_670 w_671 (by decide) rfl (LAY_lt rfl (by decide)) rfl rfl (Nat.le_of_ble_eq_true rfl) (Nat.zero_le _) (Nat.zero_le _) d_X10_readsEvening_23 ?_
    refine aw_iconst (v := 4) hX (by decide) d_X10_readsEvening_26 ?_
    refine aw_aload_n (i := 0) hX rfl rfl d_X10_readsEvening_27 ?_
    refine ar_getI hX fg_RX10_212 rfl d_X10_readsEvening_28 ?_
    refine aw_imul hX d_X10_readsEvening_31 ?_
    refine aw_istore_n (i := 1) (lv2 := [.ref 240, .int (4 * (gI q2.2 240 25))]) hX rfl rfl rfl d_X10_readsEvening_32 ?_
    refine aw_aload_n (i := 0) hX rfl rfl d_X10_readsEvening_33 ?_
    refine ar_getF hX hF fg_RX10_35 rfl d_X10_readsEvening_34 ?_
    show AR g X 0 0 _ _ 37 _ [.ref 247]
    refine aw_iload_n (i := 1) hX rfl rfl d_X10_readsEvening_37 ?_
    refine aw_aload_n (i := 0) hX rfl rfl d_X10_readsEvening_38 ?_
    refine aw_iconst (v := 0) hX (by decide) d_X10_readsEvening_39 ?_
    refine aw_iconst (v := 3) hX (by decide) d_X10_readsEvening_40 ?_
    obtain ⟨q3, f_1039, e_1039⟩ := bd_some e_1038
    clear e_1038
    refine aw_callV (b := 240) (av := [.int 0, .int 3]) (avr := [.int 3, .int 0]) hX (k_X10_number (cx_g hX) hF f_1039) mi_X10_number rfl rfl w_681 w_682 w_683 (by decide) rfl (LAY_lt rfl (by decide)) rfl rfl (Nat.le_of_ble_eq_true rfl) (Nat.zero_le _) (Nat.zero_le _) d_X10_readsEvening_41 ?_
    obtain ⟨m4, f_1040, e_1040⟩ := bd_some e_1039
    clear e_1039
    refine ar_iastore hX f_1040 d_X10_readsEvening_44 ?_
    refine aw_aload_n (i := 0) hX rfl rfl d_X10_readsEvening_45 ?_
    refine ar_getF hX hF fg_RX10_35 rfl d_X10_readsEvening_46 ?_
    show AR g X 0 0 _ _ 49 _ [.ref 247]
    refine aw_iload_n (i := 1) hX rfl rfl d_X10_readsEvening_49 ?_
    refine aw_iconst (v := 1) hX (by decide) d_X10_readsEvening_50 ?_
    refine aw_iadd hX d_X10_readsEvening_51 ?_
    refine aw_aload_n (i := 0) hX rfl rfl d_X10_readsEvening_52 ?_
    refine aw_iconst (v := 0) hX (by decide) d_X10_readsEvening_53 ?_
    refine aw_sipush (v := 999) hX (by decide) d_X10_readsEvening_54 ?_
    obtain ⟨q5, f_1041, e_1041⟩ := bd_some e_1040
    clear e_1040
    refine aw_callV (b := 240) (av := [.int 0, .int 999]) (avr := [.int 999, .int 0]) hX (k_X10_number (cx_g hX) hF f_1041) mi_X10_number rfl rfl w_681 w_682 w_683 (by decide) rfl (LAY_lt rfl (by decide)) rfl rfl (Nat.le_of_ble_eq_true rfl) (Nat.zero_le _) (Nat.zero_le _) d_X10_readsEvening_57 ?_
    obtain ⟨m6, f_1042, e_1042⟩ := bd_some e_1041
    clear e_1041
    refine ar_iastore hX f_1042 d_X10_readsEvening_60 ?_
    refine aw_aload_n (i := 0) hX rfl rfl d_X10_readsEvening_61 ?_
    refine ar_getF hX hF fg_RX10_35 rfl d_X10_readsEvening_62 ?_
    show AR g X 0 0 _ _ 65 _ [.ref 247]
    refine aw_iload_n (i := 1) hX rfl rfl d_X10_readsEvening_65 ?_
    refine aw_iconst (v := 2) hX (by decide) d_X10_readsEvening_66 ?_
    refine aw_iadd hX d_X10_readsEvening_67 ?_
    refine aw_aload_n (i := 0) hX rfl rfl d_X10_readsEvening_68 ?_
    refine aw_bipush (v := 9) hX (by decide) d_X10_readsEvening_69 ?_
    refine aw_iconst (v := 0) hX (by decide) d_X10_readsEvening_71 ?_
    refine aw_sipush (v := 1000) hX (by decide) d_X10_readsEvening_72 ?_
    refine aw_iconst (v := 0) hX (by decide) d_X10_readsEvening_75 ?_
    obtain ⟨q7, f_1043, e_1043⟩ := bd_some e_1042
    clear e_1042
    refine aw_callV (b := 240) (av := [.int 9, .int 0, .int 1000, .int 0]) (avr := [.int 0, .int 1000, .int 0, .int 9]) hX (k_X10_perhaps (cx_g hX) hF f_1043) mi_X10_perhaps rfl rfl w_691 w_692 w_693 (by decide) rfl (LAY_lt rfl (by decide)) rfl rfl (Nat.le_of_ble_eq_true rfl) (Nat.zero_le _) (Nat.zero_le _) d_X10_readsEvening_76 ?_
    obtain ⟨m8, f_1044, e_1044⟩ := bd_some e_1043
    clear e_1043
    refine ar_iastore hX f_1044 d_X10_readsEvening_79 ?_
    refine aw_aload_n (i := 0) hX rfl rfl d_X10_readsEvening_80 ?_
    refine ar_getF hX hF fg_RX10_35 rfl d_X10_readsEvening_81 ?_
    show AR g X 0 0 _ _ 84 _ [.ref 247]
    refine aw_iload_n (i := 1) hX rfl rfl d_X10_readsEvening_84 ?_
    refine aw_iconst (v := 3) hX (by decide) d_X10_readsEvening_85 ?_
    refine aw_iadd hX d_X10_readsEvening_86 ?_
    refine aw_iconst (v := 0) hX (by decide) d_X10_readsEvening_87 ?_
    obtain ⟨m9, f_1045, e_1045⟩ := bd_some e_1044
    clear e_1044
    refine ar_iastore hX f_1045 d_X10_readsEvening_88 ?_
    refine aw_aload_n (i := 0) hX rfl rfl d_X10_readsEvening_89 ?_
    obtain ⟨x10, f_1046, e_1046⟩ := bd_some e_1045
    clear e_1045
    refine aw_callV (b := 240) (av := []) (avr := []) hX (k_X10_isGood (cx_g hX) hF f_1046) mi_X10_isGood rfl rfl w_661 w_662 w_663 (by decide) rfl (LAY_lt rfl (by decide)) rfl rfl (Nat.le_of_ble_eq_true rfl) (Nat.zero_le _) (Nat.zero_le _) d_X10_readsEvening_90 ?_
    refine aw_if_eq (t := 106) hX (by decide) d_X10_readsEvening_93 (fun c => ?_) (fun c => ?_)
    · rw [if_pos c] at e_1046
      cases e_1046
      exact aw_return hX (Nat.zero_le _) (Nat.zero_le _) d_X10_readsEvening_106
    · rw [if_neg c] at e_1046
      refine aw_aload_n (i := 0) hX rfl rfl d_X10_readsEvening_96 ?_
      refine aw_dup hX rfl d_X10_readsEvening_97 ?_
      refine ar_getI hX fg_RX10_212 rfl d_X10_readsEvening_98 ?_
      refine aw_iconst (v := 1) hX (by decide) d_X10_readsEvening_101 ?_
      refine aw_iadd hX d_X10_readsEvening_102 ?_
      refine ar_putI hX fp_RX10_212 rfl d_X10_readsEvening_103 ?_
      cases e_1046
      exact aw_return hX (Nat.zero_le _) (Nat.zero_le _) d_X10_readsEvening_106
  · rw [if_pos c] at e_1037
    cases e_1037
    exact aw_return hX (Nat.zero_le _) (Nat.zero_le _) d_X10_readsEvening_21
def s_X10_readsEvening (h : AH) : Option (Unit × AH) := if (gI h 240 25) = 16 then bd (s_X10_wrong 2 h) fun q11 => j_X10_readsEvening_14 q11.2 else j_X10_readsEvening_14 h
theorem t_X10_readsEvening {g : GP} {X : MX} {mcR msR : Nat} (hF : gF g = true) (hX : Cx g RX10 cX10_readsEvening 6 mcR msR none [] X) {h hz : AH} {z : Unit} (e : s_X10_readsEvening h = some (z, hz)) : AR g X 0 0 (QQ g X NT false hz (.inl none) 0 0) h 0 [.ref 240, jk] [] := by
  unfold s_X10_readsEvening at e
  refine aw_aload_n (i := 0) hX rfl rfl d_X10_readsEvening_0 ?_
  refine ar_getI hX fg_RX10_212 rfl d_X10_readsEvening_1 ?_
  refine aw_bipush (v := 16) hX (by decide) d_X10_readsEvening_4 ?_
  refine aw_icmp_ne (t := 14) hX (by decide) d_X10_readsEvening_6 (fun c => ?_) (fun c => ?_)
  · rw [if_neg c] at e
    exact tj_X10_readsEvening_14 hF hX e
  · rw [if_pos c] at e
    refine aw_aload_n (i := 0) hX rfl rfl d_X10_readsEvening_9 ?_
    refine aw_iconst (v := 2) hX (by decide) d_X10_readsEvening_10 ?_
    obtain ⟨q11, f_1047, e_1047⟩ := bd_some e
    clear e
    refine aw_callV (b := 240) (av := [.int 2]) (avr := [.int 2]) hX (k_X10_wrong (cx_g hX) hF f_1047) mi_X10_wrong rfl rfl w_665 w_666 w_667 (by decide) rfl (LAY_lt rfl (by decide)) rfl rfl (Nat.le_of_ble_eq_true rfl) (Nat.zero_le _) (Nat.zero_le _) d_X10_readsEvening_11 ?_
    exact tj_X10_readsEvening_14 hF hX e_1047
theorem k_X10_readsEvening {g : GP} (hg : g.1.stackTraces = false) (hF : gF g = true) {h hz : AH} {z : Unit} (e : s_X10_readsEvening h = some (z, hz)) : Ctr g yX10_readsEvening (wsY yX10_readsEvening cX10_readsEvening 2 none) 6 0 0 [.ref 240] NT false h none NT false hz := ctr_of (lv0 := [.ref 240, jk]) rfl rfl (by decide) hg trivial (fun X hX hn => t_X10_readsEvening hF hX e)
theorem d_X10_readsPeople_0 : decode cX10_readsPeople 0 = .ok (.aload_n 0, 1) := by decide +kernel
theorem d_X10_readsPeople_1 : decode cX10_readsPeople 1 = .ok (.getfield 219, 3) := by decide +kernel
theorem d_X10_readsPeople_4 : decode cX10_readsPeople 4 = .ok (.bipush 6, 2) := by decide +kernel
theorem d_X10_readsPeople_6 : decode cX10_readsPeople 6 = .ok (.if_icmp .ne 8, 3) := by decide +kernel
theorem d_X10_readsPeople_9 : decode cX10_readsPeople 9 = .ok (.aload_n 0, 1) := by decide +kernel
theorem d_X10_readsPeople_10 : decode cX10_readsPeople 10 = .ok (.iconst 2, 1) := by decide +kernel
theorem d_X10_readsPeople_11 : decode cX10_readsPeople 11 = .ok (.invokevirtual 194, 3) := by decide +kernel
theorem d_X10_readsPeople_14 : decode cX10_readsPeople 14 = .ok (.aload_n 0, 1) := by decide +kernel
theorem d_X10_readsPeople_15 : decode cX10_readsPeople 15 = .ok (.invokevirtual 187, 3) := by decide +kernel
theorem d_X10_readsPeople_18 : decode cX10_readsPeople 18 = .ok (.ifCond .ne 4, 3) := by decide +kernel
theorem d_X10_readsPeople_21 : decode cX10_readsPeople 21 = .ok (.return_, 1) := by decide +kernel
theorem d_X10_readsPeople_22 : decode cX10_readsPeople 22 = .ok (.aload_n 0, 1) := by decide +kernel
theorem d_X10_readsPeople_23 : decode cX10_readsPeople 23 = .ok (.invokevirtual 191, 3) := by decide +kernel
theorem d_X10_readsPeople_26 : decode cX10_readsPeople 26 = .ok (.bipush 11, 2) := by decide +kernel
theorem d_X10_readsPeople_28 : decode cX10_readsPeople 28 = .ok (.aload_n 0, 1) := by decide +kernel
theorem d_X10_readsPeople_29 : decode cX10_readsPeople 29 = .ok (.getfield 219, 3) := by decide +kernel
theorem d_X10_readsPeople_32 : decode cX10_readsPeople 32 = .ok (.imul, 1) := by decide +kernel
theorem d_X10_readsPeople_33 : decode cX10_readsPeople 33 = .ok (.istore_n 1, 1) := by decide +kernel
theorem d_X10_readsPeople_34 : decode cX10_readsPeople 34 = .ok (.aload_n 0, 1) := by decide +kernel
theorem d_X10_readsPeople_35 : decode cX10_readsPeople 35 = .ok (.getfield 38, 3) := by decide +kernel
theorem d_X10_readsPeople_38 : decode cX10_readsPeople 38 = .ok (.iload_n 1, 1) := by decide +kernel
theorem d_X10_readsPeople_39 : decode cX10_readsPeople 39 = .ok (.aload_n 0, 1) := by decide +kernel
theorem d_X10_readsPeople_40 : decode cX10_readsPeople 40 = .ok (.iconst 0, 1) := by decide +kernel
theorem d_X10_readsPeople_41 : decode cX10_readsPeople 41 = .ok (.bipush 60, 2) := by decide +kernel
theorem d_X10_readsPeople_43 : decode cX10_readsPeople 43 = .ok (.invokevirtual 204, 3) := by decide +kernel
theorem d_X10_readsPeople_46 : decode cX10_readsPeople 46 = .ok (.iastore, 1) := by decide +kernel
theorem d_X10_readsPeople_47 : decode cX10_readsPeople 47 = .ok (.aload_n 0, 1) := by decide +kernel
theorem d_X10_readsPeople_48 : decode cX10_readsPeople 48 = .ok (.getfield 38, 3) := by decide +kernel
theorem d_X10_readsPeople_51 : decode cX10_readsPeople 51 = .ok (.iload_n 1, 1) := by decide +kernel
theorem d_X10_readsPeople_52 : decode cX10_readsPeople 52 = .ok (.iconst 1, 1) := by decide +kernel
theorem d_X10_readsPeople_53 : decode cX10_readsPeople 53 = .ok (.iadd, 1) := by decide +kernel
theorem d_X10_readsPeople_54 : decode cX10_readsPeople 54 = .ok (.aload_n 0, 1) := by decide +kernel
theorem d_X10_readsPeople_55 : decode cX10_readsPeople 55 = .ok (.bipush 10, 2) := by decide +kernel
theorem d_X10_readsPeople_57 : decode cX10_readsPeople 57 = .ok (.iconst 0, 1) := by decide +kernel
theorem d_X10_readsPeople_58 : decode cX10_readsPeople 58 = .ok (.sipush 1000, 3) := by decide +kernel
theorem d_X10_readsPeople_61 : decode cX10_readsPeople 61 = .ok (.invokevirtual 208, 3) := by decide +kernel
theorem d_X10_readsPeople_64 : decode cX10_readsPeople 64 = .ok (.iastore, 1) := by decide +kernel
theorem d_X10_readsPeople_65 : decode cX10_readsPeople 65 = .ok (.aload_n 0, 1) := by decide +kernel
theorem d_X10_readsPeople_66 : decode cX10_readsPeople 66 = .ok (.getfield 38, 3) := by decide +kernel
theorem d_X10_readsPeople_69 : decode cX10_readsPeople 69 = .ok (.iload_n 1, 1) := by decide +kernel
theorem d_X10_readsPeople_70 : decode cX10_readsPeople 70 = .ok (.iconst 2, 1) := by decide +kernel
theorem d_X10_readsPeople_71 : decode cX10_readsPeople 71 = .ok (.iadd, 1) := by decide +kernel
theorem d_X10_readsPeople_72 : decode cX10_readsPeople 72 = .ok (.aload_n 0, 1) := by decide +kernel
theorem d_X10_readsPeople_73 : decode cX10_readsPeople 73 = .ok (.bipush 11, 2) := by decide +kernel
theorem d_X10_readsPeople_75 : decode cX10_readsPeople 75 = .ok (.iconst 0, 1) := by decide +kernel
theorem d_X10_readsPeople_76 : decode cX10_readsPeople 76 = .ok (.sipush 1000, 3) := by decide +kernel
theorem d_X10_readsPeople_79 : decode cX10_readsPeople 79 = .ok (.aload_n 0, 1) := by decide +kernel
theorem d_X10_readsPeople_80 : decode cX10_readsPeople 80 = .ok (.getfield 38, 3) := by decide +kernel
theorem d_X10_readsPeople_83 : decode cX10_readsPeople 83 = .ok (.iload_n 1, 1) := by decide +kernel
theorem d_X10_readsPeople_84 : decode cX10_readsPeople 84 = .ok (.iconst 1, 1) := by decide +kernel
theorem d_X10_readsPeople_85 : decode cX10_readsPeople 85 = .ok (.iadd, 1) := by decide +kernel
theorem d_X10_readsPeople_86 : decode cX10_readsPeople 86 = .ok (.iaload, 1) := by decide +kernel
theorem d_X10_readsPeople_87 : decode cX10_readsPeople 87 = .ok (.invokevirtual 215, 3) := by decide +kernel
theorem d_X10_readsPeople_90 : decode cX10_readsPeople 90 = .ok (.iastore, 1) := by decide +kernel
theorem d_X10_readsPeople_91 : decode cX10_readsPeople 91 = .ok (.aload_n 0, 1) := by decide +kernel
theorem d_X10_readsPeople_92 : decode cX10_readsPeople 92 = .ok (.getfield 38, 3) := by decide +kernel
theorem d_X10_readsPeople_95 : decode cX10_readsPeople 95 = .ok (.iload_n 1, 1) := by decide +kernel
theorem d_X10_readsPeople_96 : decode cX10_readsPeople 96 = .ok (.iconst 3, 1) := by decide +kernel
theorem d_X10_readsPeople_97 : decode cX10_readsPeople 97 = .ok (.iadd, 1) := by decide +kernel
theorem d_X10_readsPeople_98 : decode cX10_readsPeople 98 = .ok (.aload_n 0, 1) := by decide +kernel
theorem d_X10_readsPeople_99 : decode cX10_readsPeople 99 = .ok (.bipush 12, 2) := by decide +kernel
theorem d_X10_readsPeople_101 : decode cX10_readsPeople 101 = .ok (.iconst 0, 1) := by decide +kernel
theorem d_X10_readsPeople_102 : decode cX10_readsPeople 102 = .ok (.sipush 1000, 3) := by decide +kernel
theorem d_X10_readsPeople_105 : decode cX10_readsPeople 105 = .ok (.iconst 0, 1) := by decide +kernel
theorem d_X10_readsPeople_106 : decode cX10_readsPeople 106 = .ok (.invokevirtual 215, 3) := by decide +kernel
theorem d_X10_readsPeople_109 : decode cX10_readsPeople 109 = .ok (.iastore, 1) := by decide +kernel
theorem d_X10_readsPeople_110 : decode cX10_readsPeople 110 = .ok (.aload_n 0, 1) := by decide +kernel
theorem d_X10_readsPeople_111 : decode cX10_readsPeople 111 = .ok (.getfield 38, 3) := by decide +kernel
theorem d_X10_readsPeople_114 : decode cX10_readsPeople 114 = .ok (.iload_n 1, 1) := by decide +kernel
theorem d_X10_readsPeople_115 : decode cX10_readsPeople 115 = .ok (.iconst 4, 1) := by decide +kernel
theorem d_X10_readsPeople_116 : decode cX10_readsPeople 116 = .ok (.iadd, 1) := by decide +kernel
theorem d_X10_readsPeople_117 : decode cX10_readsPeople 117 = .ok (.aload_n 0, 1) := by decide +kernel
theorem d_X10_readsPeople_118 : decode cX10_readsPeople 118 = .ok (.bipush 13, 2) := by decide +kernel
theorem d_X10_readsPeople_120 : decode cX10_readsPeople 120 = .ok (.iconst 0, 1) := by decide +kernel
theorem d_X10_readsPeople_121 : decode cX10_readsPeople 121 = .ok (.sipush 1000, 3) := by decide +kernel
theorem d_X10_readsPeople_124 : decode cX10_readsPeople 124 = .ok (.iconst 0, 1) := by decide +kernel
theorem d_X10_readsPeople_125 : decode cX10_readsPeople 125 = .ok (.invokevirtual 215, 3) := by decide +kernel
theorem d_X10_readsPeople_128 : decode cX10_readsPeople 128 = .ok (.iastore, 1) := by decide +kernel
theorem d_X10_readsPeople_129 : decode cX10_readsPeople 129 = .ok (.aload_n 0, 1) := by decide +kernel
theorem d_X10_readsPeople_130 : decode cX10_readsPeople 130 = .ok (.getfield 38, 3) := by decide +kernel
theorem d_X10_readsPeople_133 : decode cX10_readsPeople 133 = .ok (.iload_n 1, 1) := by decide +kernel
theorem d_X10_readsPeople_134 : decode cX10_readsPeople 134 = .ok (.iconst 5, 1) := by decide +kernel
theorem d_X10_readsPeople_135 : decode cX10_readsPeople 135 = .ok (.iadd, 1) := by decide +kernel
theorem d_X10_readsPeople_136 : decode cX10_readsPeople 136 = .ok (.aload_n 0, 1) := by decide +kernel
theorem d_X10_readsPeople_137 : decode cX10_readsPeople 137 = .ok (.bipush 14, 2) := by decide +kernel
theorem d_X10_readsPeople_139 : decode cX10_readsPeople 139 = .ok (.iconst 0, 1) := by decide +kernel
theorem d_X10_readsPeople_140 : decode cX10_readsPeople 140 = .ok (.sipush 500, 3) := by decide +kernel
theorem d_X10_readsPeople_143 : decode cX10_readsPeople 143 = .ok (.iconst 0, 1) := by decide +kernel
theorem d_X10_readsPeople_144 : decode cX10_readsPeople 144 = .ok (.invokevirtual 215, 3) := by decide +kernel
theorem d_X10_readsPeople_147 : decode cX10_readsPeople 147 = .ok (.iastore, 1) := by decide +kernel
theorem d_X10_readsPeople_148 : decode cX10_readsPeople 148 = .ok (.aload_n 0, 1) := by decide +kernel
theorem d_X10_readsPeople_149 : decode cX10_readsPeople 149 = .ok (.aload_n 0, 1) := by decide +kernel
theorem d_X10_readsPeople_150 : decode cX10_readsPeople 150 = .ok (.bipush 15, 2) := by decide +kernel
theorem d_X10_readsPeople_152 : decode cX10_readsPeople 152 = .ok (.invokevirtual 197, 3) := by decide +kernel
theorem d_X10_readsPeople_155 : decode cX10_readsPeople 155 = .ok (.invokevirtual 200, 3) := by decide +kernel
theorem d_X10_readsPeople_158 : decode cX10_readsPeople 158 = .ok (.iconst 0, 1) := by decide +kernel
theorem d_X10_readsPeople_159 : decode cX10_readsPeople 159 = .ok (.istore_n 2, 1) := by decide +kernel
theorem d_X10_readsPeople_160 : decode cX10_readsPeople 160 = .ok (.iload_n 2, 1) := by decide +kernel
theorem d_X10_readsPeople_161 : decode cX10_readsPeople 161 = .ok (.iconst 4, 1) := by decide +kernel
theorem d_X10_readsPeople_162 : decode cX10_readsPeople 162 = .ok (.if_icmp .ge 28, 3) := by decide +kernel
theorem d_X10_readsPeople_165 : decode cX10_readsPeople 165 = .ok (.aload_n 0, 1) := by decide +kernel
theorem d_X10_readsPeople_166 : decode cX10_readsPeople 166 = .ok (.getfield 38, 3) := by decide +kernel
theorem d_X10_readsPeople_169 : decode cX10_readsPeople 169 = .ok (.iload_n 1, 1) := by decide +kernel
theorem d_X10_readsPeople_170 : decode cX10_readsPeople 170 = .ok (.bipush 6, 2) := by decide +kernel
theorem d_X10_readsPeople_172 : decode cX10_readsPeople 172 = .ok (.iadd, 1) := by decide +kernel
theorem d_X10_readsPeople_173 : decode cX10_readsPeople 173 = .ok (.iload_n 2, 1) := by decide +kernel
theorem d_X10_readsPeople_174 : decode cX10_readsPeople 174 = .ok (.iadd, 1) := by decide +kernel
theorem d_X10_readsPeople_175 : decode cX10_readsPeople 175 = .ok (.aload_n 0, 1) := by decide +kernel
theorem d_X10_readsPeople_176 : decode cX10_readsPeople 176 = .ok (.iconst 0, 1) := by decide +kernel
theorem d_X10_readsPeople_177 : decode cX10_readsPeople 177 = .ok (.sipush 999, 3) := by decide +kernel
theorem d_X10_readsPeople_180 : decode cX10_readsPeople 180 = .ok (.invokevirtual 204, 3) := by decide +kernel
theorem d_X10_readsPeople_183 : decode cX10_readsPeople 183 = .ok (.iastore, 1) := by decide +kernel
theorem d_X10_readsPeople_184 : decode cX10_readsPeople 184 = .ok (.iinc 2 1, 3) := by decide +kernel
theorem d_X10_readsPeople_187 : decode cX10_readsPeople 187 = .ok (.goto (-27), 3) := by decide +kernel
theorem d_X10_readsPeople_190 : decode cX10_readsPeople 190 = .ok (.aload_n 0, 1) := by decide +kernel
theorem d_X10_readsPeople_191 : decode cX10_readsPeople 191 = .ok (.invokevirtual 187, 3) := by decide +kernel
theorem d_X10_readsPeople_194 : decode cX10_readsPeople 194 = .ok (.ifCond .eq 16, 3) := by decide +kernel
theorem d_X10_readsPeople_197 : decode cX10_readsPeople 197 = .ok (.aload_n 0, 1) := by decide +kernel
theorem d_X10_readsPeople_198 : decode cX10_readsPeople 198 = .ok (.bipush 16, 2) := by decide +kernel
theorem d_X10_readsPeople_200 : decode cX10_readsPeople 200 = .ok (.invokevirtual 197, 3) := by decide +kernel
theorem d_X10_readsPeople_203 : decode cX10_readsPeople 203 = .ok (.ifCond .eq 7, 3) := by decide +kernel
theorem d_X10_readsPeople_206 : decode cX10_readsPeople 206 = .ok (.iconst 1, 1) := by decide +kernel
theorem d_X10_readsPeople_207 : decode cX10_readsPeople 207 = .ok (.goto 4, 3) := by decide +kernel
theorem d_X10_readsPeople_210 : decode cX10_readsPeople 210 = .ok (.iconst 0, 1) := by decide +kernel
theorem d_X10_readsPeople_211 : decode cX10_readsPeople 211 = .ok (.istore_n 2, 1) := by decide +kernel
theorem d_X10_readsPeople_212 : decode cX10_readsPeople 212 = .ok (.iload_n 2, 1) := by decide +kernel
theorem d_X10_readsPeople_213 : decode cX10_readsPeople 213 = .ok (.ifCond .eq 7, 3) := by decide +kernel
theorem d_X10_readsPeople_216 : decode cX10_readsPeople 216 = .ok (.aload_n 0, 1) := by decide +kernel
theorem d_X10_readsPeople_217 : decode cX10_readsPeople 217 = .ok (.invokevirtual 191, 3) := by decide +kernel
theorem d_X10_readsPeople_220 : decode cX10_readsPeople 220 = .ok (.aload_n 0, 1) := by decide +kernel
theorem d_X10_readsPeople_221 : decode cX10_readsPeople 221 = .ok (.getfield 38, 3) := by decide +kernel
theorem d_X10_readsPeople_224 : decode cX10_readsPeople 224 = .ok (.iload_n 1, 1) := by decide +kernel
theorem d_X10_readsPeople_225 : decode cX10_readsPeople 225 = .ok (.bipush 10, 2) := by decide +kernel
theorem d_X10_readsPeople_227 : decode cX10_readsPeople 227 = .ok (.iadd, 1) := by decide +kernel
theorem d_X10_readsPeople_228 : decode cX10_readsPeople 228 = .ok (.iload_n 2, 1) := by decide +kernel
theorem d_X10_readsPeople_229 : decode cX10_readsPeople 229 = .ok (.ifCond .eq 7, 3) := by decide +kernel
theorem d_X10_readsPeople_232 : decode cX10_readsPeople 232 = .ok (.iconst 1, 1) := by decide +kernel
theorem d_X10_readsPeople_233 : decode cX10_readsPeople 233 = .ok (.goto 4, 3) := by decide +kernel
theorem d_X10_readsPeople_236 : decode cX10_readsPeople 236 = .ok (.iconst 0, 1) := by decide +kernel
theorem d_X10_readsPeople_237 : decode cX10_readsPeople 237 = .ok (.iastore, 1) := by decide +kernel
theorem d_X10_readsPeople_238 : decode cX10_readsPeople 238 = .ok (.aload_n 0, 1) := by decide +kernel
theorem d_X10_readsPeople_239 : decode cX10_readsPeople 239 = .ok (.invokevirtual 187, 3) := by decide +kernel
theorem d_X10_readsPeople_242 : decode cX10_readsPeople 242 = .ok (.ifCond .eq 13, 3) := by decide +kernel
theorem d_X10_readsPeople_245 : decode cX10_readsPeople 245 = .ok (.aload_n 0, 1) := by decide +kernel
theorem d_X10_readsPeople_246 : decode cX10_readsPeople 246 = .ok (.dup, 1) := by decide +kernel
theorem d_X10_readsPeople_247 : decode cX10_readsPeople 247 = .ok (.getfield 219, 3) := by decide +kernel
theorem d_X10_readsPeople_250 : decode cX10_readsPeople 250 = .ok (.iconst 1, 1) := by decide +kernel
theorem d_X10_readsPeople_251 : decode cX10_readsPeople 251 = .ok (.iadd, 1) := by decide +kernel
theorem d_X10_readsPeople_252 : decode cX10_readsPeople 252 = .ok (.putfield 219, 3) := by decide +kernel
theorem d_X10_readsPeople_255 : decode cX10_readsPeople 255 = .ok (.return_, 1) := by decide +kernel
def l_X10_readsPeople_160 (p1 : Int32) (s : Int32) (h : AH) : Option ((Int32 ⊕ Unit) × AH) := if 4 ≤ s then some (.inr (), h) else bd (s_X10_number 0 999 h) fun q18 => bd (stI q18.2 248 ((p1 + 6) + s) q18.1) fun m19 => some (.inl (s + 1), m19)
theorem tb_X10_readsPeople_160 {g : GP} {X : MX} {mcR msR : Nat} (hF : gF g = true) (hX : Cx g RX10 cX10_readsPeople 6 mcR msR none [] X) {Q : State → Prop} {p1 : Int32} {s : Int32} {h hz : AH} {z : (Int32 ⊕ Unit)} (e : l_X10_readsPeople_160 p1 s h = some (z, hz)) (kI : ∀ (s2 : Int32), z = .inl s2 → AR g X 0 0 Q hz 160 [.ref 240, .int p1, .int s2] []) (kE0 : ∀ (yy : Unit) (y2 : Value), z = .inr yy → AR g X 0 0 Q hz 190 [.ref 240, .int p1, y2] []) : AR g X 0 0 Q h 160 [.ref 240, .int p1, .int s] [] := by
  unfold l_X10_readsPeople_160 at e
  refine aw_iload_n (i := 2) hX rfl rfl d_X10_readsPeople_160 ?_
  refine aw_iconst (v := 4) hX (by decide) d_X10_readsPeople_161 ?_
  refine aw_icmp_ge (t := 190) hX (by decide) d_X10_readsPeople_162 (fun c => ?_) (fun c => ?_)
  · rw [if_pos c] at e
    cases e
    exact kE0 () _ rfl
  · rw [if_neg c] at e
    refine aw_aload_n (i := 0) hX rfl rfl d_X10_readsPeople_165 ?_
    refine ar_getF hX hF fg_RX10_38 rfl d_X10_readsPeople_166 ?_
    show AR g X 0 0 _ _ 169 _ [.ref 248]
    refine aw_iload_n (i := 1) hX rfl rfl d_X10_readsPeople_169 ?_
    refine aw_bipush (v := 6) hX (by decide) d_X10_readsPeople_170 ?_
    refine aw_iadd hX d_X10_readsPeople_172 ?_
    refine aw_iload_n (i := 2) hX rfl rfl d_X10_readsPeople_173 ?_
    refine aw_iadd hX d_X10_readsPeople_174 ?_
    refine aw_aload_n (i := 0) hX rfl rfl d_X10_readsPeople_175 ?_
    refine aw_iconst (v := 0) hX (by decide) d_X10_readsPeople_176 ?_
    refine aw_sipush (v := 999) hX (by decide) d_X10_readsPeople_177 ?_
    obtain ⟨q18, f_1048, e_1048⟩ := bd_some e
    clear e
    refine aw_callV (b := 240) (av := [.int 0, .int 999]) (avr := [.int 999, .int 0]) hX (k_X10_number (cx_g hX) hF f_1048) mi_X10_number rfl rfl w_681 w_682 w_683 (by decide) rfl (LAY_lt rfl (by decide)) rfl rfl (Nat.le_of_ble_eq_true rfl) (Nat.zero_le _) (Nat.zero_le _) d_X10_readsPeople_180 ?_
    obtain ⟨m19, f_1049, e_1049⟩ := bd_some e_1048
    clear e_1048
    refine ar_iastore hX f_1049 d_X10_readsPeople_183 ?_
    refine aw_iinc (i := 2) (lv2 := [.ref 240, .int p1, .int (s + 1)]) hX rfl rfl rfl rfl d_X10_readsPeople_184 ?_
    refine aw_goto (t := 160) hX (by decide) d_X10_readsPeople_187 ?_
    cases e_1049
    exact kI (s + 1)  rfl
theorem ti_X10_readsPeople_160 {g : GP} {X : MX} {mcR msR : Nat} (hF : gF g = true) (hX : Cx g RX10 cX10_readsPeople 6 mcR msR none [] X) {Q : State → Prop} {p1 : Int32} {y : Unit} {hz : AH} (kE0 : ∀ (y_2 : Value), AR g X 0 0 Q hz 190 [.ref 240, .int p1, y_2] []) (n : Nat) : ∀ (s : Int32) (h : AH), lpH (l_X10_readsPeople_160 p1) n s h = some (y, hz) → AR g X 0 0 Q h 160 [.ref 240, .int p1, .int s] [] := by
  induction n with
  | zero => intro s h e; cases e
  | succ n ih =>
    intro s h e
    obtain ⟨x, h1, e1, e2⟩ := lpH_succ e
    rcases e2 with ⟨s2, rfl, e3⟩ | ⟨rfl, rfl⟩
    · exact tb_X10_readsPeople_160 hF hX e1 (fun s3  hs => by cases hs; exact ih _  _ e3) (fun yy x0 hy => by cases hy)
    · exact tb_X10_readsPeople_160 hF hX e1 (fun s3  hs => by cases hs) (fun yy x0 hy => by cases hy; exact kE0 x0)
theorem t_X10_readsPeople_160 {g : GP} {X : MX} {mcR msR : Nat} (hF : gF g = true) (hX : Cx g RX10 cX10_readsPeople 6 mcR msR none [] X) {Q : State → Prop} {p1 : Int32} {s : Int32} {h hz : AH} {n : Nat} {y : Unit} (e : lpH (l_X10_readsPeople_160 p1) n s h = some (y, hz)) (kE0 : ∀ (y_2 : Value), AR g X 0 0 Q hz 190 [.ref 240, .int p1, y_2] []) : AR g X 0 0 Q h 160 [.ref 240, .int p1, .int s] [] := ti_X10_readsPeople_160 hF hX kE0 n _  _ e
def j_X10_readsPeople_237 (k0 : Int32) (k1 : Int32) (h : AH) : Option (Unit × AH) := bd (stI h 248 k1 k0) fun m23 => bd (s_X10_isGood m23) fun x24 => if x24 = 0 then some ((), m23) else some ((), sI m23 240 26 ((gI m23 240 26) + 1))
theorem tj_X10_readsPeople_237 {g : GP} {X : MX} {mcR msR : Nat} (hF : gF g = true) (hX : Cx g RX10 cX10_readsPeople 6 mcR msR none [] X) {k0 : Int32} {k1 : Int32} {d1 : Value} {d2 : Value} {h hz : AH} {z : Unit} (e : j_X10_readsPeople_237 k0 k1 h = some (z, hz)) : AR g X 0 0 (QQ g X NT false hz (.inl none) 0 0) h 237 [.ref 240, d1, d2] [.int k0, .int k1, .ref 248] := by
  unfold j_X10_readsPeople_237 at e
  obtain ⟨m23, f_1050, e_1050⟩ := bd_some e
  clear e
  refine ar_iastore hX f_1050 d_X10_readsPeople_237 ?_
  refine aw_aload_n (i := 0) hX rfl rfl d_X10_readsPeople_238 ?_
  obtain ⟨x24, f_1051, e_1051⟩ := bd_some e_1050
  clear e_1050
  refine aw_callV (b := 240) (av := []) (avr := []) hX (k_X10_isGood (cx_g hX) hF f_1051) mi_X10_isGood rfl rfl w_661 w_662 w_663 (by decide) rfl (LAY_lt rfl (by decide)) rfl rfl (Nat.le_of_ble_eq_true rfl) (Nat.zero_le _) (Nat.zero_le _) d_X10_readsPeople_239 ?_
  refine aw_if_eq (t := 255) hX (by decide) d_X10_readsPeople_242 (fun c => ?_) (fun c => ?_)
  · rw [if_pos c] at e_1051
    cases e_1051
    exact aw_return hX (Nat.zero_le _) (Nat.zero_le _) d_X10_readsPeople_255
  · rw [if_neg c] at e_1051
    refine aw_aload_n (i := 0) hX rfl rfl d_X10_readsPeople_245 ?_
    refine aw_dup hX rfl d_X10_readsPeople_246 ?_
    refine ar_getI hX fg_RX10_219 rfl d_X10_readsPeople_247 ?_
    refine aw_iconst (v := 1) hX (by decide) d_X10_readsPeople_250 ?_
    refine aw_iadd hX d_X10_readsPeople_251 ?_
    refine ar_putI hX fp_RX10_219 rfl d_X10_readsPeople_252 ?_
    cases e_1051
    exact aw_return hX (Nat.zero_le _) (Nat.zero_le _) d_X10_readsPeople_255
def j_X10_readsPeople_220 (v1 : Int32) (v2 : Int32) (h : AH) : Option (Unit × AH) := if v2 = 0 then j_X10_readsPeople_237 0 (v1 + 10) h else j_X10_readsPeople_237 1 (v1 + 10) h
theorem tj_X10_readsPeople_220 {g : GP} {X : MX} {mcR msR : Nat} (hF : gF g = true) (hX : Cx g RX10 cX10_readsPeople 6 mcR msR none [] X) {v1 : Int32} {v2 : Int32} {h hz : AH} {z : Unit} (e : j_X10_readsPeople_220 v1 v2 h = some (z, hz)) : AR g X 0 0 (QQ g X NT false hz (.inl none) 0 0) h 220 [.ref 240, .int v1, .int v2] [] := by
  unfold j_X10_readsPeople_220 at e
  refine aw_aload_n (i := 0) hX rfl rfl d_X10_readsPeople_220 ?_
  refine ar_getF hX hF fg_RX10_38 rfl d_X10_readsPeople_221 ?_
  show AR g X 0 0 _ _ 224 _ [.ref 248]
  refine aw_iload_n (i := 1) hX rfl rfl d_X10_readsPeople_224 ?_
  refine aw_bipush (v := 10) hX (by decide) d_X10_readsPeople_225 ?_
  refine aw_iadd hX d_X10_readsPeople_227 ?_
  refine aw_iload_n (i := 2) hX rfl rfl d_X10_readsPeople_228 ?_
  refine aw_if_eq (t := 236) hX (by decide) d_X10_readsPeople_229 (fun c => ?_) (fun c => ?_)
  · rw [if_pos c] at e
    refine aw_iconst (v := 0) hX (by decide) d_X10_readsPeople_236 ?_
    exact tj_X10_readsPeople_237 hF hX e
  · rw [if_neg c] at e
    refine aw_iconst (v := 1) hX (by decide) d_X10_readsPeople_232 ?_
    refine aw_goto (t := 237) hX (by decide) d_X10_readsPeople_233 ?_
    exact tj_X10_readsPeople_237 hF hX e
def j_X10_readsPeople_211 (v1 : Int32) (k0 : Int32) (h : AH) : Option (Unit × AH) := if k0 = 0 then j_X10_readsPeople_220 v1 k0 h else bd (s_X10_steps h) fun q25 => j_X10_readsPeople_220 v1 k0 q25.2
theorem tj_X10_readsPeople_211 {g : GP} {X : MX} {mcR msR : Nat} (hF : gF g = true) (hX : Cx g RX10 cX10_readsPeople 6 mcR msR none [] X) {v1 : Int32} {k0 : Int32} {d2 : Value} {h hz : AH} {z : Unit} (e : j_X10_readsPeople_211 v1 k0 h = some (z, hz)) : AR g X 0 0 (QQ g X NT false hz (.inl none) 0 0) h 211 [.ref 240, .int v1, d2] [.int k0] := by
  unfold j_X10_readsPeople_211 at e
  refine aw_istore_n (i := 2) (lv2 := [.ref 240, .int v1, .int k0]) hX rfl rfl rfl d_X10_readsPeople_211 ?_
  refine aw_iload_n (i := 2) hX rfl rfl d_X10_readsPeople_212 ?_
  refine aw_if_eq (t := 220) hX (by decide) d_X10_readsPeople_213 (fun c => ?_) (fun c => ?_)
  · rw [if_pos c] at e
    exact tj_X10_readsPeople_220 hF hX e
  · rw [if_neg c] at e
    refine aw_aload_n (i := 0) hX rfl rfl d_X10_readsPeople_216 ?_
    obtain ⟨q25, f_1052, e_1052⟩ := bd_some e
    clear e
    refine aw_callV (b := 240) (av := []) (avr := []) hX (k_X10_steps (cx_g hX) hF f_1052) mi_X10_steps rfl rfl w_669 w_670 w_671 (by decide) rfl (LAY_lt rfl (by decide)) rfl rfl (Nat.le_of_ble_eq_true rfl) (Nat.zero_le _) (Nat.zero_le _) d_X10_readsPeople_217 ?_
    exact tj_X10_readsPeople_220 hF hX e_1052
def j_X10_readsPeople_210 (v1 : Int32) (h : AH) : Option (Unit × AH) := j_X10_readsPeople_211 v1 0 h
theorem tj_X10_readsPeople_210 {g : GP} {X : MX} {mcR msR : Nat} (hF : gF g = true) (hX : Cx g RX10 cX10_readsPeople 6 mcR msR none [] X) {v1 : Int32} {d2 : Value} {h hz : AH} {z : Unit} (e : j_X10_readsPeople_210 v1 h = some (z, hz)) : AR g X 0 0 (QQ g X NT false hz (.inl none) 0 0) h 210 [.ref 240, .int v1, d2] [] := by
  unfold j_X10_readsPeople_210 at e
  refine aw_iconst (v := 0) hX (by decide) d_X10_readsPeople_210 ?_
  exact tj_X10_readsPeople_211 hF hX e
def j_X10_readsPeople_14 (h : AH) : Option (Unit × AH) := bd (s_X10_isGood h) fun x1 => if x1 = 0 then some ((), h) else bd (s_X10_steps h) fun q2 => bd (s_X10_number 0 60 q2.2) fun q3 => bd (stI q3.2 248 (11 * (gI q2.2 240 26)) q3.1) fun m4 => bd (s_X10_named 10 0 1000 m4) fun q5 => bd (stI q5.2 248 ((11 * (gI q2.2 240 26)) + 1) q5.1) fun m6 => bd (ldI m6 248 ((11 * (gI q2.2 240 26)) + 1)) fun x7 => bd (s_X10_perhaps 11 0 1000 x7 m6) fun q8 => bd (stI q8.2 248 ((11 * (gI q2.2 240 26)) + 2) q8.1) fun m9 => bd (s_X10_perhaps 12 0 1000 0 m9) fun q10 => bd (stI q10.2 248 ((11 * (gI q2.2 240 26)) + 3) q10.1) fun m11 => bd (s_X10_perhaps 13 0 1000 0 m11) fun q12 => bd (stI q12.2 248 ((11 * (gI q2.2 240 26)) + 4) q12.1) fun m13 => bd (s_X10_perhaps 14 0 500 0 m13) fun q14 => bd (stI q14.2 248 ((11 * (gI q2.2 240 26)) + 5) q14.1) fun m15 => bd (s_X10_is 15 m15) fun x16 => bd (s_X10_need x16 m15) fun q17 => bd (lpH (l_X10_readsPeople_160 (11 * (gI q2.2 240 26))) FU 0 q17.2) fun y20 => bd (s_X10_isGood y20.2) fun x22 => if x22 = 0 then j_X10_readsPeople_210 (11 * (gI q2.2 240 26)) y20.2 else bd (s_X10_is 16 y20.2) fun x26 => if x26 = 0 then j_X10_readsPeople_210 (11 * (gI q2.2 240 26)) y20.2 else j_X10_readsPeople_211 (11 * (gI q2.2 240 26)) 1 y20.2
theorem tj_X10_readsPeople_14 {g : GP} {X : MX} {mcR msR : Nat} (hF : gF g = true) (hX : Cx g RX10 cX10_readsPeople 6 mcR msR none [] X) {d1 : Value} {d2 : Value} {h hz : AH} {z : Unit} (e : j_X10_readsPeople_14 h = some (z, hz)) : AR g X 0 0 (QQ g X NT false hz (.inl none) 0 0) h 14 [.ref 240, d1, d2] [] := by
  unfold j_X10_readsPeople_14 at e
  refine aw_aload_n (i := 0) hX rfl rfl d_X10_readsPeople_14 ?_
  obtain ⟨x1, f_1053, e_1053⟩ := bd_some e
  clear e
  refine aw_callV (b := 240) (av := []) (avr := []) hX (k_X10_isGood (cx_g hX) hF f_1053) mi_X10_isGood rfl rfl w_661 w_662 w_663 (by decide) rfl (LAY_lt rfl (by decide)) rfl rfl (Nat.le_of_ble_eq_true rfl) (Nat.zero_le _) (Nat.zero_le _) d_X10_readsPeople_15 ?_
  refine aw_if_ne (t := 22) hX (by decide) d_X10_readsPeople_18 (fun c => ?_) (fun c => ?_)
  · rw [if_neg c] at e_1053
    refine aw_aload_n (i := 0) hX rfl rfl d_X10_readsPeople_22 ?_
    obtain ⟨q2, f_1054, e_1054⟩ := bd_some e_1053
    clear e_1053
    refine aw_callV (b := 240) (av := []) (avr := []) hX (k_X10_steps (cx_g hX) hF f_1054) mi_X10_steps rfl rfl w_669 w_670 w_671 (by decide) rfl (LAY_lt rfl (by decide)) rfl rfl (Nat.le_of_ble_eq_true rfl) (Nat.zero_le _) (Nat.zero_le _) d_X10_readsPeople_23 ?_
    refine aw_bipush (v := 11) hX (by decide) d_X10_readsPeople_26 ?_
    refine aw_aload_n (i := 0) hX rfl rfl d_X10_readsPeople_28 ?_
    refine ar_getI hX fg_RX10_219 rfl d_X10_readsPeople_29 ?_
    refine aw_imul hX d_X10_readsPeople_32 ?_
    refine aw_istore_n (i := 1) (lv2 := [.ref 240, .int (11 * (gI q2.2 240 26)), d2]) hX rfl rfl rfl d_X10_readsPeople_33 ?_
    refine aw_aload_n (i := 0) hX rfl rfl d_X10_readsPeople_34 ?_
    refine ar_getF hX hF fg_RX10_38 rfl d_X10_readsPeople_35 ?_
    show AR g X 0 0 _ _ 38 _ [.ref 248]
    refine aw_iload_n (i := 1) hX rfl rfl d_X10_readsPeople_38 ?_
    refine aw_aload_n (i := 0) hX rfl rfl d_X10_readsPeople_39 ?_
    refine aw_iconst (v := 0) hX (by decide) d_X10_readsPeople_40 ?_
    refine aw_bipush (v := 60) hX (by decide) d_X10_readsPeople_41 ?_
    obtain ⟨q3, f_1055, e_1055⟩ := bd_some e_1054
    clear e_1054
    refine aw_callV (b := 240) (av := [.int 0, .int 60]) (avr := [.int 60, .int 0]) hX (k_X10_number (cx_g hX) hF f_1055) mi_X10_number rfl rfl w_681 w_682 w_683 (by decide) rfl (LAY_lt rfl (by decide)) rfl rfl (Nat.le_of_ble_eq_true rfl) (Nat.zero_le _) (Nat.zero_le _) d_X10_readsPeople_43 ?_
    obtain ⟨m4, f_1056, e_1056⟩ := bd_some e_1055
    clear e_1055
    refine ar_iastore hX f_1056 d_X10_readsPeople_46 ?_
    refine aw_aload_n (i := 0) hX rfl rfl d_X10_readsPeople_47 ?_
    refine ar_getF hX hF fg_RX10_38 rfl d_X10_readsPeople_48 ?_
    show AR g X 0 0 _ _ 51 _ [.ref 248]
    refine aw_iload_n (i := 1) hX rfl rfl d_X10_readsPeople_51 ?_
    refine aw_iconst (v := 1) hX (by decide) d_X10_readsPeople_52 ?_
    refine aw_iadd hX d_X10_readsPeople_53 ?_
    refine aw_aload_n (i := 0) hX rfl rfl d_X10_readsPeople_54 ?_
    refine aw_bipush (v := 10) hX (by decide) d_X10_readsPeople_55 ?_
    refine aw_iconst (v := 0) hX (by decide) d_X10_readsPeople_57 ?_
    refine aw_sipush (v := 1000) hX (by decide) d_X10_readsPeople_58 ?_
    obtain ⟨q5, f_1057, e_1057⟩ := bd_some e_1056
    clear e_1056
    refine aw_callV (b := 240) (av := [.int 10, .int 0, .int 1000]) (avr := [.int 1000, .int 0, .int 10]) hX (k_X10_named (cx_g hX) hF f_1057) mi_X10_named rfl rfl w_685 w_686 w_687 (by decide) rfl (LAY_lt rfl (by decide)) rfl rfl (Nat.le_of_ble_eq_true rfl) (Nat.zero_le _) (Nat.zero_le _) d_X10_readsPeople_61 ?_
    obtain ⟨m6, f_1058, e_1058⟩ := bd_some e_1057
    clear e_1057
    refine ar_iastore hX f_1058 d_X10_readsPeople_64 ?_
    refine aw_aload_n (i := 0) hX rfl rfl d_X10_readsPeople_65 ?_
    refine ar_getF hX hF fg_RX10_38 rfl d_X10_readsPeople_66 ?_
    show AR g X 0 0 _ _ 69 _ [.ref 248]
    refine aw_iload_n (i := 1) hX rfl rfl d_X10_readsPeople_69 ?_
    refine aw_iconst (v := 2) hX (by decide) d_X10_readsPeople_70 ?_
    refine aw_iadd hX d_X10_readsPeople_71 ?_
    refine aw_aload_n (i := 0) hX rfl rfl d_X10_readsPeople_72 ?_
    refine aw_bipush (v := 11) hX (by decide) d_X10_readsPeople_73 ?_
    refine aw_iconst (v := 0) hX (by decide) d_X10_readsPeople_75 ?_
    refine aw_sipush (v := 1000) hX (by decide) d_X10_readsPeople_76 ?_
    refine aw_aload_n (i := 0) hX rfl rfl d_X10_readsPeople_79 ?_
    refine ar_getF hX hF fg_RX10_38 rfl d_X10_readsPeople_80 ?_
    show AR g X 0 0 _ _ 83 _ [.ref 248, .int 1000, .int 0, .int 11, .ref 240, .int ((11 * (gI q2.2 240 26)) + 2), .ref 248]
    refine aw_iload_n (i := 1) hX rfl rfl d_X10_readsPeople_83 ?_
    refine aw_iconst (v := 1) hX (by decide) d_X10_readsPeople_84 ?_
    refine aw_iadd hX d_X10_readsPeople_85 ?_
    obtain ⟨x7, f_1059, e_1059⟩ := bd_some e_1058
    clear e_1058
    refine ar_iaload hX f_1059 d_X10_readsPeople_86 ?_
    obtain ⟨q8, f_1060, e_1060⟩ := bd_some e_1059
    clear e_1059
    refine aw_callV (b := 240) (av := [.int 11, .int 0, .int 1000, .int x7]) (avr := [.int x7, .int 1000, .int 0, .int 11]) hX (k_X10_perhaps (cx_g hX) hF f_1060) mi_X10_perhaps rfl rfl w_691 w_692 w_693 (by decide) rfl (LAY_lt rfl (by decide)) rfl rfl (Nat.le_of_ble_eq_true rfl) (Nat.zero_le _) (Nat.zero_le _) d_X10_readsPeople_87 ?_
    obtain ⟨m9, f_1061, e_1061⟩ := bd_some e_1060
    clear e_1060
    refine ar_iastore hX f_1061 d_X10_readsPeople_90 ?_
    refine aw_aload_n (i := 0) hX rfl rfl d_X10_readsPeople_91 ?_
    refine ar_getF hX hF fg_RX10_38 rfl d_X10_readsPeople_92 ?_
    show AR g X 0 0 _ _ 95 _ [.ref 248]
    refine aw_iload_n (i := 1) hX rfl rfl d_X10_readsPeople_95 ?_
    refine aw_iconst (v := 3) hX (by decide) d_X10_readsPeople_96 ?_
    refine aw_iadd hX d_X10_readsPeople_97 ?_
    refine aw_aload_n (i := 0) hX rfl rfl d_X10_readsPeople_98 ?_
    refine aw_bipush (v := 12) hX (by decide) d_X10_readsPeople_99 ?_
    refine aw_iconst (v := 0) hX (by decide) d_X10_readsPeople_101 ?_
    refine aw_sipush (v := 1000) hX (by decide) d_X10_readsPeople_102 ?_
    refine aw_iconst (v := 0) hX (by decide) d_X10_readsPeople_105 ?_
    obtain ⟨q10, f_1062, e_1062⟩ := bd_some e_1061
    clear e_1061
    refine aw_callV (b := 240) (av := [.int 12, .int 0, .int 1000, .int 0]) (avr := [.int 0, .int 1000, .int 0, .int 12]) hX (k_X10_perhaps (cx_g hX) hF f_1062) mi_X10_perhaps rfl rfl w_691 w_692 w_693 (by decide) rfl (LAY_lt rfl (by decide)) rfl rfl (Nat.le_of_ble_eq_true rfl) (Nat.zero_le _) (Nat.zero_le _) d_X10_readsPeople_106 ?_
    obtain ⟨m11, f_1063, e_1063⟩ := bd_some e_1062
    clear e_1062
    refine ar_iastore hX f_1063 d_X10_readsPeople_109 ?_
    refine aw_aload_n (i := 0) hX rfl rfl d_X10_readsPeople_110 ?_
    refine ar_getF hX hF fg_RX10_38 rfl d_X10_readsPeople_111 ?_
    show AR g X 0 0 _ _ 114 _ [.ref 248]
    refine aw_iload_n (i := 1) hX rfl rfl d_X10_readsPeople_114 ?_
    refine aw_iconst (v := 4) hX (by decide) d_X10_readsPeople_115 ?_
    refine aw_iadd hX d_X10_readsPeople_116 ?_
    refine aw_aload_n (i := 0) hX rfl rfl d_X10_readsPeople_117 ?_
    refine aw_bipush (v := 13) hX (by decide) d_X10_readsPeople_118 ?_
    refine aw_iconst (v := 0) hX (by decide) d_X10_readsPeople_120 ?_
    refine aw_sipush (v := 1000) hX (by decide) d_X10_readsPeople_121 ?_
    refine aw_iconst (v := 0) hX (by decide) d_X10_readsPeople_124 ?_
    obtain ⟨q12, f_1064, e_1064⟩ := bd_some e_1063
    clear e_1063
    refine aw_callV (b := 240) (av := [.int 13, .int 0, .int 1000, .int 0]) (avr := [.int 0, .int 1000, .int 0, .int 13]) hX (k_X10_perhaps (cx_g hX) hF f_1064) mi_X10_perhaps rfl rfl w_691 w_692 w_693 (by decide) rfl (LAY_lt rfl (by decide)) rfl rfl (Nat.le_of_ble_eq_true rfl) (Nat.zero_le _) (Nat.zero_le _) d_X10_readsPeople_125 ?_
    obtain ⟨m13, f_1065, e_1065⟩ := bd_some e_1064
    clear e_1064
    refine ar_iastore hX f_1065 d_X10_readsPeople_128 ?_
    refine aw_aload_n (i := 0) hX rfl rfl d_X10_readsPeople_129 ?_
    refine ar_getF hX hF fg_RX10_38 rfl d_X10_readsPeople_130 ?_
    show AR g X 0 0 _ _ 133 _ [.ref 248]
    refine aw_iload_n (i := 1) hX rfl rfl d_X10_readsPeople_133 ?_
    refine aw_iconst (v := 5) hX (by decide) d_X10_readsPeople_134 ?_
    refine aw_iadd hX d_X10_readsPeople_135 ?_
    refine aw_aload_n (i := 0) hX rfl rfl d_X10_readsPeople_136 ?_
    refine aw_bipush (v := 14) hX (by decide) d_X10_readsPeople_137 ?_
    refine aw_iconst (v := 0) hX (by decide) d_X10_readsPeople_139 ?_
    refine aw_sipush (v := 500) hX (by decide) d_X10_readsPeople_140 ?_
    refine aw_iconst (v := 0) hX (by decide) d_X10_readsPeople_143 ?_
    obtain ⟨q14, f_1066, e_1066⟩ := bd_some e_1065
    clear e_1065
    refine aw_callV (b := 240) (av := [.int 14, .int 0, .int 500, .int 0]) (avr := [.int 0, .int 500, .int 0, .int 14]) hX (k_X10_perhaps (cx_g hX) hF f_1066) mi_X10_perhaps rfl rfl w_691 w_692 w_693 (by decide) rfl (LAY_lt rfl (by decide)) rfl rfl (Nat.le_of_ble_eq_true rfl) (Nat.zero_le _) (Nat.zero_le _) d_X10_readsPeople_144 ?_
    obtain ⟨m15, f_1067, e_1067⟩ := bd_some e_1066
    clear e_1066
    refine ar_iastore hX f_1067 d_X10_readsPeople_147 ?_
    refine aw_aload_n (i := 0) hX rfl rfl d_X10_readsPeople_148 ?_
    refine aw_aload_n (i := 0) hX rfl rfl d_X10_readsPeople_149 ?_
    refine aw_bipush (v := 15) hX (by decide) d_X10_readsPeople_150 ?_
    obtain ⟨x16, f_1068, e_1068⟩ := bd_some e_1067
    clear e_1067
    refine aw_callV (b := 240) (av := [.int 15]) (avr := [.int 15]) hX (k_X10_is (cx_g hX) hF f_1068) mi_X10_is rfl rfl w_673 w_674 w_675 (by decide) rfl (LAY_lt rfl (by decide)) rfl rfl (Nat.le_of_ble_eq_true rfl) (Nat.zero_le _) (Nat.zero_le _) d_X10_readsPeople_152 ?_
    obtain ⟨q17, f_1069, e_1069⟩ := bd_some e_1068
    clear e_1068
    refine aw_callV (b := 240) (av := [.int x16]) (avr := [.int x16]) hX (k_X10_need (cx_g hX) hF f_1069) mi_X10_need rfl rfl w_677 w_678 w_679 (by decide) rfl (LAY_lt rfl (by decide)) rfl rfl (Nat.le_of_ble_eq_true rfl) (Nat.zero_le _) (Nat.zero_le _) d_X10_readsPeople_155 ?_
    refine aw_iconst (v := 0) hX (by decide) d_X10_readsPeople_158 ?_
    refine aw_istore_n (i := 2) (lv2 := [.ref 240, .int (11 * (gI q2.2 240 26)), .int 0]) hX rfl rfl rfl d_X10_readsPeople_159 ?_
    obtain ⟨y20, f_1070, e_1070⟩ := bd_some e_1069
    clear e_1069
    refine t_X10_readsPeople_160 hF hX f_1070 (fun d21_2 => ?_)
    refine aw_aload_n (i := 0) hX rfl rfl d_X10_readsPeople_190 ?_
    obtain ⟨x22, f_1071, e_1071⟩ := bd_some e_1070
    clear e_1070
    refine aw_callV (b := 240) (av := []) (avr := []) hX (k_X10_isGood (cx_g hX) hF f_1071) mi_X10_isGood rfl rfl w_661 w_662 w_663 (by decide) rfl (LAY_lt rfl (by decide)) rfl rfl (Nat.le_of_ble_eq_true rfl) (Nat.zero_le _) (Nat.zero_le _) d_X10_readsPeople_191 ?_
    refine aw_if_eq (t := 210) hX (by decide) d_X10_readsPeople_194 (fun c => ?_) (fun c => ?_)
    · rw [if_pos c] at e_1071
      exact tj_X10_readsPeople_210 hF hX e_1071
    · rw [if_neg c] at e_1071
      refine aw_aload_n (i := 0) hX rfl rfl d_X10_readsPeople_197 ?_
      refine aw_bipush (v := 16) hX (by decide) d_X10_readsPeople_198 ?_
      obtain ⟨x26, f_1072, e_1072⟩ := bd_some e_1071
      clear e_1071
      refine aw_callV (b := 240) (av := [.int 16]) (avr := [.int 16]) hX (k_X10_is (cx_g hX) hF f_1072) mi_X10_is rfl rfl w_673 w_674 w_675 (by decide) rfl (LAY_lt rfl (by decide)) rfl rfl (Nat.le_of_ble_eq_true rfl) (Nat.zero_le _) (Nat.zero_le _) d_X10_readsPeople_200 ?_
      refine aw_if_eq (t := 210) hX (by decide) d_X10_readsPeople_203 (fun c => ?_) (fun c => ?_)
      · rw [if_pos c] at e_1072
        exact tj_X10_readsPeople_210 hF hX e_1072
      · rw [if_neg c] at e_1072
        refine aw_iconst (v := 1) hX (by decide) d_X10_readsPeople_206 ?_
        refine aw_goto (t := 211) hX (by decide) d_X10_readsPeople_207 ?_
        exact tj_X10_readsPeople_211 hF hX e_1072
  · rw [if_pos c] at e_1053
    cases e_1053
    exact aw_return hX (Nat.zero_le _) (Nat.zero_le _) d_X10_readsPeople_21
def s_X10_readsPeople (h : AH) : Option (Unit × AH) := if (gI h 240 26) = 6 then bd (s_X10_wrong 2 h) fun q27 => j_X10_readsPeople_14 q27.2 else j_X10_readsPeople_14 h
theorem t_X10_readsPeople {g : GP} {X : MX} {mcR msR : Nat} (hF : gF g = true) (hX : Cx g RX10 cX10_readsPeople 6 mcR msR none [] X) {h hz : AH} {z : Unit} (e : s_X10_readsPeople h = some (z, hz)) : AR g X 0 0 (QQ g X NT false hz (.inl none) 0 0) h 0 [.ref 240, jk, jk] [] := by
  unfold s_X10_readsPeople at e
  refine aw_aload_n (i := 0) hX rfl rfl d_X10_readsPeople_0 ?_
  refine ar_getI hX fg_RX10_219 rfl d_X10_readsPeople_1 ?_
  refine aw_bipush (v := 6) hX (by decide) d_X10_readsPeople_4 ?_
  refine aw_icmp_ne (t := 14) hX (by decide) d_X10_readsPeople_6 (fun c => ?_) (fun c => ?_)
  · rw [if_neg c] at e
    exact tj_X10_readsPeople_14 hF hX e
  · rw [if_pos c] at e
    refine aw_aload_n (i := 0) hX rfl rfl d_X10_readsPeople_9 ?_
    refine aw_iconst (v := 2) hX (by decide) d_X10_readsPeople_10 ?_
    obtain ⟨q27, f_1073, e_1073⟩ := bd_some e
    clear e
    refine aw_callV (b := 240) (av := [.int 2]) (avr := [.int 2]) hX (k_X10_wrong (cx_g hX) hF f_1073) mi_X10_wrong rfl rfl w_665 w_666 w_667 (by decide) rfl (LAY_lt rfl (by decide)) rfl rfl (Nat.le_of_ble_eq_true rfl) (Nat.zero_le _) (Nat.zero_le _) d_X10_readsPeople_11 ?_
    exact tj_X10_readsPeople_14 hF hX e_1073
theorem k_X10_readsPeople {g : GP} (hg : g.1.stackTraces = false) (hF : gF g = true) {h hz : AH} {z : Unit} (e : s_X10_readsPeople h = some (z, hz)) : Ctr g yX10_readsPeople (wsY yX10_readsPeople cX10_readsPeople 3 none) 6 0 0 [.ref 240] NT false h none NT false hz := ctr_of (lv0 := [.ref 240, jk, jk]) rfl rfl (by decide) hg trivial (fun X hX hn => t_X10_readsPeople hF hX e)
theorem d_X10_readsSeats_0 : decode cX10_readsSeats 0 = .ok (.aload_n 0, 1) := by decide +kernel
theorem d_X10_readsSeats_1 : decode cX10_readsSeats 1 = .ok (.getfield 222, 3) := by decide +kernel
theorem d_X10_readsSeats_4 : decode cX10_readsSeats 4 = .ok (.iconst 4, 1) := by decide +kernel
theorem d_X10_readsSeats_5 : decode cX10_readsSeats 5 = .ok (.if_icmp .ne 8, 3) := by decide +kernel
theorem d_X10_readsSeats_8 : decode cX10_readsSeats 8 = .ok (.aload_n 0, 1) := by decide +kernel
theorem d_X10_readsSeats_9 : decode cX10_readsSeats 9 = .ok (.iconst 2, 1) := by decide +kernel
theorem d_X10_readsSeats_10 : decode cX10_readsSeats 10 = .ok (.invokevirtual 194, 3) := by decide +kernel
theorem d_X10_readsSeats_13 : decode cX10_readsSeats 13 = .ok (.aload_n 0, 1) := by decide +kernel
theorem d_X10_readsSeats_14 : decode cX10_readsSeats 14 = .ok (.invokevirtual 187, 3) := by decide +kernel
theorem d_X10_readsSeats_17 : decode cX10_readsSeats 17 = .ok (.ifCond .ne 4, 3) := by decide +kernel
theorem d_X10_readsSeats_20 : decode cX10_readsSeats 20 = .ok (.return_, 1) := by decide +kernel
theorem d_X10_readsSeats_21 : decode cX10_readsSeats 21 = .ok (.aload_n 0, 1) := by decide +kernel
theorem d_X10_readsSeats_22 : decode cX10_readsSeats 22 = .ok (.invokevirtual 191, 3) := by decide +kernel
theorem d_X10_readsSeats_25 : decode cX10_readsSeats 25 = .ok (.aload_n 0, 1) := by decide +kernel
theorem d_X10_readsSeats_26 : decode cX10_readsSeats 26 = .ok (.getfield 41, 3) := by decide +kernel
theorem d_X10_readsSeats_29 : decode cX10_readsSeats 29 = .ok (.iconst 2, 1) := by decide +kernel
theorem d_X10_readsSeats_30 : decode cX10_readsSeats 30 = .ok (.aload_n 0, 1) := by decide +kernel
theorem d_X10_readsSeats_31 : decode cX10_readsSeats 31 = .ok (.getfield 222, 3) := by decide +kernel
theorem d_X10_readsSeats_34 : decode cX10_readsSeats 34 = .ok (.imul, 1) := by decide +kernel
theorem d_X10_readsSeats_35 : decode cX10_readsSeats 35 = .ok (.aload_n 0, 1) := by decide +kernel
theorem d_X10_readsSeats_36 : decode cX10_readsSeats 36 = .ok (.iconst 1, 1) := by decide +kernel
theorem d_X10_readsSeats_37 : decode cX10_readsSeats 37 = .ok (.sipush 400, 3) := by decide +kernel
theorem d_X10_readsSeats_40 : decode cX10_readsSeats 40 = .ok (.invokevirtual 204, 3) := by decide +kernel
theorem d_X10_readsSeats_43 : decode cX10_readsSeats 43 = .ok (.iastore, 1) := by decide +kernel
theorem d_X10_readsSeats_44 : decode cX10_readsSeats 44 = .ok (.aload_n 0, 1) := by decide +kernel
theorem d_X10_readsSeats_45 : decode cX10_readsSeats 45 = .ok (.getfield 41, 3) := by decide +kernel
theorem d_X10_readsSeats_48 : decode cX10_readsSeats 48 = .ok (.iconst 2, 1) := by decide +kernel
theorem d_X10_readsSeats_49 : decode cX10_readsSeats 49 = .ok (.aload_n 0, 1) := by decide +kernel
theorem d_X10_readsSeats_50 : decode cX10_readsSeats 50 = .ok (.getfield 222, 3) := by decide +kernel
theorem d_X10_readsSeats_53 : decode cX10_readsSeats 53 = .ok (.imul, 1) := by decide +kernel
theorem d_X10_readsSeats_54 : decode cX10_readsSeats 54 = .ok (.iconst 1, 1) := by decide +kernel
theorem d_X10_readsSeats_55 : decode cX10_readsSeats 55 = .ok (.iadd, 1) := by decide +kernel
theorem d_X10_readsSeats_56 : decode cX10_readsSeats 56 = .ok (.aload_n 0, 1) := by decide +kernel
theorem d_X10_readsSeats_57 : decode cX10_readsSeats 57 = .ok (.bipush 17, 2) := by decide +kernel
theorem d_X10_readsSeats_59 : decode cX10_readsSeats 59 = .ok (.iconst 0, 1) := by decide +kernel
theorem d_X10_readsSeats_60 : decode cX10_readsSeats 60 = .ok (.bipush 99, 2) := by decide +kernel
theorem d_X10_readsSeats_62 : decode cX10_readsSeats 62 = .ok (.invokevirtual 208, 3) := by decide +kernel
theorem d_X10_readsSeats_65 : decode cX10_readsSeats 65 = .ok (.iastore, 1) := by decide +kernel
theorem d_X10_readsSeats_66 : decode cX10_readsSeats 66 = .ok (.aload_n 0, 1) := by decide +kernel
theorem d_X10_readsSeats_67 : decode cX10_readsSeats 67 = .ok (.invokevirtual 187, 3) := by decide +kernel
theorem d_X10_readsSeats_70 : decode cX10_readsSeats 70 = .ok (.ifCond .eq 13, 3) := by decide +kernel
theorem d_X10_readsSeats_73 : decode cX10_readsSeats 73 = .ok (.aload_n 0, 1) := by decide +kernel
theorem d_X10_readsSeats_74 : decode cX10_readsSeats 74 = .ok (.dup, 1) := by decide +kernel
theorem d_X10_readsSeats_75 : decode cX10_readsSeats 75 = .ok (.getfield 222, 3) := by decide +kernel
theorem d_X10_readsSeats_78 : decode cX10_readsSeats 78 = .ok (.iconst 1, 1) := by decide +kernel
theorem d_X10_readsSeats_79 : decode cX10_readsSeats 79 = .ok (.iadd, 1) := by decide +kernel
theorem d_X10_readsSeats_80 : decode cX10_readsSeats 80 = .ok (.putfield 222, 3) := by decide +kernel
theorem d_X10_readsSeats_83 : decode cX10_readsSeats 83 = .ok (.return_, 1) := by decide +kernel
def j_X10_readsSeats_13 (h : AH) : Option (Unit × AH) := bd (s_X10_isGood h) fun x1 => if x1 = 0 then some ((), h) else bd (s_X10_steps h) fun q2 => bd (s_X10_number 1 400 q2.2) fun q3 => bd (stI q3.2 249 (2 * (gI q2.2 240 27)) q3.1) fun m4 => bd (s_X10_named 17 0 99 m4) fun q5 => bd (stI q5.2 249 ((2 * (gI m4 240 27)) + 1) q5.1) fun m6 => bd (s_X10_isGood m6) fun x7 => if x7 = 0 then some ((), m6) else some ((), sI m6 240 27 ((gI m6 240 27) + 1))
theorem tj_X10_readsSeats_13 {g : GP} {X : MX} {mcR msR : Nat} (hF : gF g = true) (hX : Cx g RX10 cX10_readsSeats 5 mcR msR none [] X) {h hz : AH} {z : Unit} (e : j_X10_readsSeats_13 h = some (z, hz)) : AR g X 0 0 (QQ g X NT false hz (.inl none) 0 0) h 13 [.ref 240] [] := by
  unfold j_X10_readsSeats_13 at e
  refine aw_aload_n (i := 0) hX rfl rfl d_X10_readsSeats_13 ?_
  obtain ⟨x1, f_1074, e_1074⟩ := bd_some e
  clear e
  refine aw_callV (b := 240) (av := []) (avr := []) hX (k_X10_isGood (cx_g hX) hF f_1074) mi_X10_isGood rfl rfl w_661 w_662 w_663 (by decide) rfl (LAY_lt rfl (by decide)) rfl rfl (Nat.le_of_ble_eq_true rfl) (Nat.zero_le _) (Nat.zero_le _) d_X10_readsSeats_14 ?_
  refine aw_if_ne (t := 21) hX (by decide) d_X10_readsSeats_17 (fun c => ?_) (fun c => ?_)
  · rw [if_neg c] at e_1074
    refine aw_aload_n (i := 0) hX rfl rfl d_X10_readsSeats_21 ?_
    obtain ⟨q2, f_1075, e_1075⟩ := bd_some e_1074
    clear e_1074
    refine aw_callV (b := 240) (av := []) (avr := []) hX (k_X10_steps (cx_g hX) hF f_1075) mi_X10_steps rfl rfl w_669 w_670 w_671 (by decide) rfl (LAY_lt rfl (by decide)) rfl rfl (Nat.le_of_ble_eq_true rfl) (Nat.zero_le _) (Nat.zero_le _) d_X10_readsSeats_22 ?_
    refine aw_aload_n (i := 0) hX rfl rfl d_X10_readsSeats_25 ?_
    refine ar_getF hX hF fg_RX10_41 rfl d_X10_readsSeats_26 ?_
    show AR g X 0 0 _ _ 29 _ [.ref 249]
    refine aw_iconst (v := 2) hX (by decide) d_X10_readsSeats_29 ?_
    refine aw_aload_n (i := 0) hX rfl rfl d_X10_readsSeats_30 ?_
    refine ar_getI hX fg_RX10_222 rfl d_X10_readsSeats_31 ?_
    refine aw_imul hX d_X10_readsSeats_34 ?_
    refine aw_aload_n (i := 0) hX rfl rfl d_X10_readsSeats_35 ?_
    refine aw_iconst (v := 1) hX (by decide) d_X10_readsSeats_36 ?_
    refine aw_sipush (v := 400) hX (by decide) d_X10_readsSeats_37 ?_
    obtain ⟨q3, f_1076, e_1076⟩ := bd_some e_1075
    clear e_1075
    refine aw_callV (b := 240) (av := [.int 1, .int 400]) (avr := [.int 400, .int 1]) hX (k_X10_number (cx_g hX) hF f_1076) mi_X10_number rfl rfl w_681 w_682 w_683 (by decide) rfl (LAY_lt rfl (by decide)) rfl rfl (Nat.le_of_ble_eq_true rfl) (Nat.zero_le _) (Nat.zero_le _) d_X10_readsSeats_40 ?_
    obtain ⟨m4, f_1077, e_1077⟩ := bd_some e_1076
    clear e_1076
    refine ar_iastore hX f_1077 d_X10_readsSeats_43 ?_
    refine aw_aload_n (i := 0) hX rfl rfl d_X10_readsSeats_44 ?_
    refine ar_getF hX hF fg_RX10_41 rfl d_X10_readsSeats_45 ?_
    show AR g X 0 0 _ _ 48 _ [.ref 249]
    refine aw_iconst (v := 2) hX (by decide) d_X10_readsSeats_48 ?_
    refine aw_aload_n (i := 0) hX rfl rfl d_X10_readsSeats_49 ?_
    refine ar_getI hX fg_RX10_222 rfl d_X10_readsSeats_50 ?_
    refine aw_imul hX d_X10_readsSeats_53 ?_
    refine aw_iconst (v := 1) hX (by decide) d_X10_readsSeats_54 ?_
    refine aw_iadd hX d_X10_readsSeats_55 ?_
    refine aw_aload_n (i := 0) hX rfl rfl d_X10_readsSeats_56 ?_
    refine aw_bipush (v := 17) hX (by decide) d_X10_readsSeats_57 ?_
    refine aw_iconst (v := 0) hX (by decide) d_X10_readsSeats_59 ?_
    refine aw_bipush (v := 99) hX (by decide) d_X10_readsSeats_60 ?_
    obtain ⟨q5, f_1078, e_1078⟩ := bd_some e_1077
    clear e_1077
    refine aw_callV (b := 240) (av := [.int 17, .int 0, .int 99]) (avr := [.int 99, .int 0, .int 17]) hX (k_X10_named (cx_g hX) hF f_1078) mi_X10_named rfl rfl w_685 w_686 w_687 (by decide) rfl (LAY_lt rfl (by decide)) rfl rfl (Nat.le_of_ble_eq_true rfl) (Nat.zero_le _) (Nat.zero_le _) d_X10_readsSeats_62 ?_
    obtain ⟨m6, f_1079, e_1079⟩ := bd_some e_1078
    clear e_1078
    refine ar_iastore hX f_1079 d_X10_readsSeats_65 ?_
    refine aw_aload_n (i := 0) hX rfl rfl d_X10_readsSeats_66 ?_
    obtain ⟨x7, f_1080, e_1080⟩ := bd_some e_1079
    clear e_1079
    refine aw_callV (b := 240) (av := []) (avr := []) hX (k_X10_isGood (cx_g hX) hF f_1080) mi_X10_isGood rfl rfl w_661 w_662 w_663 (by decide) rfl (LAY_lt rfl (by decide)) rfl rfl (Nat.le_of_ble_eq_true rfl) (Nat.zero_le _) (Nat.zero_le _) d_X10_readsSeats_67 ?_
    refine aw_if_eq (t := 83) hX (by decide) d_X10_readsSeats_70 (fun c => ?_) (fun c => ?_)
    · rw [if_pos c] at e_1080
      cases e_1080
      exact aw_return hX (Nat.zero_le _) (Nat.zero_le _) d_X10_readsSeats_83
    · rw [if_neg c] at e_1080
      refine aw_aload_n (i := 0) hX rfl rfl d_X10_readsSeats_73 ?_
      refine aw_dup hX rfl d_X10_readsSeats_74 ?_
      refine ar_getI hX fg_RX10_222 rfl d_X10_readsSeats_75 ?_
      refine aw_iconst (v := 1) hX (by decide) d_X10_readsSeats_78 ?_
      refine aw_iadd hX d_X10_readsSeats_79 ?_
      refine ar_putI hX fp_RX10_222 rfl d_X10_readsSeats_80 ?_
      cases e_1080
      exact aw_return hX (Nat.zero_le _) (Nat.zero_le _) d_X10_readsSeats_83
  · rw [if_pos c] at e_1074
    cases e_1074
    exact aw_return hX (Nat.zero_le _) (Nat.zero_le _) d_X10_readsSeats_20
def s_X10_readsSeats (h : AH) : Option (Unit × AH) := if (gI h 240 27) = 4 then bd (s_X10_wrong 2 h) fun q8 => j_X10_readsSeats_13 q8.2 else j_X10_readsSeats_13 h
theorem t_X10_readsSeats {g : GP} {X : MX} {mcR msR : Nat} (hF : gF g = true) (hX : Cx g RX10 cX10_readsSeats 5 mcR msR none [] X) {h hz : AH} {z : Unit} (e : s_X10_readsSeats h = some (z, hz)) : AR g X 0 0 (QQ g X NT false hz (.inl none) 0 0) h 0 [.ref 240] [] := by
  unfold s_X10_readsSeats at e
  refine aw_aload_n (i := 0) hX rfl rfl d_X10_readsSeats_0 ?_
  refine ar_getI hX fg_RX10_222 rfl d_X10_readsSeats_1 ?_
  refine aw_iconst (v := 4) hX (by decide) d_X10_readsSeats_4 ?_
  refine aw_icmp_ne (t := 13) hX (by decide) d_X10_readsSeats_5 (fun c => ?_) (fun c => ?_)
  · rw [if_neg c] at e
    exact tj_X10_readsSeats_13 hF hX e
  · rw [if_pos c] at e
    refine aw_aload_n (i := 0) hX rfl rfl d_X10_readsSeats_8 ?_
    refine aw_iconst (v := 2) hX (by decide) d_X10_readsSeats_9 ?_
    obtain ⟨q8, f_1081, e_1081⟩ := bd_some e
    clear e
    refine aw_callV (b := 240) (av := [.int 2]) (avr := [.int 2]) hX (k_X10_wrong (cx_g hX) hF f_1081) mi_X10_wrong rfl rfl w_665 w_666 w_667 (by decide) rfl (LAY_lt rfl (by decide)) rfl rfl (Nat.le_of_ble_eq_true rfl) (Nat.zero_le _) (Nat.zero_le _) d_X10_readsSeats_10 ?_
    exact tj_X10_readsSeats_13 hF hX e_1081
theorem k_X10_readsSeats {g : GP} (hg : g.1.stackTraces = false) (hF : gF g = true) {h hz : AH} {z : Unit} (e : s_X10_readsSeats h = some (z, hz)) : Ctr g yX10_readsSeats (wsY yX10_readsSeats cX10_readsSeats 1 none) 5 0 0 [.ref 240] NT false h none NT false hz := ctr_of (lv0 := [.ref 240]) rfl rfl (by decide) hg trivial (fun X hX hn => t_X10_readsSeats hF hX e)
theorem d_X10_member_0 : decode cX10_member 0 = .ok (.aload_n 0, 1) := by decide +kernel
theorem d_X10_member_1 : decode cX10_member 1 = .ok (.invokevirtual 187, 3) := by decide +kernel
theorem d_X10_member_4 : decode cX10_member 4 = .ok (.ifCond .ne 4, 3) := by decide +kernel
theorem d_X10_member_7 : decode cX10_member 7 = .ok (.return_, 1) := by decide +kernel
theorem d_X10_member_8 : decode cX10_member 8 = .ok (.aload_n 0, 1) := by decide +kernel
theorem d_X10_member_9 : decode cX10_member 9 = .ok (.getfield 163, 3) := by decide +kernel
theorem d_X10_member_12 : decode cX10_member 12 = .ok (.iconst 2, 1) := by decide +kernel
theorem d_X10_member_13 : decode cX10_member 13 = .ok (.if_icmp .eq 11, 3) := by decide +kernel
theorem d_X10_member_16 : decode cX10_member 16 = .ok (.aload_n 0, 1) := by decide +kernel
theorem d_X10_member_17 : decode cX10_member 17 = .ok (.iconst 1, 1) := by decide +kernel
theorem d_X10_member_18 : decode cX10_member 18 = .ok (.invokevirtual 194, 3) := by decide +kernel
theorem d_X10_member_21 : decode cX10_member 21 = .ok (.goto 60, 3) := by decide +kernel
theorem d_X10_member_24 : decode cX10_member 24 = .ok (.aload_n 0, 1) := by decide +kernel
theorem d_X10_member_25 : decode cX10_member 25 = .ok (.getfield 173, 3) := by decide +kernel
theorem d_X10_member_28 : decode cX10_member 28 = .ok (.iconst 4, 1) := by decide +kernel
theorem d_X10_member_29 : decode cX10_member 29 = .ok (.if_icmp .le 11, 3) := by decide +kernel
theorem d_X10_member_32 : decode cX10_member 32 = .ok (.aload_n 0, 1) := by decide +kernel
theorem d_X10_member_33 : decode cX10_member 33 = .ok (.iconst 2, 1) := by decide +kernel
theorem d_X10_member_34 : decode cX10_member 34 = .ok (.invokevirtual 194, 3) := by decide +kernel
theorem d_X10_member_37 : decode cX10_member 37 = .ok (.goto 44, 3) := by decide +kernel
theorem d_X10_member_40 : decode cX10_member 40 = .ok (.aload_n 0, 1) := by decide +kernel
theorem d_X10_member_41 : decode cX10_member 41 = .ok (.getfield 160, 3) := by decide +kernel
theorem d_X10_member_44 : decode cX10_member 44 = .ok (.aload_n 0, 1) := by decide +kernel
theorem d_X10_member_45 : decode cX10_member 45 = .ok (.getfield 212, 3) := by decide +kernel
theorem d_X10_member_48 : decode cX10_member 48 = .ok (.if_icmp .lt 11, 3) := by decide +kernel
theorem d_X10_member_51 : decode cX10_member 51 = .ok (.aload_n 0, 1) := by decide +kernel
theorem d_X10_member_52 : decode cX10_member 52 = .ok (.iconst 3, 1) := by decide +kernel
theorem d_X10_member_53 : decode cX10_member 53 = .ok (.invokevirtual 194, 3) := by decide +kernel
theorem d_X10_member_56 : decode cX10_member 56 = .ok (.goto 25, 3) := by decide +kernel
theorem d_X10_member_59 : decode cX10_member 59 = .ok (.aload_n 0, 1) := by decide +kernel
theorem d_X10_member_60 : decode cX10_member 60 = .ok (.getfield 35, 3) := by decide +kernel
theorem d_X10_member_63 : decode cX10_member 63 = .ok (.iconst 4, 1) := by decide +kernel
theorem d_X10_member_64 : decode cX10_member 64 = .ok (.aload_n 0, 1) := by decide +kernel
theorem d_X10_member_65 : decode cX10_member 65 = .ok (.getfield 160, 3) := by decide +kernel
theorem d_X10_member_68 : decode cX10_member 68 = .ok (.imul, 1) := by decide +kernel
theorem d_X10_member_69 : decode cX10_member 69 = .ok (.iconst 3, 1) := by decide +kernel
theorem d_X10_member_70 : decode cX10_member 70 = .ok (.iadd, 1) := by decide +kernel
theorem d_X10_member_71 : decode cX10_member 71 = .ok (.iaload, 1) := by decide +kernel
theorem d_X10_member_72 : decode cX10_member 72 = .ok (.iconst 1, 1) := by decide +kernel
theorem d_X10_member_73 : decode cX10_member 73 = .ok (.if_icmp .ne 8, 3) := by decide +kernel
theorem d_X10_member_76 : decode cX10_member 76 = .ok (.aload_n 0, 1) := by decide +kernel
theorem d_X10_member_77 : decode cX10_member 77 = .ok (.iconst 4, 1) := by decide +kernel
theorem d_X10_member_78 : decode cX10_member 78 = .ok (.invokevirtual 194, 3) := by decide +kernel
theorem d_X10_member_81 : decode cX10_member 81 = .ok (.aload_n 0, 1) := by decide +kernel
theorem d_X10_member_82 : decode cX10_member 82 = .ok (.invokevirtual 187, 3) := by decide +kernel
theorem d_X10_member_85 : decode cX10_member 85 = .ok (.ifCond .ne 4, 3) := by decide +kernel
theorem d_X10_member_88 : decode cX10_member 88 = .ok (.return_, 1) := by decide +kernel
theorem d_X10_member_89 : decode cX10_member 89 = .ok (.aload_n 0, 1) := by decide +kernel
theorem d_X10_member_90 : decode cX10_member 90 = .ok (.getfield 35, 3) := by decide +kernel
theorem d_X10_member_93 : decode cX10_member 93 = .ok (.iconst 4, 1) := by decide +kernel
theorem d_X10_member_94 : decode cX10_member 94 = .ok (.aload_n 0, 1) := by decide +kernel
theorem d_X10_member_95 : decode cX10_member 95 = .ok (.getfield 160, 3) := by decide +kernel
theorem d_X10_member_98 : decode cX10_member 98 = .ok (.imul, 1) := by decide +kernel
theorem d_X10_member_99 : decode cX10_member 99 = .ok (.iconst 3, 1) := by decide +kernel
theorem d_X10_member_100 : decode cX10_member 100 = .ok (.iadd, 1) := by decide +kernel
theorem d_X10_member_101 : decode cX10_member 101 = .ok (.iconst 1, 1) := by decide +kernel
theorem d_X10_member_102 : decode cX10_member 102 = .ok (.iastore, 1) := by decide +kernel
theorem d_X10_member_103 : decode cX10_member 103 = .ok (.aload_n 0, 1) := by decide +kernel
theorem d_X10_member_104 : decode cX10_member 104 = .ok (.invokevirtual 191, 3) := by decide +kernel
theorem d_X10_member_107 : decode cX10_member 107 = .ok (.return_, 1) := by decide +kernel
def j_X10_member_81 (h : AH) : Option (Unit × AH) := bd (s_X10_isGood h) fun x3 => if x3 = 0 then some ((), h) else bd (stI h 247 ((4 * (gI h 240 21)) + 3) 1) fun m4 => bd (s_X10_steps m4) fun q5 => some ((), q5.2)
theorem tj_X10_member_81 {g : GP} {X : MX} {mcR msR : Nat} (hF : gF g = true) (hX : Cx g RX10 cX10_member 3 mcR msR none [] X) {h hz : AH} {z : Unit} (e : j_X10_member_81 h = some (z, hz)) : AR g X 0 0 (QQ g X NT false hz (.inl none) 0 0) h 81 [.ref 240] [] := by
  unfold j_X10_member_81 at e
  refine aw_aload_n (i := 0) hX rfl rfl d_X10_member_81 ?_
  obtain ⟨x3, f_1082, e_1082⟩ := bd_some e
  clear e
  refine aw_callV (b := 240) (av := []) (avr := []) hX (k_X10_isGood (cx_g hX) hF f_1082) mi_X10_isGood rfl rfl w_661 w_662 w_663 (by decide) rfl (LAY_lt rfl (by decide)) rfl rfl (Nat.le_of_ble_eq_true rfl) (Nat.zero_le _) (Nat.zero_le _) d_X10_member_82 ?_
  refine aw_if_ne (t := 89) hX (by decide) d_X10_member_85 (fun c => ?_) (fun c => ?_)
  · rw [if_neg c] at e_1082
    refine aw_aload_n (i := 0) hX rfl rfl d_X10_member_89 ?_
    refine ar_getF hX hF fg_RX10_35 rfl d_X10_member_90 ?_
    show AR g X 0 0 _ _ 93 _ [.ref 247]
    refine aw_iconst (v := 4) hX (by decide) d_X10_member_93 ?_
    refine aw_aload_n (i := 0) hX rfl rfl d_X10_member_94 ?_
    refine ar_getI hX fg_RX10_160 rfl d_X10_member_95 ?_
    refine aw_imul hX d_X10_member_98 ?_
    refine aw_iconst (v := 3) hX (by decide) d_X10_member_99 ?_
    refine aw_iadd hX d_X10_member_100 ?_
    refine aw_iconst (v := 1) hX (by decide) d_X10_member_101 ?_
    obtain ⟨m4, f_1083, e_1083⟩ := bd_some e_1082
    clear e_1082
    refine ar_iastore hX f_1083 d_X10_member_102 ?_
    refine aw_aload_n (i := 0) hX rfl rfl d_X10_member_103 ?_
    obtain ⟨q5, f_1084, e_1084⟩ := bd_some e_1083
    clear e_1083
    refine aw_callV (b := 240) (av := []) (avr := []) hX (k_X10_steps (cx_g hX) hF f_1084) mi_X10_steps rfl rfl w_669 w_670 w_671 (by decide) rfl (LAY_lt rfl (by decide)) rfl rfl (Nat.le_of_ble_eq_true rfl) (Nat.zero_le _) (Nat.zero_le _) d_X10_member_104 ?_
    cases e_1084
    exact aw_return hX (Nat.zero_le _) (Nat.zero_le _) d_X10_member_107
  · rw [if_pos c] at e_1082
    cases e_1082
    exact aw_return hX (Nat.zero_le _) (Nat.zero_le _) d_X10_member_88
def s_X10_member (h : AH) : Option (Unit × AH) := bd (s_X10_isGood h) fun x1 => if x1 = 0 then some ((), h) else if (gI h 240 18) = 2 then if (gI h 240 20) ≤ 4 then if (gI h 240 21) < (gI h 240 25) then bd (ldI h 247 ((4 * (gI h 240 21)) + 3)) fun x2 => if x2 = 1 then bd (s_X10_wrong 4 h) fun q6 => j_X10_member_81 q6.2 else j_X10_member_81 h else bd (s_X10_wrong 3 h) fun q7 => j_X10_member_81 q7.2 else bd (s_X10_wrong 2 h) fun q8 => j_X10_member_81 q8.2 else bd (s_X10_wrong 1 h) fun q9 => j_X10_member_81 q9.2
theorem t_X10_member {g : GP} {X : MX} {mcR msR : Nat} (hF : gF g = true) (hX : Cx g RX10 cX10_member 3 mcR msR none [] X) {h hz : AH} {z : Unit} (e : s_X10_member h = some (z, hz)) : AR g X 0 0 (QQ g X NT false hz (.inl none) 0 0) h 0 [.ref 240] [] := by
  unfold s_X10_member at e
  refine aw_aload_n (i := 0) hX rfl rfl d_X10_member_0 ?_
  obtain ⟨x1, f_1085, e_1085⟩ := bd_some e
  clear e
  refine aw_callV (b := 240) (av := []) (avr := []) hX (k_X10_isGood (cx_g hX) hF f_1085) mi_X10_isGood rfl rfl w_661 w_662 w_663 (by decide) rfl (LAY_lt rfl (by decide)) rfl rfl (Nat.le_of_ble_eq_true rfl) (Nat.zero_le _) (Nat.zero_le _) d_X10_member_1 ?_
  refine aw_if_ne (t := 8) hX (by decide) d_X10_member_4 (fun c => ?_) (fun c => ?_)
  · rw [if_neg c] at e_1085
    refine aw_aload_n (i := 0) hX rfl rfl d_X10_member_8 ?_
    refine ar_getI hX fg_RX10_163 rfl d_X10_member_9 ?_
    refine aw_iconst (v := 2) hX (by decide) d_X10_member_12 ?_
    refine aw_icmp_eq (t := 24) hX (by decide) d_X10_member_13 (fun c => ?_) (fun c => ?_)
    · rw [if_pos c] at e_1085
      refine aw_aload_n (i := 0) hX rfl rfl d_X10_member_24 ?_
      refine ar_getI hX fg_RX10_173 rfl d_X10_member_25 ?_
      refine aw_iconst (v := 4) hX (by decide) d_X10_member_28 ?_
      refine aw_icmp_le (t := 40) hX (by decide) d_X10_member_29 (fun c => ?_) (fun c => ?_)
      · rw [if_pos c] at e_1085
        refine aw_aload_n (i := 0) hX rfl rfl d_X10_member_40 ?_
        refine ar_getI hX fg_RX10_160 rfl d_X10_member_41 ?_
        refine aw_aload_n (i := 0) hX rfl rfl d_X10_member_44 ?_
        refine ar_getI hX fg_RX10_212 rfl d_X10_member_45 ?_
        refine aw_icmp_lt (t := 59) hX (by decide) d_X10_member_48 (fun c => ?_) (fun c => ?_)
        · rw [if_pos c] at e_1085
          refine aw_aload_n (i := 0) hX rfl rfl d_X10_member_59 ?_
          refine ar_getF hX hF fg_RX10_35 rfl d_X10_member_60 ?_
          show AR g X 0 0 _ _ 63 _ [.ref 247]
          refine aw_iconst (v := 4) hX (by decide) d_X10_member_63 ?_
          refine aw_aload_n (i := 0) hX rfl rfl d_X10_member_64 ?_
          refine ar_getI hX fg_RX10_160 rfl d_X10_member_65 ?_
          refine aw_imul hX d_X10_member_68 ?_
          refine aw_iconst (v := 3) hX (by decide) d_X10_member_69 ?_
          refine aw_iadd hX d_X10_member_70 ?_
          obtain ⟨x2, f_1086, e_1086⟩ := bd_some e_1085
          clear e_1085
          refine ar_iaload hX f_1086 d_X10_member_71 ?_
          refine aw_iconst (v := 1) hX (by decide) d_X10_member_72 ?_
          refine aw_icmp_ne (t := 81) hX (by decide) d_X10_member_73 (fun c => ?_) (fun c => ?_)
          · rw [if_neg c] at e_1086
            exact tj_X10_member_81 hF hX e_1086
          · rw [if_pos c] at e_1086
            refine aw_aload_n (i := 0) hX rfl rfl d_X10_member_76 ?_
            refine aw_iconst (v := 4) hX (by decide) d_X10_member_77 ?_
            obtain ⟨q6, f_1087, e_1087⟩ := bd_some e_1086
            clear e_1086
            refine aw_callV (b := 240) (av := [.int 4]) (avr := [.int 4]) hX (k_X10_wrong (cx_g hX) hF f_1087) mi_X10_wrong rfl rfl w_665 w_666 w_667 (by decide) rfl (LAY_lt rfl (by decide)) rfl rfl (Nat.le_of_ble_eq_true rfl) (Nat.zero_le _) (Nat.zero_le _) d_X10_member_78 ?_
            exact tj_X10_member_81 hF hX e_1087
        · rw [if_neg c] at e_1085
          refine aw_aload_n (i := 0) hX rfl rfl d_X10_member_51 ?_
          refine aw_iconst (v := 3) hX (by decide) d_X10_member_52 ?_
          obtain ⟨q7, f_1088, e_1088⟩ := bd_some e_1085
          clear e_1085
          refine aw_callV (b := 240) (av := [.int 3]) (avr := [.int 3]) hX (k_X10_wrong (cx_g hX) hF f_1088) mi_X10_wrong rfl rfl w_665 w_666 w_667 (by decide) rfl (LAY_lt rfl (by decide)) rfl rfl (Nat.le_of_ble_eq_true rfl) (Nat.zero_le _) (Nat.zero_le _) d_X10_member_53 ?_
          refine aw_goto (t := 81) hX (by decide) d_X10_member_56 ?_
          exact tj_X10_member_81 hF hX e_1088
      · rw [if_neg c] at e_1085
        refine aw_aload_n (i := 0) hX rfl rfl d_X10_member_32 ?_
        refine aw_iconst (v := 2) hX (by decide) d_X10_member_33 ?_
        obtain ⟨q8, f_1089, e_1089⟩ := bd_some e_1085
        clear e_1085
        refine aw_callV (b := 240) (av := [.int 2]) (avr := [.int 2]) hX (k_X10_wrong (cx_g hX) hF f_1089) mi_X10_wrong rfl rfl w_665 w_666 w_667 (by decide) rfl (LAY_lt rfl (by decide)) rfl rfl (Nat.le_of_ble_eq_true rfl) (Nat.zero_le _) (Nat.zero_le _) d_X10_member_34 ?_
        refine aw_goto (t := 81) hX (by decide) d_X10_member_37 ?_
        exact tj_X10_member_81 hF hX e_1089
    · rw [if_neg c] at e_1085
      refine aw_aload_n (i := 0) hX rfl rfl d_X10_member_16 ?_
      refine aw_iconst (v := 1) hX (by decide) d_X10_member_17 ?_
      obtain ⟨q9, f_1090, e_1090⟩ := bd_some e_1085
      clear e_1085
      refine aw_callV (b := 240) (av := [.int 1]) (avr := [.int 1]) hX (k_X10_wrong (cx_g hX) hF f_1090) mi_X10_wrong rfl rfl w_665 w_666 w_667 (by decide) rfl (LAY_lt rfl (by decide)) rfl rfl (Nat.le_of_ble_eq_true rfl) (Nat.zero_le _) (Nat.zero_le _) d_X10_member_18 ?_
      refine aw_goto (t := 81) hX (by decide) d_X10_member_21 ?_
      exact tj_X10_member_81 hF hX e_1090
  · rw [if_pos c] at e_1085
    cases e_1085
    exact aw_return hX (Nat.zero_le _) (Nat.zero_le _) d_X10_member_7
theorem k_X10_member {g : GP} (hg : g.1.stackTraces = false) (hF : gF g = true) {h hz : AH} {z : Unit} (e : s_X10_member h = some (z, hz)) : Ctr g yX10_member (wsY yX10_member cX10_member 1 none) 3 0 0 [.ref 240] NT false h none NT false hz := ctr_of (lv0 := [.ref 240]) rfl rfl (by decide) hg trivial (fun X hX hn => t_X10_member hF hX e)
theorem d_X10_lineWord_0 : decode cX10_lineWord 0 = .ok (.iconst 0, 1) := by decide +kernel
theorem d_X10_lineWord_1 : decode cX10_lineWord 1 = .ok (.istore_n 1, 1) := by decide +kernel
theorem d_X10_lineWord_2 : decode cX10_lineWord 2 = .ok (.iload_n 1, 1) := by decide +kernel
theorem d_X10_lineWord_3 : decode cX10_lineWord 3 = .ok (.bipush 8, 2) := by decide +kernel
theorem d_X10_lineWord_5 : decode cX10_lineWord 5 = .ok (.if_icmp .gt 19, 3) := by decide +kernel
theorem d_X10_lineWord_8 : decode cX10_lineWord 8 = .ok (.aload_n 0, 1) := by decide +kernel
theorem d_X10_lineWord_9 : decode cX10_lineWord 9 = .ok (.iload_n 1, 1) := by decide +kernel
theorem d_X10_lineWord_10 : decode cX10_lineWord 10 = .ok (.invokevirtual 197, 3) := by decide +kernel
theorem d_X10_lineWord_13 : decode cX10_lineWord 13 = .ok (.ifCond .eq 5, 3) := by decide +kernel
theorem d_X10_lineWord_16 : decode cX10_lineWord 16 = .ok (.iload_n 1, 1) := by decide +kernel
theorem d_X10_lineWord_17 : decode cX10_lineWord 17 = .ok (.ireturn, 1) := by decide +kernel
theorem d_X10_lineWord_18 : decode cX10_lineWord 18 = .ok (.iinc 1 1, 3) := by decide +kernel
theorem d_X10_lineWord_21 : decode cX10_lineWord 21 = .ok (.goto (-19), 3) := by decide +kernel
theorem d_X10_lineWord_24 : decode cX10_lineWord 24 = .ok (.iconst (-1), 1) := by decide +kernel
theorem d_X10_lineWord_25 : decode cX10_lineWord 25 = .ok (.ireturn, 1) := by decide +kernel
def l_X10_lineWord_2 (h : AH) (s : Int32) : Option (Int32 ⊕ (Int32 ⊕ Unit)) := if 8 < s then some (.inr (.inr ())) else bd (s_X10_is s h) fun x1 => if x1 = 0 then some (.inl (s + 1)) else some (.inr (.inl s))
theorem tb_X10_lineWord_2 {g : GP} {X : MX} {mcR msR : Nat} (hF : gF g = true) (hX : Cx g RX10 cX10_lineWord 4 mcR msR (some .int) [] X) {Q : State → Prop} {s : Int32} {h : AH} {z : (Int32 ⊕ (Int32 ⊕ Unit))} (e : l_X10_lineWord_2 h s = some z) (kI : ∀ (s2 : Int32), z = .inl s2 → AR g X 0 0 Q h 2 [.ref 240, .int s2] []) (kE0 : ∀ (yy : Int32) (y0 : Value), z = .inr (.inl yy) → AR g X 0 0 Q h 16 [y0, .int yy] []) (kE1 : ∀ (yy : Unit) (y0 : Value) (y1 : Value), z = .inr (.inr yy) → AR g X 0 0 Q h 24 [y0, y1] []) : AR g X 0 0 Q h 2 [.ref 240, .int s] [] := by
  unfold l_X10_lineWord_2 at e
  refine aw_iload_n (i := 1) hX rfl rfl d_X10_lineWord_2 ?_
  refine aw_bipush (v := 8) hX (by decide) d_X10_lineWord_3 ?_
  refine aw_icmp_gt (t := 24) hX (by decide) d_X10_lineWord_5 (fun c => ?_) (fun c => ?_)
  · rw [if_pos c] at e
    cases e
    exact kE1 () _ _ rfl
  · rw [if_neg c] at e
    refine aw_aload_n (i := 0) hX rfl rfl d_X10_lineWord_8 ?_
    refine aw_iload_n (i := 1) hX rfl rfl d_X10_lineWord_9 ?_
    obtain ⟨x1, f_1091, e_1091⟩ := bd_some e
    clear e
    refine aw_callV (b := 240) (av := [.int s]) (avr := [.int s]) hX (k_X10_is (cx_g hX) hF f_1091) mi_X10_is rfl rfl w_673 w_674 w_675 (by decide) rfl (LAY_lt rfl (by decide)) rfl rfl (Nat.le_of_ble_eq_true rfl) (Nat.zero_le _) (Nat.zero_le _) d_X10_lineWord_10 ?_
    refine aw_if_eq (t := 18) hX (by decide) d_X10_lineWord_13 (fun c => ?_) (fun c => ?_)
    · rw [if_pos c] at e_1091
      refine aw_iinc (i := 1) (lv2 := [.ref 240, .int (s + 1)]) hX rfl rfl rfl rfl d_X10_lineWord_18 ?_
      refine aw_goto (t := 2) hX (by decide) d_X10_lineWord_21 ?_
      cases e_1091
      exact kI (s + 1)  rfl
    · rw [if_neg c] at e_1091
      cases e_1091
      exact kE0 s _ rfl
theorem ti_X10_lineWord_2 {g : GP} {X : MX} {mcR msR : Nat} (hF : gF g = true) (hX : Cx g RX10 cX10_lineWord 4 mcR msR (some .int) [] X) {Q : State → Prop} {y : (Int32 ⊕ Unit)} {h : AH} (kE0 : ∀ (yy : Int32) (y_0 : Value), y = .inl yy → AR g X 0 0 Q h 16 [y_0, .int yy] []) (kE1 : ∀ (yy : Unit) (y_0 : Value) (y_1 : Value), y = .inr yy → AR g X 0 0 Q h 24 [y_0, y_1] []) (n : Nat) : ∀ (s : Int32), lpP (l_X10_lineWord_2 h) n s = some y → AR g X 0 0 Q h 2 [.ref 240, .int s] [] := by
  induction n with
  | zero => intro s e; cases e
  | succ n ih =>
    intro s e
    obtain ⟨x, e1, e2⟩ := lpP_succ e
    rcases e2 with ⟨s2, rfl, e3⟩ | rfl
    · exact tb_X10_lineWord_2 hF hX e1 (fun s3  hs => by cases hs; exact ih _   e3) (fun yy x0 hy => by cases hy) (fun yy x0 x1 hy => by cases hy)
    · exact tb_X10_lineWord_2 hF hX e1 (fun s3  hs => by cases hs) (fun yy x0 hy => by cases hy; exact kE0 _ x0 rfl) (fun yy x0 x1 hy => by cases hy; exact kE1 _ x0 x1 rfl)
theorem t_X10_lineWord_2 {g : GP} {X : MX} {mcR msR : Nat} (hF : gF g = true) (hX : Cx g RX10 cX10_lineWord 4 mcR msR (some .int) [] X) {Q : State → Prop} {s : Int32} {h : AH} {n : Nat} {y : (Int32 ⊕ Unit)} (e : lpP (l_X10_lineWord_2 h) n s = some y) (kE0 : ∀ (yy : Int32) (y_0 : Value), y = .inl yy → AR g X 0 0 Q h 16 [y_0, .int yy] []) (kE1 : ∀ (yy : Unit) (y_0 : Value) (y_1 : Value), y = .inr yy → AR g X 0 0 Q h 24 [y_0, y_1] []) : AR g X 0 0 Q h 2 [.ref 240, .int s] [] := ti_X10_lineWord_2 hF hX kE0 kE1 n _   e
def s_X10_lineWord (h : AH) : Option Int32 := bd (lpP (l_X10_lineWord_2 h) FU 0) fun y2 => (fun q => sm q (fun z3 => some z3) (fun z5 => some (-1))) y2
theorem t_X10_lineWord {g : GP} {X : MX} {mcR msR : Nat} (hF : gF g = true) (hX : Cx g RX10 cX10_lineWord 4 mcR msR (some .int) [] X) {h : AH} {z : Int32} (e : s_X10_lineWord h = some z) : AR g X 0 0 (QQ g X NT false h (.inl (some (.int z))) 0 0) h 0 [.ref 240, jk] [] := by
  unfold s_X10_lineWord at e
  refine aw_iconst (v := 0) hX (by decide) d_X10_lineWord_0 ?_
  refine aw_istore_n (i := 1) (lv2 := [.ref 240, .int 0]) hX rfl rfl rfl d_X10_lineWord_1 ?_
  obtain ⟨y2, f_1092, e_1092⟩ := bd_some e
  clear e
  refine t_X10_lineWord_2 hF hX f_1092 (fun z3 d4_0 hy => ?_) (fun z5 d6_0 d6_1 hy => ?_)
  · simp only [hy, sm] at e_1092
    refine aw_iload_n (i := 1) hX rfl rfl d_X10_lineWord_16 ?_
    cases e_1092
    exact aw_ireturn hX (Nat.zero_le _) (Nat.zero_le _) d_X10_lineWord_17
  · simp only [hy, sm] at e_1092
    refine aw_iconst (v := (-1)) hX (by decide) d_X10_lineWord_24 ?_
    cases e_1092
    exact aw_ireturn hX (Nat.zero_le _) (Nat.zero_le _) d_X10_lineWord_25
theorem k_X10_lineWord {g : GP} (hg : g.1.stackTraces = false) (hF : gF g = true) {h : AH} {z : Int32} (e : s_X10_lineWord h = some z) : Ctr g yX10_lineWord (wsY yX10_lineWord cX10_lineWord 2 (some .int)) 4 0 0 [.ref 240] NT false h (some (.int z)) NT false h := ctr_of (lv0 := [.ref 240, jk]) rfl rfl (by decide) hg trivial (fun X hX hn => t_X10_lineWord hF hX e)
theorem d_X10_line_0 : decode cX10_line 0 = .ok (.aload_n 0, 1) := by decide +kernel
theorem d_X10_line_1 : decode cX10_line 1 = .ok (.invokevirtual 225, 3) := by decide +kernel
theorem d_X10_line_4 : decode cX10_line 4 = .ok (.istore_n 1, 1) := by decide +kernel
theorem d_X10_line_5 : decode cX10_line 5 = .ok (.iload_n 1, 1) := by decide +kernel
theorem d_X10_line_6 : decode cX10_line 6 = .ok (.iconst (-1), 1) := by decide +kernel
theorem d_X10_line_7 : decode cX10_line 7 = .ok (.if_icmp .ne 8, 3) := by decide +kernel
theorem d_X10_line_10 : decode cX10_line 10 = .ok (.aload_n 0, 1) := by decide +kernel
theorem d_X10_line_11 : decode cX10_line 11 = .ok (.iconst 1, 1) := by decide +kernel
theorem d_X10_line_12 : decode cX10_line 12 = .ok (.invokevirtual 194, 3) := by decide +kernel
theorem d_X10_line_15 : decode cX10_line 15 = .ok (.aload_n 0, 1) := by decide +kernel
theorem d_X10_line_16 : decode cX10_line 16 = .ok (.invokevirtual 187, 3) := by decide +kernel
theorem d_X10_line_19 : decode cX10_line 19 = .ok (.ifCond .ne 4, 3) := by decide +kernel
theorem d_X10_line_22 : decode cX10_line 22 = .ok (.return_, 1) := by decide +kernel
theorem d_X10_line_23 : decode cX10_line 23 = .ok (.iload_n 1, 1) := by decide +kernel
theorem d_X10_line_24 : decode cX10_line 24 = .ok (.iconst 2, 1) := by decide +kernel
theorem d_X10_line_25 : decode cX10_line 25 = .ok (.if_icmp .ne 10, 3) := by decide +kernel
theorem d_X10_line_28 : decode cX10_line 28 = .ok (.aload_n 0, 1) := by decide +kernel
theorem d_X10_line_29 : decode cX10_line 29 = .ok (.invokevirtual 229, 3) := by decide +kernel
theorem d_X10_line_32 : decode cX10_line 32 = .ok (.goto 227, 3) := by decide +kernel
theorem d_X10_line_35 : decode cX10_line 35 = .ok (.iload_n 1, 1) := by decide +kernel
theorem d_X10_line_36 : decode cX10_line 36 = .ok (.iconst 3, 1) := by decide +kernel
theorem d_X10_line_37 : decode cX10_line 37 = .ok (.if_icmp .ne 10, 3) := by decide +kernel
theorem d_X10_line_40 : decode cX10_line 40 = .ok (.aload_n 0, 1) := by decide +kernel
theorem d_X10_line_41 : decode cX10_line 41 = .ok (.invokevirtual 232, 3) := by decide +kernel
theorem d_X10_line_44 : decode cX10_line 44 = .ok (.goto 215, 3) := by decide +kernel
theorem d_X10_line_47 : decode cX10_line 47 = .ok (.iload_n 1, 1) := by decide +kernel
theorem d_X10_line_48 : decode cX10_line 48 = .ok (.iconst 4, 1) := by decide +kernel
theorem d_X10_line_49 : decode cX10_line 49 = .ok (.if_icmp .ne 10, 3) := by decide +kernel
theorem d_X10_line_52 : decode cX10_line 52 = .ok (.aload_n 0, 1) := by decide +kernel
theorem d_X10_line_53 : decode cX10_line 53 = .ok (.invokevirtual 235, 3) := by decide +kernel
theorem d_X10_line_56 : decode cX10_line 56 = .ok (.goto 203, 3) := by decide +kernel
theorem d_X10_line_59 : decode cX10_line 59 = .ok (.aload_n 0, 1) := by decide +kernel
theorem d_X10_line_60 : decode cX10_line 60 = .ok (.getfield 238, 3) := by decide +kernel
theorem d_X10_line_63 : decode cX10_line 63 = .ok (.iload_n 1, 1) := by decide +kernel
theorem d_X10_line_64 : decode cX10_line 64 = .ok (.ishr, 1) := by decide +kernel
theorem d_X10_line_65 : decode cX10_line 65 = .ok (.iconst 1, 1) := by decide +kernel
theorem d_X10_line_66 : decode cX10_line 66 = .ok (.iand, 1) := by decide +kernel
theorem d_X10_line_67 : decode cX10_line 67 = .ok (.iconst 1, 1) := by decide +kernel
theorem d_X10_line_68 : decode cX10_line 68 = .ok (.if_icmp .ne 8, 3) := by decide +kernel
theorem d_X10_line_71 : decode cX10_line 71 = .ok (.aload_n 0, 1) := by decide +kernel
theorem d_X10_line_72 : decode cX10_line 72 = .ok (.iconst 5, 1) := by decide +kernel
theorem d_X10_line_73 : decode cX10_line 73 = .ok (.invokevirtual 194, 3) := by decide +kernel
theorem d_X10_line_76 : decode cX10_line 76 = .ok (.aload_n 0, 1) := by decide +kernel
theorem d_X10_line_77 : decode cX10_line 77 = .ok (.dup, 1) := by decide +kernel
theorem d_X10_line_78 : decode cX10_line 78 = .ok (.getfield 238, 3) := by decide +kernel
theorem d_X10_line_81 : decode cX10_line 81 = .ok (.iconst 1, 1) := by decide +kernel
theorem d_X10_line_82 : decode cX10_line 82 = .ok (.iload_n 1, 1) := by decide +kernel
theorem d_X10_line_83 : decode cX10_line 83 = .ok (.ishl, 1) := by decide +kernel
theorem d_X10_line_84 : decode cX10_line 84 = .ok (.ior, 1) := by decide +kernel
theorem d_X10_line_85 : decode cX10_line 85 = .ok (.putfield 238, 3) := by decide +kernel
theorem d_X10_line_88 : decode cX10_line 88 = .ok (.aload_n 0, 1) := by decide +kernel
theorem d_X10_line_89 : decode cX10_line 89 = .ok (.invokevirtual 187, 3) := by decide +kernel
theorem d_X10_line_92 : decode cX10_line 92 = .ok (.ifCond .ne 4, 3) := by decide +kernel
theorem d_X10_line_95 : decode cX10_line 95 = .ok (.return_, 1) := by decide +kernel
theorem d_X10_line_96 : decode cX10_line 96 = .ok (.aload_n 0, 1) := by decide +kernel
theorem d_X10_line_97 : decode cX10_line 97 = .ok (.invokevirtual 191, 3) := by decide +kernel
theorem d_X10_line_100 : decode cX10_line 100 = .ok (.iload_n 1, 1) := by decide +kernel
theorem d_X10_line_101 : decode cX10_line 101 = .ok (.ifCond .ne 15, 3) := by decide +kernel
theorem d_X10_line_104 : decode cX10_line 104 = .ok (.aload_n 0, 1) := by decide +kernel
theorem d_X10_line_105 : decode cX10_line 105 = .ok (.aload_n 0, 1) := by decide +kernel
theorem d_X10_line_106 : decode cX10_line 106 = .ok (.iconst 1, 1) := by decide +kernel
theorem d_X10_line_107 : decode cX10_line 107 = .ok (.sipush 400, 3) := by decide +kernel
theorem d_X10_line_110 : decode cX10_line 110 = .ok (.invokevirtual 204, 3) := by decide +kernel
theorem d_X10_line_113 : decode cX10_line 113 = .ok (.putfield 241, 3) := by decide +kernel
theorem d_X10_line_116 : decode cX10_line 116 = .ok (.iload_n 1, 1) := by decide +kernel
theorem d_X10_line_117 : decode cX10_line 117 = .ok (.iconst 1, 1) := by decide +kernel
theorem d_X10_line_118 : decode cX10_line 118 = .ok (.if_icmp .ne 15, 3) := by decide +kernel
theorem d_X10_line_121 : decode cX10_line 121 = .ok (.aload_n 0, 1) := by decide +kernel
theorem d_X10_line_122 : decode cX10_line 122 = .ok (.aload_n 0, 1) := by decide +kernel
theorem d_X10_line_123 : decode cX10_line 123 = .ok (.iconst 0, 1) := by decide +kernel
theorem d_X10_line_124 : decode cX10_line 124 = .ok (.sipush 9999, 3) := by decide +kernel
theorem d_X10_line_127 : decode cX10_line 127 = .ok (.invokevirtual 204, 3) := by decide +kernel
theorem d_X10_line_130 : decode cX10_line 130 = .ok (.putfield 244, 3) := by decide +kernel
theorem d_X10_line_133 : decode cX10_line 133 = .ok (.iload_n 1, 1) := by decide +kernel
theorem d_X10_line_134 : decode cX10_line 134 = .ok (.iconst 5, 1) := by decide +kernel
theorem d_X10_line_135 : decode cX10_line 135 = .ok (.if_icmp .ne 17, 3) := by decide +kernel
theorem d_X10_line_138 : decode cX10_line 138 = .ok (.aload_n 0, 1) := by decide +kernel
theorem d_X10_line_139 : decode cX10_line 139 = .ok (.getfield 44, 3) := by decide +kernel
theorem d_X10_line_142 : decode cX10_line 142 = .ok (.iconst 1, 1) := by decide +kernel
theorem d_X10_line_143 : decode cX10_line 143 = .ok (.aload_n 0, 1) := by decide +kernel
theorem d_X10_line_144 : decode cX10_line 144 = .ok (.iconst 0, 1) := by decide +kernel
theorem d_X10_line_145 : decode cX10_line 145 = .ok (.sipush 9999, 3) := by decide +kernel
theorem d_X10_line_148 : decode cX10_line 148 = .ok (.invokevirtual 204, 3) := by decide +kernel
theorem d_X10_line_151 : decode cX10_line 151 = .ok (.iastore, 1) := by decide +kernel
theorem d_X10_line_152 : decode cX10_line 152 = .ok (.iload_n 1, 1) := by decide +kernel
theorem d_X10_line_153 : decode cX10_line 153 = .ok (.bipush 8, 2) := by decide +kernel
theorem d_X10_line_155 : decode cX10_line 155 = .ok (.if_icmp .ne 17, 3) := by decide +kernel
theorem d_X10_line_158 : decode cX10_line 158 = .ok (.aload_n 0, 1) := by decide +kernel
theorem d_X10_line_159 : decode cX10_line 159 = .ok (.getfield 44, 3) := by decide +kernel
theorem d_X10_line_162 : decode cX10_line 162 = .ok (.iconst 4, 1) := by decide +kernel
theorem d_X10_line_163 : decode cX10_line 163 = .ok (.aload_n 0, 1) := by decide +kernel
theorem d_X10_line_164 : decode cX10_line 164 = .ok (.iconst 0, 1) := by decide +kernel
theorem d_X10_line_165 : decode cX10_line 165 = .ok (.sipush 9999, 3) := by decide +kernel
theorem d_X10_line_168 : decode cX10_line 168 = .ok (.invokevirtual 204, 3) := by decide +kernel
theorem d_X10_line_171 : decode cX10_line 171 = .ok (.iastore, 1) := by decide +kernel
theorem d_X10_line_172 : decode cX10_line 172 = .ok (.iload_n 1, 1) := by decide +kernel
theorem d_X10_line_173 : decode cX10_line 173 = .ok (.bipush 6, 2) := by decide +kernel
theorem d_X10_line_175 : decode cX10_line 175 = .ok (.if_icmp .ne 28, 3) := by decide +kernel
theorem d_X10_line_178 : decode cX10_line 178 = .ok (.aload_n 0, 1) := by decide +kernel
theorem d_X10_line_179 : decode cX10_line 179 = .ok (.aload_n 0, 1) := by decide +kernel
theorem d_X10_line_180 : decode cX10_line 180 = .ok (.iconst 1, 1) := by decide +kernel
theorem d_X10_line_181 : decode cX10_line 181 = .ok (.bipush 12, 2) := by decide +kernel
theorem d_X10_line_183 : decode cX10_line 183 = .ok (.invokevirtual 204, 3) := by decide +kernel
theorem d_X10_line_186 : decode cX10_line 186 = .ok (.putfield 247, 3) := by decide +kernel
theorem d_X10_line_189 : decode cX10_line 189 = .ok (.aload_n 0, 1) := by decide +kernel
theorem d_X10_line_190 : decode cX10_line 190 = .ok (.getfield 44, 3) := by decide +kernel
theorem d_X10_line_193 : decode cX10_line 193 = .ok (.iconst 2, 1) := by decide +kernel
theorem d_X10_line_194 : decode cX10_line 194 = .ok (.aload_n 0, 1) := by decide +kernel
theorem d_X10_line_195 : decode cX10_line 195 = .ok (.iconst 0, 1) := by decide +kernel
theorem d_X10_line_196 : decode cX10_line 196 = .ok (.sipush 9999, 3) := by decide +kernel
theorem d_X10_line_199 : decode cX10_line 199 = .ok (.invokevirtual 204, 3) := by decide +kernel
theorem d_X10_line_202 : decode cX10_line 202 = .ok (.iastore, 1) := by decide +kernel
theorem d_X10_line_203 : decode cX10_line 203 = .ok (.iload_n 1, 1) := by decide +kernel
theorem d_X10_line_204 : decode cX10_line 204 = .ok (.bipush 7, 2) := by decide +kernel
theorem d_X10_line_206 : decode cX10_line 206 = .ok (.if_icmp .ne 53, 3) := by decide +kernel
theorem d_X10_line_209 : decode cX10_line 209 = .ok (.aload_n 0, 1) := by decide +kernel
theorem d_X10_line_210 : decode cX10_line 210 = .ok (.getfield 44, 3) := by decide +kernel
theorem d_X10_line_213 : decode cX10_line 213 = .ok (.iconst 3, 1) := by decide +kernel
theorem d_X10_line_214 : decode cX10_line 214 = .ok (.aload_n 0, 1) := by decide +kernel
theorem d_X10_line_215 : decode cX10_line 215 = .ok (.iconst 0, 1) := by decide +kernel
theorem d_X10_line_216 : decode cX10_line 216 = .ok (.sipush 9999, 3) := by decide +kernel
theorem d_X10_line_219 : decode cX10_line 219 = .ok (.invokevirtual 204, 3) := by decide +kernel
theorem d_X10_line_222 : decode cX10_line 222 = .ok (.iastore, 1) := by decide +kernel
theorem d_X10_line_223 : decode cX10_line 223 = .ok (.aload_n 0, 1) := by decide +kernel
theorem d_X10_line_224 : decode cX10_line 224 = .ok (.aload_n 0, 1) := by decide +kernel
theorem d_X10_line_225 : decode cX10_line 225 = .ok (.bipush 18, 2) := by decide +kernel
theorem d_X10_line_227 : decode cX10_line 227 = .ok (.invokevirtual 197, 3) := by decide +kernel
theorem d_X10_line_230 : decode cX10_line 230 = .ok (.invokevirtual 200, 3) := by decide +kernel
theorem d_X10_line_233 : decode cX10_line 233 = .ok (.aload_n 0, 1) := by decide +kernel
theorem d_X10_line_234 : decode cX10_line 234 = .ok (.invokevirtual 250, 3) := by decide +kernel
theorem d_X10_line_237 : decode cX10_line 237 = .ok (.aload_n 0, 1) := by decide +kernel
theorem d_X10_line_238 : decode cX10_line 238 = .ok (.invokevirtual 187, 3) := by decide +kernel
theorem d_X10_line_241 : decode cX10_line 241 = .ok (.ifCond .eq 18, 3) := by decide +kernel
theorem d_X10_line_244 : decode cX10_line 244 = .ok (.aload_n 0, 1) := by decide +kernel
theorem d_X10_line_245 : decode cX10_line 245 = .ok (.getfield 163, 3) := by decide +kernel
theorem d_X10_line_248 : decode cX10_line 248 = .ok (.iconst 2, 1) := by decide +kernel
theorem d_X10_line_249 : decode cX10_line 249 = .ok (.if_icmp .ne 10, 3) := by decide +kernel
theorem d_X10_line_252 : decode cX10_line 252 = .ok (.aload_n 0, 1) := by decide +kernel
theorem d_X10_line_253 : decode cX10_line 253 = .ok (.invokevirtual 250, 3) := by decide +kernel
theorem d_X10_line_256 : decode cX10_line 256 = .ok (.goto (-19), 3) := by decide +kernel
theorem d_X10_line_259 : decode cX10_line 259 = .ok (.aload_n 0, 1) := by decide +kernel
theorem d_X10_line_260 : decode cX10_line 260 = .ok (.aload_n 0, 1) := by decide +kernel
theorem d_X10_line_261 : decode cX10_line 261 = .ok (.getfield 163, 3) := by decide +kernel
theorem d_X10_line_264 : decode cX10_line 264 = .ok (.iconst 3, 1) := by decide +kernel
theorem d_X10_line_265 : decode cX10_line 265 = .ok (.if_icmp .ne 7, 3) := by decide +kernel
theorem d_X10_line_268 : decode cX10_line 268 = .ok (.iconst 1, 1) := by decide +kernel
theorem d_X10_line_269 : decode cX10_line 269 = .ok (.goto 4, 3) := by decide +kernel
theorem d_X10_line_272 : decode cX10_line 272 = .ok (.iconst 0, 1) := by decide +kernel
theorem d_X10_line_273 : decode cX10_line 273 = .ok (.invokevirtual 200, 3) := by decide +kernel
theorem d_X10_line_276 : decode cX10_line 276 = .ok (.return_, 1) := by decide +kernel
def j_X10_line_273 (k0 : Int32) (h : AH) : Option (Unit × AH) := bd (s_X10_need k0 h) fun q5 => some ((), q5.2)
theorem tj_X10_line_273 {g : GP} {X : MX} {mcR msR : Nat} (hF : gF g = true) (hX : Cx g RX10 cX10_line 7 mcR msR none [] X) {k0 : Int32} {d0 : Value} {d1 : Value} {h hz : AH} {z : Unit} (e : j_X10_line_273 k0 h = some (z, hz)) : AR g X 0 0 (QQ g X NT false hz (.inl none) 0 0) h 273 [d0, d1] [.int k0, .ref 240] := by
  unfold j_X10_line_273 at e
  obtain ⟨q5, f_1093, e_1093⟩ := bd_some e
  clear e
  refine aw_callV (b := 240) (av := [.int k0]) (avr := [.int k0]) hX (k_X10_need (cx_g hX) hF f_1093) mi_X10_need rfl rfl w_677 w_678 w_679 (by decide) rfl (LAY_lt rfl (by decide)) rfl rfl (Nat.le_of_ble_eq_true rfl) (Nat.zero_le _) (Nat.zero_le _) d_X10_line_273 ?_
  cases e_1093
  exact aw_return hX (Nat.zero_le _) (Nat.zero_le _) d_X10_line_276
def j_X10_line_259 (h : AH) : Option (Unit × AH) := if (gI h 240 18) = 3 then j_X10_line_273 1 h else j_X10_line_273 0 h
theorem tj_X10_line_259 {g : GP} {X : MX} {mcR msR : Nat} (hF : gF g = true) (hX : Cx g RX10 cX10_line 7 mcR msR none [] X) {d1 : Value} {h hz : AH} {z : Unit} (e : j_X10_line_259 h = some (z, hz)) : AR g X 0 0 (QQ g X NT false hz (.inl none) 0 0) h 259 [.ref 240, d1] [] := by
  unfold j_X10_line_259 at e
  refine aw_aload_n (i := 0) hX rfl rfl d_X10_line_259 ?_
  refine aw_aload_n (i := 0) hX rfl rfl d_X10_line_260 ?_
  refine ar_getI hX fg_RX10_163 rfl d_X10_line_261 ?_
  refine aw_iconst (v := 3) hX (by decide) d_X10_line_264 ?_
  refine aw_icmp_ne (t := 272) hX (by decide) d_X10_line_265 (fun c => ?_) (fun c => ?_)
  · rw [if_neg c] at e
    refine aw_iconst (v := 0) hX (by decide) d_X10_line_272 ?_
    exact tj_X10_line_273 hF hX e
  · rw [if_pos c] at e
    refine aw_iconst (v := 1) hX (by decide) d_X10_line_268 ?_
    refine aw_goto (t := 273) hX (by decide) d_X10_line_269 ?_
    exact tj_X10_line_273 hF hX e
def l_X10_line_237 (s : Unit) (h : AH) : Option ((Unit ⊕ Unit) × AH) := bd (s_X10_isGood h) fun x11 => if x11 = 0 then some (.inr (), h) else if (gI h 240 18) = 2 then bd (s_X10_member h) fun q12 => some (.inl (), q12.2) else some (.inr (), h)
theorem tb_X10_line_237 {g : GP} {X : MX} {mcR msR : Nat} (hF : gF g = true) (hX : Cx g RX10 cX10_line 7 mcR msR none [] X) {Q : State → Prop} {s : Unit} {d1 : Value} {h hz : AH} {z : (Unit ⊕ Unit)} (e : l_X10_line_237 s h = some (z, hz)) (kI : ∀ (s2 : Unit) (xd1 : Value), z = .inl s2 → AR g X 0 0 Q hz 237 [.ref 240, xd1] []) (kE0 : ∀ (yy : Unit) (y1 : Value), z = .inr yy → AR g X 0 0 Q hz 259 [.ref 240, y1] []) : AR g X 0 0 Q h 237 [.ref 240, d1] [] := by
  unfold l_X10_line_237 at e
  refine aw_aload_n (i := 0) hX rfl rfl d_X10_line_237 ?_
  obtain ⟨x11, f_1094, e_1094⟩ := bd_some e
  clear e
  refine aw_callV (b := 240) (av := []) (avr := []) hX (k_X10_isGood (cx_g hX) hF f_1094) mi_X10_isGood rfl rfl w_661 w_662 w_663 (by decide) rfl (LAY_lt rfl (by decide)) rfl rfl (Nat.le_of_ble_eq_true rfl) (Nat.zero_le _) (Nat.zero_le _) d_X10_line_238 ?_
  refine aw_if_eq (t := 259) hX (by decide) d_X10_line_241 (fun c => ?_) (fun c => ?_)
  · rw [if_pos c] at e_1094
    cases e_1094
    exact kE0 () _ rfl
  · rw [if_neg c] at e_1094
    refine aw_aload_n (i := 0) hX rfl rfl d_X10_line_244 ?_
    refine ar_getI hX fg_RX10_163 rfl d_X10_line_245 ?_
    refine aw_iconst (v := 2) hX (by decide) d_X10_line_248 ?_
    refine aw_icmp_ne (t := 259) hX (by decide) d_X10_line_249 (fun c => ?_) (fun c => ?_)
    · rw [if_neg c] at e_1094
      cases e_1094
      exact kE0 () _ rfl
    · rw [if_pos c] at e_1094
      refine aw_aload_n (i := 0) hX rfl rfl d_X10_line_252 ?_
      obtain ⟨q12, f_1095, e_1095⟩ := bd_some e_1094
      clear e_1094
      refine aw_callV (b := 240) (av := []) (avr := []) hX (k_X10_member (cx_g hX) hF f_1095) mi_X10_member rfl rfl w_705 w_706 w_707 (by decide) rfl (LAY_lt rfl (by decide)) rfl rfl (Nat.le_of_ble_eq_true rfl) (Nat.zero_le _) (Nat.zero_le _) d_X10_line_253 ?_
      refine aw_goto (t := 237) hX (by decide) d_X10_line_256 ?_
      cases e_1095
      exact kI () _ rfl
theorem ti_X10_line_237 {g : GP} {X : MX} {mcR msR : Nat} (hF : gF g = true) (hX : Cx g RX10 cX10_line 7 mcR msR none [] X) {Q : State → Prop} {y : Unit} {hz : AH} (kE0 : ∀ (y_1 : Value), AR g X 0 0 Q hz 259 [.ref 240, y_1] []) (n : Nat) : ∀ (s : Unit) (d1 : Value) (h : AH), lpH (l_X10_line_237) n s h = some (y, hz) → AR g X 0 0 Q h 237 [.ref 240, d1] [] := by
  induction n with
  | zero => intro s d1 h e; cases e
  | succ n ih =>
    intro s d1 h e
    obtain ⟨x, h1, e1, e2⟩ := lpH_succ e
    rcases e2 with ⟨s2, rfl, e3⟩ | ⟨rfl, rfl⟩
    · exact tb_X10_line_237 hF hX e1 (fun s3 x0 hs => by cases hs; exact ih _ _ _ e3) (fun yy x0 hy => by cases hy)
    · exact tb_X10_line_237 hF hX e1 (fun s3 x0 hs => by cases hs) (fun yy x0 hy => by cases hy; exact kE0 x0)
theorem t_X10_line_237 {g : GP} {X : MX} {mcR msR : Nat} (hF : gF g = true) (hX : Cx g RX10 cX10_line 7 mcR msR none [] X) {Q : State → Prop} {s : Unit} {d1 : Value} {h hz : AH} {n : Nat} {y : Unit} (e : lpH (l_X10_line_237) n s h = some (y, hz)) (kE0 : ∀ (y_1 : Value), AR g X 0 0 Q hz 259 [.ref 240, y_1] []) : AR g X 0 0 Q h 237 [.ref 240, d1] [] := ti_X10_line_237 hF hX kE0 n _ _ _ e
def j_X10_line_203 (v1 : Int32) (h : AH) : Option (Unit × AH) := if v1 = 7 then bd (s_X10_number 0 9999 h) fun q6 => bd (stI q6.2 250 3 q6.1) fun m7 => bd (s_X10_is 18 m7) fun x8 => bd (s_X10_need x8 m7) fun q9 => bd (s_X10_member q9.2) fun q10 => bd (lpH (l_X10_line_237) FU () q10.2) fun y13 => j_X10_line_259 y13.2 else j_X10_line_259 h
theorem tj_X10_line_203 {g : GP} {X : MX} {mcR msR : Nat} (hF : gF g = true) (hX : Cx g RX10 cX10_line 7 mcR msR none [] X) {v1 : Int32} {h hz : AH} {z : Unit} (e : j_X10_line_203 v1 h = some (z, hz)) : AR g X 0 0 (QQ g X NT false hz (.inl none) 0 0) h 203 [.ref 240, .int v1] [] := by
  unfold j_X10_line_203 at e
  refine aw_iload_n (i := 1) hX rfl rfl d_X10_line_203 ?_
  refine aw_bipush (v := 7) hX (by decide) d_X10_line_204 ?_
  refine aw_icmp_ne (t := 259) hX (by decide) d_X10_line_206 (fun c => ?_) (fun c => ?_)
  · rw [if_neg c] at e
    exact tj_X10_line_259 hF hX e
  · rw [if_pos c] at e
    refine aw_aload_n (i := 0) hX rfl rfl d_X10_line_209 ?_
    refine ar_getF hX hF fg_RX10_44 rfl d_X10_line_210 ?_
    show AR g X 0 0 _ _ 213 _ [.ref 250]
    refine aw_iconst (v := 3) hX (by decide) d_X10_line_213 ?_
    refine aw_aload_n (i := 0) hX rfl rfl d_X10_line_214 ?_
    refine aw_iconst (v := 0) hX (by decide) d_X10_line_215 ?_
    refine aw_sipush (v := 9999) hX (by decide) d_X10_line_216 ?_
    obtain ⟨q6, f_1096, e_1096⟩ := bd_some e
    clear e
    refine aw_callV (b := 240) (av := [.int 0, .int 9999]) (avr := [.int 9999, .int 0]) hX (k_X10_number (cx_g hX) hF f_1096) mi_X10_number rfl rfl w_681 w_682 w_683 (by decide) rfl (LAY_lt rfl (by decide)) rfl rfl (Nat.le_of_ble_eq_true rfl) (Nat.zero_le _) (Nat.zero_le _) d_X10_line_219 ?_
    obtain ⟨m7, f_1097, e_1097⟩ := bd_some e_1096
    clear e_1096
    refine ar_iastore hX f_1097 d_X10_line_222 ?_
    refine aw_aload_n (i := 0) hX rfl rfl d_X10_line_223 ?_
    refine aw_aload_n (i := 0) hX rfl rfl d_X10_line_224 ?_
    refine aw_bipush (v := 18) hX (by decide) d_X10_line_225 ?_
    obtain ⟨x8, f_1098, e_1098⟩ := bd_some e_1097
    clear e_1097
    refine aw_callV (b := 240) (av := [.int 18]) (avr := [.int 18]) hX (k_X10_is (cx_g hX) hF f_1098) mi_X10_is rfl rfl w_673 w_674 w_675 (by decide) rfl (LAY_lt rfl (by decide)) rfl rfl (Nat.le_of_ble_eq_true rfl) (Nat.zero_le _) (Nat.zero_le _) d_X10_line_227 ?_
    obtain ⟨q9, f_1099, e_1099⟩ := bd_some e_1098
    clear e_1098
    refine aw_callV (b := 240) (av := [.int x8]) (avr := [.int x8]) hX (k_X10_need (cx_g hX) hF f_1099) mi_X10_need rfl rfl w_677 w_678 w_679 (by decide) rfl (LAY_lt rfl (by decide)) rfl rfl (Nat.le_of_ble_eq_true rfl) (Nat.zero_le _) (Nat.zero_le _) d_X10_line_230 ?_
    refine aw_aload_n (i := 0) hX rfl rfl d_X10_line_233 ?_
    obtain ⟨q10, f_1100, e_1100⟩ := bd_some e_1099
    clear e_1099
    refine aw_callV (b := 240) (av := []) (avr := []) hX (k_X10_member (cx_g hX) hF f_1100) mi_X10_member rfl rfl w_705 w_706 w_707 (by decide) rfl (LAY_lt rfl (by decide)) rfl rfl (Nat.le_of_ble_eq_true rfl) (Nat.zero_le _) (Nat.zero_le _) d_X10_line_234 ?_
    obtain ⟨y13, f_1101, e_1101⟩ := bd_some e_1100
    clear e_1100
    refine t_X10_line_237 hF hX f_1101 (fun d14_1 => ?_)
    exact tj_X10_line_259 hF hX e_1101
def j_X10_line_172 (v1 : Int32) (h : AH) : Option (Unit × AH) := if v1 = 6 then bd (s_X10_number 1 12 h) fun q15 => bd (s_X10_number 0 9999 (sI q15.2 240 28 q15.1)) fun q16 => bd (stI q16.2 250 2 q16.1) fun m17 => j_X10_line_203 v1 m17 else j_X10_line_203 v1 h
theorem tj_X10_line_172 {g : GP} {X : MX} {mcR msR : Nat} (hF : gF g = true) (hX : Cx g RX10 cX10_line 7 mcR msR none [] X) {v1 : Int32} {h hz : AH} {z : Unit} (e : j_X10_line_172 v1 h = some (z, hz)) : AR g X 0 0 (QQ g X NT false hz (.inl none) 0 0) h 172 [.ref 240, .int v1] [] := by
  unfold j_X10_line_172 at e
  refine aw_iload_n (i := 1) hX rfl rfl d_X10_line_172 ?_
  refine aw_bipush (v := 6) hX (by decide) d_X10_line_173 ?_
  refine aw_icmp_ne (t := 203) hX (by decide) d_X10_line_175 (fun c => ?_) (fun c => ?_)
  · rw [if_neg c] at e
    exact tj_X10_line_203 hF hX e
  · rw [if_pos c] at e
    refine aw_aload_n (i := 0) hX rfl rfl d_X10_line_178 ?_
    refine aw_aload_n (i := 0) hX rfl rfl d_X10_line_179 ?_
    refine aw_iconst (v := 1) hX (by decide) d_X10_line_180 ?_
    refine aw_bipush (v := 12) hX (by decide) d_X10_line_181 ?_
    obtain ⟨q15, f_1102, e_1102⟩ := bd_some e
    clear e
    refine aw_callV (b := 240) (av := [.int 1, .int 12]) (avr := [.int 12, .int 1]) hX (k_X10_number (cx_g hX) hF f_1102) mi_X10_number rfl rfl w_681 w_682 w_683 (by decide) rfl (LAY_lt rfl (by decide)) rfl rfl (Nat.le_of_ble_eq_true rfl) (Nat.zero_le _) (Nat.zero_le _) d_X10_line_183 ?_
    refine ar_putI hX fp_RX10_247 rfl d_X10_line_186 ?_
    refine aw_aload_n (i := 0) hX rfl rfl d_X10_line_189 ?_
    refine ar_getF hX hF fg_RX10_44 rfl d_X10_line_190 ?_
    show AR g X 0 0 _ _ 193 _ [.ref 250]
    refine aw_iconst (v := 2) hX (by decide) d_X10_line_193 ?_
    refine aw_aload_n (i := 0) hX rfl rfl d_X10_line_194 ?_
    refine aw_iconst (v := 0) hX (by decide) d_X10_line_195 ?_
    refine aw_sipush (v := 9999) hX (by decide) d_X10_line_196 ?_
    obtain ⟨q16, f_1103, e_1103⟩ := bd_some e_1102
    clear e_1102
    refine aw_callV (b := 240) (av := [.int 0, .int 9999]) (avr := [.int 9999, .int 0]) hX (k_X10_number (cx_g hX) hF f_1103) mi_X10_number rfl rfl w_681 w_682 w_683 (by decide) rfl (LAY_lt rfl (by decide)) rfl rfl (Nat.le_of_ble_eq_true rfl) (Nat.zero_le _) (Nat.zero_le _) d_X10_line_199 ?_
    obtain ⟨m17, f_1104, e_1104⟩ := bd_some e_1103
    clear e_1103
    refine ar_iastore hX f_1104 d_X10_line_202 ?_
    exact tj_X10_line_203 hF hX e_1104
def j_X10_line_152 (v1 : Int32) (h : AH) : Option (Unit × AH) := if v1 = 8 then bd (s_X10_number 0 9999 h) fun q18 => bd (stI q18.2 250 4 q18.1) fun m19 => j_X10_line_172 v1 m19 else j_X10_line_172 v1 h
theorem tj_X10_line_152 {g : GP} {X : MX} {mcR msR : Nat} (hF : gF g = true) (hX : Cx g RX10 cX10_line 7 mcR msR none [] X) {v1 : Int32} {h hz : AH} {z : Unit} (e : j_X10_line_152 v1 h = some (z, hz)) : AR g X 0 0 (QQ g X NT false hz (.inl none) 0 0) h 152 [.ref 240, .int v1] [] := by
  unfold j_X10_line_152 at e
  refine aw_iload_n (i := 1) hX rfl rfl d_X10_line_152 ?_
  refine aw_bipush (v := 8) hX (by decide) d_X10_line_153 ?_
  refine aw_icmp_ne (t := 172) hX (by decide) d_X10_line_155 (fun c => ?_) (fun c => ?_)
  · rw [if_neg c] at e
    exact tj_X10_line_172 hF hX e
  · rw [if_pos c] at e
    refine aw_aload_n (i := 0) hX rfl rfl d_X10_line_158 ?_
    refine ar_getF hX hF fg_RX10_44 rfl d_X10_line_159 ?_
    show AR g X 0 0 _ _ 162 _ [.ref 250]
    refine aw_iconst (v := 4) hX (by decide) d_X10_line_162 ?_
    refine aw_aload_n (i := 0) hX rfl rfl d_X10_line_163 ?_
    refine aw_iconst (v := 0) hX (by decide) d_X10_line_164 ?_
    refine aw_sipush (v := 9999) hX (by decide) d_X10_line_165 ?_
    obtain ⟨q18, f_1105, e_1105⟩ := bd_some e
    clear e
    refine aw_callV (b := 240) (av := [.int 0, .int 9999]) (avr := [.int 9999, .int 0]) hX (k_X10_number (cx_g hX) hF f_1105) mi_X10_number rfl rfl w_681 w_682 w_683 (by decide) rfl (LAY_lt rfl (by decide)) rfl rfl (Nat.le_of_ble_eq_true rfl) (Nat.zero_le _) (Nat.zero_le _) d_X10_line_168 ?_
    obtain ⟨m19, f_1106, e_1106⟩ := bd_some e_1105
    clear e_1105
    refine ar_iastore hX f_1106 d_X10_line_171 ?_
    exact tj_X10_line_172 hF hX e_1106
def j_X10_line_133 (v1 : Int32) (h : AH) : Option (Unit × AH) := if v1 = 5 then bd (s_X10_number 0 9999 h) fun q20 => bd (stI q20.2 250 1 q20.1) fun m21 => j_X10_line_152 v1 m21 else j_X10_line_152 v1 h
theorem tj_X10_line_133 {g : GP} {X : MX} {mcR msR : Nat} (hF : gF g = true) (hX : Cx g RX10 cX10_line 7 mcR msR none [] X) {v1 : Int32} {h hz : AH} {z : Unit} (e : j_X10_line_133 v1 h = some (z, hz)) : AR g X 0 0 (QQ g X NT false hz (.inl none) 0 0) h 133 [.ref 240, .int v1] [] := by
  unfold j_X10_line_133 at e
  refine aw_iload_n (i := 1) hX rfl rfl d_X10_line_133 ?_
  refine aw_iconst (v := 5) hX (by decide) d_X10_line_134 ?_
  refine aw_icmp_ne (t := 152) hX (by decide) d_X10_line_135 (fun c => ?_) (fun c => ?_)
  · rw [if_neg c] at e
    exact tj_X10_line_152 hF hX e
  · rw [if_pos c] at e
    refine aw_aload_n (i := 0) hX rfl rfl d_X10_line_138 ?_
    refine ar_getF hX hF fg_RX10_44 rfl d_X10_line_139 ?_
    show AR g X 0 0 _ _ 142 _ [.ref 250]
    refine aw_iconst (v := 1) hX (by decide) d_X10_line_142 ?_
    refine aw_aload_n (i := 0) hX rfl rfl d_X10_line_143 ?_
    refine aw_iconst (v := 0) hX (by decide) d_X10_line_144 ?_
    refine aw_sipush (v := 9999) hX (by decide) d_X10_line_145 ?_
    obtain ⟨q20, f_1107, e_1107⟩ := bd_some e
    clear e
    refine aw_callV (b := 240) (av := [.int 0, .int 9999]) (avr := [.int 9999, .int 0]) hX (k_X10_number (cx_g hX) hF f_1107) mi_X10_number rfl rfl w_681 w_682 w_683 (by decide) rfl (LAY_lt rfl (by decide)) rfl rfl (Nat.le_of_ble_eq_true rfl) (Nat.zero_le _) (Nat.zero_le _) d_X10_line_148 ?_
    obtain ⟨m21, f_1108, e_1108⟩ := bd_some e_1107
    clear e_1107
    refine ar_iastore hX f_1108 d_X10_line_151 ?_
    exact tj_X10_line_152 hF hX e_1108
def j_X10_line_116 (v1 : Int32) (h : AH) : Option (Unit × AH) := if v1 = 1 then bd (s_X10_number 0 9999 h) fun q22 => j_X10_line_133 v1 (sI q22.2 240 24 q22.1) else j_X10_line_133 v1 h
theorem tj_X10_line_116 {g : GP} {X : MX} {mcR msR : Nat} (hF : gF g = true) (hX : Cx g RX10 cX10_line 7 mcR msR none [] X) {v1 : Int32} {h hz : AH} {z : Unit} (e : j_X10_line_116 v1 h = some (z, hz)) : AR g X 0 0 (QQ g X NT false hz (.inl none) 0 0) h 116 [.ref 240, .int v1] [] := by
  unfold j_X10_line_116 at e
  refine aw_iload_n (i := 1) hX rfl rfl d_X10_line_116 ?_
  refine aw_iconst (v := 1) hX (by decide) d_X10_line_117 ?_
  refine aw_icmp_ne (t := 133) hX (by decide) d_X10_line_118 (fun c => ?_) (fun c => ?_)
  · rw [if_neg c] at e
    exact tj_X10_line_133 hF hX e
  · rw [if_pos c] at e
    refine aw_aload_n (i := 0) hX rfl rfl d_X10_line_121 ?_
    refine aw_aload_n (i := 0) hX rfl rfl d_X10_line_122 ?_
    refine aw_iconst (v := 0) hX (by decide) d_X10_line_123 ?_
    refine aw_sipush (v := 9999) hX (by decide) d_X10_line_124 ?_
    obtain ⟨q22, f_1109, e_1109⟩ := bd_some e
    clear e
    refine aw_callV (b := 240) (av := [.int 0, .int 9999]) (avr := [.int 9999, .int 0]) hX (k_X10_number (cx_g hX) hF f_1109) mi_X10_number rfl rfl w_681 w_682 w_683 (by decide) rfl (LAY_lt rfl (by decide)) rfl rfl (Nat.le_of_ble_eq_true rfl) (Nat.zero_le _) (Nat.zero_le _) d_X10_line_127 ?_
    refine ar_putI hX fp_RX10_244 rfl d_X10_line_130 ?_
    exact tj_X10_line_133 hF hX e_1109
def j_X10_line_76 (v1 : Int32) (h : AH) : Option (Unit × AH) := bd (s_X10_isGood (sI h 240 29 ((gI h 240 29) ||| (1 <<< (v1 &&& 31))))) fun x3 => if x3 = 0 then some ((), sI h 240 29 ((gI h 240 29) ||| (1 <<< (v1 &&& 31)))) else bd (s_X10_steps (sI h 240 29 ((gI h 240 29) ||| (1 <<< (v1 &&& 31))))) fun q4 => if v1 = 0 then bd (s_X10_number 1 400 q4.2) fun q23 => j_X10_line_116 v1 (sI q23.2 240 23 q23.1) else j_X10_line_116 v1 q4.2
theorem tj_X10_line_76 {g : GP} {X : MX} {mcR msR : Nat} (hF : gF g = true) (hX : Cx g RX10 cX10_line 7 mcR msR none [] X) {v1 : Int32} {h hz : AH} {z : Unit} (e : j_X10_line_76 v1 h = some (z, hz)) : AR g X 0 0 (QQ g X NT false hz (.inl none) 0 0) h 76 [.ref 240, .int v1] [] := by
  unfold j_X10_line_76 at e
  refine aw_aload_n (i := 0) hX rfl rfl d_X10_line_76 ?_
  refine aw_dup hX rfl d_X10_line_77 ?_
  refine ar_getI hX fg_RX10_238 rfl d_X10_line_78 ?_
  refine aw_iconst (v := 1) hX (by decide) d_X10_line_81 ?_
  refine aw_iload_n (i := 1) hX rfl rfl d_X10_line_82 ?_
  refine aw_ishl hX d_X10_line_83 ?_
  refine aw_ior hX d_X10_line_84 ?_
  refine ar_putI hX fp_RX10_238 rfl d_X10_line_85 ?_
  refine aw_aload_n (i := 0) hX rfl rfl d_X10_line_88 ?_
  obtain ⟨x3, f_1110, e_1110⟩ := bd_some e
  clear e
  refine aw_callV (b := 240) (av := []) (avr := []) hX (k_X10_isGood (cx_g hX) hF f_1110) mi_X10_isGood rfl rfl w_661 w_662 w_663 (by decide) rfl (LAY_lt rfl (by decide)) rfl rfl (Nat.le_of_ble_eq_true rfl) (Nat.zero_le _) (Nat.zero_le _) d_X10_line_89 ?_
  refine aw_if_ne (t := 96) hX (by decide) d_X10_line_92 (fun c => ?_) (fun c => ?_)
  · rw [if_neg c] at e_1110
    refine aw_aload_n (i := 0) hX rfl rfl d_X10_line_96 ?_
    obtain ⟨q4, f_1111, e_1111⟩ := bd_some e_1110
    clear e_1110
    refine aw_callV (b := 240) (av := []) (avr := []) hX (k_X10_steps (cx_g hX) hF f_1111) mi_X10_steps rfl rfl w_669 w_670 w_671 (by decide) rfl (LAY_lt rfl (by decide)) rfl rfl (Nat.le_of_ble_eq_true rfl) (Nat.zero_le _) (Nat.zero_le _) d_X10_line_97 ?_
    refine aw_iload_n (i := 1) hX rfl rfl d_X10_line_100 ?_
    refine aw_if_ne (t := 116) hX (by decide) d_X10_line_101 (fun c => ?_) (fun c => ?_)
    · rw [if_neg c] at e_1111
      exact tj_X10_line_116 hF hX e_1111
    · rw [if_pos c] at e_1111
      refine aw_aload_n (i := 0) hX rfl rfl d_X10_line_104 ?_
      refine aw_aload_n (i := 0) hX rfl rfl d_X10_line_105 ?_
      refine aw_iconst (v := 1) hX (by decide) d_X10_line_106 ?_
      refine aw_sipush (v := 400) hX (by decide) d_X10_line_107 ?_
      obtain ⟨q23, f_1112, e_1112⟩ := bd_some e_1111
      clear e_1111
      refine aw_callV (b := 240) (av := [.int 1, .int 400]) (avr := [.int 400, .int 1]) hX (k_X10_number (cx_g hX) hF f_1112) mi_X10_number rfl rfl w_681 w_682 w_683 (by decide) rfl (LAY_lt rfl (by decide)) rfl rfl (Nat.le_of_ble_eq_true rfl) (Nat.zero_le _) (Nat.zero_le _) d_X10_line_110 ?_
      refine ar_putI hX fp_RX10_241 rfl d_X10_line_113 ?_
      exact tj_X10_line_116 hF hX e_1112
  · rw [if_pos c] at e_1110
    cases e_1110
    exact aw_return hX (Nat.zero_le _) (Nat.zero_le _) d_X10_line_95
def j_X10_line_15 (v1 : Int32) (h : AH) : Option (Unit × AH) := bd (s_X10_isGood h) fun x2 => if x2 = 0 then some ((), h) else if v1 = 2 then bd (s_X10_readsEvening h) fun q27 => j_X10_line_259 q27.2 else if v1 = 3 then bd (s_X10_readsPeople h) fun q26 => j_X10_line_259 q26.2 else if v1 = 4 then bd (s_X10_readsSeats h) fun q25 => j_X10_line_259 q25.2 else if (((gI h 240 29) >>> (v1 &&& 31)) &&& 1) = 1 then bd (s_X10_wrong 5 h) fun q24 => j_X10_line_76 v1 q24.2 else j_X10_line_76 v1 h
theorem tj_X10_line_15 {g : GP} {X : MX} {mcR msR : Nat} (hF : gF g = true) (hX : Cx g RX10 cX10_line 7 mcR msR none [] X) {v1 : Int32} {h hz : AH} {z : Unit} (e : j_X10_line_15 v1 h = some (z, hz)) : AR g X 0 0 (QQ g X NT false hz (.inl none) 0 0) h 15 [.ref 240, .int v1] [] := by
  unfold j_X10_line_15 at e
  refine aw_aload_n (i := 0) hX rfl rfl d_X10_line_15 ?_
  obtain ⟨x2, f_1113, e_1113⟩ := bd_some e
  clear e
  refine aw_callV (b := 240) (av := []) (avr := []) hX (k_X10_isGood (cx_g hX) hF f_1113) mi_X10_isGood rfl rfl w_661 w_662 w_663 (by decide) rfl (LAY_lt rfl (by decide)) rfl rfl (Nat.le_of_ble_eq_true rfl) (Nat.zero_le _) (Nat.zero_le _) d_X10_line_16 ?_
  refine aw_if_ne (t := 23) hX (by decide) d_X10_line_19 (fun c => ?_) (fun c => ?_)
  · rw [if_neg c] at e_1113
    refine aw_iload_n (i := 1) hX rfl rfl d_X10_line_23 ?_
    refine aw_iconst (v := 2) hX (by decide) d_X10_line_24 ?_
    refine aw_icmp_ne (t := 35) hX (by decide) d_X10_line_25 (fun c => ?_) (fun c => ?_)
    · rw [if_neg c] at e_1113
      refine aw_iload_n (i := 1) hX rfl rfl d_X10_line_35 ?_
      refine aw_iconst (v := 3) hX (by decide) d_X10_line_36 ?_
      refine aw_icmp_ne (t := 47) hX (by decide) d_X10_line_37 (fun c => ?_) (fun c => ?_)
      · rw [if_neg c] at e_1113
        refine aw_iload_n (i := 1) hX rfl rfl d_X10_line_47 ?_
        refine aw_iconst (v := 4) hX (by decide) d_X10_line_48 ?_
        refine aw_icmp_ne (t := 59) hX (by decide) d_X10_line_49 (fun c => ?_) (fun c => ?_)
        · rw [if_neg c] at e_1113
          refine aw_aload_n (i := 0) hX rfl rfl d_X10_line_59 ?_
          refine ar_getI hX fg_RX10_238 rfl d_X10_line_60 ?_
          refine aw_iload_n (i := 1) hX rfl rfl d_X10_line_63 ?_
          refine aw_ishr hX d_X10_line_64 ?_
          refine aw_iconst (v := 1) hX (by decide) d_X10_line_65 ?_
          refine aw_iand hX d_X10_line_66 ?_
          refine aw_iconst (v := 1) hX (by decide) d_X10_line_67 ?_
          refine aw_icmp_ne (t := 76) hX (by decide) d_X10_line_68 (fun c => ?_) (fun c => ?_)
          · rw [if_neg c] at e_1113
            exact tj_X10_line_76 hF hX e_1113
          · rw [if_pos c] at e_1113
            refine aw_aload_n (i := 0) hX rfl rfl d_X10_line_71 ?_
            refine aw_iconst (v := 5) hX (by decide) d_X10_line_72 ?_
            obtain ⟨q24, f_1114, e_1114⟩ := bd_some e_1113
            clear e_1113
            refine aw_callV (b := 240) (av := [.int 5]) (avr := [.int 5]) hX (k_X10_wrong (cx_g hX) hF f_1114) mi_X10_wrong rfl rfl w_665 w_666 w_667 (by decide) rfl (LAY_lt rfl (by decide)) rfl rfl (Nat.le_of_ble_eq_true rfl) (Nat.zero_le _) (Nat.zero_le _) d_X10_line_73 ?_
            exact tj_X10_line_76 hF hX e_1114
        · rw [if_pos c] at e_1113
          refine aw_aload_n (i := 0) hX rfl rfl d_X10_line_52 ?_
          obtain ⟨q25, f_1115, e_1115⟩ := bd_some e_1113
          clear e_1113
          refine aw_callV (b := 240) (av := []) (avr := []) hX (k_X10_readsSeats (cx_g hX) hF f_1115) mi_X10_readsSeats rfl rfl w_712 w_713 w_714 (by decide) rfl (LAY_lt rfl (by decide)) rfl rfl (Nat.le_of_ble_eq_true rfl) (Nat.zero_le _) (Nat.zero_le _) d_X10_line_53 ?_
          refine aw_goto (t := 259) hX (by decide) d_X10_line_56 ?_
          exact tj_X10_line_259 hF hX e_1115
      · rw [if_pos c] at e_1113
        refine aw_aload_n (i := 0) hX rfl rfl d_X10_line_40 ?_
        obtain ⟨q26, f_1116, e_1116⟩ := bd_some e_1113
        clear e_1113
        refine aw_callV (b := 240) (av := []) (avr := []) hX (k_X10_readsPeople (cx_g hX) hF f_1116) mi_X10_readsPeople rfl rfl w_716 w_717 w_718 (by decide) rfl (LAY_lt rfl (by decide)) rfl rfl (Nat.le_of_ble_eq_true rfl) (Nat.zero_le _) (Nat.zero_le _) d_X10_line_41 ?_
        refine aw_goto (t := 259) hX (by decide) d_X10_line_44 ?_
        exact tj_X10_line_259 hF hX e_1116
    · rw [if_pos c] at e_1113
      refine aw_aload_n (i := 0) hX rfl rfl d_X10_line_28 ?_
      obtain ⟨q27, f_1117, e_1117⟩ := bd_some e_1113
      clear e_1113
      refine aw_callV (b := 240) (av := []) (avr := []) hX (k_X10_readsEvening (cx_g hX) hF f_1117) mi_X10_readsEvening rfl rfl w_720 w_721 w_722 (by decide) rfl (LAY_lt rfl (by decide)) rfl rfl (Nat.le_of_ble_eq_true rfl) (Nat.zero_le _) (Nat.zero_le _) d_X10_line_29 ?_
      refine aw_goto (t := 259) hX (by decide) d_X10_line_32 ?_
      exact tj_X10_line_259 hF hX e_1117
  · rw [if_pos c] at e_1113
    cases e_1113
    exact aw_return hX (Nat.zero_le _) (Nat.zero_le _) d_X10_line_22
def s_X10_line (h : AH) : Option (Unit × AH) := bd (s_X10_lineWord h) fun x1 => if x1 = (-1) then bd (s_X10_wrong 1 h) fun q28 => j_X10_line_15 x1 q28.2 else j_X10_line_15 x1 h
theorem t_X10_line {g : GP} {X : MX} {mcR msR : Nat} (hF : gF g = true) (hX : Cx g RX10 cX10_line 7 mcR msR none [] X) {h hz : AH} {z : Unit} (e : s_X10_line h = some (z, hz)) : AR g X 0 0 (QQ g X NT false hz (.inl none) 0 0) h 0 [.ref 240, jk] [] := by
  unfold s_X10_line at e
  refine aw_aload_n (i := 0) hX rfl rfl d_X10_line_0 ?_
  obtain ⟨x1, f_1118, e_1118⟩ := bd_some e
  clear e
  refine aw_callV (b := 240) (av := []) (avr := []) hX (k_X10_lineWord (cx_g hX) hF f_1118) mi_X10_lineWord rfl rfl w_699 w_700 w_701 (by decide) rfl (LAY_lt rfl (by decide)) rfl rfl (Nat.le_of_ble_eq_true rfl) (Nat.zero_le _) (Nat.zero_le _) d_X10_line_1 ?_
  refine aw_istore_n (i := 1) (lv2 := [.ref 240, .int x1]) hX rfl rfl rfl d_X10_line_4 ?_
  refine aw_iload_n (i := 1) hX rfl rfl d_X10_line_5 ?_
  refine aw_iconst (v := (-1)) hX (by decide) d_X10_line_6 ?_
  refine aw_icmp_ne (t := 15) hX (by decide) d_X10_line_7 (fun c => ?_) (fun c => ?_)
  · rw [if_neg c] at e_1118
    exact tj_X10_line_15 hF hX e_1118
  · rw [if_pos c] at e_1118
    refine aw_aload_n (i := 0) hX rfl rfl d_X10_line_10 ?_
    refine aw_iconst (v := 1) hX (by decide) d_X10_line_11 ?_
    obtain ⟨q28, f_1119, e_1119⟩ := bd_some e_1118
    clear e_1118
    refine aw_callV (b := 240) (av := [.int 1]) (avr := [.int 1]) hX (k_X10_wrong (cx_g hX) hF f_1119) mi_X10_wrong rfl rfl w_665 w_666 w_667 (by decide) rfl (LAY_lt rfl (by decide)) rfl rfl (Nat.le_of_ble_eq_true rfl) (Nat.zero_le _) (Nat.zero_le _) d_X10_line_12 ?_
    exact tj_X10_line_15 hF hX e_1119
theorem k_X10_line {g : GP} (hg : g.1.stackTraces = false) (hF : gF g = true) {h hz : AH} {z : Unit} (e : s_X10_line h = some (z, hz)) : Ctr g yX10_line (wsY yX10_line cX10_line 2 none) 7 0 0 [.ref 240] NT false h none NT false hz := ctr_of (lv0 := [.ref 240, jk]) rfl rfl (by decide) hg trivial (fun X hX hn => t_X10_line hF hX e)
theorem d_X10_copies_0 : decode cX10_copies 0 = .ok (.iconst 0, 1) := by decide +kernel
theorem d_X10_copies_1 : decode cX10_copies 1 = .ok (.istore_n 3, 1) := by decide +kernel
theorem d_X10_copies_2 : decode cX10_copies 2 = .ok (.iload_n 3, 1) := by decide +kernel
theorem d_X10_copies_3 : decode cX10_copies 3 = .ok (.aload_n 1, 1) := by decide +kernel
theorem d_X10_copies_4 : decode cX10_copies 4 = .ok (.arraylength, 1) := by decide +kernel
theorem d_X10_copies_5 : decode cX10_copies 5 = .ok (.if_icmp .ge 15, 3) := by decide +kernel
theorem d_X10_copies_8 : decode cX10_copies 8 = .ok (.aload_n 2, 1) := by decide +kernel
theorem d_X10_copies_9 : decode cX10_copies 9 = .ok (.iload_n 3, 1) := by decide +kernel
theorem d_X10_copies_10 : decode cX10_copies 10 = .ok (.aload_n 1, 1) := by decide +kernel
theorem d_X10_copies_11 : decode cX10_copies 11 = .ok (.iload_n 3, 1) := by decide +kernel
theorem d_X10_copies_12 : decode cX10_copies 12 = .ok (.iaload, 1) := by decide +kernel
theorem d_X10_copies_13 : decode cX10_copies 13 = .ok (.iastore, 1) := by decide +kernel
theorem d_X10_copies_14 : decode cX10_copies 14 = .ok (.iinc 3 1, 3) := by decide +kernel
theorem d_X10_copies_17 : decode cX10_copies 17 = .ok (.goto (-15), 3) := by decide +kernel
theorem d_X10_copies_20 : decode cX10_copies 20 = .ok (.return_, 1) := by decide +kernel
def l_X10_copies_2 (p1 : Option Nat) (p2 : Option Nat) (s : Int32) (h : AH) : Option ((Int32 ⊕ Unit) × AH) := bd p1 fun t1 => bd (alenF t1) fun x2 => if x2 ≤ s then some (.inr (), h) else bd (ldI h t1 s) fun x3 => bd p2 fun t4 => bd (stI h t4 s x3) fun m5 => some (.inl (s + 1), m5)
theorem tb_X10_copies_2 {g : GP} {X : MX} {mcR msR : Nat} (hF : gF g = true) (hX : Cx g RX10 cX10_copies 1 mcR msR none [] X) {Q : State → Prop} {p1 : Option Nat} {p2 : Option Nat} {s : Int32} {d0 : Value} {h hz : AH} {z : (Int32 ⊕ Unit)} (e : l_X10_copies_2 p1 p2 s h = some (z, hz)) (kI : ∀ (s2 : Int32) (xd0 : Value), z = .inl s2 → AR g X 0 0 Q hz 2 [xd0, rfV p1, rfV p2, .int s2] []) (kE0 : ∀ (yy : Unit) (y0 : Value) (y1 : Value) (y2 : Value) (y3 : Value), z = .inr yy → AR g X 0 0 Q hz 20 [y0, y1, y2, y3] []) : AR g X 0 0 Q h 2 [d0, rfV p1, rfV p2, .int s] [] := by
  unfold l_X10_copies_2 at e
  refine aw_iload_n (i := 3) hX rfl rfl d_X10_copies_2 ?_
  refine aw_aloadO_n (i := 1) (o := p1) hX rfl rfl d_X10_copies_3 ?_
  obtain ⟨t1, f_1120, e_1120⟩ := bd_some e
  clear e
  subst f_1120
  obtain ⟨x2, f_1121, e_1121⟩ := bd_some e_1120
  clear e_1120
  refine ar_alen hX f_1121 d_X10_copies_4 ?_
  refine aw_icmp_ge (t := 20) hX (by decide) d_X10_copies_5 (fun c => ?_) (fun c => ?_)
  · rw [if_pos c] at e_1121
    cases e_1121
    exact kE0 () _ _ _ _ rfl
  · rw [if_neg c] at e_1121
    refine aw_aloadO_n (i := 2) (o := p2) hX rfl rfl d_X10_copies_8 ?_
    refine aw_iload_n (i := 3) hX rfl rfl d_X10_copies_9 ?_
    refine aw_aload_n (i := 1) hX rfl rfl d_X10_copies_10 ?_
    refine aw_iload_n (i := 3) hX rfl rfl d_X10_copies_11 ?_
    obtain ⟨x3, f_1122, e_1122⟩ := bd_some e_1121
    clear e_1121
    refine ar_iaload hX f_1122 d_X10_copies_12 ?_
    obtain ⟨t4, f_1123, e_1123⟩ := bd_some e_1122
    clear e_1122
    subst f_1123
    obtain ⟨m5, f_1124, e_1124⟩ := bd_some e_1123
    clear e_1123
    refine ar_iastore hX f_1124 d_X10_copies_13 ?_
    refine aw_iinc (i := 3) (lv2 := [d0, .ref t1, .ref t4, .int (s + 1)]) hX rfl rfl rfl rfl d_X10_copies_14 ?_
    refine aw_goto (t := 2) hX (by decide) d_X10_copies_17 ?_
    cases e_1124
    exact kI (s + 1) _ rfl
theorem ti_X10_copies_2 {g : GP} {X : MX} {mcR msR : Nat} (hF : gF g = true) (hX : Cx g RX10 cX10_copies 1 mcR msR none [] X) {Q : State → Prop} {p1 : Option Nat} {p2 : Option Nat} {y : Unit} {hz : AH} (kE0 : ∀ (y_0 : Value) (y_1 : Value) (y_2 : Value) (y_3 : Value), AR g X 0 0 Q hz 20 [y_0, y_1, y_2, y_3] []) (n : Nat) : ∀ (s : Int32) (d0 : Value) (h : AH), lpH (l_X10_copies_2 p1 p2) n s h = some (y, hz) → AR g X 0 0 Q h 2 [d0, rfV p1, rfV p2, .int s] [] := by
  induction n with
  | zero => intro s d0 h e; cases e
  | succ n ih =>
    intro s d0 h e
    obtain ⟨x, h1, e1, e2⟩ := lpH_succ e
    rcases e2 with ⟨s2, rfl, e3⟩ | ⟨rfl, rfl⟩
    · exact tb_X10_copies_2 hF hX e1 (fun s3 x0 hs => by cases hs; exact ih _ _ _ e3) (fun yy x0 x1 x2 x3 hy => by cases hy)
    · exact tb_X10_copies_2 hF hX e1 (fun s3 x0 hs => by cases hs) (fun yy x0 x1 x2 x3 hy => by cases hy; exact kE0 x0 x1 x2 x3)
theorem t_X10_copies_2 {g : GP} {X : MX} {mcR msR : Nat} (hF : gF g = true) (hX : Cx g RX10 cX10_copies 1 mcR msR none [] X) {Q : State → Prop} {p1 : Option Nat} {p2 : Option Nat} {s : Int32} {d0 : Value} {h hz : AH} {n : Nat} {y : Unit} (e : lpH (l_X10_copies_2 p1 p2) n s h = some (y, hz)) (kE0 : ∀ (y_0 : Value) (y_1 : Value) (y_2 : Value) (y_3 : Value), AR g X 0 0 Q hz 20 [y_0, y_1, y_2, y_3] []) : AR g X 0 0 Q h 2 [d0, rfV p1, rfV p2, .int s] [] := ti_X10_copies_2 hF hX kE0 n _ _ _ e
def s_X10_copies (a0 : Option Nat) (a1 : Option Nat) (h : AH) : Option (Unit × AH) := bd (lpH (l_X10_copies_2 a0 a1) FU 0 h) fun y6 => some ((), y6.2)
theorem t_X10_copies {g : GP} {X : MX} {mcR msR : Nat} (hF : gF g = true) (hX : Cx g RX10 cX10_copies 1 mcR msR none [] X) {a0 : Option Nat} {a1 : Option Nat} {h hz : AH} {z : Unit} (e : s_X10_copies a0 a1 h = some (z, hz)) : AR g X 0 0 (QQ g X NT false hz (.inl none) 0 0) h 0 [.ref 240, rfV a0, rfV a1, jk] [] := by
  unfold s_X10_copies at e
  refine aw_iconst (v := 0) hX (by decide) d_X10_copies_0 ?_
  refine aw_istore_n (i := 3) (lv2 := [.ref 240, rfV a0, rfV a1, .int 0]) hX rfl (by show List.set (List.set _ _ (uncV (rfV _))) _ _ = _; rw [uncV_rfV]; rfl) rfl d_X10_copies_1 ?_
  obtain ⟨y6, f_1125, e_1125⟩ := bd_some e
  clear e
  refine t_X10_copies_2 hF hX f_1125 (fun d7_0 d7_1 d7_2 d7_3 => ?_)
  cases e_1125
  exact aw_return hX (Nat.zero_le _) (Nat.zero_le _) d_X10_copies_20
theorem k_X10_copies {g : GP} (hg : g.1.stackTraces = false) (hF : gF g = true) {a0 : Option Nat} {a1 : Option Nat} {h hz : AH} {z : Unit} (e : s_X10_copies a0 a1 h = some (z, hz)) : Ctr g yX10_copies (wsY yX10_copies cX10_copies 4 none) 1 0 0 [.ref 240, rfV a0, rfV a1] NT false h none NT false hz := ctr_of (lv0 := [.ref 240, rfV a0, rfV a1, jk]) (by cases a0 <;> cases a1 <;> rfl) (by cases a0 <;> cases a1 <;> rfl) (by decide) hg trivial (fun X hX hn => t_X10_copies hF hX e)
theorem d_X10_at_0 : decode cX10_at 0 = .ok (.sipush 429, 3) := by decide +kernel
theorem d_X10_at_3 : decode cX10_at 3 = .ok (.iload_n 0, 1) := by decide +kernel
theorem d_X10_at_4 : decode cX10_at 4 = .ok (.imul, 1) := by decide +kernel
theorem d_X10_at_5 : decode cX10_at 5 = .ok (.bipush 33, 2) := by decide +kernel
theorem d_X10_at_7 : decode cX10_at 7 = .ok (.iload_n 1, 1) := by decide +kernel
theorem d_X10_at_8 : decode cX10_at 8 = .ok (.imul, 1) := by decide +kernel
theorem d_X10_at_9 : decode cX10_at 9 = .ok (.iadd, 1) := by decide +kernel
theorem d_X10_at_10 : decode cX10_at 10 = .ok (.iload_n 2, 1) := by decide +kernel
theorem d_X10_at_11 : decode cX10_at 11 = .ok (.iadd, 1) := by decide +kernel
theorem d_X10_at_12 : decode cX10_at 12 = .ok (.ireturn, 1) := by decide +kernel
def s_X10_at (a0 : Int32) (a1 : Int32) (a2 : Int32) (h : AH) : Option Int32 := some (((429 * a0) + (33 * a1)) + a2)
theorem t_X10_at {g : GP} {X : MX} {mcR msR : Nat} (hF : gF g = true) (hX : Cx g RX10 cX10_at 1 mcR msR (some .int) [] X) {a0 : Int32} {a1 : Int32} {a2 : Int32} {h : AH} {z : Int32} (e : s_X10_at a0 a1 a2 h = some z) : AR g X 0 0 (QQ g X NT false h (.inl (some (.int z))) 0 0) h 0 [.int a0, .int a1, .int a2] [] := by
  unfold s_X10_at at e
  refine aw_sipush (v := 429) hX (by decide) d_X10_at_0 ?_
  refine aw_iload_n (i := 0) hX rfl rfl d_X10_at_3 ?_
  refine aw_imul hX d_X10_at_4 ?_
  refine aw_bipush (v := 33) hX (by decide) d_X10_at_5 ?_
  refine aw_iload_n (i := 1) hX rfl rfl d_X10_at_7 ?_
  refine aw_imul hX d_X10_at_8 ?_
  refine aw_iadd hX d_X10_at_9 ?_
  refine aw_iload_n (i := 2) hX rfl rfl d_X10_at_10 ?_
  refine aw_iadd hX d_X10_at_11 ?_
  cases e
  exact aw_ireturn hX (Nat.zero_le _) (Nat.zero_le _) d_X10_at_12
theorem k_X10_at {g : GP} (hg : g.1.stackTraces = false) (hF : gF g = true) {a0 : Int32} {a1 : Int32} {a2 : Int32} {h : AH} {z : Int32} (e : s_X10_at a0 a1 a2 h = some z) : Ctr g yX10_at (wsY yX10_at cX10_at 3 (some .int)) 1 0 0 [.int a0, .int a1, .int a2] NT false h (some (.int z)) NT false h := ctr_of (lv0 := [.int a0, .int a1, .int a2]) rfl rfl (by decide) hg trivial (fun X hX hn => t_X10_at hF hX e)
theorem d_X10_first_0 : decode cX10_first 0 = .ok (.iload_n 1, 1) := by decide +kernel
theorem d_X10_first_1 : decode cX10_first 1 = .ok (.iconst 2, 1) := by decide +kernel
theorem d_X10_first_2 : decode cX10_first 2 = .ok (.if_icmp .ne 10, 3) := by decide +kernel
theorem d_X10_first_5 : decode cX10_first 5 = .ok (.aload_n 0, 1) := by decide +kernel
theorem d_X10_first_6 : decode cX10_first 6 = .ok (.getfield 271, 3) := by decide +kernel
theorem d_X10_first_9 : decode cX10_first 9 = .ok (.goto 4, 3) := by decide +kernel
theorem d_X10_first_12 : decode cX10_first 12 = .ok (.iconst 0, 1) := by decide +kernel
theorem d_X10_first_13 : decode cX10_first 13 = .ok (.ireturn, 1) := by decide +kernel
def s_X10_first (a0 : Int32) (h : AH) : Option Int32 := if a0 = 2 then some (gI h 240 6) else some 0
theorem t_X10_first {g : GP} {X : MX} {mcR msR : Nat} (hF : gF g = true) (hX : Cx g RX10 cX10_first 1 mcR msR (some .int) [] X) {a0 : Int32} {h : AH} {z : Int32} (e : s_X10_first a0 h = some z) : AR g X 0 0 (QQ g X NT false h (.inl (some (.int z))) 0 0) h 0 [.ref 240, .int a0] [] := by
  unfold s_X10_first at e
  refine aw_iload_n (i := 1) hX rfl rfl d_X10_first_0 ?_
  refine aw_iconst (v := 2) hX (by decide) d_X10_first_1 ?_
  refine aw_icmp_ne (t := 12) hX (by decide) d_X10_first_2 (fun c => ?_) (fun c => ?_)
  · rw [if_neg c] at e
    refine aw_iconst (v := 0) hX (by decide) d_X10_first_12 ?_
    cases e
    exact aw_ireturn hX (Nat.zero_le _) (Nat.zero_le _) d_X10_first_13
  · rw [if_pos c] at e
    refine aw_aload_n (i := 0) hX rfl rfl d_X10_first_5 ?_
    refine ar_getI hX fg_RX10_271 rfl d_X10_first_6 ?_
    refine aw_goto (t := 13) hX (by decide) d_X10_first_9 ?_
    cases e
    exact aw_ireturn hX (Nat.zero_le _) (Nat.zero_le _) d_X10_first_13
theorem k_X10_first {g : GP} (hg : g.1.stackTraces = false) (hF : gF g = true) {a0 : Int32} {h : AH} {z : Int32} (e : s_X10_first a0 h = some z) : Ctr g yX10_first (wsY yX10_first cX10_first 2 (some .int)) 1 0 0 [.ref 240, .int a0] NT false h (some (.int z)) NT false h := ctr_of (lv0 := [.ref 240, .int a0]) rfl rfl (by decide) hg trivial (fun X hX hn => t_X10_first hF hX e)
theorem d_X10_begins_0 : decode cX10_begins 0 = .ok (.iconst 0, 1) := by decide +kernel
theorem d_X10_begins_1 : decode cX10_begins 1 = .ok (.istore_n 2, 1) := by decide +kernel
theorem d_X10_begins_2 : decode cX10_begins 2 = .ok (.iload_n 2, 1) := by decide +kernel
theorem d_X10_begins_3 : decode cX10_begins 3 = .ok (.sipush 429, 3) := by decide +kernel
theorem d_X10_begins_6 : decode cX10_begins 6 = .ok (.if_icmp .ge 34, 3) := by decide +kernel
theorem d_X10_begins_9 : decode cX10_begins 9 = .ok (.aload_n 0, 1) := by decide +kernel
theorem d_X10_begins_10 : decode cX10_begins 10 = .ok (.getfield 54, 3) := by decide +kernel
theorem d_X10_begins_13 : decode cX10_begins 13 = .ok (.iload_n 2, 1) := by decide +kernel
theorem d_X10_begins_14 : decode cX10_begins 14 = .ok (.iload_n 2, 1) := by decide +kernel
theorem d_X10_begins_15 : decode cX10_begins 15 = .ok (.bipush 33, 2) := by decide +kernel
theorem d_X10_begins_17 : decode cX10_begins 17 = .ok (.aload_n 0, 1) := by decide +kernel
theorem d_X10_begins_18 : decode cX10_begins 18 = .ok (.iload_n 1, 1) := by decide +kernel
theorem d_X10_begins_19 : decode cX10_begins 19 = .ok (.invokevirtual 328, 3) := by decide +kernel
theorem d_X10_begins_22 : decode cX10_begins 22 = .ok (.imul, 1) := by decide +kernel
theorem d_X10_begins_23 : decode cX10_begins 23 = .ok (.if_icmp .ne 9, 3) := by decide +kernel
theorem d_X10_begins_26 : decode cX10_begins 26 = .ok (.ldc2_w 331, 3) := by decide +kernel
theorem d_X10_begins_29 : decode cX10_begins 29 = .ok (.goto 4, 3) := by decide +kernel
theorem d_X10_begins_32 : decode cX10_begins 32 = .ok (.lconst 0, 1) := by decide +kernel
theorem d_X10_begins_33 : decode cX10_begins 33 = .ok (.lastore, 1) := by decide +kernel
theorem d_X10_begins_34 : decode cX10_begins 34 = .ok (.iinc 2 1, 3) := by decide +kernel
theorem d_X10_begins_37 : decode cX10_begins 37 = .ok (.goto (-35), 3) := by decide +kernel
theorem d_X10_begins_40 : decode cX10_begins 40 = .ok (.return_, 1) := by decide +kernel
def j_X10_begins_33_2 (p1 : Int32) (v2 : Int32) (k0 : Int64) (k1 : Int32) (h : AH) : Option ((Int32 ⊕ Unit) × AH) := bd (stL h 253 k1 k0) fun m2 => some (.inl (v2 + 1), m2)
theorem tj_X10_begins_33_2 {g : GP} {X : MX} {mcR msR : Nat} (hF : gF g = true) (hX : Cx g RX10 cX10_begins 2 mcR msR none [] X) {Q : State → Prop} {p1 : Int32} {v2 : Int32} {k0 : Int64} {k1 : Int32} {h hz : AH} {z : (Int32 ⊕ Unit)} (e : j_X10_begins_33_2 p1 v2 k0 k1 h = some (z, hz)) (kI : ∀ (s2 : Int32), z = .inl s2 → AR g X 0 0 Q hz 2 [.ref 240, .int p1, .int s2] []) (kE0 : ∀ (yy : Unit) (y0 : Value) (y1 : Value) (y2 : Value), z = .inr yy → AR g X 0 0 Q hz 40 [y0, y1, y2] []) : AR g X 0 0 Q h 33 [.ref 240, .int p1, .int v2] [.long k0, .int k1, .ref 253] := by
  unfold j_X10_begins_33_2 at e
  obtain ⟨m2, f_1126, e_1126⟩ := bd_some e
  clear e
  refine ar_lastore hX f_1126 d_X10_begins_33 ?_
  refine aw_iinc (i := 2) (lv2 := [.ref 240, .int p1, .int (v2 + 1)]) hX rfl rfl rfl rfl d_X10_begins_34 ?_
  refine aw_goto (t := 2) hX (by decide) d_X10_begins_37 ?_
  cases e_1126
  exact kI (v2 + 1)  rfl
def l_X10_begins_2 (p1 : Int32) (s : Int32) (h : AH) : Option ((Int32 ⊕ Unit) × AH) := if 429 ≤ s then some (.inr (), h) else bd (s_X10_first p1 h) fun x1 => if s = (33 * x1) then j_X10_begins_33_2 p1 s 1000000000 s h else j_X10_begins_33_2 p1 s 0 s h
theorem tb_X10_begins_2 {g : GP} {X : MX} {mcR msR : Nat} (hF : gF g = true) (hX : Cx g RX10 cX10_begins 2 mcR msR none [] X) {Q : State → Prop} {p1 : Int32} {s : Int32} {h hz : AH} {z : (Int32 ⊕ Unit)} (e : l_X10_begins_2 p1 s h = some (z, hz)) (kI : ∀ (s2 : Int32), z = .inl s2 → AR g X 0 0 Q hz 2 [.ref 240, .int p1, .int s2] []) (kE0 : ∀ (yy : Unit) (y0 : Value) (y1 : Value) (y2 : Value), z = .inr yy → AR g X 0 0 Q hz 40 [y0, y1, y2] []) : AR g X 0 0 Q h 2 [.ref 240, .int p1, .int s] [] := by
  unfold l_X10_begins_2 at e
  refine aw_iload_n (i := 2) hX rfl rfl d_X10_begins_2 ?_
  refine aw_sipush (v := 429) hX (by decide) d_X10_begins_3 ?_
  refine aw_icmp_ge (t := 40) hX (by decide) d_X10_begins_6 (fun c => ?_) (fun c => ?_)
  · rw [if_pos c] at e
    cases e
    exact kE0 () _ _ _ rfl
  · rw [if_neg c] at e
    refine aw_aload_n (i := 0) hX rfl rfl d_X10_begins_9 ?_
    refine ar_getF hX hF fg_RX10_54 rfl d_X10_begins_10 ?_
    show AR g X 0 0 _ _ 13 _ [.ref 253]
    refine aw_iload_n (i := 2) hX rfl rfl d_X10_begins_13 ?_
    refine aw_iload_n (i := 2) hX rfl rfl d_X10_begins_14 ?_
    refine aw_bipush (v := 33) hX (by decide) d_X10_begins_15 ?_
    refine aw_aload_n (i := 0) hX rfl rfl d_X10_begins_17 ?_
    refine aw_iload_n (i := 1) hX rfl rfl d_X10_begins_18 ?_
    obtain ⟨x1, f_1127, e_1127⟩ := bd_some e
    clear e
    refine aw_callV (b := 240) (av := [.int p1]) (avr := [.int p1]) hX (k_X10_first (cx_g hX) hF f_1127) mi_X10_first rfl rfl w_726 w_727 w_728 (by decide) rfl (LAY_lt rfl (by decide)) rfl rfl (Nat.le_of_ble_eq_true rfl) (Nat.zero_le _) (Nat.zero_le _) d_X10_begins_19 ?_
    refine aw_imul hX d_X10_begins_22 ?_
    refine aw_icmp_ne (t := 32) hX (by decide) d_X10_begins_23 (fun c => ?_) (fun c => ?_)
    · rw [if_neg c] at e_1127
      refine aw_lconst (v := 0) hX (by decide) d_X10_begins_32 ?_
      exact tj_X10_begins_33_2 hF hX e_1127 kI kE0
    · rw [if_pos c] at e_1127
      refine aw_ldc2 hX w_729 d_X10_begins_26 ?_
      refine aw_goto (t := 33) hX (by decide) d_X10_begins_29 ?_
      exact tj_X10_begins_33_2 hF hX e_1127 kI kE0
theorem ti_X10_begins_2 {g : GP} {X : MX} {mcR msR : Nat} (hF : gF g = true) (hX : Cx g RX10 cX10_begins 2 mcR msR none [] X) {Q : State → Prop} {p1 : Int32} {y : Unit} {hz : AH} (kE0 : ∀ (y_0 : Value) (y_1 : Value) (y_2 : Value), AR g X 0 0 Q hz 40 [y_0, y_1, y_2] []) (n : Nat) : ∀ (s : Int32) (h : AH), lpH (l_X10_begins_2 p1) n s h = some (y, hz) → AR g X 0 0 Q h 2 [.ref 240, .int p1, .int s] [] := by
  induction n with
  | zero => intro s h e; cases e
  | succ n ih =>
    intro s h e
    obtain ⟨x, h1, e1, e2⟩ := lpH_succ e
    rcases e2 with ⟨s2, rfl, e3⟩ | ⟨rfl, rfl⟩
    · exact tb_X10_begins_2 hF hX e1 (fun s3  hs => by cases hs; exact ih _  _ e3) (fun yy x0 x1 x2 hy => by cases hy)
    · exact tb_X10_begins_2 hF hX e1 (fun s3  hs => by cases hs) (fun yy x0 x1 x2 hy => by cases hy; exact kE0 x0 x1 x2)
theorem t_X10_begins_2 {g : GP} {X : MX} {mcR msR : Nat} (hF : gF g = true) (hX : Cx g RX10 cX10_begins 2 mcR msR none [] X) {Q : State → Prop} {p1 : Int32} {s : Int32} {h hz : AH} {n : Nat} {y : Unit} (e : lpH (l_X10_begins_2 p1) n s h = some (y, hz)) (kE0 : ∀ (y_0 : Value) (y_1 : Value) (y_2 : Value), AR g X 0 0 Q hz 40 [y_0, y_1, y_2] []) : AR g X 0 0 Q h 2 [.ref 240, .int p1, .int s] [] := ti_X10_begins_2 hF hX kE0 n _  _ e
def s_X10_begins (a0 : Int32) (h : AH) : Option (Unit × AH) := bd (lpH (l_X10_begins_2 a0) FU 0 h) fun y3 => some ((), y3.2)
theorem t_X10_begins {g : GP} {X : MX} {mcR msR : Nat} (hF : gF g = true) (hX : Cx g RX10 cX10_begins 2 mcR msR none [] X) {a0 : Int32} {h hz : AH} {z : Unit} (e : s_X10_begins a0 h = some (z, hz)) : AR g X 0 0 (QQ g X NT false hz (.inl none) 0 0) h 0 [.ref 240, .int a0, jk] [] := by
  unfold s_X10_begins at e
  refine aw_iconst (v := 0) hX (by decide) d_X10_begins_0 ?_
  refine aw_istore_n (i := 2) (lv2 := [.ref 240, .int a0, .int 0]) hX rfl rfl rfl d_X10_begins_1 ?_
  obtain ⟨y3, f_1128, e_1128⟩ := bd_some e
  clear e
  refine t_X10_begins_2 hF hX f_1128 (fun d4_0 d4_1 d4_2 => ?_)
  cases e_1128
  exact aw_return hX (Nat.zero_le _) (Nat.zero_le _) d_X10_begins_40
theorem k_X10_begins {g : GP} (hg : g.1.stackTraces = false) (hF : gF g = true) {a0 : Int32} {h hz : AH} {z : Unit} (e : s_X10_begins a0 h = some (z, hz)) : Ctr g yX10_begins (wsY yX10_begins cX10_begins 3 none) 2 0 0 [.ref 240, .int a0] NT false h none NT false hz := ctr_of (lv0 := [.ref 240, .int a0, jk]) rfl rfl (by decide) hg trivial (fun X hX hn => t_X10_begins hF hX e)
theorem d_X10_of_0 : decode cX10_of 0 = .ok (.aload_n 0, 1) := by decide +kernel
theorem d_X10_of_1 : decode cX10_of 1 = .ok (.getfield 17, 3) := by decide +kernel
theorem d_X10_of_4 : decode cX10_of 4 = .ok (.bipush 11, 2) := by decide +kernel
theorem d_X10_of_6 : decode cX10_of 6 = .ok (.iload_n 1, 1) := by decide +kernel
theorem d_X10_of_7 : decode cX10_of 7 = .ok (.imul, 1) := by decide +kernel
theorem d_X10_of_8 : decode cX10_of 8 = .ok (.iload_n 2, 1) := by decide +kernel
theorem d_X10_of_9 : decode cX10_of 9 = .ok (.iadd, 1) := by decide +kernel
theorem d_X10_of_10 : decode cX10_of 10 = .ok (.iaload, 1) := by decide +kernel
theorem d_X10_of_11 : decode cX10_of 11 = .ok (.ireturn, 1) := by decide +kernel
def s_X10_of (a0 : Int32) (a1 : Int32) (h : AH) : Option Int32 := bd (ldI h 242 ((11 * a0) + a1)) fun x1 => some x1
theorem t_X10_of {g : GP} {X : MX} {mcR msR : Nat} (hF : gF g = true) (hX : Cx g RX10 cX10_of 1 mcR msR (some .int) [] X) {a0 : Int32} {a1 : Int32} {h : AH} {z : Int32} (e : s_X10_of a0 a1 h = some z) : AR g X 0 0 (QQ g X NT false h (.inl (some (.int z))) 0 0) h 0 [.ref 240, .int a0, .int a1] [] := by
  unfold s_X10_of at e
  refine aw_aload_n (i := 0) hX rfl rfl d_X10_of_0 ?_
  refine ar_getF hX hF fg_RX10_17 rfl d_X10_of_1 ?_
  show AR g X 0 0 _ _ 4 _ [.ref 242]
  refine aw_bipush (v := 11) hX (by decide) d_X10_of_4 ?_
  refine aw_iload_n (i := 1) hX rfl rfl d_X10_of_6 ?_
  refine aw_imul hX d_X10_of_7 ?_
  refine aw_iload_n (i := 2) hX rfl rfl d_X10_of_8 ?_
  refine aw_iadd hX d_X10_of_9 ?_
  obtain ⟨x1, f_1129, e_1129⟩ := bd_some e
  clear e
  refine ar_iaload hX f_1129 d_X10_of_10 ?_
  cases e_1129
  exact aw_ireturn hX (Nat.zero_le _) (Nat.zero_le _) d_X10_of_11
theorem k_X10_of {g : GP} (hg : g.1.stackTraces = false) (hF : gF g = true) {a0 : Int32} {a1 : Int32} {h : AH} {z : Int32} (e : s_X10_of a0 a1 h = some z) : Ctr g yX10_of (wsY yX10_of cX10_of 3 (some .int)) 1 0 0 [.ref 240, .int a0, .int a1] NT false h (some (.int z)) NT false h := ctr_of (lv0 := [.ref 240, .int a0, .int a1]) rfl rfl (by decide) hg trivial (fun X hX hn => t_X10_of hF hX e)
theorem d_X10_chanceOf_0 : decode cX10_chanceOf 0 = .ok (.aload_n 0, 1) := by decide +kernel
theorem d_X10_chanceOf_1 : decode cX10_chanceOf 1 = .ok (.iload_n 1, 1) := by decide +kernel
theorem d_X10_chanceOf_2 : decode cX10_chanceOf 2 = .ok (.iload_n 3, 1) := by decide +kernel
theorem d_X10_chanceOf_3 : decode cX10_chanceOf 3 = .ok (.ifCond .eq 7, 3) := by decide +kernel
theorem d_X10_chanceOf_6 : decode cX10_chanceOf 6 = .ok (.iconst 2, 1) := by decide +kernel
theorem d_X10_chanceOf_7 : decode cX10_chanceOf 7 = .ok (.goto 4, 3) := by decide +kernel
theorem d_X10_chanceOf_10 : decode cX10_chanceOf 10 = .ok (.iconst 1, 1) := by decide +kernel
theorem d_X10_chanceOf_11 : decode cX10_chanceOf 11 = .ok (.invokevirtual 292, 3) := by decide +kernel
theorem d_X10_chanceOf_14 : decode cX10_chanceOf 14 = .ok (.i2l, 1) := by decide +kernel
theorem d_X10_chanceOf_15 : decode cX10_chanceOf 15 = .ok (.ldc2_w 308, 3) := by decide +kernel
theorem d_X10_chanceOf_18 : decode cX10_chanceOf 18 = .ok (.aload_n 0, 1) := by decide +kernel
theorem d_X10_chanceOf_19 : decode cX10_chanceOf 19 = .ok (.getfield 13, 3) := by decide +kernel
theorem d_X10_chanceOf_22 : decode cX10_chanceOf 22 = .ok (.iconst 4, 1) := by decide +kernel
theorem d_X10_chanceOf_23 : decode cX10_chanceOf 23 = .ok (.iload_n 2, 1) := by decide +kernel
theorem d_X10_chanceOf_24 : decode cX10_chanceOf 24 = .ok (.imul, 1) := by decide +kernel
theorem d_X10_chanceOf_25 : decode cX10_chanceOf 25 = .ok (.iconst 2, 1) := by decide +kernel
theorem d_X10_chanceOf_26 : decode cX10_chanceOf 26 = .ok (.iadd, 1) := by decide +kernel
theorem d_X10_chanceOf_27 : decode cX10_chanceOf 27 = .ok (.iaload, 1) := by decide +kernel
theorem d_X10_chanceOf_28 : decode cX10_chanceOf 28 = .ok (.i2l, 1) := by decide +kernel
theorem d_X10_chanceOf_29 : decode cX10_chanceOf 29 = .ok (.aload_n 0, 1) := by decide +kernel
theorem d_X10_chanceOf_30 : decode cX10_chanceOf 30 = .ok (.iload_n 1, 1) := by decide +kernel
theorem d_X10_chanceOf_31 : decode cX10_chanceOf 31 = .ok (.iconst 3, 1) := by decide +kernel
theorem d_X10_chanceOf_32 : decode cX10_chanceOf 32 = .ok (.invokevirtual 292, 3) := by decide +kernel
theorem d_X10_chanceOf_35 : decode cX10_chanceOf 35 = .ok (.i2l, 1) := by decide +kernel
theorem d_X10_chanceOf_36 : decode cX10_chanceOf 36 = .ok (.lmul, 1) := by decide +kernel
theorem d_X10_chanceOf_37 : decode cX10_chanceOf 37 = .ok (.lsub, 1) := by decide +kernel
theorem d_X10_chanceOf_38 : decode cX10_chanceOf 38 = .ok (.lmul, 1) := by decide +kernel
theorem d_X10_chanceOf_39 : decode cX10_chanceOf 39 = .ok (.ldc2_w 310, 3) := by decide +kernel
theorem d_X10_chanceOf_42 : decode cX10_chanceOf 42 = .ok (.ldiv, 1) := by decide +kernel
theorem d_X10_chanceOf_43 : decode cX10_chanceOf 43 = .ok (.lreturn, 1) := by decide +kernel
def j_X10_chanceOf_11 (v1 : Int32) (v2 : Int32) (k0 : Int32) (k1 : Int32) (h : AH) : Option Int64 := bd (s_X10_of k1 k0 h) fun x1 => bd (ldI h 241 ((4 * v2) + 2)) fun x2 => bd (s_X10_of v1 3 h) fun x3 => bd (ldivF (x1.toInt64 * (1000000 - (x2.toInt64 * x3.toInt64))) 1000) fun x4 => some x4
theorem tj_X10_chanceOf_11 {g : GP} {X : MX} {mcR msR : Nat} (hF : gF g = true) (hX : Cx g RX10 cX10_chanceOf 2 mcR msR (some .long) [] X) {v1 : Int32} {v2 : Int32} {k0 : Int32} {k1 : Int32} {d3 : Value} {h : AH} {z : Int64} (e : j_X10_chanceOf_11 v1 v2 k0 k1 h = some z) : AR g X 0 0 (QQ g X NT false h (.inl (some (.long z))) 0 0) h 11 [.ref 240, .int v1, .int v2, d3] [.int k0, .int k1, .ref 240] := by
  unfold j_X10_chanceOf_11 at e
  obtain ⟨x1, f_1130, e_1130⟩ := bd_some e
  clear e
  refine aw_callV (b := 240) (av := [.int k1, .int k0]) (avr := [.int k0, .int k1]) hX (k_X10_of (cx_g hX) hF f_1130) mi_X10_of rfl rfl w_732 w_733 w_734 (by decide) rfl (LAY_lt rfl (by decide)) rfl rfl (Nat.le_of_ble_eq_true rfl) (Nat.zero_le _) (Nat.zero_le _) d_X10_chanceOf_11 ?_
  refine aw_i2l hX d_X10_chanceOf_14 ?_
  refine aw_ldc2 hX w_735 d_X10_chanceOf_15 ?_
  refine aw_aload_n (i := 0) hX rfl rfl d_X10_chanceOf_18 ?_
  refine ar_getF hX hF fg_RX10_13 rfl d_X10_chanceOf_19 ?_
  show AR g X 0 0 _ _ 22 _ [.ref 241, .long 1000000, .long x1.toInt64]
  refine aw_iconst (v := 4) hX (by decide) d_X10_chanceOf_22 ?_
  refine aw_iload_n (i := 2) hX rfl rfl d_X10_chanceOf_23 ?_
  refine aw_imul hX d_X10_chanceOf_24 ?_
  refine aw_iconst (v := 2) hX (by decide) d_X10_chanceOf_25 ?_
  refine aw_iadd hX d_X10_chanceOf_26 ?_
  obtain ⟨x2, f_1131, e_1131⟩ := bd_some e_1130
  clear e_1130
  refine ar_iaload hX f_1131 d_X10_chanceOf_27 ?_
  refine aw_i2l hX d_X10_chanceOf_28 ?_
  refine aw_aload_n (i := 0) hX rfl rfl d_X10_chanceOf_29 ?_
  refine aw_iload_n (i := 1) hX rfl rfl d_X10_chanceOf_30 ?_
  refine aw_iconst (v := 3) hX (by decide) d_X10_chanceOf_31 ?_
  obtain ⟨x3, f_1132, e_1132⟩ := bd_some e_1131
  clear e_1131
  refine aw_callV (b := 240) (av := [.int v1, .int 3]) (avr := [.int 3, .int v1]) hX (k_X10_of (cx_g hX) hF f_1132) mi_X10_of rfl rfl w_732 w_733 w_734 (by decide) rfl (LAY_lt rfl (by decide)) rfl rfl (Nat.le_of_ble_eq_true rfl) (Nat.zero_le _) (Nat.zero_le _) d_X10_chanceOf_32 ?_
  refine aw_i2l hX d_X10_chanceOf_35 ?_
  refine aw_lmul hX d_X10_chanceOf_36 ?_
  refine aw_lsub hX d_X10_chanceOf_37 ?_
  refine aw_lmul hX d_X10_chanceOf_38 ?_
  refine aw_ldc2 hX w_737 d_X10_chanceOf_39 ?_
  obtain ⟨x4, f_1133, e_1133⟩ := bd_some e_1132
  clear e_1132
  refine ar_ldiv hX f_1133 d_X10_chanceOf_42 ?_
  cases e_1133
  exact aw_lreturn hX (Nat.zero_le _) (Nat.zero_le _) d_X10_chanceOf_43
def s_X10_chanceOf (a0 : Int32) (a1 : Int32) (a2 : Int32) (h : AH) : Option Int64 := if a2 = 0 then j_X10_chanceOf_11 a0 a1 1 a0 h else j_X10_chanceOf_11 a0 a1 2 a0 h
theorem t_X10_chanceOf {g : GP} {X : MX} {mcR msR : Nat} (hF : gF g = true) (hX : Cx g RX10 cX10_chanceOf 2 mcR msR (some .long) [] X) {a0 : Int32} {a1 : Int32} {a2 : Int32} {h : AH} {z : Int64} (e : s_X10_chanceOf a0 a1 a2 h = some z) : AR g X 0 0 (QQ g X NT false h (.inl (some (.long z))) 0 0) h 0 [.ref 240, .int a0, .int a1, .int a2] [] := by
  unfold s_X10_chanceOf at e
  refine aw_aload_n (i := 0) hX rfl rfl d_X10_chanceOf_0 ?_
  refine aw_iload_n (i := 1) hX rfl rfl d_X10_chanceOf_1 ?_
  refine aw_iload_n (i := 3) hX rfl rfl d_X10_chanceOf_2 ?_
  refine aw_if_eq (t := 10) hX (by decide) d_X10_chanceOf_3 (fun c => ?_) (fun c => ?_)
  · rw [if_pos c] at e
    refine aw_iconst (v := 1) hX (by decide) d_X10_chanceOf_10 ?_
    exact tj_X10_chanceOf_11 hF hX e
  · rw [if_neg c] at e
    refine aw_iconst (v := 2) hX (by decide) d_X10_chanceOf_6 ?_
    refine aw_goto (t := 11) hX (by decide) d_X10_chanceOf_7 ?_
    exact tj_X10_chanceOf_11 hF hX e
theorem k_X10_chanceOf {g : GP} (hg : g.1.stackTraces = false) (hF : gF g = true) {a0 : Int32} {a1 : Int32} {a2 : Int32} {h : AH} {z : Int64} (e : s_X10_chanceOf a0 a1 a2 h = some z) : Ctr g yX10_chanceOf (wsY yX10_chanceOf cX10_chanceOf 4 (some .long)) 2 0 0 [.ref 240, .int a0, .int a1, .int a2] NT false h (some (.long z)) NT false h := ctr_of (lv0 := [.ref 240, .int a0, .int a1, .int a2]) rfl rfl (by decide) hg trivial (fun X hX hn => t_X10_chanceOf hF hX e)
theorem d_X10_mayGo_0 : decode cX10_mayGo 0 = .ok (.iload_n 1, 1) := by decide +kernel
theorem d_X10_mayGo_1 : decode cX10_mayGo 1 = .ok (.iconst 2, 1) := by decide +kernel
theorem d_X10_mayGo_2 : decode cX10_mayGo 2 = .ok (.if_icmp .ne 15, 3) := by decide +kernel
theorem d_X10_mayGo_5 : decode cX10_mayGo 5 = .ok (.iload_n 3, 1) := by decide +kernel
theorem d_X10_mayGo_6 : decode cX10_mayGo 6 = .ok (.ifCond .le 7, 3) := by decide +kernel
theorem d_X10_mayGo_9 : decode cX10_mayGo 9 = .ok (.iconst 1, 1) := by decide +kernel
theorem d_X10_mayGo_10 : decode cX10_mayGo 10 = .ok (.goto 31, 3) := by decide +kernel
theorem d_X10_mayGo_13 : decode cX10_mayGo 13 = .ok (.iconst 0, 1) := by decide +kernel
theorem d_X10_mayGo_14 : decode cX10_mayGo 14 = .ok (.goto 27, 3) := by decide +kernel
theorem d_X10_mayGo_17 : decode cX10_mayGo 17 = .ok (.iload_n 1, 1) := by decide +kernel
theorem d_X10_mayGo_18 : decode cX10_mayGo 18 = .ok (.iconst 3, 1) := by decide +kernel
theorem d_X10_mayGo_19 : decode cX10_mayGo 19 = .ok (.if_icmp .ne 17, 3) := by decide +kernel
theorem d_X10_mayGo_22 : decode cX10_mayGo 22 = .ok (.aload_n 0, 1) := by decide +kernel
theorem d_X10_mayGo_23 : decode cX10_mayGo 23 = .ok (.getfield 13, 3) := by decide +kernel
theorem d_X10_mayGo_26 : decode cX10_mayGo 26 = .ok (.iconst 4, 1) := by decide +kernel
theorem d_X10_mayGo_27 : decode cX10_mayGo 27 = .ok (.iload_n 2, 1) := by decide +kernel
theorem d_X10_mayGo_28 : decode cX10_mayGo 28 = .ok (.imul, 1) := by decide +kernel
theorem d_X10_mayGo_29 : decode cX10_mayGo 29 = .ok (.iconst 3, 1) := by decide +kernel
theorem d_X10_mayGo_30 : decode cX10_mayGo 30 = .ok (.iadd, 1) := by decide +kernel
theorem d_X10_mayGo_31 : decode cX10_mayGo 31 = .ok (.iaload, 1) := by decide +kernel
theorem d_X10_mayGo_32 : decode cX10_mayGo 32 = .ok (.iconst 1, 1) := by decide +kernel
theorem d_X10_mayGo_33 : decode cX10_mayGo 33 = .ok (.if_icmp .ne 7, 3) := by decide +kernel
theorem d_X10_mayGo_36 : decode cX10_mayGo 36 = .ok (.iconst 1, 1) := by decide +kernel
theorem d_X10_mayGo_37 : decode cX10_mayGo 37 = .ok (.goto 4, 3) := by decide +kernel
theorem d_X10_mayGo_40 : decode cX10_mayGo 40 = .ok (.iconst 0, 1) := by decide +kernel
theorem d_X10_mayGo_41 : decode cX10_mayGo 41 = .ok (.ireturn, 1) := by decide +kernel
def j_X10_mayGo_36 (h : AH) : Option Int32 := some 1
theorem tj_X10_mayGo_36 {g : GP} {X : MX} {mcR msR : Nat} (hF : gF g = true) (hX : Cx g RX10 cX10_mayGo 1 mcR msR (some .boolean) [] X) {d0 : Value} {d1 : Value} {d2 : Value} {d3 : Value} {h : AH} {z : Int32} (e : j_X10_mayGo_36 h = some z) : AR g X 0 0 (QQ g X NT false h (.inl (some (.int z))) 0 0) h 36 [d0, d1, d2, d3] [] := by
  unfold j_X10_mayGo_36 at e
  refine aw_iconst (v := 1) hX (by decide) d_X10_mayGo_36 ?_
  refine aw_goto (t := 41) hX (by decide) d_X10_mayGo_37 ?_
  cases e
  exact aw_zreturn hX (by decide) (Nat.zero_le _) (Nat.zero_le _) d_X10_mayGo_41
def s_X10_mayGo (a0 : Int32) (a1 : Int32) (a2 : Int32) (h : AH) : Option Int32 := if a0 = 2 then if a2 ≤ 0 then some 0 else some 1 else if a0 = 3 then bd (ldI h 241 ((4 * a1) + 3)) fun x1 => if x1 = 1 then j_X10_mayGo_36 h else some 0 else j_X10_mayGo_36 h
theorem t_X10_mayGo {g : GP} {X : MX} {mcR msR : Nat} (hF : gF g = true) (hX : Cx g RX10 cX10_mayGo 1 mcR msR (some .boolean) [] X) {a0 : Int32} {a1 : Int32} {a2 : Int32} {h : AH} {z : Int32} (e : s_X10_mayGo a0 a1 a2 h = some z) : AR g X 0 0 (QQ g X NT false h (.inl (some (.int z))) 0 0) h 0 [.ref 240, .int a0, .int a1, .int a2] [] := by
  unfold s_X10_mayGo at e
  refine aw_iload_n (i := 1) hX rfl rfl d_X10_mayGo_0 ?_
  refine aw_iconst (v := 2) hX (by decide) d_X10_mayGo_1 ?_
  refine aw_icmp_ne (t := 17) hX (by decide) d_X10_mayGo_2 (fun c => ?_) (fun c => ?_)
  · rw [if_neg c] at e
    refine aw_iload_n (i := 1) hX rfl rfl d_X10_mayGo_17 ?_
    refine aw_iconst (v := 3) hX (by decide) d_X10_mayGo_18 ?_
    refine aw_icmp_ne (t := 36) hX (by decide) d_X10_mayGo_19 (fun c => ?_) (fun c => ?_)
    · rw [if_neg c] at e
      exact tj_X10_mayGo_36 hF hX e
    · rw [if_pos c] at e
      refine aw_aload_n (i := 0) hX rfl rfl d_X10_mayGo_22 ?_
      refine ar_getF hX hF fg_RX10_13 rfl d_X10_mayGo_23 ?_
      show AR g X 0 0 _ _ 26 _ [.ref 241]
      refine aw_iconst (v := 4) hX (by decide) d_X10_mayGo_26 ?_
      refine aw_iload_n (i := 2) hX rfl rfl d_X10_mayGo_27 ?_
      refine aw_imul hX d_X10_mayGo_28 ?_
      refine aw_iconst (v := 3) hX (by decide) d_X10_mayGo_29 ?_
      refine aw_iadd hX d_X10_mayGo_30 ?_
      obtain ⟨x1, f_1134, e_1134⟩ := bd_some e
      clear e
      refine ar_iaload hX f_1134 d_X10_mayGo_31 ?_
      refine aw_iconst (v := 1) hX (by decide) d_X10_mayGo_32 ?_
      refine aw_icmp_ne (t := 40) hX (by decide) d_X10_mayGo_33 (fun c => ?_) (fun c => ?_)
      · rw [if_neg c] at e_1134
        refine aw_iconst (v := 0) hX (by decide) d_X10_mayGo_40 ?_
        cases e_1134
        exact aw_zreturn hX (by decide) (Nat.zero_le _) (Nat.zero_le _) d_X10_mayGo_41
      · rw [if_pos c] at e_1134
        exact tj_X10_mayGo_36 hF hX e_1134
  · rw [if_pos c] at e
    refine aw_iload_n (i := 3) hX rfl rfl d_X10_mayGo_5 ?_
    refine aw_if_le (t := 13) hX (by decide) d_X10_mayGo_6 (fun c => ?_) (fun c => ?_)
    · rw [if_pos c] at e
      refine aw_iconst (v := 0) hX (by decide) d_X10_mayGo_13 ?_
      refine aw_goto (t := 41) hX (by decide) d_X10_mayGo_14 ?_
      cases e
      exact aw_zreturn hX (by decide) (Nat.zero_le _) (Nat.zero_le _) d_X10_mayGo_41
    · rw [if_neg c] at e
      refine aw_iconst (v := 1) hX (by decide) d_X10_mayGo_9 ?_
      refine aw_goto (t := 41) hX (by decide) d_X10_mayGo_10 ?_
      cases e
      exact aw_zreturn hX (by decide) (Nat.zero_le _) (Nat.zero_le _) d_X10_mayGo_41
theorem k_X10_mayGo {g : GP} (hg : g.1.stackTraces = false) (hF : gF g = true) {a0 : Int32} {a1 : Int32} {a2 : Int32} {h : AH} {z : Int32} (e : s_X10_mayGo a0 a1 a2 h = some z) : Ctr g yX10_mayGo (wsY yX10_mayGo cX10_mayGo 4 (some .boolean)) 1 0 0 [.ref 240, .int a0, .int a1, .int a2] NT false h (some (.int z)) NT false h := ctr_of (lv0 := [.ref 240, .int a0, .int a1, .int a2]) rfl rfl (by decide) hg trivial (fun X hX hn => t_X10_mayGo hF hX e)
theorem d_X10_plans_0 : decode cX10_plans 0 = .ok (.iconst 0, 1) := by decide +kernel
theorem d_X10_plans_1 : decode cX10_plans 1 = .ok (.istore 4, 2) := by decide +kernel
theorem d_X10_plans_3 : decode cX10_plans 3 = .ok (.iload 4, 2) := by decide +kernel
theorem d_X10_plans_5 : decode cX10_plans 5 = .ok (.sipush 429, 3) := by decide +kernel
theorem d_X10_plans_8 : decode cX10_plans 8 = .ok (.if_icmp .ge 26, 3) := by decide +kernel
theorem d_X10_plans_11 : decode cX10_plans 11 = .ok (.aload_n 0, 1) := by decide +kernel
theorem d_X10_plans_12 : decode cX10_plans 12 = .ok (.getfield 47, 3) := by decide +kernel
theorem d_X10_plans_15 : decode cX10_plans 15 = .ok (.sipush 429, 3) := by decide +kernel
theorem d_X10_plans_18 : decode cX10_plans 18 = .ok (.aload_n 0, 1) := by decide +kernel
theorem d_X10_plans_19 : decode cX10_plans 19 = .ok (.getfield 262, 3) := by decide +kernel
theorem d_X10_plans_22 : decode cX10_plans 22 = .ok (.imul, 1) := by decide +kernel
theorem d_X10_plans_23 : decode cX10_plans 23 = .ok (.iload 4, 2) := by decide +kernel
theorem d_X10_plans_25 : decode cX10_plans 25 = .ok (.iadd, 1) := by decide +kernel
theorem d_X10_plans_26 : decode cX10_plans 26 = .ok (.iconst 0, 1) := by decide +kernel
theorem d_X10_plans_27 : decode cX10_plans 27 = .ok (.iastore, 1) := by decide +kernel
theorem d_X10_plans_28 : decode cX10_plans 28 = .ok (.iinc 4 1, 3) := by decide +kernel
theorem d_X10_plans_31 : decode cX10_plans 31 = .ok (.goto (-28), 3) := by decide +kernel
theorem d_X10_plans_34 : decode cX10_plans 34 = .ok (.aload_n 0, 1) := by decide +kernel
theorem d_X10_plans_35 : decode cX10_plans 35 = .ok (.getfield 262, 3) := by decide +kernel
theorem d_X10_plans_38 : decode cX10_plans 38 = .ok (.iconst 1, 1) := by decide +kernel
theorem d_X10_plans_39 : decode cX10_plans 39 = .ok (.isub, 1) := by decide +kernel
theorem d_X10_plans_40 : decode cX10_plans 40 = .ok (.istore 4, 2) := by decide +kernel
theorem d_X10_plans_42 : decode cX10_plans 42 = .ok (.iload 4, 2) := by decide +kernel
theorem d_X10_plans_44 : decode cX10_plans 44 = .ok (.ifCond .lt 285, 3) := by decide +kernel
theorem d_X10_plans_47 : decode cX10_plans 47 = .ok (.aload_n 0, 1) := by decide +kernel
theorem d_X10_plans_48 : decode cX10_plans 48 = .ok (.iload_n 1, 1) := by decide +kernel
theorem d_X10_plans_49 : decode cX10_plans 49 = .ok (.iload 4, 2) := by decide +kernel
theorem d_X10_plans_51 : decode cX10_plans 51 = .ok (.iload_n 3, 1) := by decide +kernel
theorem d_X10_plans_52 : decode cX10_plans 52 = .ok (.invokevirtual 312, 3) := by decide +kernel
theorem d_X10_plans_55 : decode cX10_plans 55 = .ok (.lstore 5, 2) := by decide +kernel
theorem d_X10_plans_57 : decode cX10_plans 57 = .ok (.aload_n 0, 1) := by decide +kernel
theorem d_X10_plans_58 : decode cX10_plans 58 = .ok (.iload_n 1, 1) := by decide +kernel
theorem d_X10_plans_59 : decode cX10_plans 59 = .ok (.bipush 6, 2) := by decide +kernel
theorem d_X10_plans_61 : decode cX10_plans 61 = .ok (.aload_n 0, 1) := by decide +kernel
theorem d_X10_plans_62 : decode cX10_plans 62 = .ok (.getfield 13, 3) := by decide +kernel
theorem d_X10_plans_65 : decode cX10_plans 65 = .ok (.iconst 4, 1) := by decide +kernel
theorem d_X10_plans_66 : decode cX10_plans 66 = .ok (.iload 4, 2) := by decide +kernel
theorem d_X10_plans_68 : decode cX10_plans 68 = .ok (.imul, 1) := by decide +kernel
theorem d_X10_plans_69 : decode cX10_plans 69 = .ok (.iaload, 1) := by decide +kernel
theorem d_X10_plans_70 : decode cX10_plans 70 = .ok (.iadd, 1) := by decide +kernel
theorem d_X10_plans_71 : decode cX10_plans 71 = .ok (.invokevirtual 292, 3) := by decide +kernel
theorem d_X10_plans_74 : decode cX10_plans 74 = .ok (.istore 7, 2) := by decide +kernel
theorem d_X10_plans_76 : decode cX10_plans 76 = .ok (.iconst 0, 1) := by decide +kernel
theorem d_X10_plans_77 : decode cX10_plans 77 = .ok (.istore 8, 2) := by decide +kernel
theorem d_X10_plans_79 : decode cX10_plans 79 = .ok (.iload 8, 2) := by decide +kernel
theorem d_X10_plans_81 : decode cX10_plans 81 = .ok (.bipush 13, 2) := by decide +kernel
theorem d_X10_plans_83 : decode cX10_plans 83 = .ok (.if_icmp .ge 240, 3) := by decide +kernel
theorem d_X10_plans_86 : decode cX10_plans 86 = .ok (.iconst 0, 1) := by decide +kernel
theorem d_X10_plans_87 : decode cX10_plans 87 = .ok (.istore 9, 2) := by decide +kernel
theorem d_X10_plans_89 : decode cX10_plans 89 = .ok (.iload 9, 2) := by decide +kernel
theorem d_X10_plans_91 : decode cX10_plans 91 = .ok (.bipush 33, 2) := by decide +kernel
theorem d_X10_plans_93 : decode cX10_plans 93 = .ok (.if_icmp .ge 224, 3) := by decide +kernel
theorem d_X10_plans_96 : decode cX10_plans 96 = .ok (.aload_n 0, 1) := by decide +kernel
theorem d_X10_plans_97 : decode cX10_plans 97 = .ok (.getfield 47, 3) := by decide +kernel
theorem d_X10_plans_100 : decode cX10_plans 100 = .ok (.iload 4, 2) := by decide +kernel
theorem d_X10_plans_102 : decode cX10_plans 102 = .ok (.iconst 1, 1) := by decide +kernel
theorem d_X10_plans_103 : decode cX10_plans 103 = .ok (.iadd, 1) := by decide +kernel
theorem d_X10_plans_104 : decode cX10_plans 104 = .ok (.iload 8, 2) := by decide +kernel
theorem d_X10_plans_106 : decode cX10_plans 106 = .ok (.iload 9, 2) := by decide +kernel
theorem d_X10_plans_108 : decode cX10_plans 108 = .ok (.invokestatic 316, 3) := by decide +kernel
theorem d_X10_plans_111 : decode cX10_plans 111 = .ok (.iaload, 1) := by decide +kernel
theorem d_X10_plans_112 : decode cX10_plans 112 = .ok (.istore 10, 2) := by decide +kernel
theorem d_X10_plans_114 : decode cX10_plans 114 = .ok (.sipush 1000, 3) := by decide +kernel
theorem d_X10_plans_117 : decode cX10_plans 117 = .ok (.aload_n 0, 1) := by decide +kernel
theorem d_X10_plans_118 : decode cX10_plans 118 = .ok (.iload_n 1, 1) := by decide +kernel
theorem d_X10_plans_119 : decode cX10_plans 119 = .ok (.iconst 5, 1) := by decide +kernel
theorem d_X10_plans_120 : decode cX10_plans 120 = .ok (.invokevirtual 292, 3) := by decide +kernel
theorem d_X10_plans_123 : decode cX10_plans 123 = .ok (.iload 9, 2) := by decide +kernel
theorem d_X10_plans_125 : decode cX10_plans 125 = .ok (.imul, 1) := by decide +kernel
theorem d_X10_plans_126 : decode cX10_plans 126 = .ok (.isub, 1) := by decide +kernel
theorem d_X10_plans_127 : decode cX10_plans 127 = .ok (.istore 11, 2) := by decide +kernel
theorem d_X10_plans_129 : decode cX10_plans 129 = .ok (.iload 7, 2) := by decide +kernel
theorem d_X10_plans_131 : decode cX10_plans 131 = .ok (.iload 11, 2) := by decide +kernel
theorem d_X10_plans_133 : decode cX10_plans 133 = .ok (.ifCond .ge 7, 3) := by decide +kernel
theorem d_X10_plans_136 : decode cX10_plans 136 = .ok (.iconst 0, 1) := by decide +kernel
theorem d_X10_plans_137 : decode cX10_plans 137 = .ok (.goto 5, 3) := by decide +kernel
theorem d_X10_plans_140 : decode cX10_plans 140 = .ok (.iload 11, 2) := by decide +kernel
theorem d_X10_plans_142 : decode cX10_plans 142 = .ok (.imul, 1) := by decide +kernel
theorem d_X10_plans_143 : decode cX10_plans 143 = .ok (.iload_n 2, 1) := by decide +kernel
theorem d_X10_plans_144 : decode cX10_plans 144 = .ok (.ifCond .ne 21, 3) := by decide +kernel
theorem d_X10_plans_147 : decode cX10_plans 147 = .ok (.sipush 1000, 3) := by decide +kernel
theorem d_X10_plans_150 : decode cX10_plans 150 = .ok (.aload_n 0, 1) := by decide +kernel
theorem d_X10_plans_151 : decode cX10_plans 151 = .ok (.getfield 13, 3) := by decide +kernel
theorem d_X10_plans_154 : decode cX10_plans 154 = .ok (.iconst 4, 1) := by decide +kernel
theorem d_X10_plans_155 : decode cX10_plans 155 = .ok (.iload 4, 2) := by decide +kernel
theorem d_X10_plans_157 : decode cX10_plans 157 = .ok (.imul, 1) := by decide +kernel
theorem d_X10_plans_158 : decode cX10_plans 158 = .ok (.iconst 1, 1) := by decide +kernel
theorem d_X10_plans_159 : decode cX10_plans 159 = .ok (.iadd, 1) := by decide +kernel
theorem d_X10_plans_160 : decode cX10_plans 160 = .ok (.iaload, 1) := by decide +kernel
theorem d_X10_plans_161 : decode cX10_plans 161 = .ok (.imul, 1) := by decide +kernel
theorem d_X10_plans_162 : decode cX10_plans 162 = .ok (.goto 4, 3) := by decide +kernel
theorem d_X10_plans_165 : decode cX10_plans 165 = .ok (.iconst 0, 1) := by decide +kernel
theorem d_X10_plans_166 : decode cX10_plans 166 = .ok (.isub, 1) := by decide +kernel
theorem d_X10_plans_167 : decode cX10_plans 167 = .ok (.istore 12, 2) := by decide +kernel
theorem d_X10_plans_169 : decode cX10_plans 169 = .ok (.aload_n 0, 1) := by decide +kernel
theorem d_X10_plans_170 : decode cX10_plans 170 = .ok (.iload_n 2, 1) := by decide +kernel
theorem d_X10_plans_171 : decode cX10_plans 171 = .ok (.iload 4, 2) := by decide +kernel
theorem d_X10_plans_173 : decode cX10_plans 173 = .ok (.iload 8, 2) := by decide +kernel
theorem d_X10_plans_175 : decode cX10_plans 175 = .ok (.invokevirtual 319, 3) := by decide +kernel
theorem d_X10_plans_178 : decode cX10_plans 178 = .ok (.ifCond .eq 16, 3) := by decide +kernel
theorem d_X10_plans_181 : decode cX10_plans 181 = .ok (.iload 9, 2) := by decide +kernel
theorem d_X10_plans_183 : decode cX10_plans 183 = .ok (.iconst 1, 1) := by decide +kernel
theorem d_X10_plans_184 : decode cX10_plans 184 = .ok (.iadd, 1) := by decide +kernel
theorem d_X10_plans_185 : decode cX10_plans 185 = .ok (.bipush 33, 2) := by decide +kernel
theorem d_X10_plans_187 : decode cX10_plans 187 = .ok (.if_icmp .ge 7, 3) := by decide +kernel
theorem d_X10_plans_190 : decode cX10_plans 190 = .ok (.iconst 1, 1) := by decide +kernel
theorem d_X10_plans_191 : decode cX10_plans 191 = .ok (.goto 4, 3) := by decide +kernel
theorem d_X10_plans_194 : decode cX10_plans 194 = .ok (.iconst 0, 1) := by decide +kernel
theorem d_X10_plans_195 : decode cX10_plans 195 = .ok (.istore 13, 2) := by decide +kernel
theorem d_X10_plans_197 : decode cX10_plans 197 = .ok (.iload 13, 2) := by decide +kernel
theorem d_X10_plans_199 : decode cX10_plans 199 = .ok (.ifCond .eq 39, 3) := by decide +kernel
theorem d_X10_plans_202 : decode cX10_plans 202 = .ok (.iload 12, 2) := by decide +kernel
theorem d_X10_plans_204 : decode cX10_plans 204 = .ok (.aload_n 0, 1) := by decide +kernel
theorem d_X10_plans_205 : decode cX10_plans 205 = .ok (.getfield 47, 3) := by decide +kernel
theorem d_X10_plans_208 : decode cX10_plans 208 = .ok (.iload 4, 2) := by decide +kernel
theorem d_X10_plans_210 : decode cX10_plans 210 = .ok (.iconst 1, 1) := by decide +kernel
theorem d_X10_plans_211 : decode cX10_plans 211 = .ok (.iadd, 1) := by decide +kernel
theorem d_X10_plans_212 : decode cX10_plans 212 = .ok (.iload_n 2, 1) := by decide +kernel
theorem d_X10_plans_213 : decode cX10_plans 213 = .ok (.iconst 2, 1) := by decide +kernel
theorem d_X10_plans_214 : decode cX10_plans 214 = .ok (.if_icmp .ne 10, 3) := by decide +kernel
theorem d_X10_plans_217 : decode cX10_plans 217 = .ok (.iload 8, 2) := by decide +kernel
theorem d_X10_plans_219 : decode cX10_plans 219 = .ok (.iconst 1, 1) := by decide +kernel
theorem d_X10_plans_220 : decode cX10_plans 220 = .ok (.isub, 1) := by decide +kernel
theorem d_X10_plans_221 : decode cX10_plans 221 = .ok (.goto 5, 3) := by decide +kernel
theorem d_X10_plans_224 : decode cX10_plans 224 = .ok (.iload 8, 2) := by decide +kernel
theorem d_X10_plans_226 : decode cX10_plans 226 = .ok (.iload 9, 2) := by decide +kernel
theorem d_X10_plans_228 : decode cX10_plans 228 = .ok (.iconst 1, 1) := by decide +kernel
theorem d_X10_plans_229 : decode cX10_plans 229 = .ok (.iadd, 1) := by decide +kernel
theorem d_X10_plans_230 : decode cX10_plans 230 = .ok (.invokestatic 316, 3) := by decide +kernel
theorem d_X10_plans_233 : decode cX10_plans 233 = .ok (.iaload, 1) := by decide +kernel
theorem d_X10_plans_234 : decode cX10_plans 234 = .ok (.iadd, 1) := by decide +kernel
theorem d_X10_plans_235 : decode cX10_plans 235 = .ok (.goto 5, 3) := by decide +kernel
theorem d_X10_plans_238 : decode cX10_plans 238 = .ok (.iload 10, 2) := by decide +kernel
theorem d_X10_plans_240 : decode cX10_plans 240 = .ok (.istore 14, 2) := by decide +kernel
theorem d_X10_plans_242 : decode cX10_plans 242 = .ok (.aload_n 0, 1) := by decide +kernel
theorem d_X10_plans_243 : decode cX10_plans 243 = .ok (.getfield 50, 3) := by decide +kernel
theorem d_X10_plans_246 : decode cX10_plans 246 = .ok (.iload 4, 2) := by decide +kernel
theorem d_X10_plans_248 : decode cX10_plans 248 = .ok (.iload 8, 2) := by decide +kernel
theorem d_X10_plans_250 : decode cX10_plans 250 = .ok (.iload 9, 2) := by decide +kernel
theorem d_X10_plans_252 : decode cX10_plans 252 = .ok (.invokestatic 316, 3) := by decide +kernel
theorem d_X10_plans_255 : decode cX10_plans 255 = .ok (.iload 14, 2) := by decide +kernel
theorem d_X10_plans_257 : decode cX10_plans 257 = .ok (.iload 10, 2) := by decide +kernel
theorem d_X10_plans_259 : decode cX10_plans 259 = .ok (.if_icmp .le 7, 3) := by decide +kernel
theorem d_X10_plans_262 : decode cX10_plans 262 = .ok (.iconst 1, 1) := by decide +kernel
theorem d_X10_plans_263 : decode cX10_plans 263 = .ok (.goto 4, 3) := by decide +kernel
theorem d_X10_plans_266 : decode cX10_plans 266 = .ok (.iconst 0, 1) := by decide +kernel
theorem d_X10_plans_267 : decode cX10_plans 267 = .ok (.bastore, 1) := by decide +kernel
theorem d_X10_plans_268 : decode cX10_plans 268 = .ok (.aload_n 0, 1) := by decide +kernel
theorem d_X10_plans_269 : decode cX10_plans 269 = .ok (.getfield 47, 3) := by decide +kernel
theorem d_X10_plans_272 : decode cX10_plans 272 = .ok (.iload 4, 2) := by decide +kernel
theorem d_X10_plans_274 : decode cX10_plans 274 = .ok (.iload 8, 2) := by decide +kernel
theorem d_X10_plans_276 : decode cX10_plans 276 = .ok (.iload 9, 2) := by decide +kernel
theorem d_X10_plans_278 : decode cX10_plans 278 = .ok (.invokestatic 316, 3) := by decide +kernel
theorem d_X10_plans_281 : decode cX10_plans 281 = .ok (.iload 14, 2) := by decide +kernel
theorem d_X10_plans_283 : decode cX10_plans 283 = .ok (.iload 10, 2) := by decide +kernel
theorem d_X10_plans_285 : decode cX10_plans 285 = .ok (.if_icmp .le 23, 3) := by decide +kernel
theorem d_X10_plans_288 : decode cX10_plans 288 = .ok (.iload 10, 2) := by decide +kernel
theorem d_X10_plans_290 : decode cX10_plans 290 = .ok (.iload 14, 2) := by decide +kernel
theorem d_X10_plans_292 : decode cX10_plans 292 = .ok (.iload 10, 2) := by decide +kernel
theorem d_X10_plans_294 : decode cX10_plans 294 = .ok (.isub, 1) := by decide +kernel
theorem d_X10_plans_295 : decode cX10_plans 295 = .ok (.i2l, 1) := by decide +kernel
theorem d_X10_plans_296 : decode cX10_plans 296 = .ok (.lload 5, 2) := by decide +kernel
theorem d_X10_plans_298 : decode cX10_plans 298 = .ok (.lmul, 1) := by decide +kernel
theorem d_X10_plans_299 : decode cX10_plans 299 = .ok (.ldc2_w 308, 3) := by decide +kernel
theorem d_X10_plans_302 : decode cX10_plans 302 = .ok (.ldiv, 1) := by decide +kernel
theorem d_X10_plans_303 : decode cX10_plans 303 = .ok (.l2i, 1) := by decide +kernel
theorem d_X10_plans_304 : decode cX10_plans 304 = .ok (.iadd, 1) := by decide +kernel
theorem d_X10_plans_305 : decode cX10_plans 305 = .ok (.goto 5, 3) := by decide +kernel
theorem d_X10_plans_308 : decode cX10_plans 308 = .ok (.iload 10, 2) := by decide +kernel
theorem d_X10_plans_310 : decode cX10_plans 310 = .ok (.iastore, 1) := by decide +kernel
theorem d_X10_plans_311 : decode cX10_plans 311 = .ok (.iinc 9 1, 3) := by decide +kernel
theorem d_X10_plans_314 : decode cX10_plans 314 = .ok (.goto (-225), 3) := by decide +kernel
theorem d_X10_plans_317 : decode cX10_plans 317 = .ok (.iinc 8 1, 3) := by decide +kernel
theorem d_X10_plans_320 : decode cX10_plans 320 = .ok (.goto (-241), 3) := by decide +kernel
theorem d_X10_plans_323 : decode cX10_plans 323 = .ok (.iinc 4 (-1), 3) := by decide +kernel
theorem d_X10_plans_326 : decode cX10_plans 326 = .ok (.goto (-284), 3) := by decide +kernel
theorem d_X10_plans_329 : decode cX10_plans 329 = .ok (.return_, 1) := by decide +kernel
def l_X10_plans_3 (p1 : Int32) (p2 : Int32) (p3 : Int32) (s : Int32) (h : AH) : Option ((Int32 ⊕ Unit) × AH) := if 429 ≤ s then some (.inr (), h) else bd (stI h 251 ((429 * (gI h 240 3)) + s) 0) fun m1 => some (.inl (s + 1), m1)
theorem tb_X10_plans_3 {g : GP} {X : MX} {mcR msR : Nat} (hF : gF g = true) (hX : Cx g RX10 cX10_plans 3 mcR msR none [] X) {Q : State → Prop} {p1 : Int32} {p2 : Int32} {p3 : Int32} {s : Int32} {d5 : Value} {d6 : Value} {d7 : Value} {d8 : Value} {d9 : Value} {d10 : Value} {d11 : Value} {d12 : Value} {d13 : Value} {d14 : Value} {h hz : AH} {z : (Int32 ⊕ Unit)} (e : l_X10_plans_3 p1 p2 p3 s h = some (z, hz)) (kI : ∀ (s2 : Int32) (xd5 : Value) (xd6 : Value) (xd7 : Value) (xd8 : Value) (xd9 : Value) (xd10 : Value) (xd11 : Value) (xd12 : Value) (xd13 : Value) (xd14 : Value), z = .inl s2 → AR g X 0 0 Q hz 3 [.ref 240, .int p1, .int p2, .int p3, .int s2, xd5, xd6, xd7, xd8, xd9, xd10, xd11, xd12, xd13, xd14] []) (kE0 : ∀ (yy : Unit) (y4 : Value) (y5 : Value) (y6 : Value) (y7 : Value) (y8 : Value) (y9 : Value) (y10 : Value) (y11 : Value) (y12 : Value) (y13 : Value) (y14 : Value), z = .inr yy → AR g X 0 0 Q hz 34 [.ref 240, .int p1, .int p2, .int p3, y4, y5, y6, y7, y8, y9, y10, y11, y12, y13, y14] []) : AR g X 0 0 Q h 3 [.ref 240, .int p1, .int p2, .int p3, .int s, d5, d6, d7, d8, d9, d10, d11, d12, d13, d14] [] := by
  unfold l_X10_plans_3 at e
  refine aw_iload (i := 4) hX rfl d_X10_plans_3 ?_
  refine aw_sipush (v := 429) hX (by decide) d_X10_plans_5 ?_
  refine aw_icmp_ge (t := 34) hX (by decide) d_X10_plans_8 (fun c => ?_) (fun c => ?_)
  · rw [if_pos c] at e
    cases e
    exact kE0 () _ _ _ _ _ _ _ _ _ _ _ rfl
  · rw [if_neg c] at e
    refine aw_aload_n (i := 0) hX rfl rfl d_X10_plans_11 ?_
    refine ar_getF hX hF fg_RX10_47 rfl d_X10_plans_12 ?_
    show AR g X 0 0 _ _ 15 _ [.ref 251]
    refine aw_sipush (v := 429) hX (by decide) d_X10_plans_15 ?_
    refine aw_aload_n (i := 0) hX rfl rfl d_X10_plans_18 ?_
    refine ar_getI hX fg_RX10_262 rfl d_X10_plans_19 ?_
    refine aw_imul hX d_X10_plans_22 ?_
    refine aw_iload (i := 4) hX rfl d_X10_plans_23 ?_
    refine aw_iadd hX d_X10_plans_25 ?_
    refine aw_iconst (v := 0) hX (by decide) d_X10_plans_26 ?_
    obtain ⟨m1, f_1135, e_1135⟩ := bd_some e
    clear e
    refine ar_iastore hX f_1135 d_X10_plans_27 ?_
    refine aw_iinc (i := 4) (lv2 := [.ref 240, .int p1, .int p2, .int p3, .int (s + 1), d5, d6, d7, d8, d9, d10, d11, d12, d13, d14]) hX rfl rfl rfl rfl d_X10_plans_28 ?_
    refine aw_goto (t := 3) hX (by decide) d_X10_plans_31 ?_
    cases e_1135
    exact kI (s + 1) _ _ _ _ _ _ _ _ _ _ rfl
theorem ti_X10_plans_3 {g : GP} {X : MX} {mcR msR : Nat} (hF : gF g = true) (hX : Cx g RX10 cX10_plans 3 mcR msR none [] X) {Q : State → Prop} {p1 : Int32} {p2 : Int32} {p3 : Int32} {y : Unit} {hz : AH} (kE0 : ∀ (y_4 : Value) (y_5 : Value) (y_6 : Value) (y_7 : Value) (y_8 : Value) (y_9 : Value) (y_10 : Value) (y_11 : Value) (y_12 : Value) (y_13 : Value) (y_14 : Value), AR g X 0 0 Q hz 34 [.ref 240, .int p1, .int p2, .int p3, y_4, y_5, y_6, y_7, y_8, y_9, y_10, y_11, y_12, y_13, y_14] []) (n : Nat) : ∀ (s : Int32) (d5 : Value) (d6 : Value) (d7 : Value) (d8 : Value) (d9 : Value) (d10 : Value) (d11 : Value) (d12 : Value) (d13 : Value) (d14 : Value) (h : AH), lpH (l_X10_plans_3 p1 p2 p3) n s h = some (y, hz) → AR g X 0 0 Q h 3 [.ref 240, .int p1, .int p2, .int p3, .int s, d5, d6, d7, d8, d9, d10, d11, d12, d13, d14] [] := by
  induction n with
  | zero => intro s d5 d6 d7 d8 d9 d10 d11 d12 d13 d14 h e; cases e
  | succ n ih =>
    intro s d5 d6 d7 d8 d9 d10 d11 d12 d13 d14 h e
    obtain ⟨x, h1, e1, e2⟩ := lpH_succ e
    rcases e2 with ⟨s2, rfl, e3⟩ | ⟨rfl, rfl⟩
    · exact tb_X10_plans_3 hF hX e1 (fun s3 x0 x1 x2 x3 x4 x5 x6 x7 x8 x9 hs => by cases hs; exact ih _ _ _ _ _ _ _ _ _ _ _ _ e3) (fun yy x0 x1 x2 x3 x4 x5 x6 x7 x8 x9 x10 hy => by cases hy)
    · exact tb_X10_plans_3 hF hX e1 (fun s3 x0 x1 x2 x3 x4 x5 x6 x7 x8 x9 hs => by cases hs) (fun yy x0 x1 x2 x3 x4 x5 x6 x7 x8 x9 x10 hy => by cases hy; exact kE0 x0 x1 x2 x3 x4 x5 x6 x7 x8 x9 x10)
theorem t_X10_plans_3 {g : GP} {X : MX} {mcR msR : Nat} (hF : gF g = true) (hX : Cx g RX10 cX10_plans 3 mcR msR none [] X) {Q : State → Prop} {p1 : Int32} {p2 : Int32} {p3 : Int32} {s : Int32} {d5 : Value} {d6 : Value} {d7 : Value} {d8 : Value} {d9 : Value} {d10 : Value} {d11 : Value} {d12 : Value} {d13 : Value} {d14 : Value} {h hz : AH} {n : Nat} {y : Unit} (e : lpH (l_X10_plans_3 p1 p2 p3) n s h = some (y, hz)) (kE0 : ∀ (y_4 : Value) (y_5 : Value) (y_6 : Value) (y_7 : Value) (y_8 : Value) (y_9 : Value) (y_10 : Value) (y_11 : Value) (y_12 : Value) (y_13 : Value) (y_14 : Value), AR g X 0 0 Q hz 34 [.ref 240, .int p1, .int p2, .int p3, y_4, y_5, y_6, y_7, y_8, y_9, y_10, y_11, y_12, y_13, y_14] []) : AR g X 0 0 Q h 3 [.ref 240, .int p1, .int p2, .int p3, .int s, d5, d6, d7, d8, d9, d10, d11, d12, d13, d14] [] := ti_X10_plans_3 hF hX kE0 n _ _ _ _ _ _ _ _ _ _ _ _ e
def j_X10_plans_310_89 (p1 : Int32) (p2 : Int32) (p3 : Int32) (p4 : Int32) (p5 : Int64) (p7 : Int32) (p8 : Int32) (v9 : Int32) (k0 : Int32) (k1 : Int32) (h : AH) : Option ((Int32 ⊕ Unit) × AH) := bd (stI h 251 k1 k0) fun m14 => some (.inl (v9 + 1), m14)
theorem tj_X10_plans_310_89 {g : GP} {X : MX} {mcR msR : Nat} (hF : gF g = true) (hX : Cx g RX10 cX10_plans 3 mcR msR none [] X) {Q : State → Prop} {p1 : Int32} {p2 : Int32} {p3 : Int32} {p4 : Int32} {p5 : Int64} {p7 : Int32} {p8 : Int32} {v9 : Int32} {k0 : Int32} {k1 : Int32} {d10 : Value} {d11 : Value} {d12 : Value} {d13 : Value} {d14 : Value} {h hz : AH} {z : (Int32 ⊕ Unit)} (e : j_X10_plans_310_89 p1 p2 p3 p4 p5 p7 p8 v9 k0 k1 h = some (z, hz)) (kI : ∀ (s2 : Int32) (xd10 : Value) (xd11 : Value) (xd12 : Value) (xd13 : Value) (xd14 : Value), z = .inl s2 → AR g X 0 0 Q hz 89 [.ref 240, .int p1, .int p2, .int p3, .int p4, .long p5, jk, .int p7, .int p8, .int s2, xd10, xd11, xd12, xd13, xd14] []) (kE0 : ∀ (yy : Unit) (y9 : Value) (y10 : Value) (y11 : Value) (y12 : Value) (y13 : Value) (y14 : Value), z = .inr yy → AR g X 0 0 Q hz 317 [.ref 240, .int p1, .int p2, .int p3, .int p4, .long p5, jk, .int p7, .int p8, y9, y10, y11, y12, y13, y14] []) : AR g X 0 0 Q h 310 [.ref 240, .int p1, .int p2, .int p3, .int p4, .long p5, jk, .int p7, .int p8, .int v9, d10, d11, d12, d13, d14] [.int k0, .int k1, .ref 251] := by
  unfold j_X10_plans_310_89 at e
  obtain ⟨m14, f_1136, e_1136⟩ := bd_some e
  clear e
  refine ar_iastore hX f_1136 d_X10_plans_310 ?_
  refine aw_iinc (i := 9) (lv2 := [.ref 240, .int p1, .int p2, .int p3, .int p4, .long p5, jk, .int p7, .int p8, .int (v9 + 1), d10, d11, d12, d13, d14]) hX rfl rfl rfl rfl d_X10_plans_311 ?_
  refine aw_goto (t := 89) hX (by decide) d_X10_plans_314 ?_
  cases e_1136
  exact kI (v9 + 1) _ _ _ _ _ rfl
def j_X10_plans_267_89 (p1 : Int32) (p2 : Int32) (p3 : Int32) (p4 : Int32) (p5 : Int64) (p7 : Int32) (p8 : Int32) (v9 : Int32) (v10 : Int32) (v14 : Int32) (k0 : Int32) (k1 : Int32) (h : AH) : Option ((Int32 ⊕ Unit) × AH) := bd (stZ h 252 k1 k0) fun m12 => bd (s_X10_at p4 p8 v9 m12) fun x13 => if v14 ≤ v10 then j_X10_plans_310_89 p1 p2 p3 p4 p5 p7 p8 v9 v10 x13 m12 else bd (ldivF (((v14 - v10).toInt64) * p5) 1000000) fun x15 => j_X10_plans_310_89 p1 p2 p3 p4 p5 p7 p8 v9 (v10 + x15.toInt32) x13 m12
theorem tj_X10_plans_267_89 {g : GP} {X : MX} {mcR msR : Nat} (hF : gF g = true) (hX : Cx g RX10 cX10_plans 3 mcR msR none [] X) {Q : State → Prop} {p1 : Int32} {p2 : Int32} {p3 : Int32} {p4 : Int32} {p5 : Int64} {p7 : Int32} {p8 : Int32} {v9 : Int32} {v10 : Int32} {v14 : Int32} {k0 : Int32} {k1 : Int32} {d11 : Value} {d12 : Value} {d13 : Value} {h hz : AH} {z : (Int32 ⊕ Unit)} (e : j_X10_plans_267_89 p1 p2 p3 p4 p5 p7 p8 v9 v10 v14 k0 k1 h = some (z, hz)) (kI : ∀ (s2 : Int32) (xd10 : Value) (xd11 : Value) (xd12 : Value) (xd13 : Value) (xd14 : Value), z = .inl s2 → AR g X 0 0 Q hz 89 [.ref 240, .int p1, .int p2, .int p3, .int p4, .long p5, jk, .int p7, .int p8, .int s2, xd10, xd11, xd12, xd13, xd14] []) (kE0 : ∀ (yy : Unit) (y9 : Value) (y10 : Value) (y11 : Value) (y12 : Value) (y13 : Value) (y14 : Value), z = .inr yy → AR g X 0 0 Q hz 317 [.ref 240, .int p1, .int p2, .int p3, .int p4, .long p5, jk, .int p7, .int p8, y9, y10, y11, y12, y13, y14] []) : AR g X 0 0 Q h 267 [.ref 240, .int p1, .int p2, .int p3, .int p4, .long p5, jk, .int p7, .int p8, .int v9, .int v10, d11, d12, d13, .int v14] [.int k0, .int k1, .ref 252] := by
  unfold j_X10_plans_267_89 at e
  obtain ⟨m12, f_1137, e_1137⟩ := bd_some e
  clear e
  refine ar_bastore hX f_1137 d_X10_plans_267 ?_
  refine aw_aload_n (i := 0) hX rfl rfl d_X10_plans_268 ?_
  refine ar_getF hX hF fg_RX10_47 rfl d_X10_plans_269 ?_
  show AR g X 0 0 _ _ 272 _ [.ref 251]
  refine aw_iload (i := 4) hX rfl d_X10_plans_272 ?_
  refine aw_iload (i := 8) hX rfl d_X10_plans_274 ?_
  refine aw_iload (i := 9) hX rfl d_X10_plans_276 ?_
  obtain ⟨x13, f_1138, e_1138⟩ := bd_some e_1137
  clear e_1137
  refine aw_callS (av := [.int p4, .int p8, .int v9]) (avr := [.int v9, .int p8, .int p4]) hX (k_X10_at (cx_g hX) hF f_1138) mi_X10_at rfl rfl w_745 w_746 rfl (by decide) (Nat.le_of_ble_eq_true rfl) (Nat.zero_le _) (Nat.zero_le _) d_X10_plans_278 ?_
  refine aw_iload (i := 14) hX rfl d_X10_plans_281 ?_
  refine aw_iload (i := 10) hX rfl d_X10_plans_283 ?_
  refine aw_icmp_le (t := 308) hX (by decide) d_X10_plans_285 (fun c => ?_) (fun c => ?_)
  · rw [if_pos c] at e_1138
    refine aw_iload (i := 10) hX rfl d_X10_plans_308 ?_
    exact tj_X10_plans_310_89 hF hX e_1138 kI kE0
  · rw [if_neg c] at e_1138
    refine aw_iload (i := 10) hX rfl d_X10_plans_288 ?_
    refine aw_iload (i := 14) hX rfl d_X10_plans_290 ?_
    refine aw_iload (i := 10) hX rfl d_X10_plans_292 ?_
    refine aw_isub hX d_X10_plans_294 ?_
    refine aw_i2l hX d_X10_plans_295 ?_
    refine aw_lload (i := 5) hX rfl d_X10_plans_296 ?_
    refine aw_lmul hX d_X10_plans_298 ?_
    refine aw_ldc2 hX w_735 d_X10_plans_299 ?_
    obtain ⟨x15, f_1139, e_1139⟩ := bd_some e_1138
    clear e_1138
    refine ar_ldiv hX f_1139 d_X10_plans_302 ?_
    refine aw_l2i hX d_X10_plans_303 ?_
    refine aw_iadd hX d_X10_plans_304 ?_
    refine aw_goto (t := 310) hX (by decide) d_X10_plans_305 ?_
    exact tj_X10_plans_310_89 hF hX e_1139 kI kE0
def j_X10_plans_240_89 (p1 : Int32) (p2 : Int32) (p3 : Int32) (p4 : Int32) (p5 : Int64) (p7 : Int32) (p8 : Int32) (v9 : Int32) (v10 : Int32) (k0 : Int32) (h : AH) : Option ((Int32 ⊕ Unit) × AH) := bd (s_X10_at p4 p8 v9 h) fun x11 => if k0 ≤ v10 then j_X10_plans_267_89 p1 p2 p3 p4 p5 p7 p8 v9 v10 k0 0 x11 h else j_X10_plans_267_89 p1 p2 p3 p4 p5 p7 p8 v9 v10 k0 1 x11 h
theorem tj_X10_plans_240_89 {g : GP} {X : MX} {mcR msR : Nat} (hF : gF g = true) (hX : Cx g RX10 cX10_plans 3 mcR msR none [] X) {Q : State → Prop} {p1 : Int32} {p2 : Int32} {p3 : Int32} {p4 : Int32} {p5 : Int64} {p7 : Int32} {p8 : Int32} {v9 : Int32} {v10 : Int32} {k0 : Int32} {d11 : Value} {d12 : Value} {d13 : Value} {d14 : Value} {h hz : AH} {z : (Int32 ⊕ Unit)} (e : j_X10_plans_240_89 p1 p2 p3 p4 p5 p7 p8 v9 v10 k0 h = some (z, hz)) (kI : ∀ (s2 : Int32) (xd10 : Value) (xd11 : Value) (xd12 : Value) (xd13 : Value) (xd14 : Value), z = .inl s2 → AR g X 0 0 Q hz 89 [.ref 240, .int p1, .int p2, .int p3, .int p4, .long p5, jk, .int p7, .int p8, .int s2, xd10, xd11, xd12, xd13, xd14] []) (kE0 : ∀ (yy : Unit) (y9 : Value) (y10 : Value) (y11 : Value) (y12 : Value) (y13 : Value) (y14 : Value), z = .inr yy → AR g X 0 0 Q hz 317 [.ref 240, .int p1, .int p2, .int p3, .int p4, .long p5, jk, .int p7, .int p8, y9, y10, y11, y12, y13, y14] []) : AR g X 0 0 Q h 240 [.ref 240, .int p1, .int p2, .int p3, .int p4, .long p5, jk, .int p7, .int p8, .int v9, .int v10, d11, d12, d13, d14] [.int k0] := by
  unfold j_X10_plans_240_89 at e
  refine aw_istore (i := 14) (lv2 := [.ref 240, .int p1, .int p2, .int p3, .int p4, .long p5, jk, .int p7, .int p8, .int v9, .int v10, d11, d12, _, .int k0]) hX rfl rfl d_X10_plans_240 ?_
  refine aw_aload_n (i := 0) hX rfl rfl d_X10_plans_242 ?_
  refine ar_getF hX hF fg_RX10_50 rfl d_X10_plans_243 ?_
  show AR g X 0 0 _ _ 246 _ [.ref 252]
  refine aw_iload (i := 4) hX rfl d_X10_plans_246 ?_
  refine aw_iload (i := 8) hX rfl d_X10_plans_248 ?_
  refine aw_iload (i := 9) hX rfl d_X10_plans_250 ?_
  obtain ⟨x11, f_1140, e_1140⟩ := bd_some e
  clear e
  refine aw_callS (av := [.int p4, .int p8, .int v9]) (avr := [.int v9, .int p8, .int p4]) hX (k_X10_at (cx_g hX) hF f_1140) mi_X10_at rfl rfl w_745 w_746 rfl (by decide) (Nat.le_of_ble_eq_true rfl) (Nat.zero_le _) (Nat.zero_le _) d_X10_plans_252 ?_
  refine aw_iload (i := 14) hX rfl d_X10_plans_255 ?_
  refine aw_iload (i := 10) hX rfl d_X10_plans_257 ?_
  refine aw_icmp_le (t := 266) hX (by decide) d_X10_plans_259 (fun c => ?_) (fun c => ?_)
  · rw [if_pos c] at e_1140
    refine aw_iconst (v := 0) hX (by decide) d_X10_plans_266 ?_
    exact tj_X10_plans_267_89 hF hX e_1140 kI kE0
  · rw [if_neg c] at e_1140
    refine aw_iconst (v := 1) hX (by decide) d_X10_plans_262 ?_
    refine aw_goto (t := 267) hX (by decide) d_X10_plans_263 ?_
    exact tj_X10_plans_267_89 hF hX e_1140 kI kE0
def j_X10_plans_226_89 (p1 : Int32) (p2 : Int32) (p3 : Int32) (p4 : Int32) (p5 : Int64) (p7 : Int32) (p8 : Int32) (v9 : Int32) (v10 : Int32) (k0 : Int32) (k1 : Int32) (k3 : Int32) (h : AH) : Option ((Int32 ⊕ Unit) × AH) := bd (s_X10_at k1 k0 (v9 + 1) h) fun x16 => bd (ldI h 251 x16) fun x17 => j_X10_plans_240_89 p1 p2 p3 p4 p5 p7 p8 v9 v10 (k3 + x17) h
theorem tj_X10_plans_226_89 {g : GP} {X : MX} {mcR msR : Nat} (hF : gF g = true) (hX : Cx g RX10 cX10_plans 3 mcR msR none [] X) {Q : State → Prop} {p1 : Int32} {p2 : Int32} {p3 : Int32} {p4 : Int32} {p5 : Int64} {p7 : Int32} {p8 : Int32} {v9 : Int32} {v10 : Int32} {k0 : Int32} {k1 : Int32} {k3 : Int32} {d11 : Value} {d12 : Value} {d13 : Value} {d14 : Value} {h hz : AH} {z : (Int32 ⊕ Unit)} (e : j_X10_plans_226_89 p1 p2 p3 p4 p5 p7 p8 v9 v10 k0 k1 k3 h = some (z, hz)) (kI : ∀ (s2 : Int32) (xd10 : Value) (xd11 : Value) (xd12 : Value) (xd13 : Value) (xd14 : Value), z = .inl s2 → AR g X 0 0 Q hz 89 [.ref 240, .int p1, .int p2, .int p3, .int p4, .long p5, jk, .int p7, .int p8, .int s2, xd10, xd11, xd12, xd13, xd14] []) (kE0 : ∀ (yy : Unit) (y9 : Value) (y10 : Value) (y11 : Value) (y12 : Value) (y13 : Value) (y14 : Value), z = .inr yy → AR g X 0 0 Q hz 317 [.ref 240, .int p1, .int p2, .int p3, .int p4, .long p5, jk, .int p7, .int p8, y9, y10, y11, y12, y13, y14] []) : AR g X 0 0 Q h 226 [.ref 240, .int p1, .int p2, .int p3, .int p4, .long p5, jk, .int p7, .int p8, .int v9, .int v10, d11, d12, d13, d14] [.int k0, .int k1, .ref 251, .int k3] := by
  unfold j_X10_plans_226_89 at e
  refine aw_iload (i := 9) hX rfl d_X10_plans_226 ?_
  refine aw_iconst (v := 1) hX (by decide) d_X10_plans_228 ?_
  refine aw_iadd hX d_X10_plans_229 ?_
  obtain ⟨x16, f_1141, e_1141⟩ := bd_some e
  clear e
  refine aw_callS (av := [.int k1, .int k0, .int (v9 + 1)]) (avr := [.int (v9 + 1), .int k0, .int k1]) hX (k_X10_at (cx_g hX) hF f_1141) mi_X10_at rfl rfl w_745 w_746 rfl (by decide) (Nat.le_of_ble_eq_true rfl) (Nat.zero_le _) (Nat.zero_le _) d_X10_plans_230 ?_
  obtain ⟨x17, f_1142, e_1142⟩ := bd_some e_1141
  clear e_1141
  refine ar_iaload hX f_1142 d_X10_plans_233 ?_
  refine aw_iadd hX d_X10_plans_234 ?_
  refine aw_goto (t := 240) hX (by decide) d_X10_plans_235 ?_
  exact tj_X10_plans_240_89 hF hX e_1142 kI kE0
def j_X10_plans_195_89 (p1 : Int32) (p2 : Int32) (p3 : Int32) (p4 : Int32) (p5 : Int64) (p7 : Int32) (p8 : Int32) (v9 : Int32) (v10 : Int32) (v12 : Int32) (k0 : Int32) (h : AH) : Option ((Int32 ⊕ Unit) × AH) := if k0 = 0 then j_X10_plans_240_89 p1 p2 p3 p4 p5 p7 p8 v9 v10 v10 h else if p2 = 2 then j_X10_plans_226_89 p1 p2 p3 p4 p5 p7 p8 v9 v10 (p8 - 1) (p4 + 1) v12 h else j_X10_plans_226_89 p1 p2 p3 p4 p5 p7 p8 v9 v10 p8 (p4 + 1) v12 h
theorem tj_X10_plans_195_89 {g : GP} {X : MX} {mcR msR : Nat} (hF : gF g = true) (hX : Cx g RX10 cX10_plans 3 mcR msR none [] X) {Q : State → Prop} {p1 : Int32} {p2 : Int32} {p3 : Int32} {p4 : Int32} {p5 : Int64} {p7 : Int32} {p8 : Int32} {v9 : Int32} {v10 : Int32} {v12 : Int32} {k0 : Int32} {d11 : Value} {d13 : Value} {d14 : Value} {h hz : AH} {z : (Int32 ⊕ Unit)} (e : j_X10_plans_195_89 p1 p2 p3 p4 p5 p7 p8 v9 v10 v12 k0 h = some (z, hz)) (kI : ∀ (s2 : Int32) (xd10 : Value) (xd11 : Value) (xd12 : Value) (xd13 : Value) (xd14 : Value), z = .inl s2 → AR g X 0 0 Q hz 89 [.ref 240, .int p1, .int p2, .int p3, .int p4, .long p5, jk, .int p7, .int p8, .int s2, xd10, xd11, xd12, xd13, xd14] []) (kE0 : ∀ (yy : Unit) (y9 : Value) (y10 : Value) (y11 : Value) (y12 : Value) (y13 : Value) (y14 : Value), z = .inr yy → AR g X 0 0 Q hz 317 [.ref 240, .int p1, .int p2, .int p3, .int p4, .long p5, jk, .int p7, .int p8, y9, y10, y11, y12, y13, y14] []) : AR g X 0 0 Q h 195 [.ref 240, .int p1, .int p2, .int p3, .int p4, .long p5, jk, .int p7, .int p8, .int v9, .int v10, d11, .int v12, d13, d14] [.int k0] := by
  unfold j_X10_plans_195_89 at e
  refine aw_istore (i := 13) (lv2 := [.ref 240, .int p1, .int p2, .int p3, .int p4, .long p5, jk, .int p7, .int p8, .int v9, .int v10, d11, .int v12, .int k0, d14]) hX rfl rfl d_X10_plans_195 ?_
  refine aw_iload (i := 13) hX rfl d_X10_plans_197 ?_
  refine aw_if_eq (t := 238) hX (by decide) d_X10_plans_199 (fun c => ?_) (fun c => ?_)
  · rw [if_pos c] at e
    refine aw_iload (i := 10) hX rfl d_X10_plans_238 ?_
    exact tj_X10_plans_240_89 hF hX e kI kE0
  · rw [if_neg c] at e
    refine aw_iload (i := 12) hX rfl d_X10_plans_202 ?_
    refine aw_aload_n (i := 0) hX rfl rfl d_X10_plans_204 ?_
    refine ar_getF hX hF fg_RX10_47 rfl d_X10_plans_205 ?_
    show AR g X 0 0 _ _ 208 _ [.ref 251, .int v12]
    refine aw_iload (i := 4) hX rfl d_X10_plans_208 ?_
    refine aw_iconst (v := 1) hX (by decide) d_X10_plans_210 ?_
    refine aw_iadd hX d_X10_plans_211 ?_
    refine aw_iload_n (i := 2) hX rfl rfl d_X10_plans_212 ?_
    refine aw_iconst (v := 2) hX (by decide) d_X10_plans_213 ?_
    refine aw_icmp_ne (t := 224) hX (by decide) d_X10_plans_214 (fun c => ?_) (fun c => ?_)
    · rw [if_neg c] at e
      refine aw_iload (i := 8) hX rfl d_X10_plans_224 ?_
      exact tj_X10_plans_226_89 hF hX e kI kE0
    · rw [if_pos c] at e
      refine aw_iload (i := 8) hX rfl d_X10_plans_217 ?_
      refine aw_iconst (v := 1) hX (by decide) d_X10_plans_219 ?_
      refine aw_isub hX d_X10_plans_220 ?_
      refine aw_goto (t := 226) hX (by decide) d_X10_plans_221 ?_
      exact tj_X10_plans_226_89 hF hX e kI kE0
def j_X10_plans_194_89 (p1 : Int32) (p2 : Int32) (p3 : Int32) (p4 : Int32) (p5 : Int64) (p7 : Int32) (p8 : Int32) (v9 : Int32) (v10 : Int32) (v12 : Int32) (h : AH) : Option ((Int32 ⊕ Unit) × AH) := j_X10_plans_195_89 p1 p2 p3 p4 p5 p7 p8 v9 v10 v12 0 h
theorem tj_X10_plans_194_89 {g : GP} {X : MX} {mcR msR : Nat} (hF : gF g = true) (hX : Cx g RX10 cX10_plans 3 mcR msR none [] X) {Q : State → Prop} {p1 : Int32} {p2 : Int32} {p3 : Int32} {p4 : Int32} {p5 : Int64} {p7 : Int32} {p8 : Int32} {v9 : Int32} {v10 : Int32} {v12 : Int32} {d11 : Value} {d13 : Value} {d14 : Value} {h hz : AH} {z : (Int32 ⊕ Unit)} (e : j_X10_plans_194_89 p1 p2 p3 p4 p5 p7 p8 v9 v10 v12 h = some (z, hz)) (kI : ∀ (s2 : Int32) (xd10 : Value) (xd11 : Value) (xd12 : Value) (xd13 : Value) (xd14 : Value), z = .inl s2 → AR g X 0 0 Q hz 89 [.ref 240, .int p1, .int p2, .int p3, .int p4, .long p5, jk, .int p7, .int p8, .int s2, xd10, xd11, xd12, xd13, xd14] []) (kE0 : ∀ (yy : Unit) (y9 : Value) (y10 : Value) (y11 : Value) (y12 : Value) (y13 : Value) (y14 : Value), z = .inr yy → AR g X 0 0 Q hz 317 [.ref 240, .int p1, .int p2, .int p3, .int p4, .long p5, jk, .int p7, .int p8, y9, y10, y11, y12, y13, y14] []) : AR g X 0 0 Q h 194 [.ref 240, .int p1, .int p2, .int p3, .int p4, .long p5, jk, .int p7, .int p8, .int v9, .int v10, d11, .int v12, d13, d14] [] := by
  unfold j_X10_plans_194_89 at e
  refine aw_iconst (v := 0) hX (by decide) d_X10_plans_194 ?_
  exact tj_X10_plans_195_89 hF hX e kI kE0
def j_X10_plans_166_89 (p1 : Int32) (p2 : Int32) (p3 : Int32) (p4 : Int32) (p5 : Int64) (p7 : Int32) (p8 : Int32) (v9 : Int32) (v10 : Int32) (k0 : Int32) (k1 : Int32) (h : AH) : Option ((Int32 ⊕ Unit) × AH) := bd (s_X10_mayGo p2 p4 p8 h) fun x10 => if x10 = 0 then j_X10_plans_194_89 p1 p2 p3 p4 p5 p7 p8 v9 v10 (k1 - k0) h else if (33 : Int32) ≤ (v9 + 1) then j_X10_plans_194_89 p1 p2 p3 p4 p5 p7 p8 v9 v10 (k1 - k0) h else j_X10_plans_195_89 p1 p2 p3 p4 p5 p7 p8 v9 v10 (k1 - k0) 1 h
theorem tj_X10_plans_166_89 {g : GP} {X : MX} {mcR msR : Nat} (hF : gF g = true) (hX : Cx g RX10 cX10_plans 3 mcR msR none [] X) {Q : State → Prop} {p1 : Int32} {p2 : Int32} {p3 : Int32} {p4 : Int32} {p5 : Int64} {p7 : Int32} {p8 : Int32} {v9 : Int32} {v10 : Int32} {k0 : Int32} {k1 : Int32} {d11 : Value} {d12 : Value} {d13 : Value} {d14 : Value} {h hz : AH} {z : (Int32 ⊕ Unit)} (e : j_X10_plans_166_89 p1 p2 p3 p4 p5 p7 p8 v9 v10 k0 k1 h = some (z, hz)) (kI : ∀ (s2 : Int32) (xd10 : Value) (xd11 : Value) (xd12 : Value) (xd13 : Value) (xd14 : Value), z = .inl s2 → AR g X 0 0 Q hz 89 [.ref 240, .int p1, .int p2, .int p3, .int p4, .long p5, jk, .int p7, .int p8, .int s2, xd10, xd11, xd12, xd13, xd14] []) (kE0 : ∀ (yy : Unit) (y9 : Value) (y10 : Value) (y11 : Value) (y12 : Value) (y13 : Value) (y14 : Value), z = .inr yy → AR g X 0 0 Q hz 317 [.ref 240, .int p1, .int p2, .int p3, .int p4, .long p5, jk, .int p7, .int p8, y9, y10, y11, y12, y13, y14] []) : AR g X 0 0 Q h 166 [.ref 240, .int p1, .int p2, .int p3, .int p4, .long p5, jk, .int p7, .int p8, .int v9, .int v10, d11, d12, d13, d14] [.int k0, .int k1] := by
  unfold j_X10_plans_166_89 at e
  refine aw_isub hX d_X10_plans_166 ?_
  refine aw_istore (i := 12) (lv2 := [.ref 240, .int p1, .int p2, .int p3, .int p4, .long p5, jk, .int p7, .int p8, .int v9, .int v10, _, .int (k1 - k0), d13, d14]) hX rfl rfl d_X10_plans_167 ?_
  refine aw_aload_n (i := 0) hX rfl rfl d_X10_plans_169 ?_
  refine aw_iload_n (i := 2) hX rfl rfl d_X10_plans_170 ?_
  refine aw_iload (i := 4) hX rfl d_X10_plans_171 ?_
  refine aw_iload (i := 8) hX rfl d_X10_plans_173 ?_
  obtain ⟨x10, f_1143, e_1143⟩ := bd_some e
  clear e
  refine aw_callV (b := 240) (av := [.int p2, .int p4, .int p8]) (avr := [.int p8, .int p4, .int p2]) hX (k_X10_mayGo (cx_g hX) hF f_1143) mi_X10_mayGo rfl rfl w_748 w_749 w_750 (by decide) rfl (LAY_lt rfl (by decide)) rfl rfl (Nat.le_of_ble_eq_true rfl) (Nat.zero_le _) (Nat.zero_le _) d_X10_plans_175 ?_
  refine aw_if_eq (t := 194) hX (by decide) d_X10_plans_178 (fun c => ?_) (fun c => ?_)
  · rw [if_pos c] at e_1143
    exact tj_X10_plans_194_89 hF hX e_1143 kI kE0
  · rw [if_neg c] at e_1143
    refine aw_iload (i := 9) hX rfl d_X10_plans_181 ?_
    refine aw_iconst (v := 1) hX (by decide) d_X10_plans_183 ?_
    refine aw_iadd hX d_X10_plans_184 ?_
    refine aw_bipush (v := 33) hX (by decide) d_X10_plans_185 ?_
    refine aw_icmp_ge (t := 194) hX (by decide) d_X10_plans_187 (fun c => ?_) (fun c => ?_)
    · rw [if_pos c] at e_1143
      exact tj_X10_plans_194_89 hF hX e_1143 kI kE0
    · rw [if_neg c] at e_1143
      refine aw_iconst (v := 1) hX (by decide) d_X10_plans_190 ?_
      refine aw_goto (t := 195) hX (by decide) d_X10_plans_191 ?_
      exact tj_X10_plans_195_89 hF hX e_1143 kI kE0
def j_X10_plans_142_89 (p1 : Int32) (p2 : Int32) (p3 : Int32) (p4 : Int32) (p5 : Int64) (p7 : Int32) (p8 : Int32) (v9 : Int32) (v10 : Int32) (k0 : Int32) (k1 : Int32) (h : AH) : Option ((Int32 ⊕ Unit) × AH) := if p2 = 0 then bd (ldI h 241 ((4 * p4) + 1)) fun x18 => j_X10_plans_166_89 p1 p2 p3 p4 p5 p7 p8 v9 v10 (1000 * x18) (k1 * k0) h else j_X10_plans_166_89 p1 p2 p3 p4 p5 p7 p8 v9 v10 0 (k1 * k0) h
theorem tj_X10_plans_142_89 {g : GP} {X : MX} {mcR msR : Nat} (hF : gF g = true) (hX : Cx g RX10 cX10_plans 3 mcR msR none [] X) {Q : State → Prop} {p1 : Int32} {p2 : Int32} {p3 : Int32} {p4 : Int32} {p5 : Int64} {p7 : Int32} {p8 : Int32} {v9 : Int32} {v10 : Int32} {k0 : Int32} {k1 : Int32} {d11 : Value} {d12 : Value} {d13 : Value} {d14 : Value} {h hz : AH} {z : (Int32 ⊕ Unit)} (e : j_X10_plans_142_89 p1 p2 p3 p4 p5 p7 p8 v9 v10 k0 k1 h = some (z, hz)) (kI : ∀ (s2 : Int32) (xd10 : Value) (xd11 : Value) (xd12 : Value) (xd13 : Value) (xd14 : Value), z = .inl s2 → AR g X 0 0 Q hz 89 [.ref 240, .int p1, .int p2, .int p3, .int p4, .long p5, jk, .int p7, .int p8, .int s2, xd10, xd11, xd12, xd13, xd14] []) (kE0 : ∀ (yy : Unit) (y9 : Value) (y10 : Value) (y11 : Value) (y12 : Value) (y13 : Value) (y14 : Value), z = .inr yy → AR g X 0 0 Q hz 317 [.ref 240, .int p1, .int p2, .int p3, .int p4, .long p5, jk, .int p7, .int p8, y9, y10, y11, y12, y13, y14] []) : AR g X 0 0 Q h 142 [.ref 240, .int p1, .int p2, .int p3, .int p4, .long p5, jk, .int p7, .int p8, .int v9, .int v10, d11, d12, d13, d14] [.int k0, .int k1] := by
  unfold j_X10_plans_142_89 at e
  refine aw_imul hX d_X10_plans_142 ?_
  refine aw_iload_n (i := 2) hX rfl rfl d_X10_plans_143 ?_
  refine aw_if_ne (t := 165) hX (by decide) d_X10_plans_144 (fun c => ?_) (fun c => ?_)
  · rw [if_neg c] at e
    refine aw_iconst (v := 0) hX (by decide) d_X10_plans_165 ?_
    exact tj_X10_plans_166_89 hF hX e kI kE0
  · rw [if_pos c] at e
    refine aw_sipush (v := 1000) hX (by decide) d_X10_plans_147 ?_
    refine aw_aload_n (i := 0) hX rfl rfl d_X10_plans_150 ?_
    refine ar_getF hX hF fg_RX10_13 rfl d_X10_plans_151 ?_
    show AR g X 0 0 _ _ 154 _ [.ref 241, .int 1000, .int (k1 * k0)]
    refine aw_iconst (v := 4) hX (by decide) d_X10_plans_154 ?_
    refine aw_iload (i := 4) hX rfl d_X10_plans_155 ?_
    refine aw_imul hX d_X10_plans_157 ?_
    refine aw_iconst (v := 1) hX (by decide) d_X10_plans_158 ?_
    refine aw_iadd hX d_X10_plans_159 ?_
    obtain ⟨x18, f_1144, e_1144⟩ := bd_some e
    clear e
    refine ar_iaload hX f_1144 d_X10_plans_160 ?_
    refine aw_imul hX d_X10_plans_161 ?_
    refine aw_goto (t := 166) hX (by decide) d_X10_plans_162 ?_
    exact tj_X10_plans_166_89 hF hX e_1144 kI kE0
def l_X10_plans_89 (p1 : Int32) (p2 : Int32) (p3 : Int32) (p4 : Int32) (p5 : Int64) (p7 : Int32) (p8 : Int32) (s : Int32) (h : AH) : Option ((Int32 ⊕ Unit) × AH) := if 33 ≤ s then some (.inr (), h) else bd (s_X10_at (p4 + 1) p8 s h) fun x7 => bd (ldI h 251 x7) fun x8 => bd (s_X10_of p1 5 h) fun x9 => if 0 ≤ (1000 - (x9 * s)) then j_X10_plans_142_89 p1 p2 p3 p4 p5 p7 p8 s x8 (1000 - (x9 * s)) p7 h else j_X10_plans_142_89 p1 p2 p3 p4 p5 p7 p8 s x8 0 p7 h
theorem tb_X10_plans_89 {g : GP} {X : MX} {mcR msR : Nat} (hF : gF g = true) (hX : Cx g RX10 cX10_plans 3 mcR msR none [] X) {Q : State → Prop} {p1 : Int32} {p2 : Int32} {p3 : Int32} {p4 : Int32} {p5 : Int64} {p7 : Int32} {p8 : Int32} {s : Int32} {d10 : Value} {d11 : Value} {d12 : Value} {d13 : Value} {d14 : Value} {h hz : AH} {z : (Int32 ⊕ Unit)} (e : l_X10_plans_89 p1 p2 p3 p4 p5 p7 p8 s h = some (z, hz)) (kI : ∀ (s2 : Int32) (xd10 : Value) (xd11 : Value) (xd12 : Value) (xd13 : Value) (xd14 : Value), z = .inl s2 → AR g X 0 0 Q hz 89 [.ref 240, .int p1, .int p2, .int p3, .int p4, .long p5, jk, .int p7, .int p8, .int s2, xd10, xd11, xd12, xd13, xd14] []) (kE0 : ∀ (yy : Unit) (y9 : Value) (y10 : Value) (y11 : Value) (y12 : Value) (y13 : Value) (y14 : Value), z = .inr yy → AR g X 0 0 Q hz 317 [.ref 240, .int p1, .int p2, .int p3, .int p4, .long p5, jk, .int p7, .int p8, y9, y10, y11, y12, y13, y14] []) : AR g X 0 0 Q h 89 [.ref 240, .int p1, .int p2, .int p3, .int p4, .long p5, jk, .int p7, .int p8, .int s, d10, d11, d12, d13, d14] [] := by
  unfold l_X10_plans_89 at e
  refine aw_iload (i := 9) hX rfl d_X10_plans_89 ?_
  refine aw_bipush (v := 33) hX (by decide) d_X10_plans_91 ?_
  refine aw_icmp_ge (t := 317) hX (by decide) d_X10_plans_93 (fun c => ?_) (fun c => ?_)
  · rw [if_pos c] at e
    cases e
    exact kE0 () _ _ _ _ _ _ rfl
  · rw [if_neg c] at e
    refine aw_aload_n (i := 0) hX rfl rfl d_X10_plans_96 ?_
    refine ar_getF hX hF fg_RX10_47 rfl d_X10_plans_97 ?_
    show AR g X 0 0 _ _ 100 _ [.ref 251]
    refine aw_iload (i := 4) hX rfl d_X10_plans_100 ?_
    refine aw_iconst (v := 1) hX (by decide) d_X10_plans_102 ?_
    refine aw_iadd hX d_X10_plans_103 ?_
    refine aw_iload (i := 8) hX rfl d_X10_plans_104 ?_
    refine aw_iload (i := 9) hX rfl d_X10_plans_106 ?_
    obtain ⟨x7, f_1145, e_1145⟩ := bd_some e
    clear e
    refine aw_callS (av := [.int (p4 + 1), .int p8, .int s]) (avr := [.int s, .int p8, .int (p4 + 1)]) hX (k_X10_at (cx_g hX) hF f_1145) mi_X10_at rfl rfl w_745 w_746 rfl (by decide) (Nat.le_of_ble_eq_true rfl) (Nat.zero_le _) (Nat.zero_le _) d_X10_plans_108 ?_
    obtain ⟨x8, f_1146, e_1146⟩ := bd_some e_1145
    clear e_1145
    refine ar_iaload hX f_1146 d_X10_plans_111 ?_
    refine aw_istore (i := 10) (lv2 := [.ref 240, .int p1, .int p2, .int p3, .int p4, .long p5, jk, .int p7, .int p8, .int s, .int x8, d11, d12, d13, d14]) hX rfl rfl d_X10_plans_112 ?_
    refine aw_sipush (v := 1000) hX (by decide) d_X10_plans_114 ?_
    refine aw_aload_n (i := 0) hX rfl rfl d_X10_plans_117 ?_
    refine aw_iload_n (i := 1) hX rfl rfl d_X10_plans_118 ?_
    refine aw_iconst (v := 5) hX (by decide) d_X10_plans_119 ?_
    obtain ⟨x9, f_1147, e_1147⟩ := bd_some e_1146
    clear e_1146
    refine aw_callV (b := 240) (av := [.int p1, .int 5]) (avr := [.int 5, .int p1]) hX (k_X10_of (cx_g hX) hF f_1147) mi_X10_of rfl rfl w_732 w_733 w_734 (by decide) rfl (LAY_lt rfl (by decide)) rfl rfl (Nat.le_of_ble_eq_true rfl) (Nat.zero_le _) (Nat.zero_le _) d_X10_plans_120 ?_
    refine aw_iload (i := 9) hX rfl d_X10_plans_123 ?_
    refine aw_imul hX d_X10_plans_125 ?_
    refine aw_isub hX d_X10_plans_126 ?_
    refine aw_istore (i := 11) (lv2 := [.ref 240, .int p1, .int p2, .int p3, .int p4, .long p5, jk, .int p7, .int p8, .int s, .int x8, .int (1000 - (x9 * s)), d12, d13, d14]) hX rfl rfl d_X10_plans_127 ?_
    refine aw_iload (i := 7) hX rfl d_X10_plans_129 ?_
    refine aw_iload (i := 11) hX rfl d_X10_plans_131 ?_
    refine aw_if_ge (t := 140) hX (by decide) d_X10_plans_133 (fun c => ?_) (fun c => ?_)
    · rw [if_pos c] at e_1147
      refine aw_iload (i := 11) hX rfl d_X10_plans_140 ?_
      exact tj_X10_plans_142_89 hF hX e_1147 kI kE0
    · rw [if_neg c] at e_1147
      refine aw_iconst (v := 0) hX (by decide) d_X10_plans_136 ?_
      refine aw_goto (t := 142) hX (by decide) d_X10_plans_137 ?_
      exact tj_X10_plans_142_89 hF hX e_1147 kI kE0
theorem ti_X10_plans_89 {g : GP} {X : MX} {mcR msR : Nat} (hF : gF g = true) (hX : Cx g RX10 cX10_plans 3 mcR msR none [] X) {Q : State → Prop} {p1 : Int32} {p2 : Int32} {p3 : Int32} {p4 : Int32} {p5 : Int64} {p7 : Int32} {p8 : Int32} {y : Unit} {hz : AH} (kE0 : ∀ (y_9 : Value) (y_10 : Value) (y_11 : Value) (y_12 : Value) (y_13 : Value) (y_14 : Value), AR g X 0 0 Q hz 317 [.ref 240, .int p1, .int p2, .int p3, .int p4, .long p5, jk, .int p7, .int p8, y_9, y_10, y_11, y_12, y_13, y_14] []) (n : Nat) : ∀ (s : Int32) (d10 : Value) (d11 : Value) (d12 : Value) (d13 : Value) (d14 : Value) (h : AH), lpH (l_X10_plans_89 p1 p2 p3 p4 p5 p7 p8) n s h = some (y, hz) → AR g X 0 0 Q h 89 [.ref 240, .int p1, .int p2, .int p3, .int p4, .long p5, jk, .int p7, .int p8, .int s, d10, d11, d12, d13, d14] [] := by
  induction n with
  | zero => intro s d10 d11 d12 d13 d14 h e; cases e
  | succ n ih =>
    intro s d10 d11 d12 d13 d14 h e
    obtain ⟨x, h1, e1, e2⟩ := lpH_succ e
    rcases e2 with ⟨s2, rfl, e3⟩ | ⟨rfl, rfl⟩
    · exact tb_X10_plans_89 hF hX e1 (fun s3 x0 x1 x2 x3 x4 hs => by cases hs; exact ih _ _ _ _ _ _ _ e3) (fun yy x0 x1 x2 x3 x4 x5 hy => by cases hy)
    · exact tb_X10_plans_89 hF hX e1 (fun s3 x0 x1 x2 x3 x4 hs => by cases hs) (fun yy x0 x1 x2 x3 x4 x5 hy => by cases hy; exact kE0 x0 x1 x2 x3 x4 x5)
theorem t_X10_plans_89 {g : GP} {X : MX} {mcR msR : Nat} (hF : gF g = true) (hX : Cx g RX10 cX10_plans 3 mcR msR none [] X) {Q : State → Prop} {p1 : Int32} {p2 : Int32} {p3 : Int32} {p4 : Int32} {p5 : Int64} {p7 : Int32} {p8 : Int32} {s : Int32} {d10 : Value} {d11 : Value} {d12 : Value} {d13 : Value} {d14 : Value} {h hz : AH} {n : Nat} {y : Unit} (e : lpH (l_X10_plans_89 p1 p2 p3 p4 p5 p7 p8) n s h = some (y, hz)) (kE0 : ∀ (y_9 : Value) (y_10 : Value) (y_11 : Value) (y_12 : Value) (y_13 : Value) (y_14 : Value), AR g X 0 0 Q hz 317 [.ref 240, .int p1, .int p2, .int p3, .int p4, .long p5, jk, .int p7, .int p8, y_9, y_10, y_11, y_12, y_13, y_14] []) : AR g X 0 0 Q h 89 [.ref 240, .int p1, .int p2, .int p3, .int p4, .long p5, jk, .int p7, .int p8, .int s, d10, d11, d12, d13, d14] [] := ti_X10_plans_89 hF hX kE0 n _ _ _ _ _ _ _ e
def l_X10_plans_79 (p1 : Int32) (p2 : Int32) (p3 : Int32) (p4 : Int32) (p5 : Int64) (p7 : Int32) (s : Int32) (h : AH) : Option ((Int32 ⊕ Unit) × AH) := if 13 ≤ s then some (.inr (), h) else bd (lpH (l_X10_plans_89 p1 p2 p3 p4 p5 p7 s) FU 0 h) fun y19 => some (.inl (s + 1), y19.2)
theorem tb_X10_plans_79 {g : GP} {X : MX} {mcR msR : Nat} (hF : gF g = true) (hX : Cx g RX10 cX10_plans 3 mcR msR none [] X) {Q : State → Prop} {p1 : Int32} {p2 : Int32} {p3 : Int32} {p4 : Int32} {p5 : Int64} {p7 : Int32} {s : Int32} {d9 : Value} {d10 : Value} {d11 : Value} {d12 : Value} {d13 : Value} {d14 : Value} {h hz : AH} {z : (Int32 ⊕ Unit)} (e : l_X10_plans_79 p1 p2 p3 p4 p5 p7 s h = some (z, hz)) (kI : ∀ (s2 : Int32) (xd9 : Value) (xd10 : Value) (xd11 : Value) (xd12 : Value) (xd13 : Value) (xd14 : Value), z = .inl s2 → AR g X 0 0 Q hz 79 [.ref 240, .int p1, .int p2, .int p3, .int p4, .long p5, jk, .int p7, .int s2, xd9, xd10, xd11, xd12, xd13, xd14] []) (kE0 : ∀ (yy : Unit) (y5 : Value) (y6 : Value) (y7 : Value) (y8 : Value) (y9 : Value) (y10 : Value) (y11 : Value) (y12 : Value) (y13 : Value) (y14 : Value), z = .inr yy → AR g X 0 0 Q hz 323 [.ref 240, .int p1, .int p2, .int p3, .int p4, y5, y6, y7, y8, y9, y10, y11, y12, y13, y14] []) : AR g X 0 0 Q h 79 [.ref 240, .int p1, .int p2, .int p3, .int p4, .long p5, jk, .int p7, .int s, d9, d10, d11, d12, d13, d14] [] := by
  unfold l_X10_plans_79 at e
  refine aw_iload (i := 8) hX rfl d_X10_plans_79 ?_
  refine aw_bipush (v := 13) hX (by decide) d_X10_plans_81 ?_
  refine aw_icmp_ge (t := 323) hX (by decide) d_X10_plans_83 (fun c => ?_) (fun c => ?_)
  · rw [if_pos c] at e
    cases e
    exact kE0 () _ _ _ _ _ _ _ _ _ _ rfl
  · rw [if_neg c] at e
    refine aw_iconst (v := 0) hX (by decide) d_X10_plans_86 ?_
    refine aw_istore (i := 9) (lv2 := [.ref 240, .int p1, .int p2, .int p3, .int p4, .long p5, jk, .int p7, .int s, .int 0, d10, d11, d12, d13, d14]) hX rfl rfl d_X10_plans_87 ?_
    obtain ⟨y19, f_1148, e_1148⟩ := bd_some e
    clear e
    refine t_X10_plans_89 hF hX f_1148 (fun d20_9 d20_10 d20_11 d20_12 d20_13 d20_14 => ?_)
    refine aw_iinc (i := 8) (lv2 := [.ref 240, .int p1, .int p2, .int p3, .int p4, .long p5, jk, .int p7, .int (s + 1), d20_9, d20_10, d20_11, d20_12, d20_13, d20_14]) hX rfl rfl rfl rfl d_X10_plans_317 ?_
    refine aw_goto (t := 79) hX (by decide) d_X10_plans_320 ?_
    cases e_1148
    exact kI (s + 1) _ _ _ _ _ _ rfl
theorem ti_X10_plans_79 {g : GP} {X : MX} {mcR msR : Nat} (hF : gF g = true) (hX : Cx g RX10 cX10_plans 3 mcR msR none [] X) {Q : State → Prop} {p1 : Int32} {p2 : Int32} {p3 : Int32} {p4 : Int32} {p5 : Int64} {p7 : Int32} {y : Unit} {hz : AH} (kE0 : ∀ (y_5 : Value) (y_6 : Value) (y_7 : Value) (y_8 : Value) (y_9 : Value) (y_10 : Value) (y_11 : Value) (y_12 : Value) (y_13 : Value) (y_14 : Value), AR g X 0 0 Q hz 323 [.ref 240, .int p1, .int p2, .int p3, .int p4, y_5, y_6, y_7, y_8, y_9, y_10, y_11, y_12, y_13, y_14] []) (n : Nat) : ∀ (s : Int32) (d9 : Value) (d10 : Value) (d11 : Value) (d12 : Value) (d13 : Value) (d14 : Value) (h : AH), lpH (l_X10_plans_79 p1 p2 p3 p4 p5 p7) n s h = some (y, hz) → AR g X 0 0 Q h 79 [.ref 240, .int p1, .int p2, .int p3, .int p4, .long p5, jk, .int p7, .int s, d9, d10, d11, d12, d13, d14] [] := by
  induction n with
  | zero => intro s d9 d10 d11 d12 d13 d14 h e; cases e
  | succ n ih =>
    intro s d9 d10 d11 d12 d13 d14 h e
    obtain ⟨x, h1, e1, e2⟩ := lpH_succ e
    rcases e2 with ⟨s2, rfl, e3⟩ | ⟨rfl, rfl⟩
    · exact tb_X10_plans_79 hF hX e1 (fun s3 x0 x1 x2 x3 x4 x5 hs => by cases hs; exact ih _ _ _ _ _ _ _ _ e3) (fun yy x0 x1 x2 x3 x4 x5 x6 x7 x8 x9 hy => by cases hy)
    · exact tb_X10_plans_79 hF hX e1 (fun s3 x0 x1 x2 x3 x4 x5 hs => by cases hs) (fun yy x0 x1 x2 x3 x4 x5 x6 x7 x8 x9 hy => by cases hy; exact kE0 x0 x1 x2 x3 x4 x5 x6 x7 x8 x9)
theorem t_X10_plans_79 {g : GP} {X : MX} {mcR msR : Nat} (hF : gF g = true) (hX : Cx g RX10 cX10_plans 3 mcR msR none [] X) {Q : State → Prop} {p1 : Int32} {p2 : Int32} {p3 : Int32} {p4 : Int32} {p5 : Int64} {p7 : Int32} {s : Int32} {d9 : Value} {d10 : Value} {d11 : Value} {d12 : Value} {d13 : Value} {d14 : Value} {h hz : AH} {n : Nat} {y : Unit} (e : lpH (l_X10_plans_79 p1 p2 p3 p4 p5 p7) n s h = some (y, hz)) (kE0 : ∀ (y_5 : Value) (y_6 : Value) (y_7 : Value) (y_8 : Value) (y_9 : Value) (y_10 : Value) (y_11 : Value) (y_12 : Value) (y_13 : Value) (y_14 : Value), AR g X 0 0 Q hz 323 [.ref 240, .int p1, .int p2, .int p3, .int p4, y_5, y_6, y_7, y_8, y_9, y_10, y_11, y_12, y_13, y_14] []) : AR g X 0 0 Q h 79 [.ref 240, .int p1, .int p2, .int p3, .int p4, .long p5, jk, .int p7, .int s, d9, d10, d11, d12, d13, d14] [] := ti_X10_plans_79 hF hX kE0 n _ _ _ _ _ _ _ _ e
def l_X10_plans_42 (p1 : Int32) (p2 : Int32) (p3 : Int32) (s : Int32) (h : AH) : Option ((Int32 ⊕ Unit) × AH) := if s < 0 then some (.inr (), h) else bd (s_X10_chanceOf p1 s p3 h) fun x4 => bd (ldI h 241 (4 * s)) fun x5 => bd (s_X10_of p1 (6 + x5) h) fun x6 => bd (lpH (l_X10_plans_79 p1 p2 p3 s x4 x6) FU 0 h) fun y21 => some (.inl (s + (-1)), y21.2)
theorem tb_X10_plans_42 {g : GP} {X : MX} {mcR msR : Nat} (hF : gF g = true) (hX : Cx g RX10 cX10_plans 3 mcR msR none [] X) {Q : State → Prop} {p1 : Int32} {p2 : Int32} {p3 : Int32} {s : Int32} {d5 : Value} {d6 : Value} {d7 : Value} {d8 : Value} {d9 : Value} {d10 : Value} {d11 : Value} {d12 : Value} {d13 : Value} {d14 : Value} {h hz : AH} {z : (Int32 ⊕ Unit)} (e : l_X10_plans_42 p1 p2 p3 s h = some (z, hz)) (kI : ∀ (s2 : Int32) (xd5 : Value) (xd6 : Value) (xd7 : Value) (xd8 : Value) (xd9 : Value) (xd10 : Value) (xd11 : Value) (xd12 : Value) (xd13 : Value) (xd14 : Value), z = .inl s2 → AR g X 0 0 Q hz 42 [.ref 240, .int p1, .int p2, .int p3, .int s2, xd5, xd6, xd7, xd8, xd9, xd10, xd11, xd12, xd13, xd14] []) (kE0 : ∀ (yy : Unit) (y0 : Value) (y1 : Value) (y2 : Value) (y3 : Value) (y4 : Value) (y5 : Value) (y6 : Value) (y7 : Value) (y8 : Value) (y9 : Value) (y10 : Value) (y11 : Value) (y12 : Value) (y13 : Value) (y14 : Value), z = .inr yy → AR g X 0 0 Q hz 329 [y0, y1, y2, y3, y4, y5, y6, y7, y8, y9, y10, y11, y12, y13, y14] []) : AR g X 0 0 Q h 42 [.ref 240, .int p1, .int p2, .int p3, .int s, d5, d6, d7, d8, d9, d10, d11, d12, d13, d14] [] := by
  unfold l_X10_plans_42 at e
  refine aw_iload (i := 4) hX rfl d_X10_plans_42 ?_
  refine aw_if_lt (t := 329) hX (by decide) d_X10_plans_44 (fun c => ?_) (fun c => ?_)
  · rw [if_pos c] at e
    cases e
    exact kE0 () _ _ _ _ _ _ _ _ _ _ _ _ _ _ _ rfl
  · rw [if_neg c] at e
    refine aw_aload_n (i := 0) hX rfl rfl d_X10_plans_47 ?_
    refine aw_iload_n (i := 1) hX rfl rfl d_X10_plans_48 ?_
    refine aw_iload (i := 4) hX rfl d_X10_plans_49 ?_
    refine aw_iload_n (i := 3) hX rfl rfl d_X10_plans_51 ?_
    obtain ⟨x4, f_1149, e_1149⟩ := bd_some e
    clear e
    refine aw_callV (b := 240) (av := [.int p1, .int s, .int p3]) (avr := [.int p3, .int s, .int p1]) hX (k_X10_chanceOf (cx_g hX) hF f_1149) mi_X10_chanceOf rfl rfl w_741 w_742 w_743 (by decide) rfl (LAY_lt rfl (by decide)) rfl rfl (Nat.le_of_ble_eq_true rfl) (Nat.zero_le _) (Nat.zero_le _) d_X10_plans_52 ?_
    refine aw_lstore (i := 5) (lv2 := [.ref 240, .int p1, .int p2, .int p3, .int s, .long x4, jk, d7, d8, d9, d10, d11, d12, d13, d14]) hX rfl rfl d_X10_plans_55 ?_
    refine aw_aload_n (i := 0) hX rfl rfl d_X10_plans_57 ?_
    refine aw_iload_n (i := 1) hX rfl rfl d_X10_plans_58 ?_
    refine aw_bipush (v := 6) hX (by decide) d_X10_plans_59 ?_
    refine aw_aload_n (i := 0) hX rfl rfl d_X10_plans_61 ?_
    refine ar_getF hX hF fg_RX10_13 rfl d_X10_plans_62 ?_
    show AR g X 0 0 _ _ 65 _ [.ref 241, .int 6, .int p1, .ref 240]
    refine aw_iconst (v := 4) hX (by decide) d_X10_plans_65 ?_
    refine aw_iload (i := 4) hX rfl d_X10_plans_66 ?_
    refine aw_imul hX d_X10_plans_68 ?_
    obtain ⟨x5, f_1150, e_1150⟩ := bd_some e_1149
    clear e_1149
    refine ar_iaload hX f_1150 d_X10_plans_69 ?_
    refine aw_iadd hX d_X10_plans_70 ?_
    obtain ⟨x6, f_1151, e_1151⟩ := bd_some e_1150
    clear e_1150
    refine aw_callV (b := 240) (av := [.int p1, .int (6 + x5)]) (avr := [.int (6 + x5), .int p1]) hX (k_X10_of (cx_g hX) hF f_1151) mi_X10_of rfl rfl w_732 w_733 w_734 (by decide) rfl (LAY_lt rfl (by decide)) rfl rfl (Nat.le_of_ble_eq_true rfl) (Nat.zero_le _) (Nat.zero_le _) d_X10_plans_71 ?_
    refine aw_istore (i := 7) (lv2 := [.ref 240, .int p1, .int p2, .int p3, .int s, .long x4, jk, .int x6, d8, d9, d10, d11, d12, d13, d14]) hX rfl rfl d_X10_plans_74 ?_
    refine aw_iconst (v := 0) hX (by decide) d_X10_plans_76 ?_
    refine aw_istore (i := 8) (lv2 := [.ref 240, .int p1, .int p2, .int p3, .int s, .long x4, jk, .int x6, .int 0, d9, d10, d11, d12, d13, d14]) hX rfl rfl d_X10_plans_77 ?_
    obtain ⟨y21, f_1152, e_1152⟩ := bd_some e_1151
    clear e_1151
    refine t_X10_plans_79 hF hX f_1152 (fun d22_5 d22_6 d22_7 d22_8 d22_9 d22_10 d22_11 d22_12 d22_13 d22_14 => ?_)
    refine aw_iinc (i := 4) (lv2 := [.ref 240, .int p1, .int p2, .int p3, .int (s + (-1)), d22_5, d22_6, d22_7, d22_8, d22_9, d22_10, d22_11, d22_12, d22_13, d22_14]) hX rfl (iz (b := (-1)) (by decide)) rfl rfl d_X10_plans_323 ?_
    refine aw_goto (t := 42) hX (by decide) d_X10_plans_326 ?_
    cases e_1152
    exact kI (s + (-1)) _ _ _ _ _ _ _ _ _ _ rfl
theorem ti_X10_plans_42 {g : GP} {X : MX} {mcR msR : Nat} (hF : gF g = true) (hX : Cx g RX10 cX10_plans 3 mcR msR none [] X) {Q : State → Prop} {p1 : Int32} {p2 : Int32} {p3 : Int32} {y : Unit} {hz : AH} (kE0 : ∀ (y_0 : Value) (y_1 : Value) (y_2 : Value) (y_3 : Value) (y_4 : Value) (y_5 : Value) (y_6 : Value) (y_7 : Value) (y_8 : Value) (y_9 : Value) (y_10 : Value) (y_11 : Value) (y_12 : Value) (y_13 : Value) (y_14 : Value), AR g X 0 0 Q hz 329 [y_0, y_1, y_2, y_3, y_4, y_5, y_6, y_7, y_8, y_9, y_10, y_11, y_12, y_13, y_14] []) (n : Nat) : ∀ (s : Int32) (d5 : Value) (d6 : Value) (d7 : Value) (d8 : Value) (d9 : Value) (d10 : Value) (d11 : Value) (d12 : Value) (d13 : Value) (d14 : Value) (h : AH), lpH (l_X10_plans_42 p1 p2 p3) n s h = some (y, hz) → AR g X 0 0 Q h 42 [.ref 240, .int p1, .int p2, .int p3, .int s, d5, d6, d7, d8, d9, d10, d11, d12, d13, d14] [] := by
  induction n with
  | zero => intro s d5 d6 d7 d8 d9 d10 d11 d12 d13 d14 h e; cases e
  | succ n ih =>
    intro s d5 d6 d7 d8 d9 d10 d11 d12 d13 d14 h e
    obtain ⟨x, h1, e1, e2⟩ := lpH_succ e
    rcases e2 with ⟨s2, rfl, e3⟩ | ⟨rfl, rfl⟩
    · exact tb_X10_plans_42 hF hX e1 (fun s3 x0 x1 x2 x3 x4 x5 x6 x7 x8 x9 hs => by cases hs; exact ih _ _ _ _ _ _ _ _ _ _ _ _ e3) (fun yy x0 x1 x2 x3 x4 x5 x6 x7 x8 x9 x10 x11 x12 x13 x14 hy => by cases hy)
    · exact tb_X10_plans_42 hF hX e1 (fun s3 x0 x1 x2 x3 x4 x5 x6 x7 x8 x9 hs => by cases hs) (fun yy x0 x1 x2 x3 x4 x5 x6 x7 x8 x9 x10 x11 x12 x13 x14 hy => by cases hy; exact kE0 x0 x1 x2 x3 x4 x5 x6 x7 x8 x9 x10 x11 x12 x13 x14)
theorem t_X10_plans_42 {g : GP} {X : MX} {mcR msR : Nat} (hF : gF g = true) (hX : Cx g RX10 cX10_plans 3 mcR msR none [] X) {Q : State → Prop} {p1 : Int32} {p2 : Int32} {p3 : Int32} {s : Int32} {d5 : Value} {d6 : Value} {d7 : Value} {d8 : Value} {d9 : Value} {d10 : Value} {d11 : Value} {d12 : Value} {d13 : Value} {d14 : Value} {h hz : AH} {n : Nat} {y : Unit} (e : lpH (l_X10_plans_42 p1 p2 p3) n s h = some (y, hz)) (kE0 : ∀ (y_0 : Value) (y_1 : Value) (y_2 : Value) (y_3 : Value) (y_4 : Value) (y_5 : Value) (y_6 : Value) (y_7 : Value) (y_8 : Value) (y_9 : Value) (y_10 : Value) (y_11 : Value) (y_12 : Value) (y_13 : Value) (y_14 : Value), AR g X 0 0 Q hz 329 [y_0, y_1, y_2, y_3, y_4, y_5, y_6, y_7, y_8, y_9, y_10, y_11, y_12, y_13, y_14] []) : AR g X 0 0 Q h 42 [.ref 240, .int p1, .int p2, .int p3, .int s, d5, d6, d7, d8, d9, d10, d11, d12, d13, d14] [] := ti_X10_plans_42 hF hX kE0 n _ _ _ _ _ _ _ _ _ _ _ _ e
def s_X10_plans (a0 : Int32) (a1 : Int32) (a2 : Int32) (h : AH) : Option (Unit × AH) := bd (lpH (l_X10_plans_3 a0 a1 a2) FU 0 h) fun y2 => bd (lpH (l_X10_plans_42 a0 a1 a2) FU ((gI y2.2 240 3) - 1) y2.2) fun y23 => some ((), y23.2)
theorem t_X10_plans {g : GP} {X : MX} {mcR msR : Nat} (hF : gF g = true) (hX : Cx g RX10 cX10_plans 3 mcR msR none [] X) {a0 : Int32} {a1 : Int32} {a2 : Int32} {h hz : AH} {z : Unit} (e : s_X10_plans a0 a1 a2 h = some (z, hz)) : AR g X 0 0 (QQ g X NT false hz (.inl none) 0 0) h 0 [.ref 240, .int a0, .int a1, .int a2, jk, jk, jk, jk, jk, jk, jk, jk, jk, jk, jk] [] := by
  unfold s_X10_plans at e
  refine aw_iconst (v := 0) hX (by decide) d_X10_plans_0 ?_
  refine aw_istore (i := 4) (lv2 := [.ref 240, .int a0, .int a1, .int a2, .int 0, jk, jk, jk, jk, jk, jk, jk, jk, jk, jk]) hX rfl rfl d_X10_plans_1 ?_
  obtain ⟨y2, f_1153, e_1153⟩ := bd_some e
  clear e
  refine t_X10_plans_3 hF hX f_1153 (fun d3_4 d3_5 d3_6 d3_7 d3_8 d3_9 d3_10 d3_11 d3_12 d3_13 d3_14 => ?_)
  refine aw_aload_n (i := 0) hX rfl rfl d_X10_plans_34 ?_
  refine ar_getI hX fg_RX10_262 rfl d_X10_plans_35 ?_
  refine aw_iconst (v := 1) hX (by decide) d_X10_plans_38 ?_
  refine aw_isub hX d_X10_plans_39 ?_
  refine aw_istore (i := 4) (lv2 := [.ref 240, .int a0, .int a1, .int a2, .int ((gI y2.2 240 3) - 1), d3_5, d3_6, d3_7, d3_8, d3_9, d3_10, d3_11, d3_12, d3_13, d3_14]) hX rfl rfl d_X10_plans_40 ?_
  obtain ⟨y23, f_1154, e_1154⟩ := bd_some e_1153
  clear e_1153
  refine t_X10_plans_42 hF hX f_1154 (fun d24_0 d24_1 d24_2 d24_3 d24_4 d24_5 d24_6 d24_7 d24_8 d24_9 d24_10 d24_11 d24_12 d24_13 d24_14 => ?_)
  cases e_1154
  exact aw_return hX (Nat.zero_le _) (Nat.zero_le _) d_X10_plans_329
theorem k_X10_plans {g : GP} (hg : g.1.stackTraces = false) (hF : gF g = true) {a0 : Int32} {a1 : Int32} {a2 : Int32} {h hz : AH} {z : Unit} (e : s_X10_plans a0 a1 a2 h = some (z, hz)) : Ctr g yX10_plans (wsY yX10_plans cX10_plans 15 none) 3 0 0 [.ref 240, .int a0, .int a1, .int a2] NT false h none NT false hz := ctr_of (lv0 := [.ref 240, .int a0, .int a1, .int a2, jk, jk, jk, jk, jk, jk, jk, jk, jk, jk, jk]) rfl rfl (by decide) hg trivial (fun X hX hn => t_X10_plans hF hX e)
theorem d_X10_uses_0 : decode cX10_uses 0 = .ok (.aload_n 0, 1) := by decide +kernel
theorem d_X10_uses_1 : decode cX10_uses 1 = .ok (.iload_n 1, 1) := by decide +kernel
theorem d_X10_uses_2 : decode cX10_uses 2 = .ok (.iload_n 3, 1) := by decide +kernel
theorem d_X10_uses_3 : decode cX10_uses 3 = .ok (.iload 4, 2) := by decide +kernel
theorem d_X10_uses_5 : decode cX10_uses 5 = .ok (.invokevirtual 312, 3) := by decide +kernel
theorem d_X10_uses_8 : decode cX10_uses 8 = .ok (.lstore 6, 2) := by decide +kernel
theorem d_X10_uses_10 : decode cX10_uses 10 = .ok (.aload_n 0, 1) := by decide +kernel
theorem d_X10_uses_11 : decode cX10_uses 11 = .ok (.lconst 0, 1) := by decide +kernel
theorem d_X10_uses_12 : decode cX10_uses 12 = .ok (.putfield 322, 3) := by decide +kernel
theorem d_X10_uses_15 : decode cX10_uses 15 = .ok (.aload_n 0, 1) := by decide +kernel
theorem d_X10_uses_16 : decode cX10_uses 16 = .ok (.lconst 0, 1) := by decide +kernel
theorem d_X10_uses_17 : decode cX10_uses 17 = .ok (.putfield 325, 3) := by decide +kernel
theorem d_X10_uses_20 : decode cX10_uses 20 = .ok (.iconst 0, 1) := by decide +kernel
theorem d_X10_uses_21 : decode cX10_uses 21 = .ok (.istore 8, 2) := by decide +kernel
theorem d_X10_uses_23 : decode cX10_uses 23 = .ok (.iload 8, 2) := by decide +kernel
theorem d_X10_uses_25 : decode cX10_uses 25 = .ok (.sipush 429, 3) := by decide +kernel
theorem d_X10_uses_28 : decode cX10_uses 28 = .ok (.if_icmp .ge 17, 3) := by decide +kernel
theorem d_X10_uses_31 : decode cX10_uses 31 = .ok (.aload_n 0, 1) := by decide +kernel
theorem d_X10_uses_32 : decode cX10_uses 32 = .ok (.getfield 58, 3) := by decide +kernel
theorem d_X10_uses_35 : decode cX10_uses 35 = .ok (.iload 8, 2) := by decide +kernel
theorem d_X10_uses_37 : decode cX10_uses 37 = .ok (.lconst 0, 1) := by decide +kernel
theorem d_X10_uses_38 : decode cX10_uses 38 = .ok (.lastore, 1) := by decide +kernel
theorem d_X10_uses_39 : decode cX10_uses 39 = .ok (.iinc 8 1, 3) := by decide +kernel
theorem d_X10_uses_42 : decode cX10_uses 42 = .ok (.goto (-19), 3) := by decide +kernel
theorem d_X10_uses_45 : decode cX10_uses 45 = .ok (.iconst 0, 1) := by decide +kernel
theorem d_X10_uses_46 : decode cX10_uses 46 = .ok (.istore 8, 2) := by decide +kernel
theorem d_X10_uses_48 : decode cX10_uses 48 = .ok (.iload 8, 2) := by decide +kernel
theorem d_X10_uses_50 : decode cX10_uses 50 = .ok (.bipush 13, 2) := by decide +kernel
theorem d_X10_uses_52 : decode cX10_uses 52 = .ok (.if_icmp .ge 207, 3) := by decide +kernel
theorem d_X10_uses_55 : decode cX10_uses 55 = .ok (.iconst 0, 1) := by decide +kernel
theorem d_X10_uses_56 : decode cX10_uses 56 = .ok (.istore 9, 2) := by decide +kernel
theorem d_X10_uses_58 : decode cX10_uses 58 = .ok (.iload 9, 2) := by decide +kernel
theorem d_X10_uses_60 : decode cX10_uses 60 = .ok (.iconst 1, 1) := by decide +kernel
theorem d_X10_uses_61 : decode cX10_uses 61 = .ok (.iadd, 1) := by decide +kernel
theorem d_X10_uses_62 : decode cX10_uses 62 = .ok (.bipush 33, 2) := by decide +kernel
theorem d_X10_uses_64 : decode cX10_uses 64 = .ok (.if_icmp .ge 189, 3) := by decide +kernel
theorem d_X10_uses_67 : decode cX10_uses 67 = .ok (.aload_n 0, 1) := by decide +kernel
theorem d_X10_uses_68 : decode cX10_uses 68 = .ok (.getfield 54, 3) := by decide +kernel
theorem d_X10_uses_71 : decode cX10_uses 71 = .ok (.bipush 33, 2) := by decide +kernel
theorem d_X10_uses_73 : decode cX10_uses 73 = .ok (.iload 8, 2) := by decide +kernel
theorem d_X10_uses_75 : decode cX10_uses 75 = .ok (.imul, 1) := by decide +kernel
theorem d_X10_uses_76 : decode cX10_uses 76 = .ok (.iload 9, 2) := by decide +kernel
theorem d_X10_uses_78 : decode cX10_uses 78 = .ok (.iadd, 1) := by decide +kernel
theorem d_X10_uses_79 : decode cX10_uses 79 = .ok (.laload, 1) := by decide +kernel
theorem d_X10_uses_80 : decode cX10_uses 80 = .ok (.lstore 10, 2) := by decide +kernel
theorem d_X10_uses_82 : decode cX10_uses 82 = .ok (.lload 10, 2) := by decide +kernel
theorem d_X10_uses_84 : decode cX10_uses 84 = .ok (.lconst 0, 1) := by decide +kernel
theorem d_X10_uses_85 : decode cX10_uses 85 = .ok (.lcmp, 1) := by decide +kernel
theorem d_X10_uses_86 : decode cX10_uses 86 = .ok (.ifCond .ne 6, 3) := by decide +kernel
theorem d_X10_uses_89 : decode cX10_uses 89 = .ok (.goto 158, 3) := by decide +kernel
theorem d_X10_uses_92 : decode cX10_uses 92 = .ok (.lload 10, 2) := by decide +kernel
theorem d_X10_uses_94 : decode cX10_uses 94 = .ok (.lload 6, 2) := by decide +kernel
theorem d_X10_uses_96 : decode cX10_uses 96 = .ok (.lmul, 1) := by decide +kernel
theorem d_X10_uses_97 : decode cX10_uses 97 = .ok (.ldc2_w 308, 3) := by decide +kernel
theorem d_X10_uses_100 : decode cX10_uses 100 = .ok (.ldiv, 1) := by decide +kernel
theorem d_X10_uses_101 : decode cX10_uses 101 = .ok (.lstore 12, 2) := by decide +kernel
theorem d_X10_uses_103 : decode cX10_uses 103 = .ok (.aload_n 0, 1) := by decide +kernel
theorem d_X10_uses_104 : decode cX10_uses 104 = .ok (.getfield 50, 3) := by decide +kernel
theorem d_X10_uses_107 : decode cX10_uses 107 = .ok (.iload_n 3, 1) := by decide +kernel
theorem d_X10_uses_108 : decode cX10_uses 108 = .ok (.iload 8, 2) := by decide +kernel
theorem d_X10_uses_110 : decode cX10_uses 110 = .ok (.iload 9, 2) := by decide +kernel
theorem d_X10_uses_112 : decode cX10_uses 112 = .ok (.invokestatic 316, 3) := by decide +kernel
theorem d_X10_uses_115 : decode cX10_uses 115 = .ok (.baload, 1) := by decide +kernel
theorem d_X10_uses_116 : decode cX10_uses 116 = .ok (.istore 14, 2) := by decide +kernel
theorem d_X10_uses_118 : decode cX10_uses 118 = .ok (.iload 14, 2) := by decide +kernel
theorem d_X10_uses_120 : decode cX10_uses 120 = .ok (.ifCond .ne 38, 3) := by decide +kernel
theorem d_X10_uses_123 : decode cX10_uses 123 = .ok (.iload 5, 2) := by decide +kernel
theorem d_X10_uses_125 : decode cX10_uses 125 = .ok (.ifCond .eq 30, 3) := by decide +kernel
theorem d_X10_uses_128 : decode cX10_uses 128 = .ok (.iload_n 2, 1) := by decide +kernel
theorem d_X10_uses_129 : decode cX10_uses 129 = .ok (.iconst 1, 1) := by decide +kernel
theorem d_X10_uses_130 : decode cX10_uses 130 = .ok (.if_icmp .eq 8, 3) := by decide +kernel
theorem d_X10_uses_133 : decode cX10_uses 133 = .ok (.iload_n 2, 1) := by decide +kernel
theorem d_X10_uses_134 : decode cX10_uses 134 = .ok (.iconst 4, 1) := by decide +kernel
theorem d_X10_uses_135 : decode cX10_uses 135 = .ok (.if_icmp .ne 20, 3) := by decide +kernel
theorem d_X10_uses_138 : decode cX10_uses 138 = .ok (.lload 12, 2) := by decide +kernel
theorem d_X10_uses_140 : decode cX10_uses 140 = .ok (.aload_n 0, 1) := by decide +kernel
theorem d_X10_uses_141 : decode cX10_uses 141 = .ok (.iload_n 1, 1) := by decide +kernel
theorem d_X10_uses_142 : decode cX10_uses 142 = .ok (.iconst 4, 1) := by decide +kernel
theorem d_X10_uses_143 : decode cX10_uses 143 = .ok (.invokevirtual 292, 3) := by decide +kernel
theorem d_X10_uses_146 : decode cX10_uses 146 = .ok (.i2l, 1) := by decide +kernel
theorem d_X10_uses_147 : decode cX10_uses 147 = .ok (.lmul, 1) := by decide +kernel
theorem d_X10_uses_148 : decode cX10_uses 148 = .ok (.ldc2_w 310, 3) := by decide +kernel
theorem d_X10_uses_151 : decode cX10_uses 151 = .ok (.ldiv, 1) := by decide +kernel
theorem d_X10_uses_152 : decode cX10_uses 152 = .ok (.goto 4, 3) := by decide +kernel
theorem d_X10_uses_155 : decode cX10_uses 155 = .ok (.lconst 0, 1) := by decide +kernel
theorem d_X10_uses_156 : decode cX10_uses 156 = .ok (.lstore 12, 2) := by decide +kernel
theorem d_X10_uses_158 : decode cX10_uses 158 = .ok (.aload_n 0, 1) := by decide +kernel
theorem d_X10_uses_159 : decode cX10_uses 159 = .ok (.dup, 1) := by decide +kernel
theorem d_X10_uses_160 : decode cX10_uses 160 = .ok (.getfield 322, 3) := by decide +kernel
theorem d_X10_uses_163 : decode cX10_uses 163 = .ok (.lload 12, 2) := by decide +kernel
theorem d_X10_uses_165 : decode cX10_uses 165 = .ok (.ladd, 1) := by decide +kernel
theorem d_X10_uses_166 : decode cX10_uses 166 = .ok (.putfield 322, 3) := by decide +kernel
theorem d_X10_uses_169 : decode cX10_uses 169 = .ok (.aload_n 0, 1) := by decide +kernel
theorem d_X10_uses_170 : decode cX10_uses 170 = .ok (.dup, 1) := by decide +kernel
theorem d_X10_uses_171 : decode cX10_uses 171 = .ok (.getfield 325, 3) := by decide +kernel
theorem d_X10_uses_174 : decode cX10_uses 174 = .ok (.iload 14, 2) := by decide +kernel
theorem d_X10_uses_176 : decode cX10_uses 176 = .ok (.ifCond .eq 7, 3) := by decide +kernel
theorem d_X10_uses_179 : decode cX10_uses 179 = .ok (.lconst 0, 1) := by decide +kernel
theorem d_X10_uses_180 : decode cX10_uses 180 = .ok (.goto 5, 3) := by decide +kernel
theorem d_X10_uses_183 : decode cX10_uses 183 = .ok (.lload 12, 2) := by decide +kernel
theorem d_X10_uses_185 : decode cX10_uses 185 = .ok (.ladd, 1) := by decide +kernel
theorem d_X10_uses_186 : decode cX10_uses 186 = .ok (.putfield 325, 3) := by decide +kernel
theorem d_X10_uses_189 : decode cX10_uses 189 = .ok (.aload_n 0, 1) := by decide +kernel
theorem d_X10_uses_190 : decode cX10_uses 190 = .ok (.getfield 58, 3) := by decide +kernel
theorem d_X10_uses_193 : decode cX10_uses 193 = .ok (.bipush 33, 2) := by decide +kernel
theorem d_X10_uses_195 : decode cX10_uses 195 = .ok (.iload 14, 2) := by decide +kernel
theorem d_X10_uses_197 : decode cX10_uses 197 = .ok (.ifCond .eq 15, 3) := by decide +kernel
theorem d_X10_uses_200 : decode cX10_uses 200 = .ok (.iload_n 2, 1) := by decide +kernel
theorem d_X10_uses_201 : decode cX10_uses 201 = .ok (.iconst 2, 1) := by decide +kernel
theorem d_X10_uses_202 : decode cX10_uses 202 = .ok (.if_icmp .ne 10, 3) := by decide +kernel
theorem d_X10_uses_205 : decode cX10_uses 205 = .ok (.iload 8, 2) := by decide +kernel
theorem d_X10_uses_207 : decode cX10_uses 207 = .ok (.iconst 1, 1) := by decide +kernel
theorem d_X10_uses_208 : decode cX10_uses 208 = .ok (.isub, 1) := by decide +kernel
theorem d_X10_uses_209 : decode cX10_uses 209 = .ok (.goto 5, 3) := by decide +kernel
theorem d_X10_uses_212 : decode cX10_uses 212 = .ok (.iload 8, 2) := by decide +kernel
theorem d_X10_uses_214 : decode cX10_uses 214 = .ok (.imul, 1) := by decide +kernel
theorem d_X10_uses_215 : decode cX10_uses 215 = .ok (.iload 9, 2) := by decide +kernel
theorem d_X10_uses_217 : decode cX10_uses 217 = .ok (.iadd, 1) := by decide +kernel
theorem d_X10_uses_218 : decode cX10_uses 218 = .ok (.iconst 1, 1) := by decide +kernel
theorem d_X10_uses_219 : decode cX10_uses 219 = .ok (.iadd, 1) := by decide +kernel
theorem d_X10_uses_220 : decode cX10_uses 220 = .ok (.dup2, 1) := by decide +kernel
theorem d_X10_uses_221 : decode cX10_uses 221 = .ok (.laload, 1) := by decide +kernel
theorem d_X10_uses_222 : decode cX10_uses 222 = .ok (.lload 12, 2) := by decide +kernel
theorem d_X10_uses_224 : decode cX10_uses 224 = .ok (.ladd, 1) := by decide +kernel
theorem d_X10_uses_225 : decode cX10_uses 225 = .ok (.lastore, 1) := by decide +kernel
theorem d_X10_uses_226 : decode cX10_uses 226 = .ok (.aload_n 0, 1) := by decide +kernel
theorem d_X10_uses_227 : decode cX10_uses 227 = .ok (.getfield 58, 3) := by decide +kernel
theorem d_X10_uses_230 : decode cX10_uses 230 = .ok (.bipush 33, 2) := by decide +kernel
theorem d_X10_uses_232 : decode cX10_uses 232 = .ok (.iload 8, 2) := by decide +kernel
theorem d_X10_uses_234 : decode cX10_uses 234 = .ok (.imul, 1) := by decide +kernel
theorem d_X10_uses_235 : decode cX10_uses 235 = .ok (.iload 9, 2) := by decide +kernel
theorem d_X10_uses_237 : decode cX10_uses 237 = .ok (.iadd, 1) := by decide +kernel
theorem d_X10_uses_238 : decode cX10_uses 238 = .ok (.dup2, 1) := by decide +kernel
theorem d_X10_uses_239 : decode cX10_uses 239 = .ok (.laload, 1) := by decide +kernel
theorem d_X10_uses_240 : decode cX10_uses 240 = .ok (.lload 10, 2) := by decide +kernel
theorem d_X10_uses_242 : decode cX10_uses 242 = .ok (.lload 12, 2) := by decide +kernel
theorem d_X10_uses_244 : decode cX10_uses 244 = .ok (.lsub, 1) := by decide +kernel
theorem d_X10_uses_245 : decode cX10_uses 245 = .ok (.ladd, 1) := by decide +kernel
theorem d_X10_uses_246 : decode cX10_uses 246 = .ok (.lastore, 1) := by decide +kernel
theorem d_X10_uses_247 : decode cX10_uses 247 = .ok (.iinc 9 1, 3) := by decide +kernel
theorem d_X10_uses_250 : decode cX10_uses 250 = .ok (.goto (-192), 3) := by decide +kernel
theorem d_X10_uses_253 : decode cX10_uses 253 = .ok (.iinc 8 1, 3) := by decide +kernel
theorem d_X10_uses_256 : decode cX10_uses 256 = .ok (.goto (-208), 3) := by decide +kernel
theorem d_X10_uses_259 : decode cX10_uses 259 = .ok (.iconst 0, 1) := by decide +kernel
theorem d_X10_uses_260 : decode cX10_uses 260 = .ok (.istore 8, 2) := by decide +kernel
theorem d_X10_uses_262 : decode cX10_uses 262 = .ok (.iload 8, 2) := by decide +kernel
theorem d_X10_uses_264 : decode cX10_uses 264 = .ok (.sipush 429, 3) := by decide +kernel
theorem d_X10_uses_267 : decode cX10_uses 267 = .ok (.if_icmp .ge 23, 3) := by decide +kernel
theorem d_X10_uses_270 : decode cX10_uses 270 = .ok (.aload_n 0, 1) := by decide +kernel
theorem d_X10_uses_271 : decode cX10_uses 271 = .ok (.getfield 54, 3) := by decide +kernel
theorem d_X10_uses_274 : decode cX10_uses 274 = .ok (.iload 8, 2) := by decide +kernel
theorem d_X10_uses_276 : decode cX10_uses 276 = .ok (.aload_n 0, 1) := by decide +kernel
theorem d_X10_uses_277 : decode cX10_uses 277 = .ok (.getfield 58, 3) := by decide +kernel
theorem d_X10_uses_280 : decode cX10_uses 280 = .ok (.iload 8, 2) := by decide +kernel
theorem d_X10_uses_282 : decode cX10_uses 282 = .ok (.laload, 1) := by decide +kernel
theorem d_X10_uses_283 : decode cX10_uses 283 = .ok (.lastore, 1) := by decide +kernel
theorem d_X10_uses_284 : decode cX10_uses 284 = .ok (.iinc 8 1, 3) := by decide +kernel
theorem d_X10_uses_287 : decode cX10_uses 287 = .ok (.goto (-25), 3) := by decide +kernel
theorem d_X10_uses_290 : decode cX10_uses 290 = .ok (.return_, 1) := by decide +kernel
def l_X10_uses_23 (p1 : Int32) (p2 : Int32) (p3 : Int32) (p5 : Int32) (p6 : Int64) (s : Int32) (h : AH) : Option ((Int32 ⊕ Unit) × AH) := if 429 ≤ s then some (.inr (), h) else bd (stL h 254 s 0) fun m2 => some (.inl (s + 1), m2)
theorem tb_X10_uses_23 {g : GP} {X : MX} {mcR msR : Nat} (hF : gF g = true) (hX : Cx g RX10 cX10_uses 3 mcR msR none [] X) {Q : State → Prop} {p1 : Int32} {p2 : Int32} {p3 : Int32} {p5 : Int32} {p6 : Int64} {s : Int32} {d4 : Value} {d9 : Value} {d10 : Value} {d11 : Value} {d12 : Value} {d13 : Value} {d14 : Value} {h hz : AH} {z : (Int32 ⊕ Unit)} (e : l_X10_uses_23 p1 p2 p3 p5 p6 s h = some (z, hz)) (kI : ∀ (s2 : Int32) (xd4 : Value) (xd9 : Value) (xd10 : Value) (xd11 : Value) (xd12 : Value) (xd13 : Value) (xd14 : Value), z = .inl s2 → AR g X 0 0 Q hz 23 [.ref 240, .int p1, .int p2, .int p3, xd4, .int p5, .long p6, jk, .int s2, xd9, xd10, xd11, xd12, xd13, xd14] []) (kE0 : ∀ (yy : Unit) (y4 : Value) (y8 : Value) (y9 : Value) (y10 : Value) (y11 : Value) (y12 : Value) (y13 : Value) (y14 : Value), z = .inr yy → AR g X 0 0 Q hz 45 [.ref 240, .int p1, .int p2, .int p3, y4, .int p5, .long p6, jk, y8, y9, y10, y11, y12, y13, y14] []) : AR g X 0 0 Q h 23 [.ref 240, .int p1, .int p2, .int p3, d4, .int p5, .long p6, jk, .int s, d9, d10, d11, d12, d13, d14] [] := by
  unfold l_X10_uses_23 at e
  refine aw_iload (i := 8) hX rfl d_X10_uses_23 ?_
  refine aw_sipush (v := 429) hX (by decide) d_X10_uses_25 ?_
  refine aw_icmp_ge (t := 45) hX (by decide) d_X10_uses_28 (fun c => ?_) (fun c => ?_)
  · rw [if_pos c] at e
    cases e
    exact kE0 () _ _ _ _ _ _ _ _ rfl
  · rw [if_neg c] at e
    refine aw_aload_n (i := 0) hX rfl rfl d_X10_uses_31 ?_
    refine ar_getF hX hF fg_RX10_58 rfl d_X10_uses_32 ?_
    show AR g X 0 0 _ _ 35 _ [.ref 254]
    refine aw_iload (i := 8) hX rfl d_X10_uses_35 ?_
    refine aw_lconst (v := 0) hX (by decide) d_X10_uses_37 ?_
    obtain ⟨m2, f_1155, e_1155⟩ := bd_some e
    clear e
    refine ar_lastore hX f_1155 d_X10_uses_38 ?_
    refine aw_iinc (i := 8) (lv2 := [.ref 240, .int p1, .int p2, .int p3, d4, .int p5, .long p6, jk, .int (s + 1), d9, d10, d11, d12, d13, d14]) hX rfl rfl rfl rfl d_X10_uses_39 ?_
    refine aw_goto (t := 23) hX (by decide) d_X10_uses_42 ?_
    cases e_1155
    exact kI (s + 1) _ _ _ _ _ _ _ rfl
theorem ti_X10_uses_23 {g : GP} {X : MX} {mcR msR : Nat} (hF : gF g = true) (hX : Cx g RX10 cX10_uses 3 mcR msR none [] X) {Q : State → Prop} {p1 : Int32} {p2 : Int32} {p3 : Int32} {p5 : Int32} {p6 : Int64} {y : Unit} {hz : AH} (kE0 : ∀ (y_4 : Value) (y_8 : Value) (y_9 : Value) (y_10 : Value) (y_11 : Value) (y_12 : Value) (y_13 : Value) (y_14 : Value), AR g X 0 0 Q hz 45 [.ref 240, .int p1, .int p2, .int p3, y_4, .int p5, .long p6, jk, y_8, y_9, y_10, y_11, y_12, y_13, y_14] []) (n : Nat) : ∀ (s : Int32) (d4 : Value) (d9 : Value) (d10 : Value) (d11 : Value) (d12 : Value) (d13 : Value) (d14 : Value) (h : AH), lpH (l_X10_uses_23 p1 p2 p3 p5 p6) n s h = some (y, hz) → AR g X 0 0 Q h 23 [.ref 240, .int p1, .int p2, .int p3, d4, .int p5, .long p6, jk, .int s, d9, d10, d11, d12, d13, d14] [] := by
  induction n with
  | zero => intro s d4 d9 d10 d11 d12 d13 d14 h e; cases e
  | succ n ih =>
    intro s d4 d9 d10 d11 d12 d13 d14 h e
    obtain ⟨x, h1, e1, e2⟩ := lpH_succ e
    rcases e2 with ⟨s2, rfl, e3⟩ | ⟨rfl, rfl⟩
    · exact tb_X10_uses_23 hF hX e1 (fun s3 x0 x1 x2 x3 x4 x5 x6 hs => by cases hs; exact ih _ _ _ _ _ _ _ _ _ e3) (fun yy x0 x1 x2 x3 x4 x5 x6 x7 hy => by cases hy)
    · exact tb_X10_uses_23 hF hX e1 (fun s3 x0 x1 x2 x3 x4 x5 x6 hs => by cases hs) (fun yy x0 x1 x2 x3 x4 x5 x6 x7 hy => by cases hy; exact kE0 x0 x1 x2 x3 x4 x5 x6 x7)
theorem t_X10_uses_23 {g : GP} {X : MX} {mcR msR : Nat} (hF : gF g = true) (hX : Cx g RX10 cX10_uses 3 mcR msR none [] X) {Q : State → Prop} {p1 : Int32} {p2 : Int32} {p3 : Int32} {p5 : Int32} {p6 : Int64} {s : Int32} {d4 : Value} {d9 : Value} {d10 : Value} {d11 : Value} {d12 : Value} {d13 : Value} {d14 : Value} {h hz : AH} {n : Nat} {y : Unit} (e : lpH (l_X10_uses_23 p1 p2 p3 p5 p6) n s h = some (y, hz)) (kE0 : ∀ (y_4 : Value) (y_8 : Value) (y_9 : Value) (y_10 : Value) (y_11 : Value) (y_12 : Value) (y_13 : Value) (y_14 : Value), AR g X 0 0 Q hz 45 [.ref 240, .int p1, .int p2, .int p3, y_4, .int p5, .long p6, jk, y_8, y_9, y_10, y_11, y_12, y_13, y_14] []) : AR g X 0 0 Q h 23 [.ref 240, .int p1, .int p2, .int p3, d4, .int p5, .long p6, jk, .int s, d9, d10, d11, d12, d13, d14] [] := ti_X10_uses_23 hF hX kE0 n _ _ _ _ _ _ _ _ _ e
def j_X10_uses_247_58 (p1 : Int32) (p2 : Int32) (p3 : Int32) (p5 : Int32) (p6 : Int64) (p8 : Int32) (v9 : Int32) (h : AH) : Option ((Int32 ⊕ Unit) × AH) := some (.inl (v9 + 1), h)
theorem tj_X10_uses_247_58 {g : GP} {X : MX} {mcR msR : Nat} (hF : gF g = true) (hX : Cx g RX10 cX10_uses 3 mcR msR none [] X) {Q : State → Prop} {p1 : Int32} {p2 : Int32} {p3 : Int32} {p5 : Int32} {p6 : Int64} {p8 : Int32} {v9 : Int32} {d4 : Value} {d10 : Value} {d11 : Value} {d12 : Value} {d13 : Value} {d14 : Value} {h hz : AH} {z : (Int32 ⊕ Unit)} (e : j_X10_uses_247_58 p1 p2 p3 p5 p6 p8 v9 h = some (z, hz)) (kI : ∀ (s2 : Int32) (xd4 : Value) (xd10 : Value) (xd11 : Value) (xd12 : Value) (xd13 : Value) (xd14 : Value), z = .inl s2 → AR g X 0 0 Q hz 58 [.ref 240, .int p1, .int p2, .int p3, xd4, .int p5, .long p6, jk, .int p8, .int s2, xd10, xd11, xd12, xd13, xd14] []) (kE0 : ∀ (yy : Unit) (y4 : Value) (y9 : Value) (y10 : Value) (y11 : Value) (y12 : Value) (y13 : Value) (y14 : Value), z = .inr yy → AR g X 0 0 Q hz 253 [.ref 240, .int p1, .int p2, .int p3, y4, .int p5, .long p6, jk, .int p8, y9, y10, y11, y12, y13, y14] []) : AR g X 0 0 Q h 247 [.ref 240, .int p1, .int p2, .int p3, d4, .int p5, .long p6, jk, .int p8, .int v9, d10, d11, d12, d13, d14] [] := by
  unfold j_X10_uses_247_58 at e
  refine aw_iinc (i := 9) (lv2 := [.ref 240, .int p1, .int p2, .int p3, d4, .int p5, .long p6, jk, .int p8, .int (v9 + 1), d10, d11, d12, d13, d14]) hX rfl rfl rfl rfl d_X10_uses_247 ?_
  refine aw_goto (t := 58) hX (by decide) d_X10_uses_250 ?_
  cases e
  exact kI (v9 + 1) _ _ _ _ _ _ rfl
def j_X10_uses_214_58 (p1 : Int32) (p2 : Int32) (p3 : Int32) (p5 : Int32) (p6 : Int64) (p8 : Int32) (v9 : Int32) (v10 : Int64) (v12 : Int64) (k0 : Int32) (k1 : Int32) (h : AH) : Option ((Int32 ⊕ Unit) × AH) := bd (ldL h 254 (((k1 * k0) + v9) + 1)) fun x9 => bd (stL h 254 (((k1 * k0) + v9) + 1) (x9 + v12)) fun m10 => bd (ldL m10 254 ((33 * p8) + v9)) fun x11 => bd (stL m10 254 ((33 * p8) + v9) (x11 + (v10 - v12))) fun m12 => j_X10_uses_247_58 p1 p2 p3 p5 p6 p8 v9 m12
theorem tj_X10_uses_214_58 {g : GP} {X : MX} {mcR msR : Nat} (hF : gF g = true) (hX : Cx g RX10 cX10_uses 3 mcR msR none [] X) {Q : State → Prop} {p1 : Int32} {p2 : Int32} {p3 : Int32} {p5 : Int32} {p6 : Int64} {p8 : Int32} {v9 : Int32} {v10 : Int64} {v12 : Int64} {k0 : Int32} {k1 : Int32} {d4 : Value} {d14 : Value} {h hz : AH} {z : (Int32 ⊕ Unit)} (e : j_X10_uses_214_58 p1 p2 p3 p5 p6 p8 v9 v10 v12 k0 k1 h = some (z, hz)) (kI : ∀ (s2 : Int32) (xd4 : Value) (xd10 : Value) (xd11 : Value) (xd12 : Value) (xd13 : Value) (xd14 : Value), z = .inl s2 → AR g X 0 0 Q hz 58 [.ref 240, .int p1, .int p2, .int p3, xd4, .int p5, .long p6, jk, .int p8, .int s2, xd10, xd11, xd12, xd13, xd14] []) (kE0 : ∀ (yy : Unit) (y4 : Value) (y9 : Value) (y10 : Value) (y11 : Value) (y12 : Value) (y13 : Value) (y14 : Value), z = .inr yy → AR g X 0 0 Q hz 253 [.ref 240, .int p1, .int p2, .int p3, y4, .int p5, .long p6, jk, .int p8, y9, y10, y11, y12, y13, y14] []) : AR g X 0 0 Q h 214 [.ref 240, .int p1, .int p2, .int p3, d4, .int p5, .long p6, jk, .int p8, .int v9, .long v10, jk, .long v12, jk, d14] [.int k0, .int k1, .ref 254] := by
  unfold j_X10_uses_214_58 at e
  refine aw_imul hX d_X10_uses_214 ?_
  refine aw_iload (i := 9) hX rfl d_X10_uses_215 ?_
  refine aw_iadd hX d_X10_uses_217 ?_
  refine aw_iconst (v := 1) hX (by decide) d_X10_uses_218 ?_
  refine aw_iadd hX d_X10_uses_219 ?_
  refine aw_dup2 hX rfl rfl d_X10_uses_220 ?_
  obtain ⟨x9, f_1156, e_1156⟩ := bd_some e
  clear e
  refine ar_laload hX f_1156 d_X10_uses_221 ?_
  refine aw_lload (i := 12) hX rfl d_X10_uses_222 ?_
  refine aw_ladd hX d_X10_uses_224 ?_
  obtain ⟨m10, f_1157, e_1157⟩ := bd_some e_1156
  clear e_1156
  refine ar_lastore hX f_1157 d_X10_uses_225 ?_
  refine aw_aload_n (i := 0) hX rfl rfl d_X10_uses_226 ?_
  refine ar_getF hX hF fg_RX10_58 rfl d_X10_uses_227 ?_
  show AR g X 0 0 _ _ 230 _ [.ref 254]
  refine aw_bipush (v := 33) hX (by decide) d_X10_uses_230 ?_
  refine aw_iload (i := 8) hX rfl d_X10_uses_232 ?_
  refine aw_imul hX d_X10_uses_234 ?_
  refine aw_iload (i := 9) hX rfl d_X10_uses_235 ?_
  refine aw_iadd hX d_X10_uses_237 ?_
  refine aw_dup2 hX rfl rfl d_X10_uses_238 ?_
  obtain ⟨x11, f_1158, e_1158⟩ := bd_some e_1157
  clear e_1157
  refine ar_laload hX f_1158 d_X10_uses_239 ?_
  refine aw_lload (i := 10) hX rfl d_X10_uses_240 ?_
  refine aw_lload (i := 12) hX rfl d_X10_uses_242 ?_
  refine aw_lsub hX d_X10_uses_244 ?_
  refine aw_ladd hX d_X10_uses_245 ?_
  obtain ⟨m12, f_1159, e_1159⟩ := bd_some e_1158
  clear e_1158
  refine ar_lastore hX f_1159 d_X10_uses_246 ?_
  exact tj_X10_uses_247_58 hF hX e_1159 kI kE0
def j_X10_uses_212_58 (p1 : Int32) (p2 : Int32) (p3 : Int32) (p5 : Int32) (p6 : Int64) (p8 : Int32) (v9 : Int32) (v10 : Int64) (v12 : Int64) (k0 : Int32) (h : AH) : Option ((Int32 ⊕ Unit) × AH) := j_X10_uses_214_58 p1 p2 p3 p5 p6 p8 v9 v10 v12 p8 k0 h
theorem tj_X10_uses_212_58 {g : GP} {X : MX} {mcR msR : Nat} (hF : gF g = true) (hX : Cx g RX10 cX10_uses 3 mcR msR none [] X) {Q : State → Prop} {p1 : Int32} {p2 : Int32} {p3 : Int32} {p5 : Int32} {p6 : Int64} {p8 : Int32} {v9 : Int32} {v10 : Int64} {v12 : Int64} {k0 : Int32} {d4 : Value} {d14 : Value} {h hz : AH} {z : (Int32 ⊕ Unit)} (e : j_X10_uses_212_58 p1 p2 p3 p5 p6 p8 v9 v10 v12 k0 h = some (z, hz)) (kI : ∀ (s2 : Int32) (xd4 : Value) (xd10 : Value) (xd11 : Value) (xd12 : Value) (xd13 : Value) (xd14 : Value), z = .inl s2 → AR g X 0 0 Q hz 58 [.ref 240, .int p1, .int p2, .int p3, xd4, .int p5, .long p6, jk, .int p8, .int s2, xd10, xd11, xd12, xd13, xd14] []) (kE0 : ∀ (yy : Unit) (y4 : Value) (y9 : Value) (y10 : Value) (y11 : Value) (y12 : Value) (y13 : Value) (y14 : Value), z = .inr yy → AR g X 0 0 Q hz 253 [.ref 240, .int p1, .int p2, .int p3, y4, .int p5, .long p6, jk, .int p8, y9, y10, y11, y12, y13, y14] []) : AR g X 0 0 Q h 212 [.ref 240, .int p1, .int p2, .int p3, d4, .int p5, .long p6, jk, .int p8, .int v9, .long v10, jk, .long v12, jk, d14] [.int k0, .ref 254] := by
  unfold j_X10_uses_212_58 at e
  refine aw_iload (i := 8) hX rfl d_X10_uses_212 ?_
  exact tj_X10_uses_214_58 hF hX e kI kE0
def j_X10_uses_185_58 (p1 : Int32) (p2 : Int32) (p3 : Int32) (p5 : Int32) (p6 : Int64) (p8 : Int32) (v9 : Int32) (v10 : Int64) (v12 : Int64) (v14 : Int32) (k0 : Int64) (k1 : Int64) (h : AH) : Option ((Int32 ⊕ Unit) × AH) := if v14 = 0 then j_X10_uses_212_58 p1 p2 p3 p5 p6 p8 v9 v10 v12 33 (sL h 240 39 (k1 + k0)) else if p2 = 2 then j_X10_uses_214_58 p1 p2 p3 p5 p6 p8 v9 v10 v12 (p8 - 1) 33 (sL h 240 39 (k1 + k0)) else j_X10_uses_212_58 p1 p2 p3 p5 p6 p8 v9 v10 v12 33 (sL h 240 39 (k1 + k0))
theorem tj_X10_uses_185_58 {g : GP} {X : MX} {mcR msR : Nat} (hF : gF g = true) (hX : Cx g RX10 cX10_uses 3 mcR msR none [] X) {Q : State → Prop} {p1 : Int32} {p2 : Int32} {p3 : Int32} {p5 : Int32} {p6 : Int64} {p8 : Int32} {v9 : Int32} {v10 : Int64} {v12 : Int64} {v14 : Int32} {k0 : Int64} {k1 : Int64} {d4 : Value} {h hz : AH} {z : (Int32 ⊕ Unit)} (e : j_X10_uses_185_58 p1 p2 p3 p5 p6 p8 v9 v10 v12 v14 k0 k1 h = some (z, hz)) (kI : ∀ (s2 : Int32) (xd4 : Value) (xd10 : Value) (xd11 : Value) (xd12 : Value) (xd13 : Value) (xd14 : Value), z = .inl s2 → AR g X 0 0 Q hz 58 [.ref 240, .int p1, .int p2, .int p3, xd4, .int p5, .long p6, jk, .int p8, .int s2, xd10, xd11, xd12, xd13, xd14] []) (kE0 : ∀ (yy : Unit) (y4 : Value) (y9 : Value) (y10 : Value) (y11 : Value) (y12 : Value) (y13 : Value) (y14 : Value), z = .inr yy → AR g X 0 0 Q hz 253 [.ref 240, .int p1, .int p2, .int p3, y4, .int p5, .long p6, jk, .int p8, y9, y10, y11, y12, y13, y14] []) : AR g X 0 0 Q h 185 [.ref 240, .int p1, .int p2, .int p3, d4, .int p5, .long p6, jk, .int p8, .int v9, .long v10, jk, .long v12, jk, .int v14] [.long k0, .long k1, .ref 240] := by
  unfold j_X10_uses_185_58 at e
  refine aw_ladd hX d_X10_uses_185 ?_
  refine ar_putL hX fp_RX10_325 rfl d_X10_uses_186 ?_
  refine aw_aload_n (i := 0) hX rfl rfl d_X10_uses_189 ?_
  refine ar_getF hX hF fg_RX10_58 rfl d_X10_uses_190 ?_
  show AR g X 0 0 _ _ 193 _ [.ref 254]
  refine aw_bipush (v := 33) hX (by decide) d_X10_uses_193 ?_
  refine aw_iload (i := 14) hX rfl d_X10_uses_195 ?_
  refine aw_if_eq (t := 212) hX (by decide) d_X10_uses_197 (fun c => ?_) (fun c => ?_)
  · rw [if_pos c] at e
    exact tj_X10_uses_212_58 hF hX e kI kE0
  · rw [if_neg c] at e
    refine aw_iload_n (i := 2) hX rfl rfl d_X10_uses_200 ?_
    refine aw_iconst (v := 2) hX (by decide) d_X10_uses_201 ?_
    refine aw_icmp_ne (t := 212) hX (by decide) d_X10_uses_202 (fun c => ?_) (fun c => ?_)
    · rw [if_neg c] at e
      exact tj_X10_uses_212_58 hF hX e kI kE0
    · rw [if_pos c] at e
      refine aw_iload (i := 8) hX rfl d_X10_uses_205 ?_
      refine aw_iconst (v := 1) hX (by decide) d_X10_uses_207 ?_
      refine aw_isub hX d_X10_uses_208 ?_
      refine aw_goto (t := 214) hX (by decide) d_X10_uses_209 ?_
      exact tj_X10_uses_214_58 hF hX e kI kE0
def j_X10_uses_158_58 (p1 : Int32) (p2 : Int32) (p3 : Int32) (p5 : Int32) (p6 : Int64) (p8 : Int32) (v9 : Int32) (v10 : Int64) (v12 : Int64) (v14 : Int32) (h : AH) : Option ((Int32 ⊕ Unit) × AH) := if v14 = 0 then j_X10_uses_185_58 p1 p2 p3 p5 p6 p8 v9 v10 v12 v14 v12 (gL (sL h 240 38 ((gL h 240 38) + v12)) 240 39) (sL h 240 38 ((gL h 240 38) + v12)) else j_X10_uses_185_58 p1 p2 p3 p5 p6 p8 v9 v10 v12 v14 0 (gL (sL h 240 38 ((gL h 240 38) + v12)) 240 39) (sL h 240 38 ((gL h 240 38) + v12))
theorem tj_X10_uses_158_58 {g : GP} {X : MX} {mcR msR : Nat} (hF : gF g = true) (hX : Cx g RX10 cX10_uses 3 mcR msR none [] X) {Q : State → Prop} {p1 : Int32} {p2 : Int32} {p3 : Int32} {p5 : Int32} {p6 : Int64} {p8 : Int32} {v9 : Int32} {v10 : Int64} {v12 : Int64} {v14 : Int32} {d4 : Value} {h hz : AH} {z : (Int32 ⊕ Unit)} (e : j_X10_uses_158_58 p1 p2 p3 p5 p6 p8 v9 v10 v12 v14 h = some (z, hz)) (kI : ∀ (s2 : Int32) (xd4 : Value) (xd10 : Value) (xd11 : Value) (xd12 : Value) (xd13 : Value) (xd14 : Value), z = .inl s2 → AR g X 0 0 Q hz 58 [.ref 240, .int p1, .int p2, .int p3, xd4, .int p5, .long p6, jk, .int p8, .int s2, xd10, xd11, xd12, xd13, xd14] []) (kE0 : ∀ (yy : Unit) (y4 : Value) (y9 : Value) (y10 : Value) (y11 : Value) (y12 : Value) (y13 : Value) (y14 : Value), z = .inr yy → AR g X 0 0 Q hz 253 [.ref 240, .int p1, .int p2, .int p3, y4, .int p5, .long p6, jk, .int p8, y9, y10, y11, y12, y13, y14] []) : AR g X 0 0 Q h 158 [.ref 240, .int p1, .int p2, .int p3, d4, .int p5, .long p6, jk, .int p8, .int v9, .long v10, jk, .long v12, jk, .int v14] [] := by
  unfold j_X10_uses_158_58 at e
  refine aw_aload_n (i := 0) hX rfl rfl d_X10_uses_158 ?_
  refine aw_dup hX rfl d_X10_uses_159 ?_
  refine ar_getL hX fg_RX10_322 rfl d_X10_uses_160 ?_
  refine aw_lload (i := 12) hX rfl d_X10_uses_163 ?_
  refine aw_ladd hX d_X10_uses_165 ?_
  refine ar_putL hX fp_RX10_322 rfl d_X10_uses_166 ?_
  refine aw_aload_n (i := 0) hX rfl rfl d_X10_uses_169 ?_
  refine aw_dup hX rfl d_X10_uses_170 ?_
  refine ar_getL hX fg_RX10_325 rfl d_X10_uses_171 ?_
  refine aw_iload (i := 14) hX rfl d_X10_uses_174 ?_
  refine aw_if_eq (t := 183) hX (by decide) d_X10_uses_176 (fun c => ?_) (fun c => ?_)
  · rw [if_pos c] at e
    refine aw_lload (i := 12) hX rfl d_X10_uses_183 ?_
    exact tj_X10_uses_185_58 hF hX e kI kE0
  · rw [if_neg c] at e
    refine aw_lconst (v := 0) hX (by decide) d_X10_uses_179 ?_
    refine aw_goto (t := 185) hX (by decide) d_X10_uses_180 ?_
    exact tj_X10_uses_185_58 hF hX e kI kE0
def j_X10_uses_156_58 (p1 : Int32) (p2 : Int32) (p3 : Int32) (p5 : Int32) (p6 : Int64) (p8 : Int32) (v9 : Int32) (v10 : Int64) (v14 : Int32) (k0 : Int64) (h : AH) : Option ((Int32 ⊕ Unit) × AH) := j_X10_uses_158_58 p1 p2 p3 p5 p6 p8 v9 v10 k0 v14 h
theorem tj_X10_uses_156_58 {g : GP} {X : MX} {mcR msR : Nat} (hF : gF g = true) (hX : Cx g RX10 cX10_uses 3 mcR msR none [] X) {Q : State → Prop} {p1 : Int32} {p2 : Int32} {p3 : Int32} {p5 : Int32} {p6 : Int64} {p8 : Int32} {v9 : Int32} {v10 : Int64} {v14 : Int32} {k0 : Int64} {d4 : Value} {d12 : Value} {d13 : Value} {h hz : AH} {z : (Int32 ⊕ Unit)} (e : j_X10_uses_156_58 p1 p2 p3 p5 p6 p8 v9 v10 v14 k0 h = some (z, hz)) (kI : ∀ (s2 : Int32) (xd4 : Value) (xd10 : Value) (xd11 : Value) (xd12 : Value) (xd13 : Value) (xd14 : Value), z = .inl s2 → AR g X 0 0 Q hz 58 [.ref 240, .int p1, .int p2, .int p3, xd4, .int p5, .long p6, jk, .int p8, .int s2, xd10, xd11, xd12, xd13, xd14] []) (kE0 : ∀ (yy : Unit) (y4 : Value) (y9 : Value) (y10 : Value) (y11 : Value) (y12 : Value) (y13 : Value) (y14 : Value), z = .inr yy → AR g X 0 0 Q hz 253 [.ref 240, .int p1, .int p2, .int p3, y4, .int p5, .long p6, jk, .int p8, y9, y10, y11, y12, y13, y14] []) : AR g X 0 0 Q h 156 [.ref 240, .int p1, .int p2, .int p3, d4, .int p5, .long p6, jk, .int p8, .int v9, .long v10, jk, d12, d13, .int v14] [.long k0] := by
  unfold j_X10_uses_156_58 at e
  refine aw_lstore (i := 12) (lv2 := [.ref 240, .int p1, .int p2, .int p3, d4, .int p5, .long p6, jk, .int p8, .int v9, .long v10, jk, .long k0, jk, .int v14]) hX rfl rfl d_X10_uses_156 ?_
  exact tj_X10_uses_158_58 hF hX e kI kE0
def j_X10_uses_155_58 (p1 : Int32) (p2 : Int32) (p3 : Int32) (p5 : Int32) (p6 : Int64) (p8 : Int32) (v9 : Int32) (v10 : Int64) (v14 : Int32) (h : AH) : Option ((Int32 ⊕ Unit) × AH) := j_X10_uses_156_58 p1 p2 p3 p5 p6 p8 v9 v10 v14 0 h
theorem tj_X10_uses_155_58 {g : GP} {X : MX} {mcR msR : Nat} (hF : gF g = true) (hX : Cx g RX10 cX10_uses 3 mcR msR none [] X) {Q : State → Prop} {p1 : Int32} {p2 : Int32} {p3 : Int32} {p5 : Int32} {p6 : Int64} {p8 : Int32} {v9 : Int32} {v10 : Int64} {v14 : Int32} {d4 : Value} {d12 : Value} {d13 : Value} {h hz : AH} {z : (Int32 ⊕ Unit)} (e : j_X10_uses_155_58 p1 p2 p3 p5 p6 p8 v9 v10 v14 h = some (z, hz)) (kI : ∀ (s2 : Int32) (xd4 : Value) (xd10 : Value) (xd11 : Value) (xd12 : Value) (xd13 : Value) (xd14 : Value), z = .inl s2 → AR g X 0 0 Q hz 58 [.ref 240, .int p1, .int p2, .int p3, xd4, .int p5, .long p6, jk, .int p8, .int s2, xd10, xd11, xd12, xd13, xd14] []) (kE0 : ∀ (yy : Unit) (y4 : Value) (y9 : Value) (y10 : Value) (y11 : Value) (y12 : Value) (y13 : Value) (y14 : Value), z = .inr yy → AR g X 0 0 Q hz 253 [.ref 240, .int p1, .int p2, .int p3, y4, .int p5, .long p6, jk, .int p8, y9, y10, y11, y12, y13, y14] []) : AR g X 0 0 Q h 155 [.ref 240, .int p1, .int p2, .int p3, d4, .int p5, .long p6, jk, .int p8, .int v9, .long v10, jk, d12, d13, .int v14] [] := by
  unfold j_X10_uses_155_58 at e
  refine aw_lconst (v := 0) hX (by decide) d_X10_uses_155 ?_
  exact tj_X10_uses_156_58 hF hX e kI kE0
def j_X10_uses_138_58 (p1 : Int32) (p2 : Int32) (p3 : Int32) (p5 : Int32) (p6 : Int64) (p8 : Int32) (v9 : Int32) (v10 : Int64) (v12 : Int64) (v14 : Int32) (h : AH) : Option ((Int32 ⊕ Unit) × AH) := bd (s_X10_of p1 4 h) fun x13 => bd (ldivF (v12 * x13.toInt64) 1000) fun x14 => j_X10_uses_156_58 p1 p2 p3 p5 p6 p8 v9 v10 v14 x14 h
theorem tj_X10_uses_138_58 {g : GP} {X : MX} {mcR msR : Nat} (hF : gF g = true) (hX : Cx g RX10 cX10_uses 3 mcR msR none [] X) {Q : State → Prop} {p1 : Int32} {p2 : Int32} {p3 : Int32} {p5 : Int32} {p6 : Int64} {p8 : Int32} {v9 : Int32} {v10 : Int64} {v12 : Int64} {v14 : Int32} {d4 : Value} {h hz : AH} {z : (Int32 ⊕ Unit)} (e : j_X10_uses_138_58 p1 p2 p3 p5 p6 p8 v9 v10 v12 v14 h = some (z, hz)) (kI : ∀ (s2 : Int32) (xd4 : Value) (xd10 : Value) (xd11 : Value) (xd12 : Value) (xd13 : Value) (xd14 : Value), z = .inl s2 → AR g X 0 0 Q hz 58 [.ref 240, .int p1, .int p2, .int p3, xd4, .int p5, .long p6, jk, .int p8, .int s2, xd10, xd11, xd12, xd13, xd14] []) (kE0 : ∀ (yy : Unit) (y4 : Value) (y9 : Value) (y10 : Value) (y11 : Value) (y12 : Value) (y13 : Value) (y14 : Value), z = .inr yy → AR g X 0 0 Q hz 253 [.ref 240, .int p1, .int p2, .int p3, y4, .int p5, .long p6, jk, .int p8, y9, y10, y11, y12, y13, y14] []) : AR g X 0 0 Q h 138 [.ref 240, .int p1, .int p2, .int p3, d4, .int p5, .long p6, jk, .int p8, .int v9, .long v10, jk, .long v12, jk, .int v14] [] := by
  unfold j_X10_uses_138_58 at e
  refine aw_lload (i := 12) hX rfl d_X10_uses_138 ?_
  refine aw_aload_n (i := 0) hX rfl rfl d_X10_uses_140 ?_
  refine aw_iload_n (i := 1) hX rfl rfl d_X10_uses_141 ?_
  refine aw_iconst (v := 4) hX (by decide) d_X10_uses_142 ?_
  obtain ⟨x13, f_1160, e_1160⟩ := bd_some e
  clear e
  refine aw_callV (b := 240) (av := [.int p1, .int 4]) (avr := [.int 4, .int p1]) hX (k_X10_of (cx_g hX) hF f_1160) mi_X10_of rfl rfl w_732 w_733 w_734 (by decide) rfl (LAY_lt rfl (by decide)) rfl rfl (Nat.le_of_ble_eq_true rfl) (Nat.zero_le _) (Nat.zero_le _) d_X10_uses_143 ?_
  refine aw_i2l hX d_X10_uses_146 ?_
  refine aw_lmul hX d_X10_uses_147 ?_
  refine aw_ldc2 hX w_737 d_X10_uses_148 ?_
  obtain ⟨x14, f_1161, e_1161⟩ := bd_some e_1160
  clear e_1160
  refine ar_ldiv hX f_1161 d_X10_uses_151 ?_
  refine aw_goto (t := 156) hX (by decide) d_X10_uses_152 ?_
  exact tj_X10_uses_156_58 hF hX e_1161 kI kE0
def l_X10_uses_58 (p1 : Int32) (p2 : Int32) (p3 : Int32) (p5 : Int32) (p6 : Int64) (p8 : Int32) (s : Int32) (h : AH) : Option ((Int32 ⊕ Unit) × AH) := if (33 : Int32) ≤ (s + 1) then some (.inr (), h) else bd (ldL h 253 ((33 * p8) + s)) fun x5 => if x5 = 0 then j_X10_uses_247_58 p1 p2 p3 p5 p6 p8 s h else bd (ldivF (x5 * p6) 1000000) fun x6 => bd (s_X10_at p3 p8 s h) fun x7 => bd (ldZ h 252 x7) fun x8 => if x8 = 0 then if p5 = 0 then j_X10_uses_155_58 p1 p2 p3 p5 p6 p8 s x5 x8 h else if p2 = 1 then j_X10_uses_138_58 p1 p2 p3 p5 p6 p8 s x5 x6 x8 h else if p2 = 4 then j_X10_uses_138_58 p1 p2 p3 p5 p6 p8 s x5 x6 x8 h else j_X10_uses_155_58 p1 p2 p3 p5 p6 p8 s x5 x8 h else j_X10_uses_158_58 p1 p2 p3 p5 p6 p8 s x5 x6 x8 h
theorem tb_X10_uses_58 {g : GP} {X : MX} {mcR msR : Nat} (hF : gF g = true) (hX : Cx g RX10 cX10_uses 3 mcR msR none [] X) {Q : State → Prop} {p1 : Int32} {p2 : Int32} {p3 : Int32} {p5 : Int32} {p6 : Int64} {p8 : Int32} {s : Int32} {d4 : Value} {d10 : Value} {d11 : Value} {d12 : Value} {d13 : Value} {d14 : Value} {h hz : AH} {z : (Int32 ⊕ Unit)} (e : l_X10_uses_58 p1 p2 p3 p5 p6 p8 s h = some (z, hz)) (kI : ∀ (s2 : Int32) (xd4 : Value) (xd10 : Value) (xd11 : Value) (xd12 : Value) (xd13 : Value) (xd14 : Value), z = .inl s2 → AR g X 0 0 Q hz 58 [.ref 240, .int p1, .int p2, .int p3, xd4, .int p5, .long p6, jk, .int p8, .int s2, xd10, xd11, xd12, xd13, xd14] []) (kE0 : ∀ (yy : Unit) (y4 : Value) (y9 : Value) (y10 : Value) (y11 : Value) (y12 : Value) (y13 : Value) (y14 : Value), z = .inr yy → AR g X 0 0 Q hz 253 [.ref 240, .int p1, .int p2, .int p3, y4, .int p5, .long p6, jk, .int p8, y9, y10, y11, y12, y13, y14] []) : AR g X 0 0 Q h 58 [.ref 240, .int p1, .int p2, .int p3, d4, .int p5, .long p6, jk, .int p8, .int s, d10, d11, d12, d13, d14] [] := by
  unfold l_X10_uses_58 at e
  refine aw_iload (i := 9) hX rfl d_X10_uses_58 ?_
  refine aw_iconst (v := 1) hX (by decide) d_X10_uses_60 ?_
  refine aw_iadd hX d_X10_uses_61 ?_
  refine aw_bipush (v := 33) hX (by decide) d_X10_uses_62 ?_
  refine aw_icmp_ge (t := 253) hX (by decide) d_X10_uses_64 (fun c => ?_) (fun c => ?_)
  · rw [if_pos c] at e
    cases e
    exact kE0 () _ _ _ _ _ _ _ rfl
  · rw [if_neg c] at e
    refine aw_aload_n (i := 0) hX rfl rfl d_X10_uses_67 ?_
    refine ar_getF hX hF fg_RX10_54 rfl d_X10_uses_68 ?_
    show AR g X 0 0 _ _ 71 _ [.ref 253]
    refine aw_bipush (v := 33) hX (by decide) d_X10_uses_71 ?_
    refine aw_iload (i := 8) hX rfl d_X10_uses_73 ?_
    refine aw_imul hX d_X10_uses_75 ?_
    refine aw_iload (i := 9) hX rfl d_X10_uses_76 ?_
    refine aw_iadd hX d_X10_uses_78 ?_
    obtain ⟨x5, f_1162, e_1162⟩ := bd_some e
    clear e
    refine ar_laload hX f_1162 d_X10_uses_79 ?_
    refine aw_lstore (i := 10) (lv2 := [.ref 240, .int p1, .int p2, .int p3, d4, .int p5, .long p6, jk, .int p8, .int s, .long x5, jk, d12, d13, d14]) hX rfl rfl d_X10_uses_80 ?_
    refine aw_lload (i := 10) hX rfl d_X10_uses_82 ?_
    refine aw_lconst (v := 0) hX (by decide) d_X10_uses_84 ?_
    refine aw_lcmp hX d_X10_uses_85 ?_
    refine aw_if_ne (t := 92) hX (by decide) d_X10_uses_86 (fun c => ?_) (fun c => ?_)
    · replace c := fun q => c (lc_eq.mpr q)
      rw [if_neg c] at e_1162
      refine aw_lload (i := 10) hX rfl d_X10_uses_92 ?_
      refine aw_lload (i := 6) hX rfl d_X10_uses_94 ?_
      refine aw_lmul hX d_X10_uses_96 ?_
      refine aw_ldc2 hX w_735 d_X10_uses_97 ?_
      obtain ⟨x6, f_1163, e_1163⟩ := bd_some e_1162
      clear e_1162
      refine ar_ldiv hX f_1163 d_X10_uses_100 ?_
      refine aw_lstore (i := 12) (lv2 := [.ref 240, .int p1, .int p2, .int p3, d4, .int p5, .long p6, jk, .int p8, .int s, .long x5, jk, .long x6, jk, d14]) hX rfl rfl d_X10_uses_101 ?_
      refine aw_aload_n (i := 0) hX rfl rfl d_X10_uses_103 ?_
      refine ar_getF hX hF fg_RX10_50 rfl d_X10_uses_104 ?_
      show AR g X 0 0 _ _ 107 _ [.ref 252]
      refine aw_iload_n (i := 3) hX rfl rfl d_X10_uses_107 ?_
      refine aw_iload (i := 8) hX rfl d_X10_uses_108 ?_
      refine aw_iload (i := 9) hX rfl d_X10_uses_110 ?_
      obtain ⟨x7, f_1164, e_1164⟩ := bd_some e_1163
      clear e_1163
      refine aw_callS (av := [.int p3, .int p8, .int s]) (avr := [.int s, .int p8, .int p3]) hX (k_X10_at (cx_g hX) hF f_1164) mi_X10_at rfl rfl w_745 w_746 rfl (by decide) (Nat.le_of_ble_eq_true rfl) (Nat.zero_le _) (Nat.zero_le _) d_X10_uses_112 ?_
      obtain ⟨x8, f_1165, e_1165⟩ := bd_some e_1164
      clear e_1164
      refine ar_baload hX f_1165 d_X10_uses_115 ?_
      refine aw_istore (i := 14) (lv2 := [.ref 240, .int p1, .int p2, .int p3, d4, .int p5, .long p6, jk, .int p8, .int s, .long x5, jk, .long x6, jk, .int x8]) hX rfl rfl d_X10_uses_116 ?_
      refine aw_iload (i := 14) hX rfl d_X10_uses_118 ?_
      refine aw_if_ne (t := 158) hX (by decide) d_X10_uses_120 (fun c => ?_) (fun c => ?_)
      · rw [if_neg c] at e_1165
        exact tj_X10_uses_158_58 hF hX e_1165 kI kE0
      · rw [if_pos c] at e_1165
        refine aw_iload (i := 5) hX rfl d_X10_uses_123 ?_
        refine aw_if_eq (t := 155) hX (by decide) d_X10_uses_125 (fun c => ?_) (fun c => ?_)
        · rw [if_pos c] at e_1165
          exact tj_X10_uses_155_58 hF hX e_1165 kI kE0
        · rw [if_neg c] at e_1165
          refine aw_iload_n (i := 2) hX rfl rfl d_X10_uses_128 ?_
          refine aw_iconst (v := 1) hX (by decide) d_X10_uses_129 ?_
          refine aw_icmp_eq (t := 138) hX (by decide) d_X10_uses_130 (fun c => ?_) (fun c => ?_)
          · rw [if_pos c] at e_1165
            exact tj_X10_uses_138_58 hF hX e_1165 kI kE0
          · rw [if_neg c] at e_1165
            refine aw_iload_n (i := 2) hX rfl rfl d_X10_uses_133 ?_
            refine aw_iconst (v := 4) hX (by decide) d_X10_uses_134 ?_
            refine aw_icmp_ne (t := 155) hX (by decide) d_X10_uses_135 (fun c => ?_) (fun c => ?_)
            · rw [if_neg c] at e_1165
              exact tj_X10_uses_155_58 hF hX e_1165 kI kE0
            · rw [if_pos c] at e_1165
              exact tj_X10_uses_138_58 hF hX e_1165 kI kE0
    · replace c := lc_eq.mp c
      rw [if_pos c] at e_1162
      refine aw_goto (t := 247) hX (by decide) d_X10_uses_89 ?_
      exact tj_X10_uses_247_58 hF hX e_1162 kI kE0
theorem ti_X10_uses_58 {g : GP} {X : MX} {mcR msR : Nat} (hF : gF g = true) (hX : Cx g RX10 cX10_uses 3 mcR msR none [] X) {Q : State → Prop} {p1 : Int32} {p2 : Int32} {p3 : Int32} {p5 : Int32} {p6 : Int64} {p8 : Int32} {y : Unit} {hz : AH} (kE0 : ∀ (y_4 : Value) (y_9 : Value) (y_10 : Value) (y_11 : Value) (y_12 : Value) (y_13 : Value) (y_14 : Value), AR g X 0 0 Q hz 253 [.ref 240, .int p1, .int p2, .int p3, y_4, .int p5, .long p6, jk, .int p8, y_9, y_10, y_11, y_12, y_13, y_14] []) (n : Nat) : ∀ (s : Int32) (d4 : Value) (d10 : Value) (d11 : Value) (d12 : Value) (d13 : Value) (d14 : Value) (h : AH), lpH (l_X10_uses_58 p1 p2 p3 p5 p6 p8) n s h = some (y, hz) → AR g X 0 0 Q h 58 [.ref 240, .int p1, .int p2, .int p3, d4, .int p5, .long p6, jk, .int p8, .int s, d10, d11, d12, d13, d14] [] := by
  induction n with
  | zero => intro s d4 d10 d11 d12 d13 d14 h e; cases e
  | succ n ih =>
    intro s d4 d10 d11 d12 d13 d14 h e
    obtain ⟨x, h1, e1, e2⟩ := lpH_succ e
    rcases e2 with ⟨s2, rfl, e3⟩ | ⟨rfl, rfl⟩
    · exact tb_X10_uses_58 hF hX e1 (fun s3 x0 x1 x2 x3 x4 x5 hs => by cases hs; exact ih _ _ _ _ _ _ _ _ e3) (fun yy x0 x1 x2 x3 x4 x5 x6 hy => by cases hy)
    · exact tb_X10_uses_58 hF hX e1 (fun s3 x0 x1 x2 x3 x4 x5 hs => by cases hs) (fun yy x0 x1 x2 x3 x4 x5 x6 hy => by cases hy; exact kE0 x0 x1 x2 x3 x4 x5 x6)
theorem t_X10_uses_58 {g : GP} {X : MX} {mcR msR : Nat} (hF : gF g = true) (hX : Cx g RX10 cX10_uses 3 mcR msR none [] X) {Q : State → Prop} {p1 : Int32} {p2 : Int32} {p3 : Int32} {p5 : Int32} {p6 : Int64} {p8 : Int32} {s : Int32} {d4 : Value} {d10 : Value} {d11 : Value} {d12 : Value} {d13 : Value} {d14 : Value} {h hz : AH} {n : Nat} {y : Unit} (e : lpH (l_X10_uses_58 p1 p2 p3 p5 p6 p8) n s h = some (y, hz)) (kE0 : ∀ (y_4 : Value) (y_9 : Value) (y_10 : Value) (y_11 : Value) (y_12 : Value) (y_13 : Value) (y_14 : Value), AR g X 0 0 Q hz 253 [.ref 240, .int p1, .int p2, .int p3, y_4, .int p5, .long p6, jk, .int p8, y_9, y_10, y_11, y_12, y_13, y_14] []) : AR g X 0 0 Q h 58 [.ref 240, .int p1, .int p2, .int p3, d4, .int p5, .long p6, jk, .int p8, .int s, d10, d11, d12, d13, d14] [] := ti_X10_uses_58 hF hX kE0 n _ _ _ _ _ _ _ _ e
def l_X10_uses_48 (p1 : Int32) (p2 : Int32) (p3 : Int32) (p5 : Int32) (p6 : Int64) (s : Int32) (h : AH) : Option ((Int32 ⊕ Unit) × AH) := if 13 ≤ s then some (.inr (), h) else bd (lpH (l_X10_uses_58 p1 p2 p3 p5 p6 s) FU 0 h) fun y15 => some (.inl (s + 1), y15.2)
theorem tb_X10_uses_48 {g : GP} {X : MX} {mcR msR : Nat} (hF : gF g = true) (hX : Cx g RX10 cX10_uses 3 mcR msR none [] X) {Q : State → Prop} {p1 : Int32} {p2 : Int32} {p3 : Int32} {p5 : Int32} {p6 : Int64} {s : Int32} {d4 : Value} {d9 : Value} {d10 : Value} {d11 : Value} {d12 : Value} {d13 : Value} {d14 : Value} {h hz : AH} {z : (Int32 ⊕ Unit)} (e : l_X10_uses_48 p1 p2 p3 p5 p6 s h = some (z, hz)) (kI : ∀ (s2 : Int32) (xd4 : Value) (xd9 : Value) (xd10 : Value) (xd11 : Value) (xd12 : Value) (xd13 : Value) (xd14 : Value), z = .inl s2 → AR g X 0 0 Q hz 48 [.ref 240, .int p1, .int p2, .int p3, xd4, .int p5, .long p6, jk, .int s2, xd9, xd10, xd11, xd12, xd13, xd14] []) (kE0 : ∀ (yy : Unit) (y1 : Value) (y2 : Value) (y3 : Value) (y4 : Value) (y5 : Value) (y6 : Value) (y7 : Value) (y8 : Value) (y9 : Value) (y10 : Value) (y11 : Value) (y12 : Value) (y13 : Value) (y14 : Value), z = .inr yy → AR g X 0 0 Q hz 259 [.ref 240, y1, y2, y3, y4, y5, y6, y7, y8, y9, y10, y11, y12, y13, y14] []) : AR g X 0 0 Q h 48 [.ref 240, .int p1, .int p2, .int p3, d4, .int p5, .long p6, jk, .int s, d9, d10, d11, d12, d13, d14] [] := by
  unfold l_X10_uses_48 at e
  refine aw_iload (i := 8) hX rfl d_X10_uses_48 ?_
  refine aw_bipush (v := 13) hX (by decide) d_X10_uses_50 ?_
  refine aw_icmp_ge (t := 259) hX (by decide) d_X10_uses_52 (fun c => ?_) (fun c => ?_)
  · rw [if_pos c] at e
    cases e
    exact kE0 () _ _ _ _ _ _ _ _ _ _ _ _ _ _ rfl
  · rw [if_neg c] at e
    refine aw_iconst (v := 0) hX (by decide) d_X10_uses_55 ?_
    refine aw_istore (i := 9) (lv2 := [.ref 240, .int p1, .int p2, .int p3, d4, .int p5, .long p6, jk, .int s, .int 0, d10, d11, d12, d13, d14]) hX rfl rfl d_X10_uses_56 ?_
    obtain ⟨y15, f_1166, e_1166⟩ := bd_some e
    clear e
    refine t_X10_uses_58 hF hX f_1166 (fun d16_4 d16_9 d16_10 d16_11 d16_12 d16_13 d16_14 => ?_)
    refine aw_iinc (i := 8) (lv2 := [.ref 240, .int p1, .int p2, .int p3, d16_4, .int p5, .long p6, jk, .int (s + 1), d16_9, d16_10, d16_11, d16_12, d16_13, d16_14]) hX rfl rfl rfl rfl d_X10_uses_253 ?_
    refine aw_goto (t := 48) hX (by decide) d_X10_uses_256 ?_
    cases e_1166
    exact kI (s + 1) _ _ _ _ _ _ _ rfl
theorem ti_X10_uses_48 {g : GP} {X : MX} {mcR msR : Nat} (hF : gF g = true) (hX : Cx g RX10 cX10_uses 3 mcR msR none [] X) {Q : State → Prop} {p1 : Int32} {p2 : Int32} {p3 : Int32} {p5 : Int32} {p6 : Int64} {y : Unit} {hz : AH} (kE0 : ∀ (y_1 : Value) (y_2 : Value) (y_3 : Value) (y_4 : Value) (y_5 : Value) (y_6 : Value) (y_7 : Value) (y_8 : Value) (y_9 : Value) (y_10 : Value) (y_11 : Value) (y_12 : Value) (y_13 : Value) (y_14 : Value), AR g X 0 0 Q hz 259 [.ref 240, y_1, y_2, y_3, y_4, y_5, y_6, y_7, y_8, y_9, y_10, y_11, y_12, y_13, y_14] []) (n : Nat) : ∀ (s : Int32) (d4 : Value) (d9 : Value) (d10 : Value) (d11 : Value) (d12 : Value) (d13 : Value) (d14 : Value) (h : AH), lpH (l_X10_uses_48 p1 p2 p3 p5 p6) n s h = some (y, hz) → AR g X 0 0 Q h 48 [.ref 240, .int p1, .int p2, .int p3, d4, .int p5, .long p6, jk, .int s, d9, d10, d11, d12, d13, d14] [] := by
  induction n with
  | zero => intro s d4 d9 d10 d11 d12 d13 d14 h e; cases e
  | succ n ih =>
    intro s d4 d9 d10 d11 d12 d13 d14 h e
    obtain ⟨x, h1, e1, e2⟩ := lpH_succ e
    rcases e2 with ⟨s2, rfl, e3⟩ | ⟨rfl, rfl⟩
    · exact tb_X10_uses_48 hF hX e1 (fun s3 x0 x1 x2 x3 x4 x5 x6 hs => by cases hs; exact ih _ _ _ _ _ _ _ _ _ e3) (fun yy x0 x1 x2 x3 x4 x5 x6 x7 x8 x9 x10 x11 x12 x13 hy => by cases hy)
    · exact tb_X10_uses_48 hF hX e1 (fun s3 x0 x1 x2 x3 x4 x5 x6 hs => by cases hs) (fun yy x0 x1 x2 x3 x4 x5 x6 x7 x8 x9 x10 x11 x12 x13 hy => by cases hy; exact kE0 x0 x1 x2 x3 x4 x5 x6 x7 x8 x9 x10 x11 x12 x13)
theorem t_X10_uses_48 {g : GP} {X : MX} {mcR msR : Nat} (hF : gF g = true) (hX : Cx g RX10 cX10_uses 3 mcR msR none [] X) {Q : State → Prop} {p1 : Int32} {p2 : Int32} {p3 : Int32} {p5 : Int32} {p6 : Int64} {s : Int32} {d4 : Value} {d9 : Value} {d10 : Value} {d11 : Value} {d12 : Value} {d13 : Value} {d14 : Value} {h hz : AH} {n : Nat} {y : Unit} (e : lpH (l_X10_uses_48 p1 p2 p3 p5 p6) n s h = some (y, hz)) (kE0 : ∀ (y_1 : Value) (y_2 : Value) (y_3 : Value) (y_4 : Value) (y_5 : Value) (y_6 : Value) (y_7 : Value) (y_8 : Value) (y_9 : Value) (y_10 : Value) (y_11 : Value) (y_12 : Value) (y_13 : Value) (y_14 : Value), AR g X 0 0 Q hz 259 [.ref 240, y_1, y_2, y_3, y_4, y_5, y_6, y_7, y_8, y_9, y_10, y_11, y_12, y_13, y_14] []) : AR g X 0 0 Q h 48 [.ref 240, .int p1, .int p2, .int p3, d4, .int p5, .long p6, jk, .int s, d9, d10, d11, d12, d13, d14] [] := ti_X10_uses_48 hF hX kE0 n _ _ _ _ _ _ _ _ _ e
def l_X10_uses_262 (s : Int32) (h : AH) : Option ((Int32 ⊕ Unit) × AH) := if 429 ≤ s then some (.inr (), h) else bd (ldL h 254 s) fun x19 => bd (stL h 253 s x19) fun m20 => some (.inl (s + 1), m20)
theorem tb_X10_uses_262 {g : GP} {X : MX} {mcR msR : Nat} (hF : gF g = true) (hX : Cx g RX10 cX10_uses 3 mcR msR none [] X) {Q : State → Prop} {s : Int32} {d1 : Value} {d2 : Value} {d3 : Value} {d4 : Value} {d5 : Value} {d6 : Value} {d7 : Value} {d9 : Value} {d10 : Value} {d11 : Value} {d12 : Value} {d13 : Value} {d14 : Value} {h hz : AH} {z : (Int32 ⊕ Unit)} (e : l_X10_uses_262 s h = some (z, hz)) (kI : ∀ (s2 : Int32) (xd1 : Value) (xd2 : Value) (xd3 : Value) (xd4 : Value) (xd5 : Value) (xd6 : Value) (xd7 : Value) (xd9 : Value) (xd10 : Value) (xd11 : Value) (xd12 : Value) (xd13 : Value) (xd14 : Value), z = .inl s2 → AR g X 0 0 Q hz 262 [.ref 240, xd1, xd2, xd3, xd4, xd5, xd6, xd7, .int s2, xd9, xd10, xd11, xd12, xd13, xd14] []) (kE0 : ∀ (yy : Unit) (y0 : Value) (y1 : Value) (y2 : Value) (y3 : Value) (y4 : Value) (y5 : Value) (y6 : Value) (y7 : Value) (y8 : Value) (y9 : Value) (y10 : Value) (y11 : Value) (y12 : Value) (y13 : Value) (y14 : Value), z = .inr yy → AR g X 0 0 Q hz 290 [y0, y1, y2, y3, y4, y5, y6, y7, y8, y9, y10, y11, y12, y13, y14] []) : AR g X 0 0 Q h 262 [.ref 240, d1, d2, d3, d4, d5, d6, d7, .int s, d9, d10, d11, d12, d13, d14] [] := by
  unfold l_X10_uses_262 at e
  refine aw_iload (i := 8) hX rfl d_X10_uses_262 ?_
  refine aw_sipush (v := 429) hX (by decide) d_X10_uses_264 ?_
  refine aw_icmp_ge (t := 290) hX (by decide) d_X10_uses_267 (fun c => ?_) (fun c => ?_)
  · rw [if_pos c] at e
    cases e
    exact kE0 () _ _ _ _ _ _ _ _ _ _ _ _ _ _ _ rfl
  · rw [if_neg c] at e
    refine aw_aload_n (i := 0) hX rfl rfl d_X10_uses_270 ?_
    refine ar_getF hX hF fg_RX10_54 rfl d_X10_uses_271 ?_
    show AR g X 0 0 _ _ 274 _ [.ref 253]
    refine aw_iload (i := 8) hX rfl d_X10_uses_274 ?_
    refine aw_aload_n (i := 0) hX rfl rfl d_X10_uses_276 ?_
    refine ar_getF hX hF fg_RX10_58 rfl d_X10_uses_277 ?_
    show AR g X 0 0 _ _ 280 _ [.ref 254, .int s, .ref 253]
    refine aw_iload (i := 8) hX rfl d_X10_uses_280 ?_
    obtain ⟨x19, f_1167, e_1167⟩ := bd_some e
    clear e
    refine ar_laload hX f_1167 d_X10_uses_282 ?_
    obtain ⟨m20, f_1168, e_1168⟩ := bd_some e_1167
    clear e_1167
    refine ar_lastore hX f_1168 d_X10_uses_283 ?_
    refine aw_iinc (i := 8) (lv2 := [.ref 240, d1, d2, d3, d4, d5, d6, _, .int (s + 1), d9, d10, d11, d12, d13, d14]) hX rfl rfl rfl rfl d_X10_uses_284 ?_
    refine aw_goto (t := 262) hX (by decide) d_X10_uses_287 ?_
    cases e_1168
    exact kI (s + 1) _ _ _ _ _ _ _ _ _ _ _ _ _ rfl
theorem ti_X10_uses_262 {g : GP} {X : MX} {mcR msR : Nat} (hF : gF g = true) (hX : Cx g RX10 cX10_uses 3 mcR msR none [] X) {Q : State → Prop} {y : Unit} {hz : AH} (kE0 : ∀ (y_0 : Value) (y_1 : Value) (y_2 : Value) (y_3 : Value) (y_4 : Value) (y_5 : Value) (y_6 : Value) (y_7 : Value) (y_8 : Value) (y_9 : Value) (y_10 : Value) (y_11 : Value) (y_12 : Value) (y_13 : Value) (y_14 : Value), AR g X 0 0 Q hz 290 [y_0, y_1, y_2, y_3, y_4, y_5, y_6, y_7, y_8, y_9, y_10, y_11, y_12, y_13, y_14] []) (n : Nat) : ∀ (s : Int32) (d1 : Value) (d2 : Value) (d3 : Value) (d4 : Value) (d5 : Value) (d6 : Value) (d7 : Value) (d9 : Value) (d10 : Value) (d11 : Value) (d12 : Value) (d13 : Value) (d14 : Value) (h : AH), lpH (l_X10_uses_262) n s h = some (y, hz) → AR g X 0 0 Q h 262 [.ref 240, d1, d2, d3, d4, d5, d6, d7, .int s, d9, d10, d11, d12, d13, d14] [] := by
  induction n with
  | zero => intro s d1 d2 d3 d4 d5 d6 d7 d9 d10 d11 d12 d13 d14 h e; cases e
  | succ n ih =>
    intro s d1 d2 d3 d4 d5 d6 d7 d9 d10 d11 d12 d13 d14 h e
    obtain ⟨x, h1, e1, e2⟩ := lpH_succ e
    rcases e2 with ⟨s2, rfl, e3⟩ | ⟨rfl, rfl⟩
    · exact tb_X10_uses_262 hF hX e1 (fun s3 x0 x1 x2 x3 x4 x5 x6 x7 x8 x9 x10 x11 x12 hs => by cases hs; exact ih _ _ _ _ _ _ _ _ _ _ _ _ _ _ _ e3) (fun yy x0 x1 x2 x3 x4 x5 x6 x7 x8 x9 x10 x11 x12 x13 x14 hy => by cases hy)
    · exact tb_X10_uses_262 hF hX e1 (fun s3 x0 x1 x2 x3 x4 x5 x6 x7 x8 x9 x10 x11 x12 hs => by cases hs) (fun yy x0 x1 x2 x3 x4 x5 x6 x7 x8 x9 x10 x11 x12 x13 x14 hy => by cases hy; exact kE0 x0 x1 x2 x3 x4 x5 x6 x7 x8 x9 x10 x11 x12 x13 x14)
theorem t_X10_uses_262 {g : GP} {X : MX} {mcR msR : Nat} (hF : gF g = true) (hX : Cx g RX10 cX10_uses 3 mcR msR none [] X) {Q : State → Prop} {s : Int32} {d1 : Value} {d2 : Value} {d3 : Value} {d4 : Value} {d5 : Value} {d6 : Value} {d7 : Value} {d9 : Value} {d10 : Value} {d11 : Value} {d12 : Value} {d13 : Value} {d14 : Value} {h hz : AH} {n : Nat} {y : Unit} (e : lpH (l_X10_uses_262) n s h = some (y, hz)) (kE0 : ∀ (y_0 : Value) (y_1 : Value) (y_2 : Value) (y_3 : Value) (y_4 : Value) (y_5 : Value) (y_6 : Value) (y_7 : Value) (y_8 : Value) (y_9 : Value) (y_10 : Value) (y_11 : Value) (y_12 : Value) (y_13 : Value) (y_14 : Value), AR g X 0 0 Q hz 290 [y_0, y_1, y_2, y_3, y_4, y_5, y_6, y_7, y_8, y_9, y_10, y_11, y_12, y_13, y_14] []) : AR g X 0 0 Q h 262 [.ref 240, d1, d2, d3, d4, d5, d6, d7, .int s, d9, d10, d11, d12, d13, d14] [] := ti_X10_uses_262 hF hX kE0 n _ _ _ _ _ _ _ _ _ _ _ _ _ _ _ e
def s_X10_uses (a0 : Int32) (a1 : Int32) (a2 : Int32) (a3 : Int32) (a4 : Int32) (h : AH) : Option (Unit × AH) := bd (s_X10_chanceOf a0 a2 a3 h) fun x1 => bd (lpH (l_X10_uses_23 a0 a1 a2 a4 x1) FU 0 (sL (sL h 240 38 0) 240 39 0)) fun y3 => bd (lpH (l_X10_uses_48 a0 a1 a2 a4 x1) FU 0 y3.2) fun y17 => bd (lpH (l_X10_uses_262) FU 0 y17.2) fun y21 => some ((), y21.2)
theorem t_X10_uses {g : GP} {X : MX} {mcR msR : Nat} (hF : gF g = true) (hX : Cx g RX10 cX10_uses 3 mcR msR none [] X) {a0 : Int32} {a1 : Int32} {a2 : Int32} {a3 : Int32} {a4 : Int32} {h hz : AH} {z : Unit} (e : s_X10_uses a0 a1 a2 a3 a4 h = some (z, hz)) : AR g X 0 0 (QQ g X NT false hz (.inl none) 0 0) h 0 [.ref 240, .int a0, .int a1, .int a2, .int a3, .int a4, jk, jk, jk, jk, jk, jk, jk, jk, jk] [] := by
  unfold s_X10_uses at e
  refine aw_aload_n (i := 0) hX rfl rfl d_X10_uses_0 ?_
  refine aw_iload_n (i := 1) hX rfl rfl d_X10_uses_1 ?_
  refine aw_iload_n (i := 3) hX rfl rfl d_X10_uses_2 ?_
  refine aw_iload (i := 4) hX rfl d_X10_uses_3 ?_
  obtain ⟨x1, f_1169, e_1169⟩ := bd_some e
  clear e
  refine aw_callV (b := 240) (av := [.int a0, .int a2, .int a3]) (avr := [.int a3, .int a2, .int a0]) hX (k_X10_chanceOf (cx_g hX) hF f_1169) mi_X10_chanceOf rfl rfl w_741 w_742 w_743 (by decide) rfl (LAY_lt rfl (by decide)) rfl rfl (Nat.le_of_ble_eq_true rfl) (Nat.zero_le _) (Nat.zero_le _) d_X10_uses_5 ?_
  refine aw_lstore (i := 6) (lv2 := [.ref 240, .int a0, .int a1, .int a2, .int a3, .int a4, .long x1, jk, jk, jk, jk, jk, jk, jk, jk]) hX rfl rfl d_X10_uses_8 ?_
  refine aw_aload_n (i := 0) hX rfl rfl d_X10_uses_10 ?_
  refine aw_lconst (v := 0) hX (by decide) d_X10_uses_11 ?_
  refine ar_putL hX fp_RX10_322 rfl d_X10_uses_12 ?_
  refine aw_aload_n (i := 0) hX rfl rfl d_X10_uses_15 ?_
  refine aw_lconst (v := 0) hX (by decide) d_X10_uses_16 ?_
  refine ar_putL hX fp_RX10_325 rfl d_X10_uses_17 ?_
  refine aw_iconst (v := 0) hX (by decide) d_X10_uses_20 ?_
  refine aw_istore (i := 8) (lv2 := [.ref 240, .int a0, .int a1, .int a2, .int a3, .int a4, .long x1, jk, .int 0, jk, jk, jk, jk, jk, jk]) hX rfl rfl d_X10_uses_21 ?_
  obtain ⟨y3, f_1170, e_1170⟩ := bd_some e_1169
  clear e_1169
  refine t_X10_uses_23 hF hX f_1170 (fun d4_4 d4_8 d4_9 d4_10 d4_11 d4_12 d4_13 d4_14 => ?_)
  refine aw_iconst (v := 0) hX (by decide) d_X10_uses_45 ?_
  refine aw_istore (i := 8) (lv2 := [.ref 240, .int a0, .int a1, .int a2, d4_4, .int a4, .long x1, jk, .int 0, d4_9, d4_10, d4_11, d4_12, d4_13, d4_14]) hX rfl rfl d_X10_uses_46 ?_
  obtain ⟨y17, f_1171, e_1171⟩ := bd_some e_1170
  clear e_1170
  refine t_X10_uses_48 hF hX f_1171 (fun d18_1 d18_2 d18_3 d18_4 d18_5 d18_6 d18_7 d18_8 d18_9 d18_10 d18_11 d18_12 d18_13 d18_14 => ?_)
  refine aw_iconst (v := 0) hX (by decide) d_X10_uses_259 ?_
  refine aw_istore (i := 8) (lv2 := [.ref 240, d18_1, d18_2, d18_3, d18_4, d18_5, d18_6, _, .int 0, d18_9, d18_10, d18_11, d18_12, d18_13, d18_14]) hX rfl rfl d_X10_uses_260 ?_
  obtain ⟨y21, f_1172, e_1172⟩ := bd_some e_1171
  clear e_1171
  refine t_X10_uses_262 hF hX f_1172 (fun d22_0 d22_1 d22_2 d22_3 d22_4 d22_5 d22_6 d22_7 d22_8 d22_9 d22_10 d22_11 d22_12 d22_13 d22_14 => ?_)
  cases e_1172
  exact aw_return hX (Nat.zero_le _) (Nat.zero_le _) d_X10_uses_290
theorem k_X10_uses {g : GP} (hg : g.1.stackTraces = false) (hF : gF g = true) {a0 : Int32} {a1 : Int32} {a2 : Int32} {a3 : Int32} {a4 : Int32} {h hz : AH} {z : Unit} (e : s_X10_uses a0 a1 a2 a3 a4 h = some (z, hz)) : Ctr g yX10_uses (wsY yX10_uses cX10_uses 15 none) 3 0 0 [.ref 240, .int a0, .int a1, .int a2, .int a3, .int a4] NT false h none NT false hz := ctr_of (lv0 := [.ref 240, .int a0, .int a1, .int a2, .int a3, .int a4, jk, jk, jk, jk, jk, jk, jk, jk, jk]) rfl rfl (by decide) hg trivial (fun X hX hn => t_X10_uses hF hX e)
theorem d_X10_works_0 : decode cX10_works 0 = .ok (.iconst 5, 1) := by decide +kernel
theorem d_X10_works_1 : decode cX10_works 1 = .ok (.iload_n 1, 1) := by decide +kernel
theorem d_X10_works_2 : decode cX10_works 2 = .ok (.imul, 1) := by decide +kernel
theorem d_X10_works_3 : decode cX10_works 3 = .ok (.iload_n 2, 1) := by decide +kernel
theorem d_X10_works_4 : decode cX10_works 4 = .ok (.iadd, 1) := by decide +kernel
theorem d_X10_works_5 : decode cX10_works 5 = .ok (.istore_n 3, 1) := by decide +kernel
theorem d_X10_works_6 : decode cX10_works 6 = .ok (.aload_n 0, 1) := by decide +kernel
theorem d_X10_works_7 : decode cX10_works 7 = .ok (.iload_n 1, 1) := by decide +kernel
theorem d_X10_works_8 : decode cX10_works 8 = .ok (.iload_n 2, 1) := by decide +kernel
theorem d_X10_works_9 : decode cX10_works 9 = .ok (.iconst 1, 1) := by decide +kernel
theorem d_X10_works_10 : decode cX10_works 10 = .ok (.invokevirtual 333, 3) := by decide +kernel
theorem d_X10_works_13 : decode cX10_works 13 = .ok (.aload_n 0, 1) := by decide +kernel
theorem d_X10_works_14 : decode cX10_works 14 = .ok (.getfield 61, 3) := by decide +kernel
theorem d_X10_works_17 : decode cX10_works 17 = .ok (.iload_n 3, 1) := by decide +kernel
theorem d_X10_works_18 : decode cX10_works 18 = .ok (.aload_n 0, 1) := by decide +kernel
theorem d_X10_works_19 : decode cX10_works 19 = .ok (.getfield 47, 3) := by decide +kernel
theorem d_X10_works_22 : decode cX10_works 22 = .ok (.iconst 0, 1) := by decide +kernel
theorem d_X10_works_23 : decode cX10_works 23 = .ok (.aload_n 0, 1) := by decide +kernel
theorem d_X10_works_24 : decode cX10_works 24 = .ok (.iload_n 2, 1) := by decide +kernel
theorem d_X10_works_25 : decode cX10_works 25 = .ok (.invokevirtual 328, 3) := by decide +kernel
theorem d_X10_works_28 : decode cX10_works 28 = .ok (.iconst 0, 1) := by decide +kernel
theorem d_X10_works_29 : decode cX10_works 29 = .ok (.invokestatic 316, 3) := by decide +kernel
theorem d_X10_works_32 : decode cX10_works 32 = .ok (.iaload, 1) := by decide +kernel
theorem d_X10_works_33 : decode cX10_works 33 = .ok (.iastore, 1) := by decide +kernel
theorem d_X10_works_34 : decode cX10_works 34 = .ok (.aload_n 0, 1) := by decide +kernel
theorem d_X10_works_35 : decode cX10_works 35 = .ok (.getfield 67, 3) := by decide +kernel
theorem d_X10_works_38 : decode cX10_works 38 = .ok (.iload_n 3, 1) := by decide +kernel
theorem d_X10_works_39 : decode cX10_works 39 = .ok (.lconst 0, 1) := by decide +kernel
theorem d_X10_works_40 : decode cX10_works 40 = .ok (.lastore, 1) := by decide +kernel
theorem d_X10_works_41 : decode cX10_works 41 = .ok (.aload_n 0, 1) := by decide +kernel
theorem d_X10_works_42 : decode cX10_works 42 = .ok (.getfield 70, 3) := by decide +kernel
theorem d_X10_works_45 : decode cX10_works 45 = .ok (.iload_n 3, 1) := by decide +kernel
theorem d_X10_works_46 : decode cX10_works 46 = .ok (.lconst 0, 1) := by decide +kernel
theorem d_X10_works_47 : decode cX10_works 47 = .ok (.lastore, 1) := by decide +kernel
theorem d_X10_works_48 : decode cX10_works 48 = .ok (.aload_n 0, 1) := by decide +kernel
theorem d_X10_works_49 : decode cX10_works 49 = .ok (.iload_n 2, 1) := by decide +kernel
theorem d_X10_works_50 : decode cX10_works 50 = .ok (.invokevirtual 337, 3) := by decide +kernel
theorem d_X10_works_53 : decode cX10_works 53 = .ok (.iconst 0, 1) := by decide +kernel
theorem d_X10_works_54 : decode cX10_works 54 = .ok (.istore 4, 2) := by decide +kernel
theorem d_X10_works_56 : decode cX10_works 56 = .ok (.iload 4, 2) := by decide +kernel
theorem d_X10_works_58 : decode cX10_works 58 = .ok (.aload_n 0, 1) := by decide +kernel
theorem d_X10_works_59 : decode cX10_works 59 = .ok (.getfield 262, 3) := by decide +kernel
theorem d_X10_works_62 : decode cX10_works 62 = .ok (.if_icmp .ge 61, 3) := by decide +kernel
theorem d_X10_works_65 : decode cX10_works 65 = .ok (.aload_n 0, 1) := by decide +kernel
theorem d_X10_works_66 : decode cX10_works 66 = .ok (.iload_n 1, 1) := by decide +kernel
theorem d_X10_works_67 : decode cX10_works 67 = .ok (.iload_n 2, 1) := by decide +kernel
theorem d_X10_works_68 : decode cX10_works 68 = .ok (.iload 4, 2) := by decide +kernel
theorem d_X10_works_70 : decode cX10_works 70 = .ok (.iconst 0, 1) := by decide +kernel
theorem d_X10_works_71 : decode cX10_works 71 = .ok (.iconst 1, 1) := by decide +kernel
theorem d_X10_works_72 : decode cX10_works 72 = .ok (.invokevirtual 340, 3) := by decide +kernel
theorem d_X10_works_75 : decode cX10_works 75 = .ok (.aload_n 0, 1) := by decide +kernel
theorem d_X10_works_76 : decode cX10_works 76 = .ok (.getfield 64, 3) := by decide +kernel
theorem d_X10_works_79 : decode cX10_works 79 = .ok (.bipush 16, 2) := by decide +kernel
theorem d_X10_works_81 : decode cX10_works 81 = .ok (.iload_n 3, 1) := by decide +kernel
theorem d_X10_works_82 : decode cX10_works 82 = .ok (.imul, 1) := by decide +kernel
theorem d_X10_works_83 : decode cX10_works 83 = .ok (.iload 4, 2) := by decide +kernel
theorem d_X10_works_85 : decode cX10_works 85 = .ok (.iadd, 1) := by decide +kernel
theorem d_X10_works_86 : decode cX10_works 86 = .ok (.aload_n 0, 1) := by decide +kernel
theorem d_X10_works_87 : decode cX10_works 87 = .ok (.getfield 322, 3) := by decide +kernel
theorem d_X10_works_90 : decode cX10_works 90 = .ok (.lastore, 1) := by decide +kernel
theorem d_X10_works_91 : decode cX10_works 91 = .ok (.aload_n 0, 1) := by decide +kernel
theorem d_X10_works_92 : decode cX10_works 92 = .ok (.getfield 67, 3) := by decide +kernel
theorem d_X10_works_95 : decode cX10_works 95 = .ok (.iload_n 3, 1) := by decide +kernel
theorem d_X10_works_96 : decode cX10_works 96 = .ok (.dup2, 1) := by decide +kernel
theorem d_X10_works_97 : decode cX10_works 97 = .ok (.laload, 1) := by decide +kernel
theorem d_X10_works_98 : decode cX10_works 98 = .ok (.aload_n 0, 1) := by decide +kernel
theorem d_X10_works_99 : decode cX10_works 99 = .ok (.getfield 322, 3) := by decide +kernel
theorem d_X10_works_102 : decode cX10_works 102 = .ok (.ladd, 1) := by decide +kernel
theorem d_X10_works_103 : decode cX10_works 103 = .ok (.lastore, 1) := by decide +kernel
theorem d_X10_works_104 : decode cX10_works 104 = .ok (.aload_n 0, 1) := by decide +kernel
theorem d_X10_works_105 : decode cX10_works 105 = .ok (.getfield 70, 3) := by decide +kernel
theorem d_X10_works_108 : decode cX10_works 108 = .ok (.iload_n 3, 1) := by decide +kernel
theorem d_X10_works_109 : decode cX10_works 109 = .ok (.dup2, 1) := by decide +kernel
theorem d_X10_works_110 : decode cX10_works 110 = .ok (.laload, 1) := by decide +kernel
theorem d_X10_works_111 : decode cX10_works 111 = .ok (.aload_n 0, 1) := by decide +kernel
theorem d_X10_works_112 : decode cX10_works 112 = .ok (.getfield 325, 3) := by decide +kernel
theorem d_X10_works_115 : decode cX10_works 115 = .ok (.ladd, 1) := by decide +kernel
theorem d_X10_works_116 : decode cX10_works 116 = .ok (.lastore, 1) := by decide +kernel
theorem d_X10_works_117 : decode cX10_works 117 = .ok (.iinc 4 1, 3) := by decide +kernel
theorem d_X10_works_120 : decode cX10_works 120 = .ok (.goto (-64), 3) := by decide +kernel
theorem d_X10_works_123 : decode cX10_works 123 = .ok (.return_, 1) := by decide +kernel
def l_X10_works_56 (p1 : Int32) (p2 : Int32) (p3 : Int32) (s : Int32) (h : AH) : Option ((Int32 ⊕ Unit) × AH) := if (gI h 240 3) ≤ s then some (.inr (), h) else bd (s_X10_uses p1 p2 s 0 1 h) fun q9 => bd (stL q9.2 256 ((16 * p3) + s) (gL q9.2 240 38)) fun m10 => bd (ldL m10 257 p3) fun x11 => bd (stL m10 257 p3 (x11 + (gL m10 240 38))) fun m12 => bd (ldL m12 258 p3) fun x13 => bd (stL m12 258 p3 (x13 + (gL m12 240 39))) fun m14 => some (.inl (s + 1), m14)
theorem tb_X10_works_56 {g : GP} {X : MX} {mcR msR : Nat} (hF : gF g = true) (hX : Cx g RX10 cX10_works 4 mcR msR none [] X) {Q : State → Prop} {p1 : Int32} {p2 : Int32} {p3 : Int32} {s : Int32} {h hz : AH} {z : (Int32 ⊕ Unit)} (e : l_X10_works_56 p1 p2 p3 s h = some (z, hz)) (kI : ∀ (s2 : Int32), z = .inl s2 → AR g X 0 0 Q hz 56 [.ref 240, .int p1, .int p2, .int p3, .int s2] []) (kE0 : ∀ (yy : Unit) (y0 : Value) (y1 : Value) (y2 : Value) (y3 : Value) (y4 : Value), z = .inr yy → AR g X 0 0 Q hz 123 [y0, y1, y2, y3, y4] []) : AR g X 0 0 Q h 56 [.ref 240, .int p1, .int p2, .int p3, .int s] [] := by
  unfold l_X10_works_56 at e
  refine aw_iload (i := 4) hX rfl d_X10_works_56 ?_
  refine aw_aload_n (i := 0) hX rfl rfl d_X10_works_58 ?_
  refine ar_getI hX fg_RX10_262 rfl d_X10_works_59 ?_
  refine aw_icmp_ge (t := 123) hX (by decide) d_X10_works_62 (fun c => ?_) (fun c => ?_)
  · rw [if_pos c] at e
    cases e
    exact kE0 () _ _ _ _ _ rfl
  · rw [if_neg c] at e
    refine aw_aload_n (i := 0) hX rfl rfl d_X10_works_65 ?_
    refine aw_iload_n (i := 1) hX rfl rfl d_X10_works_66 ?_
    refine aw_iload_n (i := 2) hX rfl rfl d_X10_works_67 ?_
    refine aw_iload (i := 4) hX rfl d_X10_works_68 ?_
    refine aw_iconst (v := 0) hX (by decide) d_X10_works_70 ?_
    refine aw_iconst (v := 1) hX (by decide) d_X10_works_71 ?_
    obtain ⟨q9, f_1173, e_1173⟩ := bd_some e
    clear e
    refine aw_callV (b := 240) (av := [.int p1, .int p2, .int s, .int 0, .int 1]) (avr := [.int 1, .int 0, .int s, .int p2, .int p1]) hX (k_X10_uses (cx_g hX) hF f_1173) mi_X10_uses rfl rfl w_767 w_768 w_769 (by decide) rfl (LAY_lt rfl (by decide)) rfl rfl (Nat.le_of_ble_eq_true rfl) (Nat.zero_le _) (Nat.zero_le _) d_X10_works_72 ?_
    refine aw_aload_n (i := 0) hX rfl rfl d_X10_works_75 ?_
    refine ar_getF hX hF fg_RX10_64 rfl d_X10_works_76 ?_
    show AR g X 0 0 _ _ 79 _ [.ref 256]
    refine aw_bipush (v := 16) hX (by decide) d_X10_works_79 ?_
    refine aw_iload_n (i := 3) hX rfl rfl d_X10_works_81 ?_
    refine aw_imul hX d_X10_works_82 ?_
    refine aw_iload (i := 4) hX rfl d_X10_works_83 ?_
    refine aw_iadd hX d_X10_works_85 ?_
    refine aw_aload_n (i := 0) hX rfl rfl d_X10_works_86 ?_
    refine ar_getL hX fg_RX10_322 rfl d_X10_works_87 ?_
    obtain ⟨m10, f_1174, e_1174⟩ := bd_some e_1173
    clear e_1173
    refine ar_lastore hX f_1174 d_X10_works_90 ?_
    refine aw_aload_n (i := 0) hX rfl rfl d_X10_works_91 ?_
    refine ar_getF hX hF fg_RX10_67 rfl d_X10_works_92 ?_
    show AR g X 0 0 _ _ 95 _ [.ref 257]
    refine aw_iload_n (i := 3) hX rfl rfl d_X10_works_95 ?_
    refine aw_dup2 hX rfl rfl d_X10_works_96 ?_
    obtain ⟨x11, f_1175, e_1175⟩ := bd_some e_1174
    clear e_1174
    refine ar_laload hX f_1175 d_X10_works_97 ?_
    refine aw_aload_n (i := 0) hX rfl rfl d_X10_works_98 ?_
    refine ar_getL hX fg_RX10_322 rfl d_X10_works_99 ?_
    refine aw_ladd hX d_X10_works_102 ?_
    obtain ⟨m12, f_1176, e_1176⟩ := bd_some e_1175
    clear e_1175
    refine ar_lastore hX f_1176 d_X10_works_103 ?_
    refine aw_aload_n (i := 0) hX rfl rfl d_X10_works_104 ?_
    refine ar_getF hX hF fg_RX10_70 rfl d_X10_works_105 ?_
    show AR g X 0 0 _ _ 108 _ [.ref 258]
    refine aw_iload_n (i := 3) hX rfl rfl d_X10_works_108 ?_
    refine aw_dup2 hX rfl rfl d_X10_works_109 ?_
    obtain ⟨x13, f_1177, e_1177⟩ := bd_some e_1176
    clear e_1176
    refine ar_laload hX f_1177 d_X10_works_110 ?_
    refine aw_aload_n (i := 0) hX rfl rfl d_X10_works_111 ?_
    refine ar_getL hX fg_RX10_325 rfl d_X10_works_112 ?_
    refine aw_ladd hX d_X10_works_115 ?_
    obtain ⟨m14, f_1178, e_1178⟩ := bd_some e_1177
    clear e_1177
    refine ar_lastore hX f_1178 d_X10_works_116 ?_
    refine aw_iinc (i := 4) (lv2 := [.ref 240, .int p1, .int p2, .int p3, .int (s + 1)]) hX rfl rfl rfl rfl d_X10_works_117 ?_
    refine aw_goto (t := 56) hX (by decide) d_X10_works_120 ?_
    cases e_1178
    exact kI (s + 1)  rfl
theorem ti_X10_works_56 {g : GP} {X : MX} {mcR msR : Nat} (hF : gF g = true) (hX : Cx g RX10 cX10_works 4 mcR msR none [] X) {Q : State → Prop} {p1 : Int32} {p2 : Int32} {p3 : Int32} {y : Unit} {hz : AH} (kE0 : ∀ (y_0 : Value) (y_1 : Value) (y_2 : Value) (y_3 : Value) (y_4 : Value), AR g X 0 0 Q hz 123 [y_0, y_1, y_2, y_3, y_4] []) (n : Nat) : ∀ (s : Int32) (h : AH), lpH (l_X10_works_56 p1 p2 p3) n s h = some (y, hz) → AR g X 0 0 Q h 56 [.ref 240, .int p1, .int p2, .int p3, .int s] [] := by
  induction n with
  | zero => intro s h e; cases e
  | succ n ih =>
    intro s h e
    obtain ⟨x, h1, e1, e2⟩ := lpH_succ e
    rcases e2 with ⟨s2, rfl, e3⟩ | ⟨rfl, rfl⟩
    · exact tb_X10_works_56 hF hX e1 (fun s3  hs => by cases hs; exact ih _  _ e3) (fun yy x0 x1 x2 x3 x4 hy => by cases hy)
    · exact tb_X10_works_56 hF hX e1 (fun s3  hs => by cases hs) (fun yy x0 x1 x2 x3 x4 hy => by cases hy; exact kE0 x0 x1 x2 x3 x4)
theorem t_X10_works_56 {g : GP} {X : MX} {mcR msR : Nat} (hF : gF g = true) (hX : Cx g RX10 cX10_works 4 mcR msR none [] X) {Q : State → Prop} {p1 : Int32} {p2 : Int32} {p3 : Int32} {s : Int32} {h hz : AH} {n : Nat} {y : Unit} (e : lpH (l_X10_works_56 p1 p2 p3) n s h = some (y, hz)) (kE0 : ∀ (y_0 : Value) (y_1 : Value) (y_2 : Value) (y_3 : Value) (y_4 : Value), AR g X 0 0 Q hz 123 [y_0, y_1, y_2, y_3, y_4] []) : AR g X 0 0 Q h 56 [.ref 240, .int p1, .int p2, .int p3, .int s] [] := ti_X10_works_56 hF hX kE0 n _  _ e
def s_X10_works (a0 : Int32) (a1 : Int32) (h : AH) : Option (Unit × AH) := bd (s_X10_plans a0 a1 1 h) fun q1 => bd (s_X10_first a1 q1.2) fun x2 => bd (s_X10_at 0 x2 0 q1.2) fun x3 => bd (ldI q1.2 251 x3) fun x4 => bd (stI q1.2 255 ((5 * a0) + a1) x4) fun m5 => bd (stL m5 257 ((5 * a0) + a1) 0) fun m6 => bd (stL m6 258 ((5 * a0) + a1) 0) fun m7 => bd (s_X10_begins a1 m7) fun q8 => bd (lpH (l_X10_works_56 a0 a1 ((5 * a0) + a1)) FU 0 q8.2) fun y15 => some ((), y15.2)
theorem t_X10_works {g : GP} {X : MX} {mcR msR : Nat} (hF : gF g = true) (hX : Cx g RX10 cX10_works 4 mcR msR none [] X) {a0 : Int32} {a1 : Int32} {h hz : AH} {z : Unit} (e : s_X10_works a0 a1 h = some (z, hz)) : AR g X 0 0 (QQ g X NT false hz (.inl none) 0 0) h 0 [.ref 240, .int a0, .int a1, jk, jk] [] := by
  unfold s_X10_works at e
  refine aw_iconst (v := 5) hX (by decide) d_X10_works_0 ?_
  refine aw_iload_n (i := 1) hX rfl rfl d_X10_works_1 ?_
  refine aw_imul hX d_X10_works_2 ?_
  refine aw_iload_n (i := 2) hX rfl rfl d_X10_works_3 ?_
  refine aw_iadd hX d_X10_works_4 ?_
  refine aw_istore_n (i := 3) (lv2 := [.ref 240, .int a0, .int a1, .int ((5 * a0) + a1), jk]) hX rfl rfl rfl d_X10_works_5 ?_
  refine aw_aload_n (i := 0) hX rfl rfl d_X10_works_6 ?_
  refine aw_iload_n (i := 1) hX rfl rfl d_X10_works_7 ?_
  refine aw_iload_n (i := 2) hX rfl rfl d_X10_works_8 ?_
  refine aw_iconst (v := 1) hX (by decide) d_X10_works_9 ?_
  obtain ⟨q1, f_1179, e_1179⟩ := bd_some e
  clear e
  refine aw_callV (b := 240) (av := [.int a0, .int a1, .int 1]) (avr := [.int 1, .int a1, .int a0]) hX (k_X10_plans (cx_g hX) hF f_1179) mi_X10_plans rfl rfl w_756 w_757 w_758 (by decide) rfl (LAY_lt rfl (by decide)) rfl rfl (Nat.le_of_ble_eq_true rfl) (Nat.zero_le _) (Nat.zero_le _) d_X10_works_10 ?_
  refine aw_aload_n (i := 0) hX rfl rfl d_X10_works_13 ?_
  refine ar_getF hX hF fg_RX10_61 rfl d_X10_works_14 ?_
  show AR g X 0 0 _ _ 17 _ [.ref 255]
  refine aw_iload_n (i := 3) hX rfl rfl d_X10_works_17 ?_
  refine aw_aload_n (i := 0) hX rfl rfl d_X10_works_18 ?_
  refine ar_getF hX hF fg_RX10_47 rfl d_X10_works_19 ?_
  show AR g X 0 0 _ _ 22 _ [.ref 251, .int ((5 * a0) + a1), .ref 255]
  refine aw_iconst (v := 0) hX (by decide) d_X10_works_22 ?_
  refine aw_aload_n (i := 0) hX rfl rfl d_X10_works_23 ?_
  refine aw_iload_n (i := 2) hX rfl rfl d_X10_works_24 ?_
  obtain ⟨x2, f_1180, e_1180⟩ := bd_some e_1179
  clear e_1179
  refine aw_callV (b := 240) (av := [.int a1]) (avr := [.int a1]) hX (k_X10_first (cx_g hX) hF f_1180) mi_X10_first rfl rfl w_726 w_727 w_728 (by decide) rfl (LAY_lt rfl (by decide)) rfl rfl (Nat.le_of_ble_eq_true rfl) (Nat.zero_le _) (Nat.zero_le _) d_X10_works_25 ?_
  refine aw_iconst (v := 0) hX (by decide) d_X10_works_28 ?_
  obtain ⟨x3, f_1181, e_1181⟩ := bd_some e_1180
  clear e_1180
  refine aw_callS (av := [.int 0, .int x2, .int 0]) (avr := [.int 0, .int x2, .int 0]) hX (k_X10_at (cx_g hX) hF f_1181) mi_X10_at rfl rfl w_745 w_746 rfl (by decide) (Nat.le_of_ble_eq_true rfl) (Nat.zero_le _) (Nat.zero_le _) d_X10_works_29 ?_
  obtain ⟨x4, f_1182, e_1182⟩ := bd_some e_1181
  clear e_1181
  refine ar_iaload hX f_1182 d_X10_works_32 ?_
  obtain ⟨m5, f_1183, e_1183⟩ := bd_some e_1182
  clear e_1182
  refine ar_iastore hX f_1183 d_X10_works_33 ?_
  refine aw_aload_n (i := 0) hX rfl rfl d_X10_works_34 ?_
  refine ar_getF hX hF fg_RX10_67 rfl d_X10_works_35 ?_
  show AR g X 0 0 _ _ 38 _ [.ref 257]
  refine aw_iload_n (i := 3) hX rfl rfl d_X10_works_38 ?_
  refine aw_lconst (v := 0) hX (by decide) d_X10_works_39 ?_
  obtain ⟨m6, f_1184, e_1184⟩ := bd_some e_1183
  clear e_1183
  refine ar_lastore hX f_1184 d_X10_works_40 ?_
  refine aw_aload_n (i := 0) hX rfl rfl d_X10_works_41 ?_
  refine ar_getF hX hF fg_RX10_70 rfl d_X10_works_42 ?_
  show AR g X 0 0 _ _ 45 _ [.ref 258]
  refine aw_iload_n (i := 3) hX rfl rfl d_X10_works_45 ?_
  refine aw_lconst (v := 0) hX (by decide) d_X10_works_46 ?_
  obtain ⟨m7, f_1185, e_1185⟩ := bd_some e_1184
  clear e_1184
  refine ar_lastore hX f_1185 d_X10_works_47 ?_
  refine aw_aload_n (i := 0) hX rfl rfl d_X10_works_48 ?_
  refine aw_iload_n (i := 2) hX rfl rfl d_X10_works_49 ?_
  obtain ⟨q8, f_1186, e_1186⟩ := bd_some e_1185
  clear e_1185
  refine aw_callV (b := 240) (av := [.int a1]) (avr := [.int a1]) hX (k_X10_begins (cx_g hX) hF f_1186) mi_X10_begins rfl rfl w_763 w_764 w_765 (by decide) rfl (LAY_lt rfl (by decide)) rfl rfl (Nat.le_of_ble_eq_true rfl) (Nat.zero_le _) (Nat.zero_le _) d_X10_works_50 ?_
  refine aw_iconst (v := 0) hX (by decide) d_X10_works_53 ?_
  refine aw_istore (i := 4) (lv2 := [.ref 240, .int a0, .int a1, .int ((5 * a0) + a1), .int 0]) hX rfl rfl d_X10_works_54 ?_
  obtain ⟨y15, f_1187, e_1187⟩ := bd_some e_1186
  clear e_1186
  refine t_X10_works_56 hF hX f_1187 (fun d16_0 d16_1 d16_2 d16_3 d16_4 => ?_)
  cases e_1187
  exact aw_return hX (Nat.zero_le _) (Nat.zero_le _) d_X10_works_123
theorem k_X10_works {g : GP} (hg : g.1.stackTraces = false) (hF : gF g = true) {a0 : Int32} {a1 : Int32} {h hz : AH} {z : Unit} (e : s_X10_works a0 a1 h = some (z, hz)) : Ctr g yX10_works (wsY yX10_works cX10_works 5 none) 4 0 0 [.ref 240, .int a0, .int a1] NT false h none NT false hz := ctr_of (lv0 := [.ref 240, .int a0, .int a1, jk, jk]) rfl rfl (by decide) hg trivial (fun X hX hn => t_X10_works hF hX e)
theorem d_X10_hall_0 : decode cX10_hall 0 = .ok (.aload_n 0, 1) := by decide +kernel
theorem d_X10_hall_1 : decode cX10_hall 1 = .ok (.iconst 0, 1) := by decide +kernel
theorem d_X10_hall_2 : decode cX10_hall 2 = .ok (.putfield 133, 3) := by decide +kernel
theorem d_X10_hall_5 : decode cX10_hall 5 = .ok (.aload_n 0, 1) := by decide +kernel
theorem d_X10_hall_6 : decode cX10_hall 6 = .ok (.iload_n 1, 1) := by decide +kernel
theorem d_X10_hall_7 : decode cX10_hall 7 = .ok (.ifCond .lt 15, 3) := by decide +kernel
theorem d_X10_hall_10 : decode cX10_hall 10 = .ok (.iload_n 1, 1) := by decide +kernel
theorem d_X10_hall_11 : decode cX10_hall 11 = .ok (.aload_n 0, 1) := by decide +kernel
theorem d_X10_hall_12 : decode cX10_hall 12 = .ok (.getfield 136, 3) := by decide +kernel
theorem d_X10_hall_15 : decode cX10_hall 15 = .ok (.if_icmp .gt 7, 3) := by decide +kernel
theorem d_X10_hall_18 : decode cX10_hall 18 = .ok (.iconst 1, 1) := by decide +kernel
theorem d_X10_hall_19 : decode cX10_hall 19 = .ok (.goto 4, 3) := by decide +kernel
theorem d_X10_hall_22 : decode cX10_hall 22 = .ok (.iconst 0, 1) := by decide +kernel
theorem d_X10_hall_23 : decode cX10_hall 23 = .ok (.iconst 1, 1) := by decide +kernel
theorem d_X10_hall_24 : decode cX10_hall 24 = .ok (.invokevirtual 253, 3) := by decide +kernel
theorem d_X10_hall_27 : decode cX10_hall 27 = .ok (.ifCond .ne 5, 3) := by decide +kernel
theorem d_X10_hall_30 : decode cX10_hall 30 = .ok (.iconst 0, 1) := by decide +kernel
theorem d_X10_hall_31 : decode cX10_hall 31 = .ok (.ireturn, 1) := by decide +kernel
theorem d_X10_hall_32 : decode cX10_hall 32 = .ok (.aload_n 0, 1) := by decide +kernel
theorem d_X10_hall_33 : decode cX10_hall 33 = .ok (.iconst 0, 1) := by decide +kernel
theorem d_X10_hall_34 : decode cX10_hall 34 = .ok (.putfield 136, 3) := by decide +kernel
theorem d_X10_hall_37 : decode cX10_hall 37 = .ok (.aload_n 0, 1) := by decide +kernel
theorem d_X10_hall_38 : decode cX10_hall 38 = .ok (.iconst (-1), 1) := by decide +kernel
theorem d_X10_hall_39 : decode cX10_hall 39 = .ok (.putfield 29, 3) := by decide +kernel
theorem d_X10_hall_42 : decode cX10_hall 42 = .ok (.aload_n 0, 1) := by decide +kernel
theorem d_X10_hall_43 : decode cX10_hall 43 = .ok (.iconst 0, 1) := by decide +kernel
theorem d_X10_hall_44 : decode cX10_hall 44 = .ok (.putfield 184, 3) := by decide +kernel
theorem d_X10_hall_47 : decode cX10_hall 47 = .ok (.aload_n 0, 1) := by decide +kernel
theorem d_X10_hall_48 : decode cX10_hall 48 = .ok (.iload_n 1, 1) := by decide +kernel
theorem d_X10_hall_49 : decode cX10_hall 49 = .ok (.putfield 143, 3) := by decide +kernel
theorem d_X10_hall_52 : decode cX10_hall 52 = .ok (.aload_n 0, 1) := by decide +kernel
theorem d_X10_hall_53 : decode cX10_hall 53 = .ok (.iconst 0, 1) := by decide +kernel
theorem d_X10_hall_54 : decode cX10_hall 54 = .ok (.putfield 146, 3) := by decide +kernel
theorem d_X10_hall_57 : decode cX10_hall 57 = .ok (.aload_n 0, 1) := by decide +kernel
theorem d_X10_hall_58 : decode cX10_hall 58 = .ok (.iconst 1, 1) := by decide +kernel
theorem d_X10_hall_59 : decode cX10_hall 59 = .ok (.putfield 241, 3) := by decide +kernel
theorem d_X10_hall_62 : decode cX10_hall 62 = .ok (.aload_n 0, 1) := by decide +kernel
theorem d_X10_hall_63 : decode cX10_hall 63 = .ok (.iconst 0, 1) := by decide +kernel
theorem d_X10_hall_64 : decode cX10_hall 64 = .ok (.putfield 244, 3) := by decide +kernel
theorem d_X10_hall_67 : decode cX10_hall 67 = .ok (.aload_n 0, 1) := by decide +kernel
theorem d_X10_hall_68 : decode cX10_hall 68 = .ok (.iconst 0, 1) := by decide +kernel
theorem d_X10_hall_69 : decode cX10_hall 69 = .ok (.putfield 212, 3) := by decide +kernel
theorem d_X10_hall_72 : decode cX10_hall 72 = .ok (.aload_n 0, 1) := by decide +kernel
theorem d_X10_hall_73 : decode cX10_hall 73 = .ok (.iconst 0, 1) := by decide +kernel
theorem d_X10_hall_74 : decode cX10_hall 74 = .ok (.putfield 219, 3) := by decide +kernel
theorem d_X10_hall_77 : decode cX10_hall 77 = .ok (.aload_n 0, 1) := by decide +kernel
theorem d_X10_hall_78 : decode cX10_hall 78 = .ok (.iconst 0, 1) := by decide +kernel
theorem d_X10_hall_79 : decode cX10_hall 79 = .ok (.putfield 222, 3) := by decide +kernel
theorem d_X10_hall_82 : decode cX10_hall 82 = .ok (.aload_n 0, 1) := by decide +kernel
theorem d_X10_hall_83 : decode cX10_hall 83 = .ok (.iconst 0, 1) := by decide +kernel
theorem d_X10_hall_84 : decode cX10_hall 84 = .ok (.putfield 247, 3) := by decide +kernel
theorem d_X10_hall_87 : decode cX10_hall 87 = .ok (.aload_n 0, 1) := by decide +kernel
theorem d_X10_hall_88 : decode cX10_hall 88 = .ok (.iconst 0, 1) := by decide +kernel
theorem d_X10_hall_89 : decode cX10_hall 89 = .ok (.putfield 238, 3) := by decide +kernel
theorem d_X10_hall_92 : decode cX10_hall 92 = .ok (.iconst 0, 1) := by decide +kernel
theorem d_X10_hall_93 : decode cX10_hall 93 = .ok (.istore_n 2, 1) := by decide +kernel
theorem d_X10_hall_94 : decode cX10_hall 94 = .ok (.iload_n 2, 1) := by decide +kernel
theorem d_X10_hall_95 : decode cX10_hall 95 = .ok (.iconst 5, 1) := by decide +kernel
theorem d_X10_hall_96 : decode cX10_hall 96 = .ok (.if_icmp .ge 16, 3) := by decide +kernel
theorem d_X10_hall_99 : decode cX10_hall 99 = .ok (.aload_n 0, 1) := by decide +kernel
theorem d_X10_hall_100 : decode cX10_hall 100 = .ok (.getfield 44, 3) := by decide +kernel
theorem d_X10_hall_103 : decode cX10_hall 103 = .ok (.iload_n 2, 1) := by decide +kernel
theorem d_X10_hall_104 : decode cX10_hall 104 = .ok (.iconst (-1), 1) := by decide +kernel
theorem d_X10_hall_105 : decode cX10_hall 105 = .ok (.iastore, 1) := by decide +kernel
theorem d_X10_hall_106 : decode cX10_hall 106 = .ok (.iinc 2 1, 3) := by decide +kernel
theorem d_X10_hall_109 : decode cX10_hall 109 = .ok (.goto (-15), 3) := by decide +kernel
theorem d_X10_hall_112 : decode cX10_hall 112 = .ok (.aload_n 0, 1) := by decide +kernel
theorem d_X10_hall_113 : decode cX10_hall 113 = .ok (.invokevirtual 191, 3) := by decide +kernel
theorem d_X10_hall_116 : decode cX10_hall 116 = .ok (.aload_n 0, 1) := by decide +kernel
theorem d_X10_hall_117 : decode cX10_hall 117 = .ok (.invokevirtual 187, 3) := by decide +kernel
theorem d_X10_hall_120 : decode cX10_hall 120 = .ok (.ifCond .eq 17, 3) := by decide +kernel
theorem d_X10_hall_123 : decode cX10_hall 123 = .ok (.aload_n 0, 1) := by decide +kernel
theorem d_X10_hall_124 : decode cX10_hall 124 = .ok (.getfield 163, 3) := by decide +kernel
theorem d_X10_hall_127 : decode cX10_hall 127 = .ok (.ifCond .eq 10, 3) := by decide +kernel
theorem d_X10_hall_130 : decode cX10_hall 130 = .ok (.aload_n 0, 1) := by decide +kernel
theorem d_X10_hall_131 : decode cX10_hall 131 = .ok (.invokevirtual 257, 3) := by decide +kernel
theorem d_X10_hall_134 : decode cX10_hall 134 = .ok (.goto (-18), 3) := by decide +kernel
theorem d_X10_hall_137 : decode cX10_hall 137 = .ok (.aload_n 0, 1) := by decide +kernel
theorem d_X10_hall_138 : decode cX10_hall 138 = .ok (.invokevirtual 187, 3) := by decide +kernel
theorem d_X10_hall_141 : decode cX10_hall 141 = .ok (.ifCond .ne 18, 3) := by decide +kernel
theorem d_X10_hall_144 : decode cX10_hall 144 = .ok (.aload_n 0, 1) := by decide +kernel
theorem d_X10_hall_145 : decode cX10_hall 145 = .ok (.getfield 32, 3) := by decide +kernel
theorem d_X10_hall_148 : decode cX10_hall 148 = .ok (.iconst 0, 1) := by decide +kernel
theorem d_X10_hall_149 : decode cX10_hall 149 = .ok (.dup2, 1) := by decide +kernel
theorem d_X10_hall_150 : decode cX10_hall 150 = .ok (.iaload, 1) := by decide +kernel
theorem d_X10_hall_151 : decode cX10_hall 151 = .ok (.iconst 1, 1) := by decide +kernel
theorem d_X10_hall_152 : decode cX10_hall 152 = .ok (.iadd, 1) := by decide +kernel
theorem d_X10_hall_153 : decode cX10_hall 153 = .ok (.iastore, 1) := by decide +kernel
theorem d_X10_hall_154 : decode cX10_hall 154 = .ok (.aload_n 0, 1) := by decide +kernel
theorem d_X10_hall_155 : decode cX10_hall 155 = .ok (.getfield 184, 3) := by decide +kernel
theorem d_X10_hall_158 : decode cX10_hall 158 = .ok (.ireturn, 1) := by decide +kernel
theorem d_X10_hall_159 : decode cX10_hall 159 = .ok (.aload_n 0, 1) := by decide +kernel
theorem d_X10_hall_160 : decode cX10_hall 160 = .ok (.aload_n 0, 1) := by decide +kernel
theorem d_X10_hall_161 : decode cX10_hall 161 = .ok (.getfield 241, 3) := by decide +kernel
theorem d_X10_hall_164 : decode cX10_hall 164 = .ok (.putfield 7, 3) := by decide +kernel
theorem d_X10_hall_167 : decode cX10_hall 167 = .ok (.aload_n 0, 1) := by decide +kernel
theorem d_X10_hall_168 : decode cX10_hall 168 = .ok (.aload_n 0, 1) := by decide +kernel
theorem d_X10_hall_169 : decode cX10_hall 169 = .ok (.getfield 244, 3) := by decide +kernel
theorem d_X10_hall_172 : decode cX10_hall 172 = .ok (.putfield 259, 3) := by decide +kernel
theorem d_X10_hall_175 : decode cX10_hall 175 = .ok (.aload_n 0, 1) := by decide +kernel
theorem d_X10_hall_176 : decode cX10_hall 176 = .ok (.aload_n 0, 1) := by decide +kernel
theorem d_X10_hall_177 : decode cX10_hall 177 = .ok (.getfield 212, 3) := by decide +kernel
theorem d_X10_hall_180 : decode cX10_hall 180 = .ok (.putfield 262, 3) := by decide +kernel
theorem d_X10_hall_183 : decode cX10_hall 183 = .ok (.aload_n 0, 1) := by decide +kernel
theorem d_X10_hall_184 : decode cX10_hall 184 = .ok (.aload_n 0, 1) := by decide +kernel
theorem d_X10_hall_185 : decode cX10_hall 185 = .ok (.getfield 219, 3) := by decide +kernel
theorem d_X10_hall_188 : decode cX10_hall 188 = .ok (.putfield 265, 3) := by decide +kernel
theorem d_X10_hall_191 : decode cX10_hall 191 = .ok (.aload_n 0, 1) := by decide +kernel
theorem d_X10_hall_192 : decode cX10_hall 192 = .ok (.aload_n 0, 1) := by decide +kernel
theorem d_X10_hall_193 : decode cX10_hall 193 = .ok (.getfield 222, 3) := by decide +kernel
theorem d_X10_hall_196 : decode cX10_hall 196 = .ok (.putfield 268, 3) := by decide +kernel
theorem d_X10_hall_199 : decode cX10_hall 199 = .ok (.aload_n 0, 1) := by decide +kernel
theorem d_X10_hall_200 : decode cX10_hall 200 = .ok (.aload_n 0, 1) := by decide +kernel
theorem d_X10_hall_201 : decode cX10_hall 201 = .ok (.getfield 247, 3) := by decide +kernel
theorem d_X10_hall_204 : decode cX10_hall 204 = .ok (.putfield 271, 3) := by decide +kernel
theorem d_X10_hall_207 : decode cX10_hall 207 = .ok (.aload_n 0, 1) := by decide +kernel
theorem d_X10_hall_208 : decode cX10_hall 208 = .ok (.aload_n 0, 1) := by decide +kernel
theorem d_X10_hall_209 : decode cX10_hall 209 = .ok (.getfield 35, 3) := by decide +kernel
theorem d_X10_hall_212 : decode cX10_hall 212 = .ok (.aload_n 0, 1) := by decide +kernel
theorem d_X10_hall_213 : decode cX10_hall 213 = .ok (.getfield 13, 3) := by decide +kernel
theorem d_X10_hall_216 : decode cX10_hall 216 = .ok (.invokevirtual 274, 3) := by decide +kernel
theorem d_X10_hall_219 : decode cX10_hall 219 = .ok (.aload_n 0, 1) := by decide +kernel
theorem d_X10_hall_220 : decode cX10_hall 220 = .ok (.aload_n 0, 1) := by decide +kernel
theorem d_X10_hall_221 : decode cX10_hall 221 = .ok (.getfield 38, 3) := by decide +kernel
theorem d_X10_hall_224 : decode cX10_hall 224 = .ok (.aload_n 0, 1) := by decide +kernel
theorem d_X10_hall_225 : decode cX10_hall 225 = .ok (.getfield 17, 3) := by decide +kernel
theorem d_X10_hall_228 : decode cX10_hall 228 = .ok (.invokevirtual 274, 3) := by decide +kernel
theorem d_X10_hall_231 : decode cX10_hall 231 = .ok (.aload_n 0, 1) := by decide +kernel
theorem d_X10_hall_232 : decode cX10_hall 232 = .ok (.aload_n 0, 1) := by decide +kernel
theorem d_X10_hall_233 : decode cX10_hall 233 = .ok (.getfield 41, 3) := by decide +kernel
theorem d_X10_hall_236 : decode cX10_hall 236 = .ok (.aload_n 0, 1) := by decide +kernel
theorem d_X10_hall_237 : decode cX10_hall 237 = .ok (.getfield 20, 3) := by decide +kernel
theorem d_X10_hall_240 : decode cX10_hall 240 = .ok (.invokevirtual 274, 3) := by decide +kernel
theorem d_X10_hall_243 : decode cX10_hall 243 = .ok (.aload_n 0, 1) := by decide +kernel
theorem d_X10_hall_244 : decode cX10_hall 244 = .ok (.aload_n 0, 1) := by decide +kernel
theorem d_X10_hall_245 : decode cX10_hall 245 = .ok (.getfield 44, 3) := by decide +kernel
theorem d_X10_hall_248 : decode cX10_hall 248 = .ok (.aload_n 0, 1) := by decide +kernel
theorem d_X10_hall_249 : decode cX10_hall 249 = .ok (.getfield 23, 3) := by decide +kernel
theorem d_X10_hall_252 : decode cX10_hall 252 = .ok (.invokevirtual 274, 3) := by decide +kernel
theorem d_X10_hall_255 : decode cX10_hall 255 = .ok (.aload_n 0, 1) := by decide +kernel
theorem d_X10_hall_256 : decode cX10_hall 256 = .ok (.iconst 0, 1) := by decide +kernel
theorem d_X10_hall_257 : decode cX10_hall 257 = .ok (.putfield 278, 3) := by decide +kernel
theorem d_X10_hall_260 : decode cX10_hall 260 = .ok (.aload_n 0, 1) := by decide +kernel
theorem d_X10_hall_261 : decode cX10_hall 261 = .ok (.iconst (-1), 1) := by decide +kernel
theorem d_X10_hall_262 : decode cX10_hall 262 = .ok (.putfield 82, 3) := by decide +kernel
theorem d_X10_hall_265 : decode cX10_hall 265 = .ok (.aload_n 0, 1) := by decide +kernel
theorem d_X10_hall_266 : decode cX10_hall 266 = .ok (.iconst (-1), 1) := by decide +kernel
theorem d_X10_hall_267 : decode cX10_hall 267 = .ok (.putfield 94, 3) := by decide +kernel
theorem d_X10_hall_270 : decode cX10_hall 270 = .ok (.aload_n 0, 1) := by decide +kernel
theorem d_X10_hall_271 : decode cX10_hall 271 = .ok (.iconst 0, 1) := by decide +kernel
theorem d_X10_hall_272 : decode cX10_hall 272 = .ok (.putfield 282, 3) := by decide +kernel
theorem d_X10_hall_275 : decode cX10_hall 275 = .ok (.aload_n 0, 1) := by decide +kernel
theorem d_X10_hall_276 : decode cX10_hall 276 = .ok (.iconst 0, 1) := by decide +kernel
theorem d_X10_hall_277 : decode cX10_hall 277 = .ok (.putfield 285, 3) := by decide +kernel
theorem d_X10_hall_280 : decode cX10_hall 280 = .ok (.iconst 0, 1) := by decide +kernel
theorem d_X10_hall_281 : decode cX10_hall 281 = .ok (.istore_n 2, 1) := by decide +kernel
theorem d_X10_hall_282 : decode cX10_hall 282 = .ok (.iload_n 2, 1) := by decide +kernel
theorem d_X10_hall_283 : decode cX10_hall 283 = .ok (.aload_n 0, 1) := by decide +kernel
theorem d_X10_hall_284 : decode cX10_hall 284 = .ok (.getfield 265, 3) := by decide +kernel
theorem d_X10_hall_287 : decode cX10_hall 287 = .ok (.if_icmp .ge 28, 3) := by decide +kernel
theorem d_X10_hall_290 : decode cX10_hall 290 = .ok (.iconst 0, 1) := by decide +kernel
theorem d_X10_hall_291 : decode cX10_hall 291 = .ok (.istore_n 3, 1) := by decide +kernel
theorem d_X10_hall_292 : decode cX10_hall 292 = .ok (.iload_n 3, 1) := by decide +kernel
theorem d_X10_hall_293 : decode cX10_hall 293 = .ok (.iconst 5, 1) := by decide +kernel
theorem d_X10_hall_294 : decode cX10_hall 294 = .ok (.if_icmp .ge 15, 3) := by decide +kernel
theorem d_X10_hall_297 : decode cX10_hall 297 = .ok (.aload_n 0, 1) := by decide +kernel
theorem d_X10_hall_298 : decode cX10_hall 298 = .ok (.iload_n 2, 1) := by decide +kernel
theorem d_X10_hall_299 : decode cX10_hall 299 = .ok (.iload_n 3, 1) := by decide +kernel
theorem d_X10_hall_300 : decode cX10_hall 300 = .ok (.invokevirtual 288, 3) := by decide +kernel
theorem d_X10_hall_303 : decode cX10_hall 303 = .ok (.iinc 3 1, 3) := by decide +kernel
theorem d_X10_hall_306 : decode cX10_hall 306 = .ok (.goto (-14), 3) := by decide +kernel
theorem d_X10_hall_309 : decode cX10_hall 309 = .ok (.iinc 2 1, 3) := by decide +kernel
theorem d_X10_hall_312 : decode cX10_hall 312 = .ok (.goto (-30), 3) := by decide +kernel
theorem d_X10_hall_315 : decode cX10_hall 315 = .ok (.iconst 0, 1) := by decide +kernel
theorem d_X10_hall_316 : decode cX10_hall 316 = .ok (.ireturn, 1) := by decide +kernel
def l_X10_hall_94 (s : Int32) (h : AH) : Option ((Int32 ⊕ Unit) × AH) := if 5 ≤ s then some (.inr (), h) else bd (stI h 250 s (-1)) fun m2 => some (.inl (s + 1), m2)
theorem tb_X10_hall_94 {g : GP} {X : MX} {mcR msR : Nat} (hF : gF g = true) (hX : Cx g RX10 cX10_hall 8 mcR msR (some .int) [] X) {Q : State → Prop} {s : Int32} {d1 : Value} {d3 : Value} {h hz : AH} {z : (Int32 ⊕ Unit)} (e : l_X10_hall_94 s h = some (z, hz)) (kI : ∀ (s2 : Int32) (xd1 : Value) (xd3 : Value), z = .inl s2 → AR g X 0 0 Q hz 94 [.ref 240, xd1, .int s2, xd3] []) (kE0 : ∀ (yy : Unit) (y1 : Value) (y2 : Value) (y3 : Value), z = .inr yy → AR g X 0 0 Q hz 112 [.ref 240, y1, y2, y3] []) : AR g X 0 0 Q h 94 [.ref 240, d1, .int s, d3] [] := by
  unfold l_X10_hall_94 at e
  refine aw_iload_n (i := 2) hX rfl rfl d_X10_hall_94 ?_
  refine aw_iconst (v := 5) hX (by decide) d_X10_hall_95 ?_
  refine aw_icmp_ge (t := 112) hX (by decide) d_X10_hall_96 (fun c => ?_) (fun c => ?_)
  · rw [if_pos c] at e
    cases e
    exact kE0 () _ _ _ rfl
  · rw [if_neg c] at e
    refine aw_aload_n (i := 0) hX rfl rfl d_X10_hall_99 ?_
    refine ar_getF hX hF fg_RX10_44 rfl d_X10_hall_100 ?_
    show AR g X 0 0 _ _ 103 _ [.ref 250]
    refine aw_iload_n (i := 2) hX rfl rfl d_X10_hall_103 ?_
    refine aw_iconst (v := (-1)) hX (by decide) d_X10_hall_104 ?_
    obtain ⟨m2, f_1188, e_1188⟩ := bd_some e
    clear e
    refine ar_iastore hX f_1188 d_X10_hall_105 ?_
    refine aw_iinc (i := 2) (lv2 := [.ref 240, _, .int (s + 1), d3]) hX rfl rfl rfl rfl d_X10_hall_106 ?_
    refine aw_goto (t := 94) hX (by decide) d_X10_hall_109 ?_
    cases e_1188
    exact kI (s + 1) _ _ rfl
theorem ti_X10_hall_94 {g : GP} {X : MX} {mcR msR : Nat} (hF : gF g = true) (hX : Cx g RX10 cX10_hall 8 mcR msR (some .int) [] X) {Q : State → Prop} {y : Unit} {hz : AH} (kE0 : ∀ (y_1 : Value) (y_2 : Value) (y_3 : Value), AR g X 0 0 Q hz 112 [.ref 240, y_1, y_2, y_3] []) (n : Nat) : ∀ (s : Int32) (d1 : Value) (d3 : Value) (h : AH), lpH (l_X10_hall_94) n s h = some (y, hz) → AR g X 0 0 Q h 94 [.ref 240, d1, .int s, d3] [] := by
  induction n with
  | zero => intro s d1 d3 h e; cases e
  | succ n ih =>
    intro s d1 d3 h e
    obtain ⟨x, h1, e1, e2⟩ := lpH_succ e
    rcases e2 with ⟨s2, rfl, e3⟩ | ⟨rfl, rfl⟩
    · exact tb_X10_hall_94 hF hX e1 (fun s3 x0 x1 hs => by cases hs; exact ih _ _ _ _ e3) (fun yy x0 x1 x2 hy => by cases hy)
    · exact tb_X10_hall_94 hF hX e1 (fun s3 x0 x1 hs => by cases hs) (fun yy x0 x1 x2 hy => by cases hy; exact kE0 x0 x1 x2)
theorem t_X10_hall_94 {g : GP} {X : MX} {mcR msR : Nat} (hF : gF g = true) (hX : Cx g RX10 cX10_hall 8 mcR msR (some .int) [] X) {Q : State → Prop} {s : Int32} {d1 : Value} {d3 : Value} {h hz : AH} {n : Nat} {y : Unit} (e : lpH (l_X10_hall_94) n s h = some (y, hz)) (kE0 : ∀ (y_1 : Value) (y_2 : Value) (y_3 : Value), AR g X 0 0 Q hz 112 [.ref 240, y_1, y_2, y_3] []) : AR g X 0 0 Q h 94 [.ref 240, d1, .int s, d3] [] := ti_X10_hall_94 hF hX kE0 n _ _ _ _ e
def l_X10_hall_116 (s : Unit) (h : AH) : Option ((Unit ⊕ Unit) × AH) := bd (s_X10_isGood h) fun x6 => if x6 = 0 then some (.inr (), h) else if (gI h 240 18) = 0 then some (.inr (), h) else bd (s_X10_line h) fun q7 => some (.inl (), q7.2)
theorem tb_X10_hall_116 {g : GP} {X : MX} {mcR msR : Nat} (hF : gF g = true) (hX : Cx g RX10 cX10_hall 8 mcR msR (some .int) [] X) {Q : State → Prop} {s : Unit} {d1 : Value} {d2 : Value} {d3 : Value} {h hz : AH} {z : (Unit ⊕ Unit)} (e : l_X10_hall_116 s h = some (z, hz)) (kI : ∀ (s2 : Unit) (xd1 : Value) (xd2 : Value) (xd3 : Value), z = .inl s2 → AR g X 0 0 Q hz 116 [.ref 240, xd1, xd2, xd3] []) (kE0 : ∀ (yy : Unit) (y1 : Value) (y2 : Value) (y3 : Value), z = .inr yy → AR g X 0 0 Q hz 137 [.ref 240, y1, y2, y3] []) : AR g X 0 0 Q h 116 [.ref 240, d1, d2, d3] [] := by
  unfold l_X10_hall_116 at e
  refine aw_aload_n (i := 0) hX rfl rfl d_X10_hall_116 ?_
  obtain ⟨x6, f_1189, e_1189⟩ := bd_some e
  clear e
  refine aw_callV (b := 240) (av := []) (avr := []) hX (k_X10_isGood (cx_g hX) hF f_1189) mi_X10_isGood rfl rfl w_661 w_662 w_663 (by decide) rfl (LAY_lt rfl (by decide)) rfl rfl (Nat.le_of_ble_eq_true rfl) (Nat.zero_le _) (Nat.zero_le _) d_X10_hall_117 ?_
  refine aw_if_eq (t := 137) hX (by decide) d_X10_hall_120 (fun c => ?_) (fun c => ?_)
  · rw [if_pos c] at e_1189
    cases e_1189
    exact kE0 () _ _ _ rfl
  · rw [if_neg c] at e_1189
    refine aw_aload_n (i := 0) hX rfl rfl d_X10_hall_123 ?_
    refine ar_getI hX fg_RX10_163 rfl d_X10_hall_124 ?_
    refine aw_if_eq (t := 137) hX (by decide) d_X10_hall_127 (fun c => ?_) (fun c => ?_)
    · rw [if_pos c] at e_1189
      cases e_1189
      exact kE0 () _ _ _ rfl
    · rw [if_neg c] at e_1189
      refine aw_aload_n (i := 0) hX rfl rfl d_X10_hall_130 ?_
      obtain ⟨q7, f_1190, e_1190⟩ := bd_some e_1189
      clear e_1189
      refine aw_callV (b := 240) (av := []) (avr := []) hX (k_X10_line (cx_g hX) hF f_1190) mi_X10_line rfl rfl w_776 w_777 w_778 (by decide) rfl (LAY_lt rfl (by decide)) rfl rfl (Nat.le_of_ble_eq_true rfl) (Nat.zero_le _) (Nat.zero_le _) d_X10_hall_131 ?_
      refine aw_goto (t := 116) hX (by decide) d_X10_hall_134 ?_
      cases e_1190
      exact kI () _ _ _ rfl
theorem ti_X10_hall_116 {g : GP} {X : MX} {mcR msR : Nat} (hF : gF g = true) (hX : Cx g RX10 cX10_hall 8 mcR msR (some .int) [] X) {Q : State → Prop} {y : Unit} {hz : AH} (kE0 : ∀ (y_1 : Value) (y_2 : Value) (y_3 : Value), AR g X 0 0 Q hz 137 [.ref 240, y_1, y_2, y_3] []) (n : Nat) : ∀ (s : Unit) (d1 : Value) (d2 : Value) (d3 : Value) (h : AH), lpH (l_X10_hall_116) n s h = some (y, hz) → AR g X 0 0 Q h 116 [.ref 240, d1, d2, d3] [] := by
  induction n with
  | zero => intro s d1 d2 d3 h e; cases e
  | succ n ih =>
    intro s d1 d2 d3 h e
    obtain ⟨x, h1, e1, e2⟩ := lpH_succ e
    rcases e2 with ⟨s2, rfl, e3⟩ | ⟨rfl, rfl⟩
    · exact tb_X10_hall_116 hF hX e1 (fun s3 x0 x1 x2 hs => by cases hs; exact ih _ _ _ _ _ e3) (fun yy x0 x1 x2 hy => by cases hy)
    · exact tb_X10_hall_116 hF hX e1 (fun s3 x0 x1 x2 hs => by cases hs) (fun yy x0 x1 x2 hy => by cases hy; exact kE0 x0 x1 x2)
theorem t_X10_hall_116 {g : GP} {X : MX} {mcR msR : Nat} (hF : gF g = true) (hX : Cx g RX10 cX10_hall 8 mcR msR (some .int) [] X) {Q : State → Prop} {s : Unit} {d1 : Value} {d2 : Value} {d3 : Value} {h hz : AH} {n : Nat} {y : Unit} (e : lpH (l_X10_hall_116) n s h = some (y, hz)) (kE0 : ∀ (y_1 : Value) (y_2 : Value) (y_3 : Value), AR g X 0 0 Q hz 137 [.ref 240, y_1, y_2, y_3] []) : AR g X 0 0 Q h 116 [.ref 240, d1, d2, d3] [] := ti_X10_hall_116 hF hX kE0 n _ _ _ _ _ e
def l_X10_hall_292 (p2 : Int32) (s : Int32) (h : AH) : Option ((Int32 ⊕ Unit) × AH) := if 5 ≤ s then some (.inr (), h) else bd (s_X10_works p2 s h) fun q15 => some (.inl (s + 1), q15.2)
theorem tb_X10_hall_292 {g : GP} {X : MX} {mcR msR : Nat} (hF : gF g = true) (hX : Cx g RX10 cX10_hall 8 mcR msR (some .int) [] X) {Q : State → Prop} {p2 : Int32} {s : Int32} {d1 : Value} {h hz : AH} {z : (Int32 ⊕ Unit)} (e : l_X10_hall_292 p2 s h = some (z, hz)) (kI : ∀ (s2 : Int32) (xd1 : Value), z = .inl s2 → AR g X 0 0 Q hz 292 [.ref 240, xd1, .int p2, .int s2] []) (kE0 : ∀ (yy : Unit) (y1 : Value) (y3 : Value), z = .inr yy → AR g X 0 0 Q hz 309 [.ref 240, y1, .int p2, y3] []) : AR g X 0 0 Q h 292 [.ref 240, d1, .int p2, .int s] [] := by
  unfold l_X10_hall_292 at e
  refine aw_iload_n (i := 3) hX rfl rfl d_X10_hall_292 ?_
  refine aw_iconst (v := 5) hX (by decide) d_X10_hall_293 ?_
  refine aw_icmp_ge (t := 309) hX (by decide) d_X10_hall_294 (fun c => ?_) (fun c => ?_)
  · rw [if_pos c] at e
    cases e
    exact kE0 () _ _ rfl
  · rw [if_neg c] at e
    refine aw_aload_n (i := 0) hX rfl rfl d_X10_hall_297 ?_
    refine aw_iload_n (i := 2) hX rfl rfl d_X10_hall_298 ?_
    refine aw_iload_n (i := 3) hX rfl rfl d_X10_hall_299 ?_
    obtain ⟨q15, f_1191, e_1191⟩ := bd_some e
    clear e
    refine aw_callV (b := 240) (av := [.int p2, .int s]) (avr := [.int s, .int p2]) hX (k_X10_works (cx_g hX) hF f_1191) mi_X10_works rfl rfl w_795 w_796 w_797 (by decide) rfl (LAY_lt rfl (by decide)) rfl rfl (Nat.le_of_ble_eq_true rfl) (Nat.zero_le _) (Nat.zero_le _) d_X10_hall_300 ?_
    refine aw_iinc (i := 3) (lv2 := [.ref 240, d1, .int p2, .int (s + 1)]) hX rfl rfl rfl rfl d_X10_hall_303 ?_
    refine aw_goto (t := 292) hX (by decide) d_X10_hall_306 ?_
    cases e_1191
    exact kI (s + 1) _ rfl
theorem ti_X10_hall_292 {g : GP} {X : MX} {mcR msR : Nat} (hF : gF g = true) (hX : Cx g RX10 cX10_hall 8 mcR msR (some .int) [] X) {Q : State → Prop} {p2 : Int32} {y : Unit} {hz : AH} (kE0 : ∀ (y_1 : Value) (y_3 : Value), AR g X 0 0 Q hz 309 [.ref 240, y_1, .int p2, y_3] []) (n : Nat) : ∀ (s : Int32) (d1 : Value) (h : AH), lpH (l_X10_hall_292 p2) n s h = some (y, hz) → AR g X 0 0 Q h 292 [.ref 240, d1, .int p2, .int s] [] := by
  induction n with
  | zero => intro s d1 h e; cases e
  | succ n ih =>
    intro s d1 h e
    obtain ⟨x, h1, e1, e2⟩ := lpH_succ e
    rcases e2 with ⟨s2, rfl, e3⟩ | ⟨rfl, rfl⟩
    · exact tb_X10_hall_292 hF hX e1 (fun s3 x0 hs => by cases hs; exact ih _ _ _ e3) (fun yy x0 x1 hy => by cases hy)
    · exact tb_X10_hall_292 hF hX e1 (fun s3 x0 hs => by cases hs) (fun yy x0 x1 hy => by cases hy; exact kE0 x0 x1)
theorem t_X10_hall_292 {g : GP} {X : MX} {mcR msR : Nat} (hF : gF g = true) (hX : Cx g RX10 cX10_hall 8 mcR msR (some .int) [] X) {Q : State → Prop} {p2 : Int32} {s : Int32} {d1 : Value} {h hz : AH} {n : Nat} {y : Unit} (e : lpH (l_X10_hall_292 p2) n s h = some (y, hz)) (kE0 : ∀ (y_1 : Value) (y_3 : Value), AR g X 0 0 Q hz 309 [.ref 240, y_1, .int p2, y_3] []) : AR g X 0 0 Q h 292 [.ref 240, d1, .int p2, .int s] [] := ti_X10_hall_292 hF hX kE0 n _ _ _ e
def l_X10_hall_282 (s : Int32) (h : AH) : Option ((Int32 ⊕ Unit) × AH) := if (gI h 240 4) ≤ s then some (.inr (), h) else bd (lpH (l_X10_hall_292 s) FU 0 h) fun y16 => some (.inl (s + 1), y16.2)
theorem tb_X10_hall_282 {g : GP} {X : MX} {mcR msR : Nat} (hF : gF g = true) (hX : Cx g RX10 cX10_hall 8 mcR msR (some .int) [] X) {Q : State → Prop} {s : Int32} {d1 : Value} {d3 : Value} {h hz : AH} {z : (Int32 ⊕ Unit)} (e : l_X10_hall_282 s h = some (z, hz)) (kI : ∀ (s2 : Int32) (xd1 : Value) (xd3 : Value), z = .inl s2 → AR g X 0 0 Q hz 282 [.ref 240, xd1, .int s2, xd3] []) (kE0 : ∀ (yy : Unit) (y0 : Value) (y1 : Value) (y2 : Value) (y3 : Value), z = .inr yy → AR g X 0 0 Q hz 315 [y0, y1, y2, y3] []) : AR g X 0 0 Q h 282 [.ref 240, d1, .int s, d3] [] := by
  unfold l_X10_hall_282 at e
  refine aw_iload_n (i := 2) hX rfl rfl d_X10_hall_282 ?_
  refine aw_aload_n (i := 0) hX rfl rfl d_X10_hall_283 ?_
  refine ar_getI hX fg_RX10_265 rfl d_X10_hall_284 ?_
  refine aw_icmp_ge (t := 315) hX (by decide) d_X10_hall_287 (fun c => ?_) (fun c => ?_)
  · rw [if_pos c] at e
    cases e
    exact kE0 () _ _ _ _ rfl
  · rw [if_neg c] at e
    refine aw_iconst (v := 0) hX (by decide) d_X10_hall_290 ?_
    refine aw_istore_n (i := 3) (lv2 := [.ref 240, d1, .int s, .int 0]) hX rfl rfl rfl d_X10_hall_291 ?_
    obtain ⟨y16, f_1192, e_1192⟩ := bd_some e
    clear e
    refine t_X10_hall_292 hF hX f_1192 (fun d17_1 d17_3 => ?_)
    refine aw_iinc (i := 2) (lv2 := [.ref 240, _, .int (s + 1), d17_3]) hX rfl rfl rfl rfl d_X10_hall_309 ?_
    refine aw_goto (t := 282) hX (by decide) d_X10_hall_312 ?_
    cases e_1192
    exact kI (s + 1) _ _ rfl
theorem ti_X10_hall_282 {g : GP} {X : MX} {mcR msR : Nat} (hF : gF g = true) (hX : Cx g RX10 cX10_hall 8 mcR msR (some .int) [] X) {Q : State → Prop} {y : Unit} {hz : AH} (kE0 : ∀ (y_0 : Value) (y_1 : Value) (y_2 : Value) (y_3 : Value), AR g X 0 0 Q hz 315 [y_0, y_1, y_2, y_3] []) (n : Nat) : ∀ (s : Int32) (d1 : Value) (d3 : Value) (h : AH), lpH (l_X10_hall_282) n s h = some (y, hz) → AR g X 0 0 Q h 282 [.ref 240, d1, .int s, d3] [] := by
  induction n with
  | zero => intro s d1 d3 h e; cases e
  | succ n ih =>
    intro s d1 d3 h e
    obtain ⟨x, h1, e1, e2⟩ := lpH_succ e
    rcases e2 with ⟨s2, rfl, e3⟩ | ⟨rfl, rfl⟩
    · exact tb_X10_hall_282 hF hX e1 (fun s3 x0 x1 hs => by cases hs; exact ih _ _ _ _ e3) (fun yy x0 x1 x2 x3 hy => by cases hy)
    · exact tb_X10_hall_282 hF hX e1 (fun s3 x0 x1 hs => by cases hs) (fun yy x0 x1 x2 x3 hy => by cases hy; exact kE0 x0 x1 x2 x3)
theorem t_X10_hall_282 {g : GP} {X : MX} {mcR msR : Nat} (hF : gF g = true) (hX : Cx g RX10 cX10_hall 8 mcR msR (some .int) [] X) {Q : State → Prop} {s : Int32} {d1 : Value} {d3 : Value} {h hz : AH} {n : Nat} {y : Unit} (e : lpH (l_X10_hall_282) n s h = some (y, hz)) (kE0 : ∀ (y_0 : Value) (y_1 : Value) (y_2 : Value) (y_3 : Value), AR g X 0 0 Q hz 315 [y_0, y_1, y_2, y_3] []) : AR g X 0 0 Q h 282 [.ref 240, d1, .int s, d3] [] := ti_X10_hall_282 hF hX kE0 n _ _ _ _ e
def j_X10_hall_137 (h : AH) : Option (Int32 × AH) := bd (s_X10_isGood h) fun x10 => if x10 = 0 then bd (ldI h 246 0) fun x20 => bd (stI h 246 0 (x20 + 1)) fun m21 => some ((gI m21 240 13), m21) else bd (s_X10_copies (some 247) (some 241) (sI (sI (sI (sI (sI (sI h 240 1 (gI h 240 23)) 240 2 (gI (sI h 240 1 (gI h 240 23)) 240 24)) 240 3 (gI (sI (sI h 240 1 (gI h 240 23)) 240 2 (gI (sI h 240 1 (gI h 240 23)) 240 24)) 240 25)) 240 4 (gI (sI (sI (sI h 240 1 (gI h 240 23)) 240 2 (gI (sI h 240 1 (gI h 240 23)) 240 24)) 240 3 (gI (sI (sI h 240 1 (gI h 240 23)) 240 2 (gI (sI h 240 1 (gI h 240 23)) 240 24)) 240 25)) 240 26)) 240 5 (gI (sI (sI (sI (sI h 240 1 (gI h 240 23)) 240 2 (gI (sI h 240 1 (gI h 240 23)) 240 24)) 240 3 (gI (sI (sI h 240 1 (gI h 240 23)) 240 2 (gI (sI h 240 1 (gI h 240 23)) 240 24)) 240 25)) 240 4 (gI (sI (sI (sI h 240 1 (gI h 240 23)) 240 2 (gI (sI h 240 1 (gI h 240 23)) 240 24)) 240 3 (gI (sI (sI h 240 1 (gI h 240 23)) 240 2 (gI (sI h 240 1 (gI h 240 23)) 240 24)) 240 25)) 240 26)) 240 27)) 240 6 (gI (sI (sI (sI (sI (sI h 240 1 (gI h 240 23)) 240 2 (gI (sI h 240 1 (gI h 240 23)) 240 24)) 240 3 (gI (sI (sI h 240 1 (gI h 240 23)) 240 2 (gI (sI h 240 1 (gI h 240 23)) 240 24)) 240 25)) 240 4 (gI (sI (sI (sI h 240 1 (gI h 240 23)) 240 2 (gI (sI h 240 1 (gI h 240 23)) 240 24)) 240 3 (gI (sI (sI h 240 1 (gI h 240 23)) 240 2 (gI (sI h 240 1 (gI h 240 23)) 240 24)) 240 25)) 240 26)) 240 5 (gI (sI (sI (sI (sI h 240 1 (gI h 240 23)) 240 2 (gI (sI h 240 1 (gI h 240 23)) 240 24)) 240 3 (gI (sI (sI h 240 1 (gI h 240 23)) 240 2 (gI (sI h 240 1 (gI h 240 23)) 240 24)) 240 25)) 240 4 (gI (sI (sI (sI h 240 1 (gI h 240 23)) 240 2 (gI (sI h 240 1 (gI h 240 23)) 240 24)) 240 3 (gI (sI (sI h 240 1 (gI h 240 23)) 240 2 (gI (sI h 240 1 (gI h 240 23)) 240 24)) 240 25)) 240 26)) 240 27)) 240 28))) fun q11 => bd (s_X10_copies (some 248) (some 242) q11.2) fun q12 => bd (s_X10_copies (some 249) (some 243) q12.2) fun q13 => bd (s_X10_copies (some 250) (some 244) q13.2) fun q14 => bd (lpH (l_X10_hall_282) FU 0 (sI (sI (sI (sI (sI q14.2 240 45 0) 240 48 (-1)) 240 53 (-1)) 240 58 0) 240 59 0)) fun y18 => some (0, y18.2)
theorem tj_X10_hall_137 {g : GP} {X : MX} {mcR msR : Nat} (hF : gF g = true) (hX : Cx g RX10 cX10_hall 8 mcR msR (some .int) [] X) {d1 : Value} {d2 : Value} {d3 : Value} {h hz : AH} {z : Int32} (e : j_X10_hall_137 h = some (z, hz)) : AR g X 0 0 (QQ g X NT false hz (.inl (some (.int z))) 0 0) h 137 [.ref 240, d1, d2, d3] [] := by
  unfold j_X10_hall_137 at e
  refine aw_aload_n (i := 0) hX rfl rfl d_X10_hall_137 ?_
  obtain ⟨x10, f_1193, e_1193⟩ := bd_some e
  clear e
  refine aw_callV (b := 240) (av := []) (avr := []) hX (k_X10_isGood (cx_g hX) hF f_1193) mi_X10_isGood rfl rfl w_661 w_662 w_663 (by decide) rfl (LAY_lt rfl (by decide)) rfl rfl (Nat.le_of_ble_eq_true rfl) (Nat.zero_le _) (Nat.zero_le _) d_X10_hall_138 ?_
  refine aw_if_ne (t := 159) hX (by decide) d_X10_hall_141 (fun c => ?_) (fun c => ?_)
  · rw [if_neg c] at e_1193
    refine aw_aload_n (i := 0) hX rfl rfl d_X10_hall_159 ?_
    refine aw_aload_n (i := 0) hX rfl rfl d_X10_hall_160 ?_
    refine ar_getI hX fg_RX10_241 rfl d_X10_hall_161 ?_
    refine ar_putI hX fp_RX10_7 rfl d_X10_hall_164 ?_
    refine aw_aload_n (i := 0) hX rfl rfl d_X10_hall_167 ?_
    refine aw_aload_n (i := 0) hX rfl rfl d_X10_hall_168 ?_
    refine ar_getI hX fg_RX10_244 rfl d_X10_hall_169 ?_
    refine ar_putI hX fp_RX10_259 rfl d_X10_hall_172 ?_
    refine aw_aload_n (i := 0) hX rfl rfl d_X10_hall_175 ?_
    refine aw_aload_n (i := 0) hX rfl rfl d_X10_hall_176 ?_
    refine ar_getI hX fg_RX10_212 rfl d_X10_hall_177 ?_
    refine ar_putI hX fp_RX10_262 rfl d_X10_hall_180 ?_
    refine aw_aload_n (i := 0) hX rfl rfl d_X10_hall_183 ?_
    refine aw_aload_n (i := 0) hX rfl rfl d_X10_hall_184 ?_
    refine ar_getI hX fg_RX10_219 rfl d_X10_hall_185 ?_
    refine ar_putI hX fp_RX10_265 rfl d_X10_hall_188 ?_
    refine aw_aload_n (i := 0) hX rfl rfl d_X10_hall_191 ?_
    refine aw_aload_n (i := 0) hX rfl rfl d_X10_hall_192 ?_
    refine ar_getI hX fg_RX10_222 rfl d_X10_hall_193 ?_
    refine ar_putI hX fp_RX10_268 rfl d_X10_hall_196 ?_
    refine aw_aload_n (i := 0) hX rfl rfl d_X10_hall_199 ?_
    refine aw_aload_n (i := 0) hX rfl rfl d_X10_hall_200 ?_
    refine ar_getI hX fg_RX10_247 rfl d_X10_hall_201 ?_
    refine ar_putI hX fp_RX10_271 rfl d_X10_hall_204 ?_
    refine aw_aload_n (i := 0) hX rfl rfl d_X10_hall_207 ?_
    refine aw_aload_n (i := 0) hX rfl rfl d_X10_hall_208 ?_
    refine ar_getF hX hF fg_RX10_35 rfl d_X10_hall_209 ?_
    show AR g X 0 0 _ _ 212 _ [.ref 247, .ref 240]
    refine aw_aload_n (i := 0) hX rfl rfl d_X10_hall_212 ?_
    refine ar_getF hX hF fg_RX10_13 rfl d_X10_hall_213 ?_
    show AR g X 0 0 _ _ 216 _ [.ref 241, .ref 247, .ref 240]
    obtain ⟨q11, f_1194, e_1194⟩ := bd_some e_1193
    clear e_1193
    refine aw_callV (b := 240) (av := [.ref 247, .ref 241]) (avr := [.ref 241, .ref 247]) hX (k_X10_copies (cx_g hX) hF f_1194) mi_X10_copies rfl rfl w_784 w_785 w_786 (by decide) rfl (LAY_lt rfl (by decide)) rfl rfl (Nat.le_of_ble_eq_true rfl) (Nat.zero_le _) (Nat.zero_le _) d_X10_hall_216 ?_
    refine aw_aload_n (i := 0) hX rfl rfl d_X10_hall_219 ?_
    refine aw_aload_n (i := 0) hX rfl rfl d_X10_hall_220 ?_
    refine ar_getF hX hF fg_RX10_38 rfl d_X10_hall_221 ?_
    show AR g X 0 0 _ _ 224 _ [.ref 248, .ref 240]
    refine aw_aload_n (i := 0) hX rfl rfl d_X10_hall_224 ?_
    refine ar_getF hX hF fg_RX10_17 rfl d_X10_hall_225 ?_
    show AR g X 0 0 _ _ 228 _ [.ref 242, .ref 248, .ref 240]
    obtain ⟨q12, f_1195, e_1195⟩ := bd_some e_1194
    clear e_1194
    refine aw_callV (b := 240) (av := [.ref 248, .ref 242]) (avr := [.ref 242, .ref 248]) hX (k_X10_copies (cx_g hX) hF f_1195) mi_X10_copies rfl rfl w_784 w_785 w_786 (by decide) rfl (LAY_lt rfl (by decide)) rfl rfl (Nat.le_of_ble_eq_true rfl) (Nat.zero_le _) (Nat.zero_le _) d_X10_hall_228 ?_
    refine aw_aload_n (i := 0) hX rfl rfl d_X10_hall_231 ?_
    refine aw_aload_n (i := 0) hX rfl rfl d_X10_hall_232 ?_
    refine ar_getF hX hF fg_RX10_41 rfl d_X10_hall_233 ?_
    show AR g X 0 0 _ _ 236 _ [.ref 249, .ref 240]
    refine aw_aload_n (i := 0) hX rfl rfl d_X10_hall_236 ?_
    refine ar_getF hX hF fg_RX10_20 rfl d_X10_hall_237 ?_
    show AR g X 0 0 _ _ 240 _ [.ref 243, .ref 249, .ref 240]
    obtain ⟨q13, f_1196, e_1196⟩ := bd_some e_1195
    clear e_1195
    refine aw_callV (b := 240) (av := [.ref 249, .ref 243]) (avr := [.ref 243, .ref 249]) hX (k_X10_copies (cx_g hX) hF f_1196) mi_X10_copies rfl rfl w_784 w_785 w_786 (by decide) rfl (LAY_lt rfl (by decide)) rfl rfl (Nat.le_of_ble_eq_true rfl) (Nat.zero_le _) (Nat.zero_le _) d_X10_hall_240 ?_
    refine aw_aload_n (i := 0) hX rfl rfl d_X10_hall_243 ?_
    refine aw_aload_n (i := 0) hX rfl rfl d_X10_hall_244 ?_
    refine ar_getF hX hF fg_RX10_44 rfl d_X10_hall_245 ?_
    show AR g X 0 0 _ _ 248 _ [.ref 250, .ref 240]
    refine aw_aload_n (i := 0) hX rfl rfl d_X10_hall_248 ?_
    refine ar_getF hX hF fg_RX10_23 rfl d_X10_hall_249 ?_
    show AR g X 0 0 _ _ 252 _ [.ref 244, .ref 250, .ref 240]
    obtain ⟨q14, f_1197, e_1197⟩ := bd_some e_1196
    clear e_1196
    refine aw_callV (b := 240) (av := [.ref 250, .ref 244]) (avr := [.ref 244, .ref 250]) hX (k_X10_copies (cx_g hX) hF f_1197) mi_X10_copies rfl rfl w_784 w_785 w_786 (by decide) rfl (LAY_lt rfl (by decide)) rfl rfl (Nat.le_of_ble_eq_true rfl) (Nat.zero_le _) (Nat.zero_le _) d_X10_hall_252 ?_
    refine aw_aload_n (i := 0) hX rfl rfl d_X10_hall_255 ?_
    refine aw_iconst (v := 0) hX (by decide) d_X10_hall_256 ?_
    refine ar_putZ hX fp_RX10_278 rfl (by decide) d_X10_hall_257 ?_
    refine aw_aload_n (i := 0) hX rfl rfl d_X10_hall_260 ?_
    refine aw_iconst (v := (-1)) hX (by decide) d_X10_hall_261 ?_
    refine ar_putI hX fp_RX10_82 rfl d_X10_hall_262 ?_
    refine aw_aload_n (i := 0) hX rfl rfl d_X10_hall_265 ?_
    refine aw_iconst (v := (-1)) hX (by decide) d_X10_hall_266 ?_
    refine ar_putI hX fp_RX10_94 rfl d_X10_hall_267 ?_
    refine aw_aload_n (i := 0) hX rfl rfl d_X10_hall_270 ?_
    refine aw_iconst (v := 0) hX (by decide) d_X10_hall_271 ?_
    refine ar_putZ hX fp_RX10_282 rfl (by decide) d_X10_hall_272 ?_
    refine aw_aload_n (i := 0) hX rfl rfl d_X10_hall_275 ?_
    refine aw_iconst (v := 0) hX (by decide) d_X10_hall_276 ?_
    refine ar_putZ hX fp_RX10_285 rfl (by decide) d_X10_hall_277 ?_
    refine aw_iconst (v := 0) hX (by decide) d_X10_hall_280 ?_
    refine aw_istore_n (i := 2) (lv2 := [.ref 240, _, .int 0, d3]) hX rfl rfl rfl d_X10_hall_281 ?_
    obtain ⟨y18, f_1198, e_1198⟩ := bd_some e_1197
    clear e_1197
    refine t_X10_hall_282 hF hX f_1198 (fun d19_0 d19_1 d19_2 d19_3 => ?_)
    refine aw_iconst (v := 0) hX (by decide) d_X10_hall_315 ?_
    cases e_1198
    exact aw_ireturn hX (Nat.zero_le _) (Nat.zero_le _) d_X10_hall_316
  · rw [if_pos c] at e_1193
    refine aw_aload_n (i := 0) hX rfl rfl d_X10_hall_144 ?_
    refine ar_getF hX hF fg_RX10_32 rfl d_X10_hall_145 ?_
    show AR g X 0 0 _ _ 148 _ [.ref 246]
    refine aw_iconst (v := 0) hX (by decide) d_X10_hall_148 ?_
    refine aw_dup2 hX rfl rfl d_X10_hall_149 ?_
    obtain ⟨x20, f_1199, e_1199⟩ := bd_some e_1193
    clear e_1193
    refine ar_iaload hX f_1199 d_X10_hall_150 ?_
    refine aw_iconst (v := 1) hX (by decide) d_X10_hall_151 ?_
    refine aw_iadd hX d_X10_hall_152 ?_
    obtain ⟨m21, f_1200, e_1200⟩ := bd_some e_1199
    clear e_1199
    refine ar_iastore hX f_1200 d_X10_hall_153 ?_
    refine aw_aload_n (i := 0) hX rfl rfl d_X10_hall_154 ?_
    refine ar_getI hX fg_RX10_184 rfl d_X10_hall_155 ?_
    cases e_1200
    exact aw_ireturn hX (Nat.zero_le _) (Nat.zero_le _) d_X10_hall_158
def j_X10_hall_23 (v1 : Int32) (k0 : Int32) (h : AH) : Option (Int32 × AH) := bd (s_X10_right k0 1 h) fun q1 => if q1.1 = 0 then some (0, q1.2) else bd (lpH (l_X10_hall_94) FU 0 (sI (sI (sI (sI (sI (sI (sI (sI (sI (sI (sI (sI q1.2 240 12 0) 240 14 (-1)) 240 13 0) 240 16 v1) 240 17 0) 240 23 1) 240 24 0) 240 25 0) 240 26 0) 240 27 0) 240 28 0) 240 29 0)) fun y3 => bd (s_X10_steps y3.2) fun q5 => bd (lpH (l_X10_hall_116) FU () q5.2) fun y8 => j_X10_hall_137 y8.2
theorem tj_X10_hall_23 {g : GP} {X : MX} {mcR msR : Nat} (hF : gF g = true) (hX : Cx g RX10 cX10_hall 8 mcR msR (some .int) [] X) {v1 : Int32} {k0 : Int32} {d2 : Value} {d3 : Value} {h hz : AH} {z : Int32} (e : j_X10_hall_23 v1 k0 h = some (z, hz)) : AR g X 0 0 (QQ g X NT false hz (.inl (some (.int z))) 0 0) h 23 [.ref 240, .int v1, d2, d3] [.int k0, .ref 240] := by
  unfold j_X10_hall_23 at e
  refine aw_iconst (v := 1) hX (by decide) d_X10_hall_23 ?_
  obtain ⟨q1, f_1201, e_1201⟩ := bd_some e
  clear e
  refine aw_callV (b := 240) (av := [.int k0, .int 1]) (avr := [.int 1, .int k0]) hX (k_X10_right (cx_g hX) hF f_1201) mi_X10_right rfl rfl w_772 w_773 w_774 (by decide) rfl (LAY_lt rfl (by decide)) rfl rfl (Nat.le_of_ble_eq_true rfl) (Nat.zero_le _) (Nat.zero_le _) d_X10_hall_24 ?_
  refine aw_if_ne (t := 32) hX (by decide) d_X10_hall_27 (fun c => ?_) (fun c => ?_)
  · rw [if_neg c] at e_1201
    refine aw_aload_n (i := 0) hX rfl rfl d_X10_hall_32 ?_
    refine aw_iconst (v := 0) hX (by decide) d_X10_hall_33 ?_
    refine ar_putI hX fp_RX10_136 rfl d_X10_hall_34 ?_
    refine aw_aload_n (i := 0) hX rfl rfl d_X10_hall_37 ?_
    refine aw_iconst (v := (-1)) hX (by decide) d_X10_hall_38 ?_
    refine ar_putI hX fp_RX10_29 rfl d_X10_hall_39 ?_
    refine aw_aload_n (i := 0) hX rfl rfl d_X10_hall_42 ?_
    refine aw_iconst (v := 0) hX (by decide) d_X10_hall_43 ?_
    refine ar_putI hX fp_RX10_184 rfl d_X10_hall_44 ?_
    refine aw_aload_n (i := 0) hX rfl rfl d_X10_hall_47 ?_
    refine aw_iload_n (i := 1) hX rfl rfl d_X10_hall_48 ?_
    refine ar_putI hX fp_RX10_143 rfl d_X10_hall_49 ?_
    refine aw_aload_n (i := 0) hX rfl rfl d_X10_hall_52 ?_
    refine aw_iconst (v := 0) hX (by decide) d_X10_hall_53 ?_
    refine ar_putI hX fp_RX10_146 rfl d_X10_hall_54 ?_
    refine aw_aload_n (i := 0) hX rfl rfl d_X10_hall_57 ?_
    refine aw_iconst (v := 1) hX (by decide) d_X10_hall_58 ?_
    refine ar_putI hX fp_RX10_241 rfl d_X10_hall_59 ?_
    refine aw_aload_n (i := 0) hX rfl rfl d_X10_hall_62 ?_
    refine aw_iconst (v := 0) hX (by decide) d_X10_hall_63 ?_
    refine ar_putI hX fp_RX10_244 rfl d_X10_hall_64 ?_
    refine aw_aload_n (i := 0) hX rfl rfl d_X10_hall_67 ?_
    refine aw_iconst (v := 0) hX (by decide) d_X10_hall_68 ?_
    refine ar_putI hX fp_RX10_212 rfl d_X10_hall_69 ?_
    refine aw_aload_n (i := 0) hX rfl rfl d_X10_hall_72 ?_
    refine aw_iconst (v := 0) hX (by decide) d_X10_hall_73 ?_
    refine ar_putI hX fp_RX10_219 rfl d_X10_hall_74 ?_
    refine aw_aload_n (i := 0) hX rfl rfl d_X10_hall_77 ?_
    refine aw_iconst (v := 0) hX (by decide) d_X10_hall_78 ?_
    refine ar_putI hX fp_RX10_222 rfl d_X10_hall_79 ?_
    refine aw_aload_n (i := 0) hX rfl rfl d_X10_hall_82 ?_
    refine aw_iconst (v := 0) hX (by decide) d_X10_hall_83 ?_
    refine ar_putI hX fp_RX10_247 rfl d_X10_hall_84 ?_
    refine aw_aload_n (i := 0) hX rfl rfl d_X10_hall_87 ?_
    refine aw_iconst (v := 0) hX (by decide) d_X10_hall_88 ?_
    refine ar_putI hX fp_RX10_238 rfl d_X10_hall_89 ?_
    refine aw_iconst (v := 0) hX (by decide) d_X10_hall_92 ?_
    refine aw_istore_n (i := 2) (lv2 := [.ref 240, .int v1, .int 0, d3]) hX rfl rfl rfl d_X10_hall_93 ?_
    obtain ⟨y3, f_1202, e_1202⟩ := bd_some e_1201
    clear e_1201
    refine t_X10_hall_94 hF hX f_1202 (fun d4_1 d4_2 d4_3 => ?_)
    refine aw_aload_n (i := 0) hX rfl rfl d_X10_hall_112 ?_
    obtain ⟨q5, f_1203, e_1203⟩ := bd_some e_1202
    clear e_1202
    refine aw_callV (b := 240) (av := []) (avr := []) hX (k_X10_steps (cx_g hX) hF f_1203) mi_X10_steps rfl rfl w_669 w_670 w_671 (by decide) rfl (LAY_lt rfl (by decide)) rfl rfl (Nat.le_of_ble_eq_true rfl) (Nat.zero_le _) (Nat.zero_le _) d_X10_hall_113 ?_
    obtain ⟨y8, f_1204, e_1204⟩ := bd_some e_1203
    clear e_1203
    refine t_X10_hall_116 hF hX f_1204 (fun d9_1 d9_2 d9_3 => ?_)
    exact tj_X10_hall_137 hF hX e_1204
  · rw [if_pos c] at e_1201
    refine aw_iconst (v := 0) hX (by decide) d_X10_hall_30 ?_
    cases e_1201
    exact aw_ireturn hX (Nat.zero_le _) (Nat.zero_le _) d_X10_hall_31
def j_X10_hall_22 (v1 : Int32) (h : AH) : Option (Int32 × AH) := j_X10_hall_23 v1 0 h
theorem tj_X10_hall_22 {g : GP} {X : MX} {mcR msR : Nat} (hF : gF g = true) (hX : Cx g RX10 cX10_hall 8 mcR msR (some .int) [] X) {v1 : Int32} {d2 : Value} {d3 : Value} {h hz : AH} {z : Int32} (e : j_X10_hall_22 v1 h = some (z, hz)) : AR g X 0 0 (QQ g X NT false hz (.inl (some (.int z))) 0 0) h 22 [.ref 240, .int v1, d2, d3] [.ref 240] := by
  unfold j_X10_hall_22 at e
  refine aw_iconst (v := 0) hX (by decide) d_X10_hall_22 ?_
  exact tj_X10_hall_23 hF hX e
def s_X10_hall (a0 : Int32) (h : AH) : Option (Int32 × AH) := if a0 < 0 then j_X10_hall_22 a0 (sI h 240 0 0) else if (gI (sI h 240 0 0) 240 12) < a0 then j_X10_hall_22 a0 (sI h 240 0 0) else j_X10_hall_23 a0 1 (sI h 240 0 0)
theorem t_X10_hall {g : GP} {X : MX} {mcR msR : Nat} (hF : gF g = true) (hX : Cx g RX10 cX10_hall 8 mcR msR (some .int) [] X) {a0 : Int32} {h hz : AH} {z : Int32} (e : s_X10_hall a0 h = some (z, hz)) : AR g X 0 0 (QQ g X NT false hz (.inl (some (.int z))) 0 0) h 0 [.ref 240, .int a0, jk, jk] [] := by
  unfold s_X10_hall at e
  refine aw_aload_n (i := 0) hX rfl rfl d_X10_hall_0 ?_
  refine aw_iconst (v := 0) hX (by decide) d_X10_hall_1 ?_
  refine ar_putI hX fp_RX10_133 rfl d_X10_hall_2 ?_
  refine aw_aload_n (i := 0) hX rfl rfl d_X10_hall_5 ?_
  refine aw_iload_n (i := 1) hX rfl rfl d_X10_hall_6 ?_
  refine aw_if_lt (t := 22) hX (by decide) d_X10_hall_7 (fun c => ?_) (fun c => ?_)
  · rw [if_pos c] at e
    exact tj_X10_hall_22 hF hX e
  · rw [if_neg c] at e
    refine aw_iload_n (i := 1) hX rfl rfl d_X10_hall_10 ?_
    refine aw_aload_n (i := 0) hX rfl rfl d_X10_hall_11 ?_
    refine ar_getI hX fg_RX10_136 rfl d_X10_hall_12 ?_
    refine aw_icmp_gt (t := 22) hX (by decide) d_X10_hall_15 (fun c => ?_) (fun c => ?_)
    · rw [if_pos c] at e
      exact tj_X10_hall_22 hF hX e
    · rw [if_neg c] at e
      refine aw_iconst (v := 1) hX (by decide) d_X10_hall_18 ?_
      refine aw_goto (t := 23) hX (by decide) d_X10_hall_19 ?_
      exact tj_X10_hall_23 hF hX e
theorem k_X10_hall {g : GP} (hg : g.1.stackTraces = false) (hF : gF g = true) {a0 : Int32} {h hz : AH} {z : Int32} (e : s_X10_hall a0 h = some (z, hz)) : Ctr g yX10_hall (wsY yX10_hall cX10_hall 4 (some .int)) 8 0 0 [.ref 240, .int a0] NT false h (some (.int z)) NT false hz := ctr_of (lv0 := [.ref 240, .int a0, jk, jk]) rfl rfl (by decide) hg trivial (fun X hX hn => t_X10_hall hF hX e)
theorem d_X10_fault_0 : decode cX10_fault 0 = .ok (.aload_n 0, 1) := by decide +kernel
theorem d_X10_fault_1 : decode cX10_fault 1 = .ok (.iconst 0, 1) := by decide +kernel
theorem d_X10_fault_2 : decode cX10_fault 2 = .ok (.putfield 133, 3) := by decide +kernel
theorem d_X10_fault_5 : decode cX10_fault 5 = .ok (.aload_n 0, 1) := by decide +kernel
theorem d_X10_fault_6 : decode cX10_fault 6 = .ok (.getfield 29, 3) := by decide +kernel
theorem d_X10_fault_9 : decode cX10_fault 9 = .ok (.ireturn, 1) := by decide +kernel
def s_X10_fault (h : AH) : Option (Int32 × AH) := some ((gI (sI h 240 0 0) 240 14), sI h 240 0 0)
theorem t_X10_fault {g : GP} {X : MX} {mcR msR : Nat} (hF : gF g = true) (hX : Cx g RX10 cX10_fault 1 mcR msR (some .int) [] X) {h hz : AH} {z : Int32} (e : s_X10_fault h = some (z, hz)) : AR g X 0 0 (QQ g X NT false hz (.inl (some (.int z))) 0 0) h 0 [.ref 240] [] := by
  unfold s_X10_fault at e
  refine aw_aload_n (i := 0) hX rfl rfl d_X10_fault_0 ?_
  refine aw_iconst (v := 0) hX (by decide) d_X10_fault_1 ?_
  refine ar_putI hX fp_RX10_133 rfl d_X10_fault_2 ?_
  refine aw_aload_n (i := 0) hX rfl rfl d_X10_fault_5 ?_
  refine ar_getI hX fg_RX10_29 rfl d_X10_fault_6 ?_
  cases e
  exact aw_ireturn hX (Nat.zero_le _) (Nat.zero_le _) d_X10_fault_9
theorem k_X10_fault {g : GP} (hg : g.1.stackTraces = false) (hF : gF g = true) {h hz : AH} {z : Int32} (e : s_X10_fault h = some (z, hz)) : Ctr g yX10_fault (wsY yX10_fault cX10_fault 1 (some .int)) 1 0 0 [.ref 240] NT false h (some (.int z)) NT false hz := ctr_of (lv0 := [.ref 240]) rfl rfl (by decide) hg trivial (fun X hX hn => t_X10_fault hF hX e)
theorem d_X10_isKind_0 : decode cX10_isKind 0 = .ok (.aload_n 0, 1) := by decide +kernel
theorem d_X10_isKind_1 : decode cX10_isKind 1 = .ok (.iload_n 1, 1) := by decide +kernel
theorem d_X10_isKind_2 : decode cX10_isKind 2 = .ok (.ifCond .lt 15, 3) := by decide +kernel
theorem d_X10_isKind_5 : decode cX10_isKind 5 = .ok (.iload_n 1, 1) := by decide +kernel
theorem d_X10_isKind_6 : decode cX10_isKind 6 = .ok (.aload_n 0, 1) := by decide +kernel
theorem d_X10_isKind_7 : decode cX10_isKind 7 = .ok (.getfield 265, 3) := by decide +kernel
theorem d_X10_isKind_10 : decode cX10_isKind 10 = .ok (.if_icmp .ge 7, 3) := by decide +kernel
theorem d_X10_isKind_13 : decode cX10_isKind 13 = .ok (.iconst 1, 1) := by decide +kernel
theorem d_X10_isKind_14 : decode cX10_isKind 14 = .ok (.goto 4, 3) := by decide +kernel
theorem d_X10_isKind_17 : decode cX10_isKind 17 = .ok (.iconst 0, 1) := by decide +kernel
theorem d_X10_isKind_18 : decode cX10_isKind 18 = .ok (.iconst 1, 1) := by decide +kernel
theorem d_X10_isKind_19 : decode cX10_isKind 19 = .ok (.invokevirtual 253, 3) := by decide +kernel
theorem d_X10_isKind_22 : decode cX10_isKind 22 = .ok (.ireturn, 1) := by decide +kernel
def j_X10_isKind_18 (k0 : Int32) (h : AH) : Option (Int32 × AH) := bd (s_X10_right k0 1 h) fun q1 => if q1.1 = 0 ∨ q1.1 = 1 then some (q1.1, q1.2) else none
theorem tj_X10_isKind_18 {g : GP} {X : MX} {mcR msR : Nat} (hF : gF g = true) (hX : Cx g RX10 cX10_isKind 2 mcR msR (some .boolean) [] X) {k0 : Int32} {d0 : Value} {d1 : Value} {h hz : AH} {z : Int32} (e : j_X10_isKind_18 k0 h = some (z, hz)) : AR g X 0 0 (QQ g X NT false hz (.inl (some (.int z))) 0 0) h 18 [d0, d1] [.int k0, .ref 240] := by
  unfold j_X10_isKind_18 at e
  refine aw_iconst (v := 1) hX (by decide) d_X10_isKind_18 ?_
  obtain ⟨q1, f_1205, e_1205⟩ := bd_some e
  clear e
  refine aw_callV (b := 240) (av := [.int k0, .int 1]) (avr := [.int 1, .int k0]) hX (k_X10_right (cx_g hX) hF f_1205) mi_X10_right rfl rfl w_772 w_773 w_774 (by decide) rfl (LAY_lt rfl (by decide)) rfl rfl (Nat.le_of_ble_eq_true rfl) (Nat.zero_le _) (Nat.zero_le _) d_X10_isKind_19 ?_
  obtain ⟨hz1, e_1206⟩ := if_some e_1205
  clear e_1205
  cases e_1206
  exact aw_zreturn hX hz1 (Nat.zero_le _) (Nat.zero_le _) d_X10_isKind_22
def j_X10_isKind_17 (h : AH) : Option (Int32 × AH) := j_X10_isKind_18 0 h
theorem tj_X10_isKind_17 {g : GP} {X : MX} {mcR msR : Nat} (hF : gF g = true) (hX : Cx g RX10 cX10_isKind 2 mcR msR (some .boolean) [] X) {d0 : Value} {d1 : Value} {h hz : AH} {z : Int32} (e : j_X10_isKind_17 h = some (z, hz)) : AR g X 0 0 (QQ g X NT false hz (.inl (some (.int z))) 0 0) h 17 [d0, d1] [.ref 240] := by
  unfold j_X10_isKind_17 at e
  refine aw_iconst (v := 0) hX (by decide) d_X10_isKind_17 ?_
  exact tj_X10_isKind_18 hF hX e
def s_X10_isKind (a0 : Int32) (h : AH) : Option (Int32 × AH) := if a0 < 0 then j_X10_isKind_17 h else if (gI h 240 4) ≤ a0 then j_X10_isKind_17 h else j_X10_isKind_18 1 h
theorem t_X10_isKind {g : GP} {X : MX} {mcR msR : Nat} (hF : gF g = true) (hX : Cx g RX10 cX10_isKind 2 mcR msR (some .boolean) [] X) {a0 : Int32} {h hz : AH} {z : Int32} (e : s_X10_isKind a0 h = some (z, hz)) : AR g X 0 0 (QQ g X NT false hz (.inl (some (.int z))) 0 0) h 0 [.ref 240, .int a0] [] := by
  unfold s_X10_isKind at e
  refine aw_aload_n (i := 0) hX rfl rfl d_X10_isKind_0 ?_
  refine aw_iload_n (i := 1) hX rfl rfl d_X10_isKind_1 ?_
  refine aw_if_lt (t := 17) hX (by decide) d_X10_isKind_2 (fun c => ?_) (fun c => ?_)
  · rw [if_pos c] at e
    exact tj_X10_isKind_17 hF hX e
  · rw [if_neg c] at e
    refine aw_iload_n (i := 1) hX rfl rfl d_X10_isKind_5 ?_
    refine aw_aload_n (i := 0) hX rfl rfl d_X10_isKind_6 ?_
    refine ar_getI hX fg_RX10_265 rfl d_X10_isKind_7 ?_
    refine aw_icmp_ge (t := 17) hX (by decide) d_X10_isKind_10 (fun c => ?_) (fun c => ?_)
    · rw [if_pos c] at e
      exact tj_X10_isKind_17 hF hX e
    · rw [if_neg c] at e
      refine aw_iconst (v := 1) hX (by decide) d_X10_isKind_13 ?_
      refine aw_goto (t := 18) hX (by decide) d_X10_isKind_14 ?_
      exact tj_X10_isKind_18 hF hX e
theorem k_X10_isKind {g : GP} (hg : g.1.stackTraces = false) (hF : gF g = true) {a0 : Int32} {h hz : AH} {z : Int32} (e : s_X10_isKind a0 h = some (z, hz)) : Ctr g yX10_isKind (wsY yX10_isKind cX10_isKind 2 (some .boolean)) 2 0 0 [.ref 240, .int a0] NT false h (some (.int z)) NT false hz := ctr_of (lv0 := [.ref 240, .int a0]) rfl rfl (by decide) hg trivial (fun X hX hn => t_X10_isKind hF hX e)
theorem d_X10_isEvening_0 : decode cX10_isEvening 0 = .ok (.aload_n 0, 1) := by decide +kernel
theorem d_X10_isEvening_1 : decode cX10_isEvening 1 = .ok (.iload_n 1, 1) := by decide +kernel
theorem d_X10_isEvening_2 : decode cX10_isEvening 2 = .ok (.ifCond .lt 15, 3) := by decide +kernel
theorem d_X10_isEvening_5 : decode cX10_isEvening 5 = .ok (.iload_n 1, 1) := by decide +kernel
theorem d_X10_isEvening_6 : decode cX10_isEvening 6 = .ok (.aload_n 0, 1) := by decide +kernel
theorem d_X10_isEvening_7 : decode cX10_isEvening 7 = .ok (.getfield 262, 3) := by decide +kernel
theorem d_X10_isEvening_10 : decode cX10_isEvening 10 = .ok (.if_icmp .ge 7, 3) := by decide +kernel
theorem d_X10_isEvening_13 : decode cX10_isEvening 13 = .ok (.iconst 1, 1) := by decide +kernel
theorem d_X10_isEvening_14 : decode cX10_isEvening 14 = .ok (.goto 4, 3) := by decide +kernel
theorem d_X10_isEvening_17 : decode cX10_isEvening 17 = .ok (.iconst 0, 1) := by decide +kernel
theorem d_X10_isEvening_18 : decode cX10_isEvening 18 = .ok (.iconst 1, 1) := by decide +kernel
theorem d_X10_isEvening_19 : decode cX10_isEvening 19 = .ok (.invokevirtual 253, 3) := by decide +kernel
theorem d_X10_isEvening_22 : decode cX10_isEvening 22 = .ok (.ireturn, 1) := by decide +kernel
def j_X10_isEvening_18 (k0 : Int32) (h : AH) : Option (Int32 × AH) := bd (s_X10_right k0 1 h) fun q1 => if q1.1 = 0 ∨ q1.1 = 1 then some (q1.1, q1.2) else none
theorem tj_X10_isEvening_18 {g : GP} {X : MX} {mcR msR : Nat} (hF : gF g = true) (hX : Cx g RX10 cX10_isEvening 2 mcR msR (some .boolean) [] X) {k0 : Int32} {d0 : Value} {d1 : Value} {h hz : AH} {z : Int32} (e : j_X10_isEvening_18 k0 h = some (z, hz)) : AR g X 0 0 (QQ g X NT false hz (.inl (some (.int z))) 0 0) h 18 [d0, d1] [.int k0, .ref 240] := by
  unfold j_X10_isEvening_18 at e
  refine aw_iconst (v := 1) hX (by decide) d_X10_isEvening_18 ?_
  obtain ⟨q1, f_1207, e_1207⟩ := bd_some e
  clear e
  refine aw_callV (b := 240) (av := [.int k0, .int 1]) (avr := [.int 1, .int k0]) hX (k_X10_right (cx_g hX) hF f_1207) mi_X10_right rfl rfl w_772 w_773 w_774 (by decide) rfl (LAY_lt rfl (by decide)) rfl rfl (Nat.le_of_ble_eq_true rfl) (Nat.zero_le _) (Nat.zero_le _) d_X10_isEvening_19 ?_
  obtain ⟨hz1, e_1208⟩ := if_some e_1207
  clear e_1207
  cases e_1208
  exact aw_zreturn hX hz1 (Nat.zero_le _) (Nat.zero_le _) d_X10_isEvening_22
def j_X10_isEvening_17 (h : AH) : Option (Int32 × AH) := j_X10_isEvening_18 0 h
theorem tj_X10_isEvening_17 {g : GP} {X : MX} {mcR msR : Nat} (hF : gF g = true) (hX : Cx g RX10 cX10_isEvening 2 mcR msR (some .boolean) [] X) {d0 : Value} {d1 : Value} {h hz : AH} {z : Int32} (e : j_X10_isEvening_17 h = some (z, hz)) : AR g X 0 0 (QQ g X NT false hz (.inl (some (.int z))) 0 0) h 17 [d0, d1] [.ref 240] := by
  unfold j_X10_isEvening_17 at e
  refine aw_iconst (v := 0) hX (by decide) d_X10_isEvening_17 ?_
  exact tj_X10_isEvening_18 hF hX e
def s_X10_isEvening (a0 : Int32) (h : AH) : Option (Int32 × AH) := if a0 < 0 then j_X10_isEvening_17 h else if (gI h 240 3) ≤ a0 then j_X10_isEvening_17 h else j_X10_isEvening_18 1 h
theorem t_X10_isEvening {g : GP} {X : MX} {mcR msR : Nat} (hF : gF g = true) (hX : Cx g RX10 cX10_isEvening 2 mcR msR (some .boolean) [] X) {a0 : Int32} {h hz : AH} {z : Int32} (e : s_X10_isEvening a0 h = some (z, hz)) : AR g X 0 0 (QQ g X NT false hz (.inl (some (.int z))) 0 0) h 0 [.ref 240, .int a0] [] := by
  unfold s_X10_isEvening at e
  refine aw_aload_n (i := 0) hX rfl rfl d_X10_isEvening_0 ?_
  refine aw_iload_n (i := 1) hX rfl rfl d_X10_isEvening_1 ?_
  refine aw_if_lt (t := 17) hX (by decide) d_X10_isEvening_2 (fun c => ?_) (fun c => ?_)
  · rw [if_pos c] at e
    exact tj_X10_isEvening_17 hF hX e
  · rw [if_neg c] at e
    refine aw_iload_n (i := 1) hX rfl rfl d_X10_isEvening_5 ?_
    refine aw_aload_n (i := 0) hX rfl rfl d_X10_isEvening_6 ?_
    refine ar_getI hX fg_RX10_262 rfl d_X10_isEvening_7 ?_
    refine aw_icmp_ge (t := 17) hX (by decide) d_X10_isEvening_10 (fun c => ?_) (fun c => ?_)
    · rw [if_pos c] at e
      exact tj_X10_isEvening_17 hF hX e
    · rw [if_neg c] at e
      refine aw_iconst (v := 1) hX (by decide) d_X10_isEvening_13 ?_
      refine aw_goto (t := 18) hX (by decide) d_X10_isEvening_14 ?_
      exact tj_X10_isEvening_18 hF hX e
theorem k_X10_isEvening {g : GP} (hg : g.1.stackTraces = false) (hF : gF g = true) {a0 : Int32} {h hz : AH} {z : Int32} (e : s_X10_isEvening a0 h = some (z, hz)) : Ctr g yX10_isEvening (wsY yX10_isEvening cX10_isEvening 2 (some .boolean)) 2 0 0 [.ref 240, .int a0] NT false h (some (.int z)) NT false hz := ctr_of (lv0 := [.ref 240, .int a0]) rfl rfl (by decide) hg trivial (fun X hX hn => t_X10_isEvening hF hX e)
theorem d_X10_people_0 : decode cX10_people 0 = .ok (.iconst 0, 1) := by decide +kernel
theorem d_X10_people_1 : decode cX10_people 1 = .ok (.istore_n 1, 1) := by decide +kernel
theorem d_X10_people_2 : decode cX10_people 2 = .ok (.iconst 0, 1) := by decide +kernel
theorem d_X10_people_3 : decode cX10_people 3 = .ok (.istore_n 2, 1) := by decide +kernel
theorem d_X10_people_4 : decode cX10_people 4 = .ok (.iload_n 2, 1) := by decide +kernel
theorem d_X10_people_5 : decode cX10_people 5 = .ok (.aload_n 0, 1) := by decide +kernel
theorem d_X10_people_6 : decode cX10_people 6 = .ok (.getfield 265, 3) := by decide +kernel
theorem d_X10_people_9 : decode cX10_people 9 = .ok (.if_icmp .ge 18, 3) := by decide +kernel
theorem d_X10_people_12 : decode cX10_people 12 = .ok (.iload_n 1, 1) := by decide +kernel
theorem d_X10_people_13 : decode cX10_people 13 = .ok (.aload_n 0, 1) := by decide +kernel
theorem d_X10_people_14 : decode cX10_people 14 = .ok (.iload_n 2, 1) := by decide +kernel
theorem d_X10_people_15 : decode cX10_people 15 = .ok (.iconst 0, 1) := by decide +kernel
theorem d_X10_people_16 : decode cX10_people 16 = .ok (.invokevirtual 292, 3) := by decide +kernel
theorem d_X10_people_19 : decode cX10_people 19 = .ok (.iadd, 1) := by decide +kernel
theorem d_X10_people_20 : decode cX10_people 20 = .ok (.istore_n 1, 1) := by decide +kernel
theorem d_X10_people_21 : decode cX10_people 21 = .ok (.iinc 2 1, 3) := by decide +kernel
theorem d_X10_people_24 : decode cX10_people 24 = .ok (.goto (-20), 3) := by decide +kernel
theorem d_X10_people_27 : decode cX10_people 27 = .ok (.iload_n 1, 1) := by decide +kernel
theorem d_X10_people_28 : decode cX10_people 28 = .ok (.ireturn, 1) := by decide +kernel
def l_X10_people_4 (h : AH) (s : (Int32 × Int32)) : Option ((Int32 × Int32) ⊕ Int32) := if (gI h 240 4) ≤ s.2 then some (.inr s.1) else bd (s_X10_of s.2 0 h) fun x1 => some (.inl ((s.1 + x1), s.2 + 1))
theorem tb_X10_people_4 {g : GP} {X : MX} {mcR msR : Nat} (hF : gF g = true) (hX : Cx g RX10 cX10_people 2 mcR msR (some .int) [] X) {Q : State → Prop} {s : (Int32 × Int32)} {h : AH} {z : ((Int32 × Int32) ⊕ Int32)} (e : l_X10_people_4 h s = some z) (kI : ∀ (s2 : (Int32 × Int32)), z = .inl s2 → AR g X 0 0 Q h 4 [.ref 240, .int s2.1, .int s2.2] []) (kE0 : ∀ (yy : Int32) (y0 : Value) (y2 : Value), z = .inr yy → AR g X 0 0 Q h 27 [y0, .int yy, y2] []) : AR g X 0 0 Q h 4 [.ref 240, .int s.1, .int s.2] [] := by
  unfold l_X10_people_4 at e
  refine aw_iload_n (i := 2) hX rfl rfl d_X10_people_4 ?_
  refine aw_aload_n (i := 0) hX rfl rfl d_X10_people_5 ?_
  refine ar_getI hX fg_RX10_265 rfl d_X10_people_6 ?_
  refine aw_icmp_ge (t := 27) hX (by decide) d_X10_people_9 (fun c => ?_) (fun c => ?_)
  · rw [if_pos c] at e
    cases e
    exact kE0 s.1 _ _ rfl
  · rw [if_neg c] at e
    refine aw_iload_n (i := 1) hX rfl rfl d_X10_people_12 ?_
    refine aw_aload_n (i := 0) hX rfl rfl d_X10_people_13 ?_
    refine aw_iload_n (i := 2) hX rfl rfl d_X10_people_14 ?_
    refine aw_iconst (v := 0) hX (by decide) d_X10_people_15 ?_
    obtain ⟨x1, f_1209, e_1209⟩ := bd_some e
    clear e
    refine aw_callV (b := 240) (av := [.int s.2, .int 0]) (avr := [.int 0, .int s.2]) hX (k_X10_of (cx_g hX) hF f_1209) mi_X10_of rfl rfl w_732 w_733 w_734 (by decide) rfl (LAY_lt rfl (by decide)) rfl rfl (Nat.le_of_ble_eq_true rfl) (Nat.zero_le _) (Nat.zero_le _) d_X10_people_16 ?_
    refine aw_iadd hX d_X10_people_19 ?_
    refine aw_istore_n (i := 1) (lv2 := [.ref 240, .int (s.1 + x1), .int s.2]) hX rfl rfl rfl d_X10_people_20 ?_
    refine aw_iinc (i := 2) (lv2 := [.ref 240, .int (s.1 + x1), .int (s.2 + 1)]) hX rfl rfl rfl rfl d_X10_people_21 ?_
    refine aw_goto (t := 4) hX (by decide) d_X10_people_24 ?_
    cases e_1209
    exact kI ((s.1 + x1), s.2 + 1)  rfl
theorem ti_X10_people_4 {g : GP} {X : MX} {mcR msR : Nat} (hF : gF g = true) (hX : Cx g RX10 cX10_people 2 mcR msR (some .int) [] X) {Q : State → Prop} {y : Int32} {h : AH} (kE0 : ∀ (y_0 : Value) (y_2 : Value), AR g X 0 0 Q h 27 [y_0, .int y, y_2] []) (n : Nat) : ∀ (s : (Int32 × Int32)), lpP (l_X10_people_4 h) n s = some y → AR g X 0 0 Q h 4 [.ref 240, .int s.1, .int s.2] [] := by
  induction n with
  | zero => intro s e; cases e
  | succ n ih =>
    intro s e
    obtain ⟨x, e1, e2⟩ := lpP_succ e
    rcases e2 with ⟨s2, rfl, e3⟩ | rfl
    · exact tb_X10_people_4 hF hX e1 (fun s3  hs => by cases hs; exact ih _   e3) (fun yy x0 x1 hy => by cases hy)
    · exact tb_X10_people_4 hF hX e1 (fun s3  hs => by cases hs) (fun yy x0 x1 hy => by cases hy; exact kE0 x0 x1)
theorem t_X10_people_4 {g : GP} {X : MX} {mcR msR : Nat} (hF : gF g = true) (hX : Cx g RX10 cX10_people 2 mcR msR (some .int) [] X) {Q : State → Prop} {s : (Int32 × Int32)} {h : AH} {n : Nat} {y : Int32} (e : lpP (l_X10_people_4 h) n s = some y) (kE0 : ∀ (y_0 : Value) (y_2 : Value), AR g X 0 0 Q h 27 [y_0, .int y, y_2] []) : AR g X 0 0 Q h 4 [.ref 240, .int s.1, .int s.2] [] := ti_X10_people_4 hF hX kE0 n _   e
def s_X10_people (h : AH) : Option Int32 := bd (lpP (l_X10_people_4 h) FU (0, 0)) fun y2 => some y2
theorem t_X10_people {g : GP} {X : MX} {mcR msR : Nat} (hF : gF g = true) (hX : Cx g RX10 cX10_people 2 mcR msR (some .int) [] X) {h : AH} {z : Int32} (e : s_X10_people h = some z) : AR g X 0 0 (QQ g X NT false h (.inl (some (.int z))) 0 0) h 0 [.ref 240, jk, jk] [] := by
  unfold s_X10_people at e
  refine aw_iconst (v := 0) hX (by decide) d_X10_people_0 ?_
  refine aw_istore_n (i := 1) (lv2 := [.ref 240, .int 0, jk]) hX rfl rfl rfl d_X10_people_1 ?_
  refine aw_iconst (v := 0) hX (by decide) d_X10_people_2 ?_
  refine aw_istore_n (i := 2) (lv2 := [.ref 240, .int 0, .int 0]) hX rfl rfl rfl d_X10_people_3 ?_
  obtain ⟨y2, f_1210, e_1210⟩ := bd_some e
  clear e
  refine t_X10_people_4 hF hX f_1210 (fun d3_0 d3_2 => ?_)
  refine aw_iload_n (i := 1) hX rfl rfl d_X10_people_27 ?_
  cases e_1210
  exact aw_ireturn hX (Nat.zero_le _) (Nat.zero_le _) d_X10_people_28
theorem k_X10_people {g : GP} (hg : g.1.stackTraces = false) (hF : gF g = true) {h : AH} {z : Int32} (e : s_X10_people h = some z) : Ctr g yX10_people (wsY yX10_people cX10_people 3 (some .int)) 2 0 0 [.ref 240] NT false h (some (.int z)) NT false h := ctr_of (lv0 := [.ref 240, jk, jk]) rfl rfl (by decide) hg trivial (fun X hX hn => t_X10_people hF hX e)
theorem d_X10_count_0 : decode cX10_count 0 = .ok (.aload_n 0, 1) := by decide +kernel
theorem d_X10_count_1 : decode cX10_count 1 = .ok (.iconst 0, 1) := by decide +kernel
theorem d_X10_count_2 : decode cX10_count 2 = .ok (.putfield 133, 3) := by decide +kernel
theorem d_X10_count_5 : decode cX10_count 5 = .ok (.aload_n 0, 1) := by decide +kernel
theorem d_X10_count_6 : decode cX10_count 6 = .ok (.iload_n 1, 1) := by decide +kernel
theorem d_X10_count_7 : decode cX10_count 7 = .ok (.iconst 0, 1) := by decide +kernel
theorem d_X10_count_8 : decode cX10_count 8 = .ok (.bipush 9, 2) := by decide +kernel
theorem d_X10_count_10 : decode cX10_count 10 = .ok (.invokestatic 295, 3) := by decide +kernel
theorem d_X10_count_13 : decode cX10_count 13 = .ok (.iconst 1, 1) := by decide +kernel
theorem d_X10_count_14 : decode cX10_count 14 = .ok (.invokevirtual 253, 3) := by decide +kernel
theorem d_X10_count_17 : decode cX10_count 17 = .ok (.ifCond .ne 5, 3) := by decide +kernel
theorem d_X10_count_20 : decode cX10_count 20 = .ok (.iconst 0, 1) := by decide +kernel
theorem d_X10_count_21 : decode cX10_count 21 = .ok (.ireturn, 1) := by decide +kernel
theorem d_X10_count_22 : decode cX10_count 22 = .ok (.iconst 1, 1) := by decide +kernel
theorem d_X10_count_23 : decode cX10_count 23 = .ok (.istore_n 2, 1) := by decide +kernel
theorem d_X10_count_24 : decode cX10_count 24 = .ok (.iconst 1, 1) := by decide +kernel
theorem d_X10_count_25 : decode cX10_count 25 = .ok (.istore_n 3, 1) := by decide +kernel
theorem d_X10_count_26 : decode cX10_count 26 = .ok (.iload_n 3, 1) := by decide +kernel
theorem d_X10_count_27 : decode cX10_count 27 = .ok (.iconst 5, 1) := by decide +kernel
theorem d_X10_count_28 : decode cX10_count 28 = .ok (.if_icmp .ge 29, 3) := by decide +kernel
theorem d_X10_count_31 : decode cX10_count 31 = .ok (.iload_n 2, 1) := by decide +kernel
theorem d_X10_count_32 : decode cX10_count 32 = .ok (.aload_n 0, 1) := by decide +kernel
theorem d_X10_count_33 : decode cX10_count 33 = .ok (.getfield 23, 3) := by decide +kernel
theorem d_X10_count_36 : decode cX10_count 36 = .ok (.iload_n 3, 1) := by decide +kernel
theorem d_X10_count_37 : decode cX10_count 37 = .ok (.iaload, 1) := by decide +kernel
theorem d_X10_count_38 : decode cX10_count 38 = .ok (.iconst (-1), 1) := by decide +kernel
theorem d_X10_count_39 : decode cX10_count 39 = .ok (.if_icmp .eq 9, 3) := by decide +kernel
theorem d_X10_count_42 : decode cX10_count 42 = .ok (.iconst 1, 1) := by decide +kernel
theorem d_X10_count_43 : decode cX10_count 43 = .ok (.iload_n 3, 1) := by decide +kernel
theorem d_X10_count_44 : decode cX10_count 44 = .ok (.ishl, 1) := by decide +kernel
theorem d_X10_count_45 : decode cX10_count 45 = .ok (.goto 4, 3) := by decide +kernel
theorem d_X10_count_48 : decode cX10_count 48 = .ok (.iconst 0, 1) := by decide +kernel
theorem d_X10_count_49 : decode cX10_count 49 = .ok (.ior, 1) := by decide +kernel
theorem d_X10_count_50 : decode cX10_count 50 = .ok (.istore_n 2, 1) := by decide +kernel
theorem d_X10_count_51 : decode cX10_count 51 = .ok (.iinc 3 1, 3) := by decide +kernel
theorem d_X10_count_54 : decode cX10_count 54 = .ok (.goto (-28), 3) := by decide +kernel
theorem d_X10_count_57 : decode cX10_count 57 = .ok (.iload_n 1, 1) := by decide +kernel
theorem d_X10_count_58 : decode cX10_count 58 = .ok (.tableswitch 83 0 7 #[46, 51, 56, 61, 66, 71, 76, 78], 46) := by decide +kernel
theorem d_X10_count_104 : decode cX10_count 104 = .ok (.aload_n 0, 1) := by decide +kernel
theorem d_X10_count_105 : decode cX10_count 105 = .ok (.getfield 7, 3) := by decide +kernel
theorem d_X10_count_108 : decode cX10_count 108 = .ok (.ireturn, 1) := by decide +kernel
theorem d_X10_count_109 : decode cX10_count 109 = .ok (.aload_n 0, 1) := by decide +kernel
theorem d_X10_count_110 : decode cX10_count 110 = .ok (.getfield 259, 3) := by decide +kernel
theorem d_X10_count_113 : decode cX10_count 113 = .ok (.ireturn, 1) := by decide +kernel
theorem d_X10_count_114 : decode cX10_count 114 = .ok (.aload_n 0, 1) := by decide +kernel
theorem d_X10_count_115 : decode cX10_count 115 = .ok (.getfield 262, 3) := by decide +kernel
theorem d_X10_count_118 : decode cX10_count 118 = .ok (.ireturn, 1) := by decide +kernel
theorem d_X10_count_119 : decode cX10_count 119 = .ok (.aload_n 0, 1) := by decide +kernel
theorem d_X10_count_120 : decode cX10_count 120 = .ok (.getfield 265, 3) := by decide +kernel
theorem d_X10_count_123 : decode cX10_count 123 = .ok (.ireturn, 1) := by decide +kernel
theorem d_X10_count_124 : decode cX10_count 124 = .ok (.aload_n 0, 1) := by decide +kernel
theorem d_X10_count_125 : decode cX10_count 125 = .ok (.invokevirtual 299, 3) := by decide +kernel
theorem d_X10_count_128 : decode cX10_count 128 = .ok (.ireturn, 1) := by decide +kernel
theorem d_X10_count_129 : decode cX10_count 129 = .ok (.aload_n 0, 1) := by decide +kernel
theorem d_X10_count_130 : decode cX10_count 130 = .ok (.getfield 268, 3) := by decide +kernel
theorem d_X10_count_133 : decode cX10_count 133 = .ok (.ireturn, 1) := by decide +kernel
theorem d_X10_count_134 : decode cX10_count 134 = .ok (.iload_n 2, 1) := by decide +kernel
theorem d_X10_count_135 : decode cX10_count 135 = .ok (.ireturn, 1) := by decide +kernel
theorem d_X10_count_136 : decode cX10_count 136 = .ok (.aload_n 0, 1) := by decide +kernel
theorem d_X10_count_137 : decode cX10_count 137 = .ok (.getfield 136, 3) := by decide +kernel
theorem d_X10_count_140 : decode cX10_count 140 = .ok (.ireturn, 1) := by decide +kernel
theorem d_X10_count_141 : decode cX10_count 141 = .ok (.aload_n 0, 1) := by decide +kernel
theorem d_X10_count_142 : decode cX10_count 142 = .ok (.getfield 32, 3) := by decide +kernel
theorem d_X10_count_145 : decode cX10_count 145 = .ok (.iload_n 1, 1) := by decide +kernel
theorem d_X10_count_146 : decode cX10_count 146 = .ok (.bipush 8, 2) := by decide +kernel
theorem d_X10_count_148 : decode cX10_count 148 = .ok (.isub, 1) := by decide +kernel
theorem d_X10_count_149 : decode cX10_count 149 = .ok (.iaload, 1) := by decide +kernel
theorem d_X10_count_150 : decode cX10_count 150 = .ok (.ireturn, 1) := by decide +kernel
def j_X10_count_49_26 (p1 : Int32) (v3 : Int32) (k0 : Int32) (k1 : Int32) (h : AH) : Option (((Int32 × Int32) ⊕ Int32) × AH) := some (.inl ((k1 ||| k0), v3 + 1), h)
theorem tj_X10_count_49_26 {g : GP} {X : MX} {mcR msR : Nat} (hF : gF g = true) (hX : Cx g RX10 cX10_count 3 mcR msR (some .int) [] X) {Q : State → Prop} {p1 : Int32} {v3 : Int32} {k0 : Int32} {k1 : Int32} {d2 : Value} {h hz : AH} {z : ((Int32 × Int32) ⊕ Int32)} (e : j_X10_count_49_26 p1 v3 k0 k1 h = some (z, hz)) (kI : ∀ (s2 : (Int32 × Int32)), z = .inl s2 → AR g X 0 0 Q hz 26 [.ref 240, .int p1, .int s2.1, .int s2.2] []) (kE0 : ∀ (yy : Int32) (y3 : Value), z = .inr yy → AR g X 0 0 Q hz 57 [.ref 240, .int p1, .int yy, y3] []) : AR g X 0 0 Q h 49 [.ref 240, .int p1, d2, .int v3] [.int k0, .int k1] := by
  unfold j_X10_count_49_26 at e
  refine aw_ior hX d_X10_count_49 ?_
  refine aw_istore_n (i := 2) (lv2 := [.ref 240, .int p1, .int (k1 ||| k0), .int v3]) hX rfl rfl rfl d_X10_count_50 ?_
  refine aw_iinc (i := 3) (lv2 := [.ref 240, .int p1, .int (k1 ||| k0), .int (v3 + 1)]) hX rfl rfl rfl rfl d_X10_count_51 ?_
  refine aw_goto (t := 26) hX (by decide) d_X10_count_54 ?_
  cases e
  exact kI ((k1 ||| k0), v3 + 1)  rfl
def l_X10_count_26 (p1 : Int32) (s : (Int32 × Int32)) (h : AH) : Option (((Int32 × Int32) ⊕ Int32) × AH) := if 5 ≤ s.2 then some (.inr s.1, h) else bd (ldI h 244 s.2) fun x3 => if x3 = (-1) then j_X10_count_49_26 p1 s.2 0 s.1 h else j_X10_count_49_26 p1 s.2 (1 <<< (s.2 &&& 31)) s.1 h
theorem tb_X10_count_26 {g : GP} {X : MX} {mcR msR : Nat} (hF : gF g = true) (hX : Cx g RX10 cX10_count 3 mcR msR (some .int) [] X) {Q : State → Prop} {p1 : Int32} {s : (Int32 × Int32)} {h hz : AH} {z : ((Int32 × Int32) ⊕ Int32)} (e : l_X10_count_26 p1 s h = some (z, hz)) (kI : ∀ (s2 : (Int32 × Int32)), z = .inl s2 → AR g X 0 0 Q hz 26 [.ref 240, .int p1, .int s2.1, .int s2.2] []) (kE0 : ∀ (yy : Int32) (y3 : Value), z = .inr yy → AR g X 0 0 Q hz 57 [.ref 240, .int p1, .int yy, y3] []) : AR g X 0 0 Q h 26 [.ref 240, .int p1, .int s.1, .int s.2] [] := by
  unfold l_X10_count_26 at e
  refine aw_iload_n (i := 3) hX rfl rfl d_X10_count_26 ?_
  refine aw_iconst (v := 5) hX (by decide) d_X10_count_27 ?_
  refine aw_icmp_ge (t := 57) hX (by decide) d_X10_count_28 (fun c => ?_) (fun c => ?_)
  · rw [if_pos c] at e
    cases e
    exact kE0 s.1 _ rfl
  · rw [if_neg c] at e
    refine aw_iload_n (i := 2) hX rfl rfl d_X10_count_31 ?_
    refine aw_aload_n (i := 0) hX rfl rfl d_X10_count_32 ?_
    refine ar_getF hX hF fg_RX10_23 rfl d_X10_count_33 ?_
    show AR g X 0 0 _ _ 36 _ [.ref 244, .int s.1]
    refine aw_iload_n (i := 3) hX rfl rfl d_X10_count_36 ?_
    obtain ⟨x3, f_1211, e_1211⟩ := bd_some e
    clear e
    refine ar_iaload hX f_1211 d_X10_count_37 ?_
    refine aw_iconst (v := (-1)) hX (by decide) d_X10_count_38 ?_
    refine aw_icmp_eq (t := 48) hX (by decide) d_X10_count_39 (fun c => ?_) (fun c => ?_)
    · rw [if_pos c] at e_1211
      refine aw_iconst (v := 0) hX (by decide) d_X10_count_48 ?_
      exact tj_X10_count_49_26 hF hX e_1211 kI kE0
    · rw [if_neg c] at e_1211
      refine aw_iconst (v := 1) hX (by decide) d_X10_count_42 ?_
      refine aw_iload_n (i := 3) hX rfl rfl d_X10_count_43 ?_
      refine aw_ishl hX d_X10_count_44 ?_
      refine aw_goto (t := 49) hX (by decide) d_X10_count_45 ?_
      exact tj_X10_count_49_26 hF hX e_1211 kI kE0
theorem ti_X10_count_26 {g : GP} {X : MX} {mcR msR : Nat} (hF : gF g = true) (hX : Cx g RX10 cX10_count 3 mcR msR (some .int) [] X) {Q : State → Prop} {p1 : Int32} {y : Int32} {hz : AH} (kE0 : ∀ (y_3 : Value), AR g X 0 0 Q hz 57 [.ref 240, .int p1, .int y, y_3] []) (n : Nat) : ∀ (s : (Int32 × Int32)) (h : AH), lpH (l_X10_count_26 p1) n s h = some (y, hz) → AR g X 0 0 Q h 26 [.ref 240, .int p1, .int s.1, .int s.2] [] := by
  induction n with
  | zero => intro s h e; cases e
  | succ n ih =>
    intro s h e
    obtain ⟨x, h1, e1, e2⟩ := lpH_succ e
    rcases e2 with ⟨s2, rfl, e3⟩ | ⟨rfl, rfl⟩
    · exact tb_X10_count_26 hF hX e1 (fun s3  hs => by cases hs; exact ih _  _ e3) (fun yy x0 hy => by cases hy)
    · exact tb_X10_count_26 hF hX e1 (fun s3  hs => by cases hs) (fun yy x0 hy => by cases hy; exact kE0 x0)
theorem t_X10_count_26 {g : GP} {X : MX} {mcR msR : Nat} (hF : gF g = true) (hX : Cx g RX10 cX10_count 3 mcR msR (some .int) [] X) {Q : State → Prop} {p1 : Int32} {s : (Int32 × Int32)} {h hz : AH} {n : Nat} {y : Int32} (e : lpH (l_X10_count_26 p1) n s h = some (y, hz)) (kE0 : ∀ (y_3 : Value), AR g X 0 0 Q hz 57 [.ref 240, .int p1, .int y, y_3] []) : AR g X 0 0 Q h 26 [.ref 240, .int p1, .int s.1, .int s.2] [] := ti_X10_count_26 hF hX kE0 n _  _ e
def s_X10_count (a0 : Int32) (h : AH) : Option (Int32 × AH) := bd (s_X10_within a0 0 9 (sI h 240 0 0)) fun x1 => bd (s_X10_right x1 1 (sI h 240 0 0)) fun q2 => if q2.1 = 0 then some (0, q2.2) else bd (lpH (l_X10_count_26 a0) FU (1, 1) q2.2) fun y4 => if a0 = 0 then some ((gI y4.2 240 1), y4.2) else if a0 = 1 then some ((gI y4.2 240 2), y4.2) else if a0 = 2 then some ((gI y4.2 240 3), y4.2) else if a0 = 3 then some ((gI y4.2 240 4), y4.2) else if a0 = 4 then bd (s_X10_people y4.2) fun x7 => some (x7, y4.2) else if a0 = 5 then some ((gI y4.2 240 5), y4.2) else if a0 = 6 then some (y4.1, y4.2) else if a0 = 7 then some ((gI y4.2 240 12), y4.2) else bd (ldI y4.2 246 (a0 - 8)) fun x6 => some (x6, y4.2)
theorem t_X10_count {g : GP} {X : MX} {mcR msR : Nat} (hF : gF g = true) (hX : Cx g RX10 cX10_count 3 mcR msR (some .int) [] X) {a0 : Int32} {h hz : AH} {z : Int32} (e : s_X10_count a0 h = some (z, hz)) : AR g X 0 0 (QQ g X NT false hz (.inl (some (.int z))) 0 0) h 0 [.ref 240, .int a0, jk, jk] [] := by
  unfold s_X10_count at e
  refine aw_aload_n (i := 0) hX rfl rfl d_X10_count_0 ?_
  refine aw_iconst (v := 0) hX (by decide) d_X10_count_1 ?_
  refine ar_putI hX fp_RX10_133 rfl d_X10_count_2 ?_
  refine aw_aload_n (i := 0) hX rfl rfl d_X10_count_5 ?_
  refine aw_iload_n (i := 1) hX rfl rfl d_X10_count_6 ?_
  refine aw_iconst (v := 0) hX (by decide) d_X10_count_7 ?_
  refine aw_bipush (v := 9) hX (by decide) d_X10_count_8 ?_
  obtain ⟨x1, f_1212, e_1212⟩ := bd_some e
  clear e
  refine aw_callS (av := [.int a0, .int 0, .int 9]) (avr := [.int 9, .int 0, .int a0]) hX (k_X10_within (cx_g hX) hF f_1212) mi_X10_within rfl rfl w_800 w_801 rfl (by decide) (Nat.le_of_ble_eq_true rfl) (Nat.zero_le _) (Nat.zero_le _) d_X10_count_10 ?_
  refine aw_iconst (v := 1) hX (by decide) d_X10_count_13 ?_
  obtain ⟨q2, f_1213, e_1213⟩ := bd_some e_1212
  clear e_1212
  refine aw_callV (b := 240) (av := [.int x1, .int 1]) (avr := [.int 1, .int x1]) hX (k_X10_right (cx_g hX) hF f_1213) mi_X10_right rfl rfl w_772 w_773 w_774 (by decide) rfl (LAY_lt rfl (by decide)) rfl rfl (Nat.le_of_ble_eq_true rfl) (Nat.zero_le _) (Nat.zero_le _) d_X10_count_14 ?_
  refine aw_if_ne (t := 22) hX (by decide) d_X10_count_17 (fun c => ?_) (fun c => ?_)
  · rw [if_neg c] at e_1213
    refine aw_iconst (v := 1) hX (by decide) d_X10_count_22 ?_
    refine aw_istore_n (i := 2) (lv2 := [.ref 240, .int a0, .int 1, jk]) hX rfl rfl rfl d_X10_count_23 ?_
    refine aw_iconst (v := 1) hX (by decide) d_X10_count_24 ?_
    refine aw_istore_n (i := 3) (lv2 := [.ref 240, .int a0, .int 1, .int 1]) hX rfl rfl rfl d_X10_count_25 ?_
    obtain ⟨y4, f_1214, e_1214⟩ := bd_some e_1213
    clear e_1213
    refine t_X10_count_26 hF hX f_1214 (fun d5_3 => ?_)
    refine aw_iload_n (i := 1) hX rfl rfl d_X10_count_57 ?_
    by_cases c0 : a0 = 0
    · rw [if_pos c0] at e_1214
      refine aw_tableIn (off := 46) (t := 104) hX (by rw [c0]; decide) (by rw [c0]; decide) (by rw [c0]; rfl) (by decide) d_X10_count_58 ?_
      refine aw_aload_n (i := 0) hX rfl rfl d_X10_count_104 ?_
      refine ar_getI hX fg_RX10_7 rfl d_X10_count_105 ?_
      cases e_1214
      exact aw_ireturn hX (Nat.zero_le _) (Nat.zero_le _) d_X10_count_108
    rw [if_neg c0] at e_1214
    by_cases c1 : a0 = 1
    · rw [if_pos c1] at e_1214
      refine aw_tableIn (off := 51) (t := 109) hX (by rw [c1]; decide) (by rw [c1]; decide) (by rw [c1]; rfl) (by decide) d_X10_count_58 ?_
      refine aw_aload_n (i := 0) hX rfl rfl d_X10_count_109 ?_
      refine ar_getI hX fg_RX10_259 rfl d_X10_count_110 ?_
      cases e_1214
      exact aw_ireturn hX (Nat.zero_le _) (Nat.zero_le _) d_X10_count_113
    rw [if_neg c1] at e_1214
    by_cases c2 : a0 = 2
    · rw [if_pos c2] at e_1214
      refine aw_tableIn (off := 56) (t := 114) hX (by rw [c2]; decide) (by rw [c2]; decide) (by rw [c2]; rfl) (by decide) d_X10_count_58 ?_
      refine aw_aload_n (i := 0) hX rfl rfl d_X10_count_114 ?_
      refine ar_getI hX fg_RX10_262 rfl d_X10_count_115 ?_
      cases e_1214
      exact aw_ireturn hX (Nat.zero_le _) (Nat.zero_le _) d_X10_count_118
    rw [if_neg c2] at e_1214
    by_cases c3 : a0 = 3
    · rw [if_pos c3] at e_1214
      refine aw_tableIn (off := 61) (t := 119) hX (by rw [c3]; decide) (by rw [c3]; decide) (by rw [c3]; rfl) (by decide) d_X10_count_58 ?_
      refine aw_aload_n (i := 0) hX rfl rfl d_X10_count_119 ?_
      refine ar_getI hX fg_RX10_265 rfl d_X10_count_120 ?_
      cases e_1214
      exact aw_ireturn hX (Nat.zero_le _) (Nat.zero_le _) d_X10_count_123
    rw [if_neg c3] at e_1214
    by_cases c4 : a0 = 4
    · rw [if_pos c4] at e_1214
      refine aw_tableIn (off := 66) (t := 124) hX (by rw [c4]; decide) (by rw [c4]; decide) (by rw [c4]; rfl) (by decide) d_X10_count_58 ?_
      refine aw_aload_n (i := 0) hX rfl rfl d_X10_count_124 ?_
      obtain ⟨x7, f_1215, e_1215⟩ := bd_some e_1214
      clear e_1214
      refine aw_callV (b := 240) (av := []) (avr := []) hX (k_X10_people (cx_g hX) hF f_1215) mi_X10_people rfl rfl w_803 w_804 w_805 (by decide) rfl (LAY_lt rfl (by decide)) rfl rfl (Nat.le_of_ble_eq_true rfl) (Nat.zero_le _) (Nat.zero_le _) d_X10_count_125 ?_
      cases e_1215
      exact aw_ireturn hX (Nat.zero_le _) (Nat.zero_le _) d_X10_count_128
    rw [if_neg c4] at e_1214
    by_cases c5 : a0 = 5
    · rw [if_pos c5] at e_1214
      refine aw_tableIn (off := 71) (t := 129) hX (by rw [c5]; decide) (by rw [c5]; decide) (by rw [c5]; rfl) (by decide) d_X10_count_58 ?_
      refine aw_aload_n (i := 0) hX rfl rfl d_X10_count_129 ?_
      refine ar_getI hX fg_RX10_268 rfl d_X10_count_130 ?_
      cases e_1214
      exact aw_ireturn hX (Nat.zero_le _) (Nat.zero_le _) d_X10_count_133
    rw [if_neg c5] at e_1214
    by_cases c6 : a0 = 6
    · rw [if_pos c6] at e_1214
      refine aw_tableIn (off := 76) (t := 134) hX (by rw [c6]; decide) (by rw [c6]; decide) (by rw [c6]; rfl) (by decide) d_X10_count_58 ?_
      refine aw_iload_n (i := 2) hX rfl rfl d_X10_count_134 ?_
      cases e_1214
      exact aw_ireturn hX (Nat.zero_le _) (Nat.zero_le _) d_X10_count_135
    rw [if_neg c6] at e_1214
    by_cases c7 : a0 = 7
    · rw [if_pos c7] at e_1214
      refine aw_tableIn (off := 78) (t := 136) hX (by rw [c7]; decide) (by rw [c7]; decide) (by rw [c7]; rfl) (by decide) d_X10_count_58 ?_
      refine aw_aload_n (i := 0) hX rfl rfl d_X10_count_136 ?_
      refine ar_getI hX fg_RX10_136 rfl d_X10_count_137 ?_
      cases e_1214
      exact aw_ireturn hX (Nat.zero_le _) (Nat.zero_le _) d_X10_count_140
    rw [if_neg c7] at e_1214
    refine aw_tableOut (t := 141) hX (ts_out 8 (fun j hj => by match j, hj with | 0, _ => exact c0 | 1, _ => exact c1 | 2, _ => exact c2 | 3, _ => exact c3 | 4, _ => exact c4 | 5, _ => exact c5 | 6, _ => exact c6 | 7, _ => exact c7 | q + 8, hj => exact absurd hj (by omega))) (by decide) d_X10_count_58 ?_
    refine aw_aload_n (i := 0) hX rfl rfl d_X10_count_141 ?_
    refine ar_getF hX hF fg_RX10_32 rfl d_X10_count_142 ?_
    show AR g X 0 0 _ _ 145 _ [.ref 246]
    refine aw_iload_n (i := 1) hX rfl rfl d_X10_count_145 ?_
    refine aw_bipush (v := 8) hX (by decide) d_X10_count_146 ?_
    refine aw_isub hX d_X10_count_148 ?_
    obtain ⟨x6, f_1216, e_1216⟩ := bd_some e_1214
    clear e_1214
    refine ar_iaload hX f_1216 d_X10_count_149 ?_
    cases e_1216
    exact aw_ireturn hX (Nat.zero_le _) (Nat.zero_le _) d_X10_count_150
  · rw [if_pos c] at e_1213
    refine aw_iconst (v := 0) hX (by decide) d_X10_count_20 ?_
    cases e_1213
    exact aw_ireturn hX (Nat.zero_le _) (Nat.zero_le _) d_X10_count_21
theorem k_X10_count {g : GP} (hg : g.1.stackTraces = false) (hF : gF g = true) {a0 : Int32} {h hz : AH} {z : Int32} (e : s_X10_count a0 h = some (z, hz)) : Ctr g yX10_count (wsY yX10_count cX10_count 4 (some .int)) 3 0 0 [.ref 240, .int a0] NT false h (some (.int z)) NT false hz := ctr_of (lv0 := [.ref 240, .int a0, jk, jk]) rfl rfl (by decide) hg trivial (fun X hX hn => t_X10_count hF hX e)
