/-! 20.statics: functions and contracts, by program -/
theorem d_X9_at_0 : decode cX9_at 0 = .ok (.aload_n 0, 1) := by decide +kernel
theorem d_X9_at_1 : decode cX9_at 1 = .ok (.ifnull 19, 3) := by decide +kernel
theorem d_X9_at_4 : decode cX9_at 4 = .ok (.iload_n 1, 1) := by decide +kernel
theorem d_X9_at_5 : decode cX9_at 5 = .ok (.ifCond .lt 15, 3) := by decide +kernel
theorem d_X9_at_8 : decode cX9_at 8 = .ok (.iload_n 1, 1) := by decide +kernel
theorem d_X9_at_9 : decode cX9_at 9 = .ok (.aload_n 0, 1) := by decide +kernel
theorem d_X9_at_10 : decode cX9_at 10 = .ok (.arraylength, 1) := by decide +kernel
theorem d_X9_at_11 : decode cX9_at 11 = .ok (.if_icmp .ge 9, 3) := by decide +kernel
theorem d_X9_at_14 : decode cX9_at 14 = .ok (.aload_n 0, 1) := by decide +kernel
theorem d_X9_at_15 : decode cX9_at 15 = .ok (.iload_n 1, 1) := by decide +kernel
theorem d_X9_at_16 : decode cX9_at 16 = .ok (.iaload, 1) := by decide +kernel
theorem d_X9_at_17 : decode cX9_at 17 = .ok (.goto 4, 3) := by decide +kernel
theorem d_X9_at_20 : decode cX9_at 20 = .ok (.iconst 0, 1) := by decide +kernel
theorem d_X9_at_21 : decode cX9_at 21 = .ok (.ireturn, 1) := by decide +kernel
def s_X9_at (a0 : Option Nat) (a1 : Int32) (h : AH) : Option Int32 := mt a0 (some 0) (fun t1 => if a1 < 0 then some 0 else bd (alenF t1) fun x3 => if x3 ≤ a1 then some 0 else bd (ldI h t1 a1) fun x5 => some x5)
theorem t_X9_at {g : GP} {X : MX} {mcR msR : Nat} (hF : gF g = true) (hX : Cx g RX9 cX9_at 1 mcR msR (some .int) [] X) {a0 : Option Nat} {a1 : Int32} {h : AH} {z : Int32} (e : s_X9_at a0 a1 h = some z) : AR g X 0 0 (QQ g X NT false h (.inl (some (.int z))) 0 0) h 0 [rfV a0, .int a1] [] := by
  unfold s_X9_at at e
  refine aw_aloadO_n (i := 0) (o := a0) hX rfl rfl d_X9_at_0 ?_
  refine aw_ifnull (t := 20) hX (by decide) d_X9_at_1 (fun hq => ?_) (fun t1 hq => ?_)
  · subst hq
    have e_1 := mt_none e
    clear e
    refine aw_iconst (v := 0) hX (by decide) d_X9_at_20 ?_
    cases e_1
    exact aw_ireturn hX (Nat.zero_le _) (Nat.zero_le _) d_X9_at_21
  · subst hq
    have e_2 := mt_some e
    clear e
    refine aw_iload_n (i := 1) hX rfl rfl d_X9_at_4 ?_
    refine aw_if_lt (t := 20) hX (by decide) d_X9_at_5 (fun c => ?_) (fun c => ?_)
    · rw [if_pos c] at e_2
      refine aw_iconst (v := 0) hX (by decide) d_X9_at_20 ?_
      cases e_2
      exact aw_ireturn hX (Nat.zero_le _) (Nat.zero_le _) d_X9_at_21
    · rw [if_neg c] at e_2
      refine aw_iload_n (i := 1) hX rfl rfl d_X9_at_8 ?_
      refine aw_aloadO_n (i := 0) (o := some t1) hX rfl rfl d_X9_at_9 ?_
      obtain ⟨x3, f_3, e_3⟩ := bd_some e_2
      clear e_2
      refine ar_alen hX f_3 d_X9_at_10 ?_
      refine aw_icmp_ge (t := 20) hX (by decide) d_X9_at_11 (fun c => ?_) (fun c => ?_)
      · rw [if_pos c] at e_3
        refine aw_iconst (v := 0) hX (by decide) d_X9_at_20 ?_
        cases e_3
        exact aw_ireturn hX (Nat.zero_le _) (Nat.zero_le _) d_X9_at_21
      · rw [if_neg c] at e_3
        refine aw_aloadO_n (i := 0) (o := some t1) hX rfl rfl d_X9_at_14 ?_
        refine aw_iload_n (i := 1) hX rfl rfl d_X9_at_15 ?_
        obtain ⟨x5, f_4, e_4⟩ := bd_some e_3
        clear e_3
        refine ar_iaload hX f_4 d_X9_at_16 ?_
        refine aw_goto (t := 21) hX (by decide) d_X9_at_17 ?_
        cases e_4
        exact aw_ireturn hX (Nat.zero_le _) (Nat.zero_le _) d_X9_at_21
theorem k_X9_at {g : GP} (hg : g.1.stackTraces = false) (hF : gF g = true) {a0 : Option Nat} {a1 : Int32} {h : AH} {z : Int32} (e : s_X9_at a0 a1 h = some z) : Ctr g yX9_at (wsY yX9_at cX9_at 2 (some .int)) 1 0 0 [rfV a0, .int a1] NT false h (some (.int z)) NT false h := ctr_of (lv0 := [rfV a0, .int a1]) (by cases a0 <;> rfl) (by cases a0 <;> rfl) (by decide) hg trivial (fun X hX hn => t_X9_at hF hX e)
theorem d_X9_put_0 : decode cX9_put 0 = .ok (.aload_n 0, 1) := by decide +kernel
theorem d_X9_put_1 : decode cX9_put 1 = .ok (.ifnull 17, 3) := by decide +kernel
theorem d_X9_put_4 : decode cX9_put 4 = .ok (.iload_n 1, 1) := by decide +kernel
theorem d_X9_put_5 : decode cX9_put 5 = .ok (.ifCond .lt 13, 3) := by decide +kernel
theorem d_X9_put_8 : decode cX9_put 8 = .ok (.iload_n 1, 1) := by decide +kernel
theorem d_X9_put_9 : decode cX9_put 9 = .ok (.aload_n 0, 1) := by decide +kernel
theorem d_X9_put_10 : decode cX9_put 10 = .ok (.arraylength, 1) := by decide +kernel
theorem d_X9_put_11 : decode cX9_put 11 = .ok (.if_icmp .ge 7, 3) := by decide +kernel
theorem d_X9_put_14 : decode cX9_put 14 = .ok (.aload_n 0, 1) := by decide +kernel
theorem d_X9_put_15 : decode cX9_put 15 = .ok (.iload_n 1, 1) := by decide +kernel
theorem d_X9_put_16 : decode cX9_put 16 = .ok (.iload_n 2, 1) := by decide +kernel
theorem d_X9_put_17 : decode cX9_put 17 = .ok (.iastore, 1) := by decide +kernel
theorem d_X9_put_18 : decode cX9_put 18 = .ok (.return_, 1) := by decide +kernel
def s_X9_put (a0 : Option Nat) (a1 : Int32) (a2 : Int32) (h : AH) : Option (Unit × AH) := mt a0 (some ((), h)) (fun t1 => if a1 < 0 then some ((), h) else bd (alenF t1) fun x3 => if x3 ≤ a1 then some ((), h) else bd (stI h t1 a1 a2) fun m5 => some ((), m5))
theorem t_X9_put {g : GP} {X : MX} {mcR msR : Nat} (hF : gF g = true) (hX : Cx g RX9 cX9_put 1 mcR msR none [] X) {a0 : Option Nat} {a1 : Int32} {a2 : Int32} {h hz : AH} {z : Unit} (e : s_X9_put a0 a1 a2 h = some (z, hz)) : AR g X 0 0 (QQ g X NT false hz (.inl none) 0 0) h 0 [rfV a0, .int a1, .int a2] [] := by
  unfold s_X9_put at e
  refine aw_aloadO_n (i := 0) (o := a0) hX rfl rfl d_X9_put_0 ?_
  refine aw_ifnull (t := 18) hX (by decide) d_X9_put_1 (fun hq => ?_) (fun t1 hq => ?_)
  · subst hq
    have e_5 := mt_none e
    clear e
    cases e_5
    exact aw_return hX (Nat.zero_le _) (Nat.zero_le _) d_X9_put_18
  · subst hq
    have e_6 := mt_some e
    clear e
    refine aw_iload_n (i := 1) hX rfl rfl d_X9_put_4 ?_
    refine aw_if_lt (t := 18) hX (by decide) d_X9_put_5 (fun c => ?_) (fun c => ?_)
    · rw [if_pos c] at e_6
      cases e_6
      exact aw_return hX (Nat.zero_le _) (Nat.zero_le _) d_X9_put_18
    · rw [if_neg c] at e_6
      refine aw_iload_n (i := 1) hX rfl rfl d_X9_put_8 ?_
      refine aw_aloadO_n (i := 0) (o := some t1) hX rfl rfl d_X9_put_9 ?_
      obtain ⟨x3, f_7, e_7⟩ := bd_some e_6
      clear e_6
      refine ar_alen hX f_7 d_X9_put_10 ?_
      refine aw_icmp_ge (t := 18) hX (by decide) d_X9_put_11 (fun c => ?_) (fun c => ?_)
      · rw [if_pos c] at e_7
        cases e_7
        exact aw_return hX (Nat.zero_le _) (Nat.zero_le _) d_X9_put_18
      · rw [if_neg c] at e_7
        refine aw_aloadO_n (i := 0) (o := some t1) hX rfl rfl d_X9_put_14 ?_
        refine aw_iload_n (i := 1) hX rfl rfl d_X9_put_15 ?_
        refine aw_iload_n (i := 2) hX rfl rfl d_X9_put_16 ?_
        obtain ⟨m5, f_8, e_8⟩ := bd_some e_7
        clear e_7
        refine ar_iastore hX f_8 d_X9_put_17 ?_
        cases e_8
        exact aw_return hX (Nat.zero_le _) (Nat.zero_le _) d_X9_put_18
theorem k_X9_put {g : GP} (hg : g.1.stackTraces = false) (hF : gF g = true) {a0 : Option Nat} {a1 : Int32} {a2 : Int32} {h hz : AH} {z : Unit} (e : s_X9_put a0 a1 a2 h = some (z, hz)) : Ctr g yX9_put (wsY yX9_put cX9_put 3 none) 1 0 0 [rfV a0, .int a1, .int a2] NT false h none NT false hz := ctr_of (lv0 := [rfV a0, .int a1, .int a2]) (by cases a0 <;> rfl) (by cases a0 <;> rfl) (by decide) hg trivial (fun X hX hn => t_X9_put hF hX e)
theorem d_X9_atWide_0 : decode cX9_atWide 0 = .ok (.aload_n 0, 1) := by decide +kernel
theorem d_X9_atWide_1 : decode cX9_atWide 1 = .ok (.ifnull 19, 3) := by decide +kernel
theorem d_X9_atWide_4 : decode cX9_atWide 4 = .ok (.iload_n 1, 1) := by decide +kernel
theorem d_X9_atWide_5 : decode cX9_atWide 5 = .ok (.ifCond .lt 15, 3) := by decide +kernel
theorem d_X9_atWide_8 : decode cX9_atWide 8 = .ok (.iload_n 1, 1) := by decide +kernel
theorem d_X9_atWide_9 : decode cX9_atWide 9 = .ok (.aload_n 0, 1) := by decide +kernel
theorem d_X9_atWide_10 : decode cX9_atWide 10 = .ok (.arraylength, 1) := by decide +kernel
theorem d_X9_atWide_11 : decode cX9_atWide 11 = .ok (.if_icmp .ge 9, 3) := by decide +kernel
theorem d_X9_atWide_14 : decode cX9_atWide 14 = .ok (.aload_n 0, 1) := by decide +kernel
theorem d_X9_atWide_15 : decode cX9_atWide 15 = .ok (.iload_n 1, 1) := by decide +kernel
theorem d_X9_atWide_16 : decode cX9_atWide 16 = .ok (.laload, 1) := by decide +kernel
theorem d_X9_atWide_17 : decode cX9_atWide 17 = .ok (.goto 4, 3) := by decide +kernel
theorem d_X9_atWide_20 : decode cX9_atWide 20 = .ok (.lconst 0, 1) := by decide +kernel
theorem d_X9_atWide_21 : decode cX9_atWide 21 = .ok (.lreturn, 1) := by decide +kernel
def s_X9_atWide (a0 : Option Nat) (a1 : Int32) (h : AH) : Option Int64 := mt a0 (some 0) (fun t1 => if a1 < 0 then some 0 else bd (alenF t1) fun x3 => if x3 ≤ a1 then some 0 else bd (ldL h t1 a1) fun x5 => some x5)
theorem t_X9_atWide {g : GP} {X : MX} {mcR msR : Nat} (hF : gF g = true) (hX : Cx g RX9 cX9_atWide 1 mcR msR (some .long) [] X) {a0 : Option Nat} {a1 : Int32} {h : AH} {z : Int64} (e : s_X9_atWide a0 a1 h = some z) : AR g X 0 0 (QQ g X NT false h (.inl (some (.long z))) 0 0) h 0 [rfV a0, .int a1] [] := by
  unfold s_X9_atWide at e
  refine aw_aloadO_n (i := 0) (o := a0) hX rfl rfl d_X9_atWide_0 ?_
  refine aw_ifnull (t := 20) hX (by decide) d_X9_atWide_1 (fun hq => ?_) (fun t1 hq => ?_)
  · subst hq
    have e_9 := mt_none e
    clear e
    refine aw_lconst (v := 0) hX (by decide) d_X9_atWide_20 ?_
    cases e_9
    exact aw_lreturn hX (Nat.zero_le _) (Nat.zero_le _) d_X9_atWide_21
  · subst hq
    have e_10 := mt_some e
    clear e
    refine aw_iload_n (i := 1) hX rfl rfl d_X9_atWide_4 ?_
    refine aw_if_lt (t := 20) hX (by decide) d_X9_atWide_5 (fun c => ?_) (fun c => ?_)
    · rw [if_pos c] at e_10
      refine aw_lconst (v := 0) hX (by decide) d_X9_atWide_20 ?_
      cases e_10
      exact aw_lreturn hX (Nat.zero_le _) (Nat.zero_le _) d_X9_atWide_21
    · rw [if_neg c] at e_10
      refine aw_iload_n (i := 1) hX rfl rfl d_X9_atWide_8 ?_
      refine aw_aloadO_n (i := 0) (o := some t1) hX rfl rfl d_X9_atWide_9 ?_
      obtain ⟨x3, f_11, e_11⟩ := bd_some e_10
      clear e_10
      refine ar_alen hX f_11 d_X9_atWide_10 ?_
      refine aw_icmp_ge (t := 20) hX (by decide) d_X9_atWide_11 (fun c => ?_) (fun c => ?_)
      · rw [if_pos c] at e_11
        refine aw_lconst (v := 0) hX (by decide) d_X9_atWide_20 ?_
        cases e_11
        exact aw_lreturn hX (Nat.zero_le _) (Nat.zero_le _) d_X9_atWide_21
      · rw [if_neg c] at e_11
        refine aw_aloadO_n (i := 0) (o := some t1) hX rfl rfl d_X9_atWide_14 ?_
        refine aw_iload_n (i := 1) hX rfl rfl d_X9_atWide_15 ?_
        obtain ⟨x5, f_12, e_12⟩ := bd_some e_11
        clear e_11
        refine ar_laload hX f_12 d_X9_atWide_16 ?_
        refine aw_goto (t := 21) hX (by decide) d_X9_atWide_17 ?_
        cases e_12
        exact aw_lreturn hX (Nat.zero_le _) (Nat.zero_le _) d_X9_atWide_21
theorem k_X9_atWide {g : GP} (hg : g.1.stackTraces = false) (hF : gF g = true) {a0 : Option Nat} {a1 : Int32} {h : AH} {z : Int64} (e : s_X9_atWide a0 a1 h = some z) : Ctr g yX9_atWide (wsY yX9_atWide cX9_atWide 2 (some .long)) 1 0 0 [rfV a0, .int a1] NT false h (some (.long z)) NT false h := ctr_of (lv0 := [rfV a0, .int a1]) (by cases a0 <;> rfl) (by cases a0 <;> rfl) (by decide) hg trivial (fun X hX hn => t_X9_atWide hF hX e)
theorem d_X9_putWide_0 : decode cX9_putWide 0 = .ok (.aload_n 0, 1) := by decide +kernel
theorem d_X9_putWide_1 : decode cX9_putWide 1 = .ok (.ifnull 17, 3) := by decide +kernel
theorem d_X9_putWide_4 : decode cX9_putWide 4 = .ok (.iload_n 1, 1) := by decide +kernel
theorem d_X9_putWide_5 : decode cX9_putWide 5 = .ok (.ifCond .lt 13, 3) := by decide +kernel
theorem d_X9_putWide_8 : decode cX9_putWide 8 = .ok (.iload_n 1, 1) := by decide +kernel
theorem d_X9_putWide_9 : decode cX9_putWide 9 = .ok (.aload_n 0, 1) := by decide +kernel
theorem d_X9_putWide_10 : decode cX9_putWide 10 = .ok (.arraylength, 1) := by decide +kernel
theorem d_X9_putWide_11 : decode cX9_putWide 11 = .ok (.if_icmp .ge 7, 3) := by decide +kernel
theorem d_X9_putWide_14 : decode cX9_putWide 14 = .ok (.aload_n 0, 1) := by decide +kernel
theorem d_X9_putWide_15 : decode cX9_putWide 15 = .ok (.iload_n 1, 1) := by decide +kernel
theorem d_X9_putWide_16 : decode cX9_putWide 16 = .ok (.lload_n 2, 1) := by decide +kernel
theorem d_X9_putWide_17 : decode cX9_putWide 17 = .ok (.lastore, 1) := by decide +kernel
theorem d_X9_putWide_18 : decode cX9_putWide 18 = .ok (.return_, 1) := by decide +kernel
def s_X9_putWide (a0 : Option Nat) (a1 : Int32) (a2 : Int64) (h : AH) : Option (Unit × AH) := mt a0 (some ((), h)) (fun t1 => if a1 < 0 then some ((), h) else bd (alenF t1) fun x3 => if x3 ≤ a1 then some ((), h) else bd (stL h t1 a1 a2) fun m5 => some ((), m5))
theorem t_X9_putWide {g : GP} {X : MX} {mcR msR : Nat} (hF : gF g = true) (hX : Cx g RX9 cX9_putWide 1 mcR msR none [] X) {a0 : Option Nat} {a1 : Int32} {a2 : Int64} {h hz : AH} {z : Unit} (e : s_X9_putWide a0 a1 a2 h = some (z, hz)) : AR g X 0 0 (QQ g X NT false hz (.inl none) 0 0) h 0 [rfV a0, .int a1, .long a2, jk] [] := by
  unfold s_X9_putWide at e
  refine aw_aloadO_n (i := 0) (o := a0) hX rfl rfl d_X9_putWide_0 ?_
  refine aw_ifnull (t := 18) hX (by decide) d_X9_putWide_1 (fun hq => ?_) (fun t1 hq => ?_)
  · subst hq
    have e_13 := mt_none e
    clear e
    cases e_13
    exact aw_return hX (Nat.zero_le _) (Nat.zero_le _) d_X9_putWide_18
  · subst hq
    have e_14 := mt_some e
    clear e
    refine aw_iload_n (i := 1) hX rfl rfl d_X9_putWide_4 ?_
    refine aw_if_lt (t := 18) hX (by decide) d_X9_putWide_5 (fun c => ?_) (fun c => ?_)
    · rw [if_pos c] at e_14
      cases e_14
      exact aw_return hX (Nat.zero_le _) (Nat.zero_le _) d_X9_putWide_18
    · rw [if_neg c] at e_14
      refine aw_iload_n (i := 1) hX rfl rfl d_X9_putWide_8 ?_
      refine aw_aloadO_n (i := 0) (o := some t1) hX rfl rfl d_X9_putWide_9 ?_
      obtain ⟨x3, f_15, e_15⟩ := bd_some e_14
      clear e_14
      refine ar_alen hX f_15 d_X9_putWide_10 ?_
      refine aw_icmp_ge (t := 18) hX (by decide) d_X9_putWide_11 (fun c => ?_) (fun c => ?_)
      · rw [if_pos c] at e_15
        cases e_15
        exact aw_return hX (Nat.zero_le _) (Nat.zero_le _) d_X9_putWide_18
      · rw [if_neg c] at e_15
        refine aw_aloadO_n (i := 0) (o := some t1) hX rfl rfl d_X9_putWide_14 ?_
        refine aw_iload_n (i := 1) hX rfl rfl d_X9_putWide_15 ?_
        refine aw_lload_n (i := 2) hX rfl rfl d_X9_putWide_16 ?_
        obtain ⟨m5, f_16, e_16⟩ := bd_some e_15
        clear e_15
        refine ar_lastore hX f_16 d_X9_putWide_17 ?_
        cases e_16
        exact aw_return hX (Nat.zero_le _) (Nat.zero_le _) d_X9_putWide_18
theorem k_X9_putWide {g : GP} (hg : g.1.stackTraces = false) (hF : gF g = true) {a0 : Option Nat} {a1 : Int32} {a2 : Int64} {h hz : AH} {z : Unit} (e : s_X9_putWide a0 a1 a2 h = some (z, hz)) : Ctr g yX9_putWide (wsY yX9_putWide cX9_putWide 4 none) 1 0 0 [rfV a0, .int a1, .long a2] NT false h none NT false hz := ctr_of (lv0 := [rfV a0, .int a1, .long a2, jk]) (by cases a0 <;> rfl) (by cases a0 <;> rfl) (by decide) hg trivial (fun X hX hn => t_X9_putWide hF hX e)
theorem d_X9_copyRow_0 : decode cX9_copyRow 0 = .ok (.iconst 0, 1) := by decide +kernel
theorem d_X9_copyRow_1 : decode cX9_copyRow 1 = .ok (.istore_n 2, 1) := by decide +kernel
theorem d_X9_copyRow_2 : decode cX9_copyRow 2 = .ok (.aload_n 0, 1) := by decide +kernel
theorem d_X9_copyRow_3 : decode cX9_copyRow 3 = .ok (.ifnull 31, 3) := by decide +kernel
theorem d_X9_copyRow_6 : decode cX9_copyRow 6 = .ok (.aload_n 1, 1) := by decide +kernel
theorem d_X9_copyRow_7 : decode cX9_copyRow 7 = .ok (.ifnull 27, 3) := by decide +kernel
theorem d_X9_copyRow_10 : decode cX9_copyRow 10 = .ok (.iload_n 2, 1) := by decide +kernel
theorem d_X9_copyRow_11 : decode cX9_copyRow 11 = .ok (.aload_n 0, 1) := by decide +kernel
theorem d_X9_copyRow_12 : decode cX9_copyRow 12 = .ok (.arraylength, 1) := by decide +kernel
theorem d_X9_copyRow_13 : decode cX9_copyRow 13 = .ok (.if_icmp .ge 21, 3) := by decide +kernel
theorem d_X9_copyRow_16 : decode cX9_copyRow 16 = .ok (.iload_n 2, 1) := by decide +kernel
theorem d_X9_copyRow_17 : decode cX9_copyRow 17 = .ok (.aload_n 1, 1) := by decide +kernel
theorem d_X9_copyRow_18 : decode cX9_copyRow 18 = .ok (.arraylength, 1) := by decide +kernel
theorem d_X9_copyRow_19 : decode cX9_copyRow 19 = .ok (.if_icmp .ge 15, 3) := by decide +kernel
theorem d_X9_copyRow_22 : decode cX9_copyRow 22 = .ok (.aload_n 1, 1) := by decide +kernel
theorem d_X9_copyRow_23 : decode cX9_copyRow 23 = .ok (.iload_n 2, 1) := by decide +kernel
theorem d_X9_copyRow_24 : decode cX9_copyRow 24 = .ok (.aload_n 0, 1) := by decide +kernel
theorem d_X9_copyRow_25 : decode cX9_copyRow 25 = .ok (.iload_n 2, 1) := by decide +kernel
theorem d_X9_copyRow_26 : decode cX9_copyRow 26 = .ok (.iaload, 1) := by decide +kernel
theorem d_X9_copyRow_27 : decode cX9_copyRow 27 = .ok (.iastore, 1) := by decide +kernel
theorem d_X9_copyRow_28 : decode cX9_copyRow 28 = .ok (.iinc 2 1, 3) := by decide +kernel
theorem d_X9_copyRow_31 : decode cX9_copyRow 31 = .ok (.goto (-29), 3) := by decide +kernel
theorem d_X9_copyRow_34 : decode cX9_copyRow 34 = .ok (.return_, 1) := by decide +kernel
def l_X9_copyRow_2 (p0 : Option Nat) (p1 : Option Nat) (s : Int32) (h : AH) : Option ((Int32 ⊕ Unit) × AH) := mt p0 (some (.inr (), h)) (fun t1 => mt p1 (some (.inr (), h)) (fun t2 => bd (alenF t1) fun x4 => if x4 ≤ s then some (.inr (), h) else bd (alenF t2) fun x6 => if x6 ≤ s then some (.inr (), h) else bd (ldI h t1 s) fun x8 => bd (stI h t2 s x8) fun m10 => some (.inl (s + 1), m10)))
theorem tb_X9_copyRow_2 {g : GP} {X : MX} {mcR msR : Nat} (hF : gF g = true) (hX : Cx g RX9 cX9_copyRow 1 mcR msR none [] X) {Q : State → Prop} {p0 : Option Nat} {p1 : Option Nat} {s : Int32} {h hz : AH} {z : (Int32 ⊕ Unit)} (e : l_X9_copyRow_2 p0 p1 s h = some (z, hz)) (kI : ∀ (s2 : Int32), z = .inl s2 → AR g X 0 0 Q hz 2 [rfV p0, rfV p1, .int s2] []) (kE0 : ∀ (yy : Unit) (y0 : Value) (y1 : Value) (y2 : Value), z = .inr yy → AR g X 0 0 Q hz 34 [y0, y1, y2] []) : AR g X 0 0 Q h 2 [rfV p0, rfV p1, .int s] [] := by
  unfold l_X9_copyRow_2 at e
  refine aw_aloadO_n (i := 0) (o := p0) hX rfl rfl d_X9_copyRow_2 ?_
  refine aw_ifnull (t := 34) hX (by decide) d_X9_copyRow_3 (fun hq => ?_) (fun t1 hq => ?_)
  · subst hq
    have e_17 := mt_none e
    clear e
    cases e_17
    exact kE0 () _ _ _ rfl
  · subst hq
    have e_18 := mt_some e
    clear e
    refine aw_aloadO_n (i := 1) (o := p1) hX rfl rfl d_X9_copyRow_6 ?_
    refine aw_ifnull (t := 34) hX (by decide) d_X9_copyRow_7 (fun hq => ?_) (fun t2 hq => ?_)
    · subst hq
      have e_19 := mt_none e_18
      clear e_18
      cases e_19
      exact kE0 () _ _ _ rfl
    · subst hq
      have e_20 := mt_some e_18
      clear e_18
      refine aw_iload_n (i := 2) hX rfl rfl d_X9_copyRow_10 ?_
      refine aw_aloadO_n (i := 0) (o := some t1) hX rfl rfl d_X9_copyRow_11 ?_
      obtain ⟨x4, f_21, e_21⟩ := bd_some e_20
      clear e_20
      refine ar_alen hX f_21 d_X9_copyRow_12 ?_
      refine aw_icmp_ge (t := 34) hX (by decide) d_X9_copyRow_13 (fun c => ?_) (fun c => ?_)
      · rw [if_pos c] at e_21
        cases e_21
        exact kE0 () _ _ _ rfl
      · rw [if_neg c] at e_21
        refine aw_iload_n (i := 2) hX rfl rfl d_X9_copyRow_16 ?_
        refine aw_aloadO_n (i := 1) (o := some t2) hX rfl rfl d_X9_copyRow_17 ?_
        obtain ⟨x6, f_22, e_22⟩ := bd_some e_21
        clear e_21
        refine ar_alen hX f_22 d_X9_copyRow_18 ?_
        refine aw_icmp_ge (t := 34) hX (by decide) d_X9_copyRow_19 (fun c => ?_) (fun c => ?_)
        · rw [if_pos c] at e_22
          cases e_22
          exact kE0 () _ _ _ rfl
        · rw [if_neg c] at e_22
          refine aw_aloadO_n (i := 1) (o := some t2) hX rfl rfl d_X9_copyRow_22 ?_
          refine aw_iload_n (i := 2) hX rfl rfl d_X9_copyRow_23 ?_
          refine aw_aloadO_n (i := 0) (o := some t1) hX rfl rfl d_X9_copyRow_24 ?_
          refine aw_iload_n (i := 2) hX rfl rfl d_X9_copyRow_25 ?_
          obtain ⟨x8, f_23, e_23⟩ := bd_some e_22
          clear e_22
          refine ar_iaload hX f_23 d_X9_copyRow_26 ?_
          obtain ⟨m10, f_24, e_24⟩ := bd_some e_23
          clear e_23
          refine ar_iastore hX f_24 d_X9_copyRow_27 ?_
          refine aw_iinc (i := 2) (lv2 := [rfV (some t1), rfV (some t2), .int (s + 1)]) hX rfl rfl (by show List.set (List.set _ _ (uncV (rfV _))) _ _ = _; rw [uncV_rfV]; rfl) rfl d_X9_copyRow_28 ?_
          refine aw_goto (t := 2) hX (by decide) d_X9_copyRow_31 ?_
          cases e_24
          exact kI (s + 1)  rfl
theorem ti_X9_copyRow_2 {g : GP} {X : MX} {mcR msR : Nat} (hF : gF g = true) (hX : Cx g RX9 cX9_copyRow 1 mcR msR none [] X) {Q : State → Prop} {p0 : Option Nat} {p1 : Option Nat} {y : Unit} {hz : AH} (kE0 : ∀ (y_0 : Value) (y_1 : Value) (y_2 : Value), AR g X 0 0 Q hz 34 [y_0, y_1, y_2] []) (n : Nat) : ∀ (s : Int32) (h : AH), lpH (l_X9_copyRow_2 p0 p1) n s h = some (y, hz) → AR g X 0 0 Q h 2 [rfV p0, rfV p1, .int s] [] := by
  induction n with
  | zero => intro s h e; cases e
  | succ n ih =>
    intro s h e
    obtain ⟨x, h1, e1, e2⟩ := lpH_succ e
    rcases e2 with ⟨s2, rfl, e3⟩ | ⟨rfl, rfl⟩
    · exact tb_X9_copyRow_2 hF hX e1 (fun s3  hs => by cases hs; exact ih _  _ e3) (fun yy x0 x1 x2 hy => by cases hy)
    · exact tb_X9_copyRow_2 hF hX e1 (fun s3  hs => by cases hs) (fun yy x0 x1 x2 hy => by cases hy; exact kE0 x0 x1 x2)
theorem t_X9_copyRow_2 {g : GP} {X : MX} {mcR msR : Nat} (hF : gF g = true) (hX : Cx g RX9 cX9_copyRow 1 mcR msR none [] X) {Q : State → Prop} {p0 : Option Nat} {p1 : Option Nat} {s : Int32} {h hz : AH} {n : Nat} {y : Unit} (e : lpH (l_X9_copyRow_2 p0 p1) n s h = some (y, hz)) (kE0 : ∀ (y_0 : Value) (y_1 : Value) (y_2 : Value), AR g X 0 0 Q hz 34 [y_0, y_1, y_2] []) : AR g X 0 0 Q h 2 [rfV p0, rfV p1, .int s] [] := ti_X9_copyRow_2 hF hX kE0 n _  _ e
def s_X9_copyRow (a0 : Option Nat) (a1 : Option Nat) (h : AH) : Option (Unit × AH) := bd (lpH (l_X9_copyRow_2 a0 a1) FU 0 h) fun y11 => some ((), y11.2)
theorem t_X9_copyRow {g : GP} {X : MX} {mcR msR : Nat} (hF : gF g = true) (hX : Cx g RX9 cX9_copyRow 1 mcR msR none [] X) {a0 : Option Nat} {a1 : Option Nat} {h hz : AH} {z : Unit} (e : s_X9_copyRow a0 a1 h = some (z, hz)) : AR g X 0 0 (QQ g X NT false hz (.inl none) 0 0) h 0 [rfV a0, rfV a1, jk] [] := by
  unfold s_X9_copyRow at e
  refine aw_iconst (v := 0) hX (by decide) d_X9_copyRow_0 ?_
  refine aw_istore_n (i := 2) (lv2 := [rfV a0, rfV a1, .int 0]) hX rfl (by show List.set (List.set _ _ (uncV (rfV _))) _ _ = _; rw [uncV_rfV]; rfl) rfl d_X9_copyRow_1 ?_
  obtain ⟨y11, f_25, e_25⟩ := bd_some e
  clear e
  refine t_X9_copyRow_2 hF hX f_25 (fun d12_0 d12_1 d12_2 => ?_)
  cases e_25
  exact aw_return hX (Nat.zero_le _) (Nat.zero_le _) d_X9_copyRow_34
theorem k_X9_copyRow {g : GP} (hg : g.1.stackTraces = false) (hF : gF g = true) {a0 : Option Nat} {a1 : Option Nat} {h hz : AH} {z : Unit} (e : s_X9_copyRow a0 a1 h = some (z, hz)) : Ctr g yX9_copyRow (wsY yX9_copyRow cX9_copyRow 3 none) 1 0 0 [rfV a0, rfV a1] NT false h none NT false hz := ctr_of (lv0 := [rfV a0, rfV a1, jk]) (by cases a0 <;> cases a1 <;> rfl) (by cases a0 <;> cases a1 <;> rfl) (by decide) hg trivial (fun X hX hn => t_X9_copyRow hF hX e)
theorem d_X9_fillRow_0 : decode cX9_fillRow 0 = .ok (.iconst 0, 1) := by decide +kernel
theorem d_X9_fillRow_1 : decode cX9_fillRow 1 = .ok (.istore_n 2, 1) := by decide +kernel
theorem d_X9_fillRow_2 : decode cX9_fillRow 2 = .ok (.aload_n 0, 1) := by decide +kernel
theorem d_X9_fillRow_3 : decode cX9_fillRow 3 = .ok (.ifnull 19, 3) := by decide +kernel
theorem d_X9_fillRow_6 : decode cX9_fillRow 6 = .ok (.iload_n 2, 1) := by decide +kernel
theorem d_X9_fillRow_7 : decode cX9_fillRow 7 = .ok (.aload_n 0, 1) := by decide +kernel
theorem d_X9_fillRow_8 : decode cX9_fillRow 8 = .ok (.arraylength, 1) := by decide +kernel
theorem d_X9_fillRow_9 : decode cX9_fillRow 9 = .ok (.if_icmp .ge 13, 3) := by decide +kernel
theorem d_X9_fillRow_12 : decode cX9_fillRow 12 = .ok (.aload_n 0, 1) := by decide +kernel
theorem d_X9_fillRow_13 : decode cX9_fillRow 13 = .ok (.iload_n 2, 1) := by decide +kernel
theorem d_X9_fillRow_14 : decode cX9_fillRow 14 = .ok (.iload_n 1, 1) := by decide +kernel
theorem d_X9_fillRow_15 : decode cX9_fillRow 15 = .ok (.iastore, 1) := by decide +kernel
theorem d_X9_fillRow_16 : decode cX9_fillRow 16 = .ok (.iinc 2 1, 3) := by decide +kernel
theorem d_X9_fillRow_19 : decode cX9_fillRow 19 = .ok (.goto (-17), 3) := by decide +kernel
theorem d_X9_fillRow_22 : decode cX9_fillRow 22 = .ok (.return_, 1) := by decide +kernel
def l_X9_fillRow_2 (p0 : Option Nat) (p1 : Int32) (s : Int32) (h : AH) : Option ((Int32 ⊕ Unit) × AH) := mt p0 (some (.inr (), h)) (fun t1 => bd (alenF t1) fun x3 => if x3 ≤ s then some (.inr (), h) else bd (stI h t1 s p1) fun m5 => some (.inl (s + 1), m5))
theorem tb_X9_fillRow_2 {g : GP} {X : MX} {mcR msR : Nat} (hF : gF g = true) (hX : Cx g RX9 cX9_fillRow 1 mcR msR none [] X) {Q : State → Prop} {p0 : Option Nat} {p1 : Int32} {s : Int32} {h hz : AH} {z : (Int32 ⊕ Unit)} (e : l_X9_fillRow_2 p0 p1 s h = some (z, hz)) (kI : ∀ (s2 : Int32), z = .inl s2 → AR g X 0 0 Q hz 2 [rfV p0, .int p1, .int s2] []) (kE0 : ∀ (yy : Unit) (y0 : Value) (y1 : Value) (y2 : Value), z = .inr yy → AR g X 0 0 Q hz 22 [y0, y1, y2] []) : AR g X 0 0 Q h 2 [rfV p0, .int p1, .int s] [] := by
  unfold l_X9_fillRow_2 at e
  refine aw_aloadO_n (i := 0) (o := p0) hX rfl rfl d_X9_fillRow_2 ?_
  refine aw_ifnull (t := 22) hX (by decide) d_X9_fillRow_3 (fun hq => ?_) (fun t1 hq => ?_)
  · subst hq
    have e_26 := mt_none e
    clear e
    cases e_26
    exact kE0 () _ _ _ rfl
  · subst hq
    have e_27 := mt_some e
    clear e
    refine aw_iload_n (i := 2) hX rfl rfl d_X9_fillRow_6 ?_
    refine aw_aloadO_n (i := 0) (o := some t1) hX rfl rfl d_X9_fillRow_7 ?_
    obtain ⟨x3, f_28, e_28⟩ := bd_some e_27
    clear e_27
    refine ar_alen hX f_28 d_X9_fillRow_8 ?_
    refine aw_icmp_ge (t := 22) hX (by decide) d_X9_fillRow_9 (fun c => ?_) (fun c => ?_)
    · rw [if_pos c] at e_28
      cases e_28
      exact kE0 () _ _ _ rfl
    · rw [if_neg c] at e_28
      refine aw_aloadO_n (i := 0) (o := some t1) hX rfl rfl d_X9_fillRow_12 ?_
      refine aw_iload_n (i := 2) hX rfl rfl d_X9_fillRow_13 ?_
      refine aw_iload_n (i := 1) hX rfl rfl d_X9_fillRow_14 ?_
      obtain ⟨m5, f_29, e_29⟩ := bd_some e_28
      clear e_28
      refine ar_iastore hX f_29 d_X9_fillRow_15 ?_
      refine aw_iinc (i := 2) (lv2 := [rfV (some t1), .int p1, .int (s + 1)]) hX rfl rfl rfl rfl d_X9_fillRow_16 ?_
      refine aw_goto (t := 2) hX (by decide) d_X9_fillRow_19 ?_
      cases e_29
      exact kI (s + 1)  rfl
theorem ti_X9_fillRow_2 {g : GP} {X : MX} {mcR msR : Nat} (hF : gF g = true) (hX : Cx g RX9 cX9_fillRow 1 mcR msR none [] X) {Q : State → Prop} {p0 : Option Nat} {p1 : Int32} {y : Unit} {hz : AH} (kE0 : ∀ (y_0 : Value) (y_1 : Value) (y_2 : Value), AR g X 0 0 Q hz 22 [y_0, y_1, y_2] []) (n : Nat) : ∀ (s : Int32) (h : AH), lpH (l_X9_fillRow_2 p0 p1) n s h = some (y, hz) → AR g X 0 0 Q h 2 [rfV p0, .int p1, .int s] [] := by
  induction n with
  | zero => intro s h e; cases e
  | succ n ih =>
    intro s h e
    obtain ⟨x, h1, e1, e2⟩ := lpH_succ e
    rcases e2 with ⟨s2, rfl, e3⟩ | ⟨rfl, rfl⟩
    · exact tb_X9_fillRow_2 hF hX e1 (fun s3  hs => by cases hs; exact ih _  _ e3) (fun yy x0 x1 x2 hy => by cases hy)
    · exact tb_X9_fillRow_2 hF hX e1 (fun s3  hs => by cases hs) (fun yy x0 x1 x2 hy => by cases hy; exact kE0 x0 x1 x2)
theorem t_X9_fillRow_2 {g : GP} {X : MX} {mcR msR : Nat} (hF : gF g = true) (hX : Cx g RX9 cX9_fillRow 1 mcR msR none [] X) {Q : State → Prop} {p0 : Option Nat} {p1 : Int32} {s : Int32} {h hz : AH} {n : Nat} {y : Unit} (e : lpH (l_X9_fillRow_2 p0 p1) n s h = some (y, hz)) (kE0 : ∀ (y_0 : Value) (y_1 : Value) (y_2 : Value), AR g X 0 0 Q hz 22 [y_0, y_1, y_2] []) : AR g X 0 0 Q h 2 [rfV p0, .int p1, .int s] [] := ti_X9_fillRow_2 hF hX kE0 n _  _ e
def s_X9_fillRow (a0 : Option Nat) (a1 : Int32) (h : AH) : Option (Unit × AH) := bd (lpH (l_X9_fillRow_2 a0 a1) FU 0 h) fun y6 => some ((), y6.2)
theorem t_X9_fillRow {g : GP} {X : MX} {mcR msR : Nat} (hF : gF g = true) (hX : Cx g RX9 cX9_fillRow 1 mcR msR none [] X) {a0 : Option Nat} {a1 : Int32} {h hz : AH} {z : Unit} (e : s_X9_fillRow a0 a1 h = some (z, hz)) : AR g X 0 0 (QQ g X NT false hz (.inl none) 0 0) h 0 [rfV a0, .int a1, jk] [] := by
  unfold s_X9_fillRow at e
  refine aw_iconst (v := 0) hX (by decide) d_X9_fillRow_0 ?_
  refine aw_istore_n (i := 2) (lv2 := [rfV a0, .int a1, .int 0]) hX rfl rfl rfl d_X9_fillRow_1 ?_
  obtain ⟨y6, f_30, e_30⟩ := bd_some e
  clear e
  refine t_X9_fillRow_2 hF hX f_30 (fun d7_0 d7_1 d7_2 => ?_)
  cases e_30
  exact aw_return hX (Nat.zero_le _) (Nat.zero_le _) d_X9_fillRow_22
theorem k_X9_fillRow {g : GP} (hg : g.1.stackTraces = false) (hF : gF g = true) {a0 : Option Nat} {a1 : Int32} {h hz : AH} {z : Unit} (e : s_X9_fillRow a0 a1 h = some (z, hz)) : Ctr g yX9_fillRow (wsY yX9_fillRow cX9_fillRow 3 none) 1 0 0 [rfV a0, .int a1] NT false h none NT false hz := ctr_of (lv0 := [rfV a0, .int a1, jk]) (by cases a0 <;> rfl) (by cases a0 <;> rfl) (by decide) hg trivial (fun X hX hn => t_X9_fillRow hF hX e)
theorem d_X9_fillWide_0 : decode cX9_fillWide 0 = .ok (.iconst 0, 1) := by decide +kernel
theorem d_X9_fillWide_1 : decode cX9_fillWide 1 = .ok (.istore_n 3, 1) := by decide +kernel
theorem d_X9_fillWide_2 : decode cX9_fillWide 2 = .ok (.aload_n 0, 1) := by decide +kernel
theorem d_X9_fillWide_3 : decode cX9_fillWide 3 = .ok (.ifnull 19, 3) := by decide +kernel
theorem d_X9_fillWide_6 : decode cX9_fillWide 6 = .ok (.iload_n 3, 1) := by decide +kernel
theorem d_X9_fillWide_7 : decode cX9_fillWide 7 = .ok (.aload_n 0, 1) := by decide +kernel
theorem d_X9_fillWide_8 : decode cX9_fillWide 8 = .ok (.arraylength, 1) := by decide +kernel
theorem d_X9_fillWide_9 : decode cX9_fillWide 9 = .ok (.if_icmp .ge 13, 3) := by decide +kernel
theorem d_X9_fillWide_12 : decode cX9_fillWide 12 = .ok (.aload_n 0, 1) := by decide +kernel
theorem d_X9_fillWide_13 : decode cX9_fillWide 13 = .ok (.iload_n 3, 1) := by decide +kernel
theorem d_X9_fillWide_14 : decode cX9_fillWide 14 = .ok (.lload_n 1, 1) := by decide +kernel
theorem d_X9_fillWide_15 : decode cX9_fillWide 15 = .ok (.lastore, 1) := by decide +kernel
theorem d_X9_fillWide_16 : decode cX9_fillWide 16 = .ok (.iinc 3 1, 3) := by decide +kernel
theorem d_X9_fillWide_19 : decode cX9_fillWide 19 = .ok (.goto (-17), 3) := by decide +kernel
theorem d_X9_fillWide_22 : decode cX9_fillWide 22 = .ok (.return_, 1) := by decide +kernel
def l_X9_fillWide_2 (p0 : Option Nat) (p1 : Int64) (s : Int32) (h : AH) : Option ((Int32 ⊕ Unit) × AH) := mt p0 (some (.inr (), h)) (fun t1 => bd (alenF t1) fun x3 => if x3 ≤ s then some (.inr (), h) else bd (stL h t1 s p1) fun m5 => some (.inl (s + 1), m5))
theorem tb_X9_fillWide_2 {g : GP} {X : MX} {mcR msR : Nat} (hF : gF g = true) (hX : Cx g RX9 cX9_fillWide 1 mcR msR none [] X) {Q : State → Prop} {p0 : Option Nat} {p1 : Int64} {s : Int32} {h hz : AH} {z : (Int32 ⊕ Unit)} (e : l_X9_fillWide_2 p0 p1 s h = some (z, hz)) (kI : ∀ (s2 : Int32), z = .inl s2 → AR g X 0 0 Q hz 2 [rfV p0, .long p1, jk, .int s2] []) (kE0 : ∀ (yy : Unit) (y0 : Value) (y1 : Value) (y2 : Value) (y3 : Value), z = .inr yy → AR g X 0 0 Q hz 22 [y0, y1, y2, y3] []) : AR g X 0 0 Q h 2 [rfV p0, .long p1, jk, .int s] [] := by
  unfold l_X9_fillWide_2 at e
  refine aw_aloadO_n (i := 0) (o := p0) hX rfl rfl d_X9_fillWide_2 ?_
  refine aw_ifnull (t := 22) hX (by decide) d_X9_fillWide_3 (fun hq => ?_) (fun t1 hq => ?_)
  · subst hq
    have e_31 := mt_none e
    clear e
    cases e_31
    exact kE0 () _ _ _ _ rfl
  · subst hq
    have e_32 := mt_some e
    clear e
    refine aw_iload_n (i := 3) hX rfl rfl d_X9_fillWide_6 ?_
    refine aw_aloadO_n (i := 0) (o := some t1) hX rfl rfl d_X9_fillWide_7 ?_
    obtain ⟨x3, f_33, e_33⟩ := bd_some e_32
    clear e_32
    refine ar_alen hX f_33 d_X9_fillWide_8 ?_
    refine aw_icmp_ge (t := 22) hX (by decide) d_X9_fillWide_9 (fun c => ?_) (fun c => ?_)
    · rw [if_pos c] at e_33
      cases e_33
      exact kE0 () _ _ _ _ rfl
    · rw [if_neg c] at e_33
      refine aw_aloadO_n (i := 0) (o := some t1) hX rfl rfl d_X9_fillWide_12 ?_
      refine aw_iload_n (i := 3) hX rfl rfl d_X9_fillWide_13 ?_
      refine aw_lload_n (i := 1) hX rfl rfl d_X9_fillWide_14 ?_
      obtain ⟨m5, f_34, e_34⟩ := bd_some e_33
      clear e_33
      refine ar_lastore hX f_34 d_X9_fillWide_15 ?_
      refine aw_iinc (i := 3) (lv2 := [rfV (some t1), .long p1, jk, .int (s + 1)]) hX rfl rfl rfl rfl d_X9_fillWide_16 ?_
      refine aw_goto (t := 2) hX (by decide) d_X9_fillWide_19 ?_
      cases e_34
      exact kI (s + 1)  rfl
theorem ti_X9_fillWide_2 {g : GP} {X : MX} {mcR msR : Nat} (hF : gF g = true) (hX : Cx g RX9 cX9_fillWide 1 mcR msR none [] X) {Q : State → Prop} {p0 : Option Nat} {p1 : Int64} {y : Unit} {hz : AH} (kE0 : ∀ (y_0 : Value) (y_1 : Value) (y_2 : Value) (y_3 : Value), AR g X 0 0 Q hz 22 [y_0, y_1, y_2, y_3] []) (n : Nat) : ∀ (s : Int32) (h : AH), lpH (l_X9_fillWide_2 p0 p1) n s h = some (y, hz) → AR g X 0 0 Q h 2 [rfV p0, .long p1, jk, .int s] [] := by
  induction n with
  | zero => intro s h e; cases e
  | succ n ih =>
    intro s h e
    obtain ⟨x, h1, e1, e2⟩ := lpH_succ e
    rcases e2 with ⟨s2, rfl, e3⟩ | ⟨rfl, rfl⟩
    · exact tb_X9_fillWide_2 hF hX e1 (fun s3  hs => by cases hs; exact ih _  _ e3) (fun yy x0 x1 x2 x3 hy => by cases hy)
    · exact tb_X9_fillWide_2 hF hX e1 (fun s3  hs => by cases hs) (fun yy x0 x1 x2 x3 hy => by cases hy; exact kE0 x0 x1 x2 x3)
theorem t_X9_fillWide_2 {g : GP} {X : MX} {mcR msR : Nat} (hF : gF g = true) (hX : Cx g RX9 cX9_fillWide 1 mcR msR none [] X) {Q : State → Prop} {p0 : Option Nat} {p1 : Int64} {s : Int32} {h hz : AH} {n : Nat} {y : Unit} (e : lpH (l_X9_fillWide_2 p0 p1) n s h = some (y, hz)) (kE0 : ∀ (y_0 : Value) (y_1 : Value) (y_2 : Value) (y_3 : Value), AR g X 0 0 Q hz 22 [y_0, y_1, y_2, y_3] []) : AR g X 0 0 Q h 2 [rfV p0, .long p1, jk, .int s] [] := ti_X9_fillWide_2 hF hX kE0 n _  _ e
def s_X9_fillWide (a0 : Option Nat) (a1 : Int64) (h : AH) : Option (Unit × AH) := bd (lpH (l_X9_fillWide_2 a0 a1) FU 0 h) fun y6 => some ((), y6.2)
theorem t_X9_fillWide {g : GP} {X : MX} {mcR msR : Nat} (hF : gF g = true) (hX : Cx g RX9 cX9_fillWide 1 mcR msR none [] X) {a0 : Option Nat} {a1 : Int64} {h hz : AH} {z : Unit} (e : s_X9_fillWide a0 a1 h = some (z, hz)) : AR g X 0 0 (QQ g X NT false hz (.inl none) 0 0) h 0 [rfV a0, .long a1, jk, jk] [] := by
  unfold s_X9_fillWide at e
  refine aw_iconst (v := 0) hX (by decide) d_X9_fillWide_0 ?_
  refine aw_istore_n (i := 3) (lv2 := [rfV a0, .long a1, jk, .int 0]) hX rfl rfl rfl d_X9_fillWide_1 ?_
  obtain ⟨y6, f_35, e_35⟩ := bd_some e
  clear e
  refine t_X9_fillWide_2 hF hX f_35 (fun d7_0 d7_1 d7_2 d7_3 => ?_)
  cases e_35
  exact aw_return hX (Nat.zero_le _) (Nat.zero_le _) d_X9_fillWide_22
theorem k_X9_fillWide {g : GP} (hg : g.1.stackTraces = false) (hF : gF g = true) {a0 : Option Nat} {a1 : Int64} {h hz : AH} {z : Unit} (e : s_X9_fillWide a0 a1 h = some (z, hz)) : Ctr g yX9_fillWide (wsY yX9_fillWide cX9_fillWide 4 none) 1 0 0 [rfV a0, .long a1] NT false h none NT false hz := ctr_of (lv0 := [rfV a0, .long a1, jk, jk]) (by cases a0 <;> rfl) (by cases a0 <;> rfl) (by decide) hg trivial (fun X hX hn => t_X9_fillWide hF hX e)
