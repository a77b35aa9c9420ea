/-! the law and its helpers, by program -/
theorem d_L_hall_0 : decode cL_hall 0 = .ok (.aload_n 2, 1) := by decide +kernel
theorem d_L_hall_1 : decode cL_hall 1 = .ok (.iconst 0, 1) := by decide +kernel
theorem d_L_hall_2 : decode cL_hall 2 = .ok (.aload_n 0, 1) := by decide +kernel
theorem d_L_hall_3 : decode cL_hall 3 = .ok (.iload_n 1, 1) := by decide +kernel
theorem d_L_hall_4 : decode cL_hall 4 = .ok (.invokevirtual 7, 3) := by decide +kernel
theorem d_L_hall_7 : decode cL_hall 7 = .ok (.i2l, 1) := by decide +kernel
theorem d_L_hall_8 : decode cL_hall 8 = .ok (.lastore, 1) := by decide +kernel
theorem d_L_hall_9 : decode cL_hall 9 = .ok (.goto 6, 3) := by decide +kernel
theorem d_L_hall_12 : decode cL_hall 12 = .ok (.astore_n 3, 1) := by decide +kernel
theorem d_L_hall_13 : decode cL_hall 13 = .ok (.iconst 1, 1) := by decide +kernel
theorem d_L_hall_14 : decode cL_hall 14 = .ok (.ireturn, 1) := by decide +kernel
theorem d_L_hall_15 : decode cL_hall 15 = .ok (.iconst 0, 1) := by decide +kernel
theorem d_L_hall_16 : decode cL_hall 16 = .ok (.ireturn, 1) := by decide +kernel
def s_L_hall (a0 : Option Nat) (a1 : Int32) (a2 : Option Nat) (h : AH) : Option (Int32 × AH) := if a0 = some 0 then bd (s_X9_hall a1 h) fun q1 => sm q1.1 (fun x2 => bd a2 fun t3 => bd (stL q1.2 t3 0 x2.toInt64) fun m4 => some (0, m4)) (fun E5 => if E5 = 1 then some (1, q1.2) else none) else none
theorem t_L_hall {g : GP} {X : MX} {mcR msR : Nat} (hF : gF g = true) (hX : Cx g RL cL_hall 11 mcR msR (some .int) (tableOf [(0, 9, 12, 13)]) X) {a0 : Option Nat} {a1 : Int32} {a2 : Option Nat} {h hz : AH} {z : Int32} (e : s_L_hall a0 a1 a2 h = some (z, hz)) (hM1 : 1 ≤ mcR) (hM2 : 6 ≤ msR) : AR g X 0 0 (QQ g X NT false hz (.inl (some (.int z))) 1 6) h 0 [rfV a0, .int a1, rfV a2, jk] [] := by
  unfold s_L_hall at e
  obtain ⟨rfl, e_1573⟩ := if_some e
  clear e
  refine aw_aloadO_n (i := 2) (o := a2) hX rfl rfl d_L_hall_0 ?_
  refine aw_iconst (v := 0) hX (by decide) d_L_hall_1 ?_
  refine aw_aload_n (i := 0) hX rfl rfl d_L_hall_2 ?_
  refine aw_iload_n (i := 1) hX rfl rfl d_L_hall_3 ?_
  obtain ⟨q1, f_1574, e_1574⟩ := bd_some e_1573
  clear e_1573
  obtain ⟨z6, m7⟩ := q1
  rcases z6 with x2 | E5
  · have e_1575 := sm_inl e_1574
    clear e_1574
    refine aw_callV (b := 0) (av := [.int a1]) (avr := [.int a1]) (st := [.int 0, rfV a2]) hX (k_X9_hall (cx_g hX) hF f_1574) mi_X9_hall rfl rfl w_905 w_906 w_907 (by decide) rfl (LAY_lt rfl (by decide)) rfl rfl (by simp only [stW, List.map_cons, List.map_nil, rfV_cat, List.sum_cons, List.sum_nil]; exact Nat.le_of_ble_eq_true rfl) (Nat.zero_le _) (Nat.zero_le _) d_L_hall_4 ?_
    refine aw_i2l hX d_L_hall_7 ?_
    obtain ⟨t3, f_1576, e_1576⟩ := bd_some e_1575
    clear e_1575
    subst f_1576
    obtain ⟨m4, f_1577, e_1577⟩ := bd_some e_1576
    clear e_1576
    refine ar_lastore hX f_1577 d_L_hall_8 ?_
    refine aw_goto (t := 15) hX (by decide) d_L_hall_9 ?_
    refine aw_iconst (v := 0) hX (by decide) d_L_hall_15 ?_
    cases e_1577
    exact aw_ireturn hX (by decide) (by decide) d_L_hall_16
  · have e_1578 := sm_inr e_1574
    clear e_1574
    obtain ⟨hqE5, e_1579⟩ := if_some e_1578
    clear e_1578
    subst hqE5
    refine aw_callC (b := 0) (av := [.int a1]) (avr := [.int a1]) (st := [.int 0, rfV a2]) hX (kx_X9_hall (cx_g hX) hF f_1574) mi_X9_hall rfl rfl w_905 w_906 w_907 (by decide) rfl (LAY_lt rfl (by decide)) rfl rfl (by simp only [stW, List.map_cons, List.map_nil, rfV_cat, List.sum_cons, List.sum_nil]; exact Nat.le_of_ble_eq_true rfl) hM1 hM2 d_L_hall_4 [] ⟨0, 9, 12, 13⟩ [] rfl (fun z hz => by cases hz) rfl (by decide) w_908 cast_1 (awr_n (i := 3) (lv2 := [.ref 0, .int a1, rfV a2, jk]) hX rfl (by show List.set (List.set _ _ (uncV (rfV _))) _ _ = _; rw [uncV_rfV]; rfl) rfl d_L_hall_12 ?_)
    refine aw_iconst (v := 1) hX (by decide) d_L_hall_13 ?_
    cases e_1579
    exact aw_ireturn hX (by decide) (by decide) d_L_hall_14
theorem k_L_hall {g : GP} (hg : g.1.stackTraces = false) (hF : gF g = true) {a0 : Option Nat} {a1 : Int32} {a2 : Option Nat} {h hz : AH} {z : Int32} (e : s_L_hall a0 a1 a2 h = some (z, hz)) : Ctr g yL_hall (wsW yL_hall cL_hall 4 (some .int) [(0, 9, 12, 13)]) 11 1 6 [rfV a0, .int a1, rfV a2] NT false h (some (.int z)) NT false hz := ctrW_of (lv0 := [rfV a0, .int a1, rfV a2, jk]) (by cases a0 <;> cases a2 <;> rfl) (by cases a0 <;> cases a2 <;> rfl) (by decide) hg (fun X hX => t_L_hall hF hX e (Nat.le_refl _) (Nat.le_refl _))
theorem d_L_count_0 : decode cL_count 0 = .ok (.aload_n 2, 1) := by decide +kernel
theorem d_L_count_1 : decode cL_count 1 = .ok (.iconst 0, 1) := by decide +kernel
theorem d_L_count_2 : decode cL_count 2 = .ok (.aload_n 0, 1) := by decide +kernel
theorem d_L_count_3 : decode cL_count 3 = .ok (.iload_n 1, 1) := by decide +kernel
theorem d_L_count_4 : decode cL_count 4 = .ok (.invokevirtual 15, 3) := by decide +kernel
theorem d_L_count_7 : decode cL_count 7 = .ok (.i2l, 1) := by decide +kernel
theorem d_L_count_8 : decode cL_count 8 = .ok (.lastore, 1) := by decide +kernel
theorem d_L_count_9 : decode cL_count 9 = .ok (.goto 6, 3) := by decide +kernel
theorem d_L_count_12 : decode cL_count 12 = .ok (.astore_n 3, 1) := by decide +kernel
theorem d_L_count_13 : decode cL_count 13 = .ok (.iconst 1, 1) := by decide +kernel
theorem d_L_count_14 : decode cL_count 14 = .ok (.ireturn, 1) := by decide +kernel
theorem d_L_count_15 : decode cL_count 15 = .ok (.iconst 0, 1) := by decide +kernel
theorem d_L_count_16 : decode cL_count 16 = .ok (.ireturn, 1) := by decide +kernel
def s_L_count (a0 : Option Nat) (a1 : Int32) (a2 : Option Nat) (h : AH) : Option (Int32 × AH) := if a0 = some 0 then bd (s_X9_count a1 h) fun q1 => sm q1 (fun x2 => bd a2 fun t3 => bd (stL h t3 0 x2.toInt64) fun m4 => some (0, m4)) (fun E5 => if E5 = 0 then some (1, h) else none) else none
theorem t_L_count {g : GP} {X : MX} {mcR msR : Nat} (hF : gF g = true) (hX : Cx g RL cL_count 7 mcR msR (some .int) (tableOf [(0, 9, 12, 18)]) X) {a0 : Option Nat} {a1 : Int32} {a2 : Option Nat} {h hz : AH} {z : Int32} (e : s_L_count a0 a1 a2 h = some (z, hz)) (hM1 : 1 ≤ mcR) (hM2 : 6 ≤ msR) : AR g X 0 0 (QQ g X NT false hz (.inl (some (.int z))) 1 6) h 0 [rfV a0, .int a1, rfV a2, jk] [] := by
  unfold s_L_count at e
  obtain ⟨rfl, e_1580⟩ := if_some e
  clear e
  refine aw_aloadO_n (i := 2) (o := a2) hX rfl rfl d_L_count_0 ?_
  refine aw_iconst (v := 0) hX (by decide) d_L_count_1 ?_
  refine aw_aload_n (i := 0) hX rfl rfl d_L_count_2 ?_
  refine aw_iload_n (i := 1) hX rfl rfl d_L_count_3 ?_
  obtain ⟨q1, f_1581, e_1581⟩ := bd_some e_1580
  clear e_1580
  rcases q1 with x2 | E5
  · have e_1582 := sm_inl e_1581
    clear e_1581
    refine aw_callV (b := 0) (av := [.int a1]) (avr := [.int a1]) (st := [.int 0, rfV a2]) hX (k_X9_count (cx_g hX) hF f_1581) mi_X9_count rfl rfl w_910 w_911 w_912 (by decide) rfl (LAY_lt rfl (by decide)) rfl rfl (by simp only [stW, List.map_cons, List.map_nil, rfV_cat, List.sum_cons, List.sum_nil]; exact Nat.le_of_ble_eq_true rfl) (Nat.zero_le _) (Nat.zero_le _) d_L_count_4 ?_
    refine aw_i2l hX d_L_count_7 ?_
    obtain ⟨t3, f_1583, e_1583⟩ := bd_some e_1582
    clear e_1582
    subst f_1583
    obtain ⟨m4, f_1584, e_1584⟩ := bd_some e_1583
    clear e_1583
    refine ar_lastore hX f_1584 d_L_count_8 ?_
    refine aw_goto (t := 15) hX (by decide) d_L_count_9 ?_
    refine aw_iconst (v := 0) hX (by decide) d_L_count_15 ?_
    cases e_1584
    exact aw_ireturn hX (by decide) (by decide) d_L_count_16
  · have e_1585 := sm_inr e_1581
    clear e_1581
    obtain ⟨hqE5, e_1586⟩ := if_some e_1585
    clear e_1585
    subst hqE5
    refine aw_callC (b := 0) (av := [.int a1]) (avr := [.int a1]) (st := [.int 0, rfV a2]) hX (kx_X9_count (cx_g hX) hF f_1581) mi_X9_count rfl rfl w_910 w_911 w_912 (by decide) rfl (LAY_lt rfl (by decide)) rfl rfl (by simp only [stW, List.map_cons, List.map_nil, rfV_cat, List.sum_cons, List.sum_nil]; exact Nat.le_of_ble_eq_true rfl) hM1 hM2 d_L_count_4 [] ⟨0, 9, 12, 18⟩ [] rfl (fun z hz => by cases hz) rfl (by decide) w_913 cast_0 (awr_n (i := 3) (lv2 := [.ref 0, .int a1, rfV a2, jk]) hX rfl (by show List.set (List.set _ _ (uncV (rfV _))) _ _ = _; rw [uncV_rfV]; rfl) rfl d_L_count_12 ?_)
    refine aw_iconst (v := 1) hX (by decide) d_L_count_13 ?_
    cases e_1586
    exact aw_ireturn hX (by decide) (by decide) d_L_count_14
theorem k_L_count {g : GP} (hg : g.1.stackTraces = false) (hF : gF g = true) {a0 : Option Nat} {a1 : Int32} {a2 : Option Nat} {h hz : AH} {z : Int32} (e : s_L_count a0 a1 a2 h = some (z, hz)) : Ctr g yL_count (wsW yL_count cL_count 4 (some .int) [(0, 9, 12, 18)]) 7 1 6 [rfV a0, .int a1, rfV a2] NT false h (some (.int z)) NT false hz := ctrW_of (lv0 := [rfV a0, .int a1, rfV a2, jk]) (by cases a0 <;> cases a2 <;> rfl) (by cases a0 <;> cases a2 <;> rfl) (by decide) hg (fun X hX => t_L_count hF hX e (Nat.le_refl _) (Nat.le_refl _))
theorem d_L_evening_0 : decode cL_evening 0 = .ok (.aload_n 3, 1) := by decide +kernel
theorem d_L_evening_1 : decode cL_evening 1 = .ok (.iconst 0, 1) := by decide +kernel
theorem d_L_evening_2 : decode cL_evening 2 = .ok (.aload_n 0, 1) := by decide +kernel
theorem d_L_evening_3 : decode cL_evening 3 = .ok (.iload_n 1, 1) := by decide +kernel
theorem d_L_evening_4 : decode cL_evening 4 = .ok (.iload_n 2, 1) := by decide +kernel
theorem d_L_evening_5 : decode cL_evening 5 = .ok (.invokevirtual 20, 3) := by decide +kernel
theorem d_L_evening_8 : decode cL_evening 8 = .ok (.i2l, 1) := by decide +kernel
theorem d_L_evening_9 : decode cL_evening 9 = .ok (.lastore, 1) := by decide +kernel
theorem d_L_evening_10 : decode cL_evening 10 = .ok (.goto 7, 3) := by decide +kernel
theorem d_L_evening_13 : decode cL_evening 13 = .ok (.astore 4, 2) := by decide +kernel
theorem d_L_evening_15 : decode cL_evening 15 = .ok (.iconst 1, 1) := by decide +kernel
theorem d_L_evening_16 : decode cL_evening 16 = .ok (.ireturn, 1) := by decide +kernel
theorem d_L_evening_17 : decode cL_evening 17 = .ok (.iconst 0, 1) := by decide +kernel
theorem d_L_evening_18 : decode cL_evening 18 = .ok (.ireturn, 1) := by decide +kernel
def s_L_evening (a0 : Option Nat) (a1 : Int32) (a2 : Int32) (a3 : Option Nat) (h : AH) : Option (Int32 × AH) := if a0 = some 0 then bd (s_X9_evening a1 a2 h) fun q1 => sm q1 (fun x2 => bd a3 fun t3 => bd (stL h t3 0 x2.toInt64) fun m4 => some (0, m4)) (fun E5 => if E5 = 0 then some (1, h) else none) else none
theorem t_L_evening {g : GP} {X : MX} {mcR msR : Nat} (hF : gF g = true) (hX : Cx g RL cL_evening 8 mcR msR (some .int) (tableOf [(0, 10, 13, 18)]) X) {a0 : Option Nat} {a1 : Int32} {a2 : Int32} {a3 : Option Nat} {h hz : AH} {z : Int32} (e : s_L_evening a0 a1 a2 a3 h = some (z, hz)) (hM1 : 1 ≤ mcR) (hM2 : 6 ≤ msR) : AR g X 0 0 (QQ g X NT false hz (.inl (some (.int z))) 1 6) h 0 [rfV a0, .int a1, .int a2, rfV a3, jk] [] := by
  unfold s_L_evening at e
  obtain ⟨rfl, e_1587⟩ := if_some e
  clear e
  refine aw_aloadO_n (i := 3) (o := a3) hX rfl rfl d_L_evening_0 ?_
  refine aw_iconst (v := 0) hX (by decide) d_L_evening_1 ?_
  refine aw_aload_n (i := 0) hX rfl rfl d_L_evening_2 ?_
  refine aw_iload_n (i := 1) hX rfl rfl d_L_evening_3 ?_
  refine aw_iload_n (i := 2) hX rfl rfl d_L_evening_4 ?_
  obtain ⟨q1, f_1588, e_1588⟩ := bd_some e_1587
  clear e_1587
  rcases q1 with x2 | E5
  · have e_1589 := sm_inl e_1588
    clear e_1588
    refine aw_callV (b := 0) (av := [.int a1, .int a2]) (avr := [.int a2, .int a1]) (st := [.int 0, rfV a3]) hX (k_X9_evening (cx_g hX) hF f_1588) mi_X9_evening rfl rfl w_915 w_916 w_917 (by decide) rfl (LAY_lt rfl (by decide)) rfl rfl (by simp only [stW, List.map_cons, List.map_nil, rfV_cat, List.sum_cons, List.sum_nil]; exact Nat.le_of_ble_eq_true rfl) (Nat.zero_le _) (Nat.zero_le _) d_L_evening_5 ?_
    refine aw_i2l hX d_L_evening_8 ?_
    obtain ⟨t3, f_1590, e_1590⟩ := bd_some e_1589
    clear e_1589
    subst f_1590
    obtain ⟨m4, f_1591, e_1591⟩ := bd_some e_1590
    clear e_1590
    refine ar_lastore hX f_1591 d_L_evening_9 ?_
    refine aw_goto (t := 17) hX (by decide) d_L_evening_10 ?_
    refine aw_iconst (v := 0) hX (by decide) d_L_evening_17 ?_
    cases e_1591
    exact aw_ireturn hX (by decide) (by decide) d_L_evening_18
  · have e_1592 := sm_inr e_1588
    clear e_1588
    obtain ⟨hqE5, e_1593⟩ := if_some e_1592
    clear e_1592
    subst hqE5
    refine aw_callC (b := 0) (av := [.int a1, .int a2]) (avr := [.int a2, .int a1]) (st := [.int 0, rfV a3]) hX (kx_X9_evening (cx_g hX) hF f_1588) mi_X9_evening rfl rfl w_915 w_916 w_917 (by decide) rfl (LAY_lt rfl (by decide)) rfl rfl (by simp only [stW, List.map_cons, List.map_nil, rfV_cat, List.sum_cons, List.sum_nil]; exact Nat.le_of_ble_eq_true rfl) hM1 hM2 d_L_evening_5 [] ⟨0, 10, 13, 18⟩ [] rfl (fun z hz => by cases hz) rfl (by decide) w_913 cast_0 (awr_2 (i := 4) (lv2 := [.ref 0, .int a1, .int a2, rfV a3, jk]) hX (by show List.set (List.set _ _ (uncV (rfV _))) _ _ = _; rw [uncV_rfV]; rfl) rfl d_L_evening_13 ?_)
    refine aw_iconst (v := 1) hX (by decide) d_L_evening_15 ?_
    cases e_1593
    exact aw_ireturn hX (by decide) (by decide) d_L_evening_16
theorem k_L_evening {g : GP} (hg : g.1.stackTraces = false) (hF : gF g = true) {a0 : Option Nat} {a1 : Int32} {a2 : Int32} {a3 : Option Nat} {h hz : AH} {z : Int32} (e : s_L_evening a0 a1 a2 a3 h = some (z, hz)) : Ctr g yL_evening (wsW yL_evening cL_evening 5 (some .int) [(0, 10, 13, 18)]) 8 1 6 [rfV a0, .int a1, .int a2, rfV a3] NT false h (some (.int z)) NT false hz := ctrW_of (lv0 := [rfV a0, .int a1, .int a2, rfV a3, jk]) (by cases a0 <;> cases a3 <;> rfl) (by cases a0 <;> cases a3 <;> rfl) (by decide) hg (fun X hX => t_L_evening hF hX e (Nat.le_refl _) (Nat.le_refl _))
theorem d_L_kind_0 : decode cL_kind 0 = .ok (.aload_n 3, 1) := by decide +kernel
theorem d_L_kind_1 : decode cL_kind 1 = .ok (.iconst 0, 1) := by decide +kernel
theorem d_L_kind_2 : decode cL_kind 2 = .ok (.aload_n 0, 1) := by decide +kernel
theorem d_L_kind_3 : decode cL_kind 3 = .ok (.iload_n 1, 1) := by decide +kernel
theorem d_L_kind_4 : decode cL_kind 4 = .ok (.iload_n 2, 1) := by decide +kernel
theorem d_L_kind_5 : decode cL_kind 5 = .ok (.invokevirtual 24, 3) := by decide +kernel
theorem d_L_kind_8 : decode cL_kind 8 = .ok (.i2l, 1) := by decide +kernel
theorem d_L_kind_9 : decode cL_kind 9 = .ok (.lastore, 1) := by decide +kernel
theorem d_L_kind_10 : decode cL_kind 10 = .ok (.goto 7, 3) := by decide +kernel
theorem d_L_kind_13 : decode cL_kind 13 = .ok (.astore 4, 2) := by decide +kernel
theorem d_L_kind_15 : decode cL_kind 15 = .ok (.iconst 1, 1) := by decide +kernel
theorem d_L_kind_16 : decode cL_kind 16 = .ok (.ireturn, 1) := by decide +kernel
theorem d_L_kind_17 : decode cL_kind 17 = .ok (.iconst 0, 1) := by decide +kernel
theorem d_L_kind_18 : decode cL_kind 18 = .ok (.ireturn, 1) := by decide +kernel
def s_L_kind (a0 : Option Nat) (a1 : Int32) (a2 : Int32) (a3 : Option Nat) (h : AH) : Option (Int32 × AH) := if a0 = some 0 then bd (s_X9_kind a1 a2 h) fun q1 => sm q1 (fun x2 => bd a3 fun t3 => bd (stL h t3 0 x2.toInt64) fun m4 => some (0, m4)) (fun E5 => if E5 = 0 then some (1, h) else none) else none
theorem t_L_kind {g : GP} {X : MX} {mcR msR : Nat} (hF : gF g = true) (hX : Cx g RL cL_kind 8 mcR msR (some .int) (tableOf [(0, 10, 13, 18)]) X) {a0 : Option Nat} {a1 : Int32} {a2 : Int32} {a3 : Option Nat} {h hz : AH} {z : Int32} (e : s_L_kind a0 a1 a2 a3 h = some (z, hz)) (hM1 : 1 ≤ mcR) (hM2 : 6 ≤ msR) : AR g X 0 0 (QQ g X NT false hz (.inl (some (.int z))) 1 6) h 0 [rfV a0, .int a1, .int a2, rfV a3, jk] [] := by
  unfold s_L_kind at e
  obtain ⟨rfl, e_1594⟩ := if_some e
  clear e
  refine aw_aloadO_n (i := 3) (o := a3) hX rfl rfl d_L_kind_0 ?_
  refine aw_iconst (v := 0) hX (by decide) d_L_kind_1 ?_
  refine aw_aload_n (i := 0) hX rfl rfl d_L_kind_2 ?_
  refine aw_iload_n (i := 1) hX rfl rfl d_L_kind_3 ?_
  refine aw_iload_n (i := 2) hX rfl rfl d_L_kind_4 ?_
  obtain ⟨q1, f_1595, e_1595⟩ := bd_some e_1594
  clear e_1594
  rcases q1 with x2 | E5
  · have e_1596 := sm_inl e_1595
    clear e_1595
    refine aw_callV (b := 0) (av := [.int a1, .int a2]) (avr := [.int a2, .int a1]) (st := [.int 0, rfV a3]) hX (k_X9_kind (cx_g hX) hF f_1595) mi_X9_kind rfl rfl w_919 w_920 w_921 (by decide) rfl (LAY_lt rfl (by decide)) rfl rfl (by simp only [stW, List.map_cons, List.map_nil, rfV_cat, List.sum_cons, List.sum_nil]; exact Nat.le_of_ble_eq_true rfl) (Nat.zero_le _) (Nat.zero_le _) d_L_kind_5 ?_
    refine aw_i2l hX d_L_kind_8 ?_
    obtain ⟨t3, f_1597, e_1597⟩ := bd_some e_1596
    clear e_1596
    subst f_1597
    obtain ⟨m4, f_1598, e_1598⟩ := bd_some e_1597
    clear e_1597
    refine ar_lastore hX f_1598 d_L_kind_9 ?_
    refine aw_goto (t := 17) hX (by decide) d_L_kind_10 ?_
    refine aw_iconst (v := 0) hX (by decide) d_L_kind_17 ?_
    cases e_1598
    exact aw_ireturn hX (by decide) (by decide) d_L_kind_18
  · have e_1599 := sm_inr e_1595
    clear e_1595
    obtain ⟨hqE5, e_1600⟩ := if_some e_1599
    clear e_1599
    subst hqE5
    refine aw_callC (b := 0) (av := [.int a1, .int a2]) (avr := [.int a2, .int a1]) (st := [.int 0, rfV a3]) hX (kx_X9_kind (cx_g hX) hF f_1595) mi_X9_kind rfl rfl w_919 w_920 w_921 (by decide) rfl (LAY_lt rfl (by decide)) rfl rfl (by simp only [stW, List.map_cons, List.map_nil, rfV_cat, List.sum_cons, List.sum_nil]; exact Nat.le_of_ble_eq_true rfl) hM1 hM2 d_L_kind_5 [] ⟨0, 10, 13, 18⟩ [] rfl (fun z hz => by cases hz) rfl (by decide) w_913 cast_0 (awr_2 (i := 4) (lv2 := [.ref 0, .int a1, .int a2, rfV a3, jk]) hX (by show List.set (List.set _ _ (uncV (rfV _))) _ _ = _; rw [uncV_rfV]; rfl) rfl d_L_kind_13 ?_)
    refine aw_iconst (v := 1) hX (by decide) d_L_kind_15 ?_
    cases e_1600
    exact aw_ireturn hX (by decide) (by decide) d_L_kind_16
theorem k_L_kind {g : GP} (hg : g.1.stackTraces = false) (hF : gF g = true) {a0 : Option Nat} {a1 : Int32} {a2 : Int32} {a3 : Option Nat} {h hz : AH} {z : Int32} (e : s_L_kind a0 a1 a2 a3 h = some (z, hz)) : Ctr g yL_kind (wsW yL_kind cL_kind 5 (some .int) [(0, 10, 13, 18)]) 8 1 6 [rfV a0, .int a1, .int a2, rfV a3] NT false h (some (.int z)) NT false hz := ctrW_of (lv0 := [rfV a0, .int a1, .int a2, rfV a3, jk]) (by cases a0 <;> cases a3 <;> rfl) (by cases a0 <;> cases a3 <;> rfl) (by decide) hg (fun X hX => t_L_kind hF hX e (Nat.le_refl _) (Nat.le_refl _))
theorem d_L_price_0 : decode cL_price 0 = .ok (.aload_n 2, 1) := by decide +kernel
theorem d_L_price_1 : decode cL_price 1 = .ok (.iconst 0, 1) := by decide +kernel
theorem d_L_price_2 : decode cL_price 2 = .ok (.aload_n 0, 1) := by decide +kernel
theorem d_L_price_3 : decode cL_price 3 = .ok (.iload_n 1, 1) := by decide +kernel
theorem d_L_price_4 : decode cL_price 4 = .ok (.invokevirtual 27, 3) := by decide +kernel
theorem d_L_price_7 : decode cL_price 7 = .ok (.i2l, 1) := by decide +kernel
theorem d_L_price_8 : decode cL_price 8 = .ok (.lastore, 1) := by decide +kernel
theorem d_L_price_9 : decode cL_price 9 = .ok (.goto 6, 3) := by decide +kernel
theorem d_L_price_12 : decode cL_price 12 = .ok (.astore_n 3, 1) := by decide +kernel
theorem d_L_price_13 : decode cL_price 13 = .ok (.iconst 1, 1) := by decide +kernel
theorem d_L_price_14 : decode cL_price 14 = .ok (.ireturn, 1) := by decide +kernel
theorem d_L_price_15 : decode cL_price 15 = .ok (.iconst 0, 1) := by decide +kernel
theorem d_L_price_16 : decode cL_price 16 = .ok (.ireturn, 1) := by decide +kernel
def s_L_price (a0 : Option Nat) (a1 : Int32) (a2 : Option Nat) (h : AH) : Option (Int32 × AH) := if a0 = some 0 then bd (s_X9_price a1 h) fun q1 => sm q1 (fun x2 => bd a2 fun t3 => bd (stL h t3 0 x2.toInt64) fun m4 => some (0, m4)) (fun E5 => if E5 = 0 then some (1, h) else none) else none
theorem t_L_price {g : GP} {X : MX} {mcR msR : Nat} (hF : gF g = true) (hX : Cx g RL cL_price 8 mcR msR (some .int) (tableOf [(0, 9, 12, 18)]) X) {a0 : Option Nat} {a1 : Int32} {a2 : Option Nat} {h hz : AH} {z : Int32} (e : s_L_price a0 a1 a2 h = some (z, hz)) (hM1 : 1 ≤ mcR) (hM2 : 6 ≤ msR) : AR g X 0 0 (QQ g X NT false hz (.inl (some (.int z))) 1 6) h 0 [rfV a0, .int a1, rfV a2, jk] [] := by
  unfold s_L_price at e
  obtain ⟨rfl, e_1601⟩ := if_some e
  clear e
  refine aw_aloadO_n (i := 2) (o := a2) hX rfl rfl d_L_price_0 ?_
  refine aw_iconst (v := 0) hX (by decide) d_L_price_1 ?_
  refine aw_aload_n (i := 0) hX rfl rfl d_L_price_2 ?_
  refine aw_iload_n (i := 1) hX rfl rfl d_L_price_3 ?_
  obtain ⟨q1, f_1602, e_1602⟩ := bd_some e_1601
  clear e_1601
  rcases q1 with x2 | E5
  · have e_1603 := sm_inl e_1602
    clear e_1602
    refine aw_callV (b := 0) (av := [.int a1]) (avr := [.int a1]) (st := [.int 0, rfV a2]) hX (k_X9_price (cx_g hX) hF f_1602) mi_X9_price rfl rfl w_923 w_924 w_925 (by decide) rfl (LAY_lt rfl (by decide)) rfl rfl (by simp only [stW, List.map_cons, List.map_nil, rfV_cat, List.sum_cons, List.sum_nil]; exact Nat.le_of_ble_eq_true rfl) (Nat.zero_le _) (Nat.zero_le _) d_L_price_4 ?_
    refine aw_i2l hX d_L_price_7 ?_
    obtain ⟨t3, f_1604, e_1604⟩ := bd_some e_1603
    clear e_1603
    subst f_1604
    obtain ⟨m4, f_1605, e_1605⟩ := bd_some e_1604
    clear e_1604
    refine ar_lastore hX f_1605 d_L_price_8 ?_
    refine aw_goto (t := 15) hX (by decide) d_L_price_9 ?_
    refine aw_iconst (v := 0) hX (by decide) d_L_price_15 ?_
    cases e_1605
    exact aw_ireturn hX (by decide) (by decide) d_L_price_16
  · have e_1606 := sm_inr e_1602
    clear e_1602
    obtain ⟨hqE5, e_1607⟩ := if_some e_1606
    clear e_1606
    subst hqE5
    refine aw_callC (b := 0) (av := [.int a1]) (avr := [.int a1]) (st := [.int 0, rfV a2]) hX (kx_X9_price (cx_g hX) hF f_1602) mi_X9_price rfl rfl w_923 w_924 w_925 (by decide) rfl (LAY_lt rfl (by decide)) rfl rfl (by simp only [stW, List.map_cons, List.map_nil, rfV_cat, List.sum_cons, List.sum_nil]; exact Nat.le_of_ble_eq_true rfl) hM1 hM2 d_L_price_4 [] ⟨0, 9, 12, 18⟩ [] rfl (fun z hz => by cases hz) rfl (by decide) w_913 cast_0 (awr_n (i := 3) (lv2 := [.ref 0, .int a1, rfV a2, jk]) hX rfl (by show List.set (List.set _ _ (uncV (rfV _))) _ _ = _; rw [uncV_rfV]; rfl) rfl d_L_price_12 ?_)
    refine aw_iconst (v := 1) hX (by decide) d_L_price_13 ?_
    cases e_1607
    exact aw_ireturn hX (by decide) (by decide) d_L_price_14
theorem k_L_price {g : GP} (hg : g.1.stackTraces = false) (hF : gF g = true) {a0 : Option Nat} {a1 : Int32} {a2 : Option Nat} {h hz : AH} {z : Int32} (e : s_L_price a0 a1 a2 h = some (z, hz)) : Ctr g yL_price (wsW yL_price cL_price 4 (some .int) [(0, 9, 12, 18)]) 8 1 6 [rfV a0, .int a1, rfV a2] NT false h (some (.int z)) NT false hz := ctrW_of (lv0 := [rfV a0, .int a1, rfV a2, jk]) (by cases a0 <;> cases a2 <;> rfl) (by cases a0 <;> cases a2 <;> rfl) (by decide) hg (fun X hX => t_L_price hF hX e (Nat.le_refl _) (Nat.le_refl _))
theorem d_L_chance_0 : decode cL_chance 0 = .ok (.aload 4, 2) := by decide +kernel
theorem d_L_chance_2 : decode cL_chance 2 = .ok (.iconst 0, 1) := by decide +kernel
theorem d_L_chance_3 : decode cL_chance 3 = .ok (.aload_n 0, 1) := by decide +kernel
theorem d_L_chance_4 : decode cL_chance 4 = .ok (.iload_n 1, 1) := by decide +kernel
theorem d_L_chance_5 : decode cL_chance 5 = .ok (.iload_n 2, 1) := by decide +kernel
theorem d_L_chance_6 : decode cL_chance 6 = .ok (.iload_n 3, 1) := by decide +kernel
theorem d_L_chance_7 : decode cL_chance 7 = .ok (.invokevirtual 30, 3) := by decide +kernel
theorem d_L_chance_10 : decode cL_chance 10 = .ok (.i2l, 1) := by decide +kernel
theorem d_L_chance_11 : decode cL_chance 11 = .ok (.lastore, 1) := by decide +kernel
theorem d_L_chance_12 : decode cL_chance 12 = .ok (.goto 7, 3) := by decide +kernel
theorem d_L_chance_15 : decode cL_chance 15 = .ok (.astore 5, 2) := by decide +kernel
theorem d_L_chance_17 : decode cL_chance 17 = .ok (.iconst 1, 1) := by decide +kernel
theorem d_L_chance_18 : decode cL_chance 18 = .ok (.ireturn, 1) := by decide +kernel
theorem d_L_chance_19 : decode cL_chance 19 = .ok (.iconst 0, 1) := by decide +kernel
theorem d_L_chance_20 : decode cL_chance 20 = .ok (.ireturn, 1) := by decide +kernel
def s_L_chance (a0 : Option Nat) (a1 : Int32) (a2 : Int32) (a3 : Int32) (a4 : Option Nat) (h : AH) : Option (Int32 × AH) := if a0 = some 0 then bd (s_X9_chance a1 a2 a3 h) fun q1 => sm q1 (fun x2 => bd a4 fun t3 => bd (stL h t3 0 x2.toInt64) fun m4 => some (0, m4)) (fun E5 => if E5 = 0 then some (1, h) else none) else none
theorem t_L_chance {g : GP} {X : MX} {mcR msR : Nat} (hF : gF g = true) (hX : Cx g RL cL_chance 8 mcR msR (some .int) (tableOf [(0, 12, 15, 18)]) X) {a0 : Option Nat} {a1 : Int32} {a2 : Int32} {a3 : Int32} {a4 : Option Nat} {h hz : AH} {z : Int32} (e : s_L_chance a0 a1 a2 a3 a4 h = some (z, hz)) (hM1 : 1 ≤ mcR) (hM2 : 6 ≤ msR) : AR g X 0 0 (QQ g X NT false hz (.inl (some (.int z))) 1 6) h 0 [rfV a0, .int a1, .int a2, .int a3, rfV a4, jk] [] := by
  unfold s_L_chance at e
  obtain ⟨rfl, e_1608⟩ := if_some e
  clear e
  refine aw_aloadO (i := 4) (o := a4) hX rfl d_L_chance_0 ?_
  refine aw_iconst (v := 0) hX (by decide) d_L_chance_2 ?_
  refine aw_aload_n (i := 0) hX rfl rfl d_L_chance_3 ?_
  refine aw_iload_n (i := 1) hX rfl rfl d_L_chance_4 ?_
  refine aw_iload_n (i := 2) hX rfl rfl d_L_chance_5 ?_
  refine aw_iload_n (i := 3) hX rfl rfl d_L_chance_6 ?_
  obtain ⟨q1, f_1609, e_1609⟩ := bd_some e_1608
  clear e_1608
  rcases q1 with x2 | E5
  · have e_1610 := sm_inl e_1609
    clear e_1609
    refine aw_callV (b := 0) (av := [.int a1, .int a2, .int a3]) (avr := [.int a3, .int a2, .int a1]) (st := [.int 0, rfV a4]) hX (k_X9_chance (cx_g hX) hF f_1609) mi_X9_chance rfl rfl w_927 w_928 w_929 (by decide) rfl (LAY_lt rfl (by decide)) rfl rfl (by simp only [stW, List.map_cons, List.map_nil, rfV_cat, List.sum_cons, List.sum_nil]; exact Nat.le_of_ble_eq_true rfl) (Nat.zero_le _) (Nat.zero_le _) d_L_chance_7 ?_
    refine aw_i2l hX d_L_chance_10 ?_
    obtain ⟨t3, f_1611, e_1611⟩ := bd_some e_1610
    clear e_1610
    subst f_1611
    obtain ⟨m4, f_1612, e_1612⟩ := bd_some e_1611
    clear e_1611
    refine ar_lastore hX f_1612 d_L_chance_11 ?_
    refine aw_goto (t := 19) hX (by decide) d_L_chance_12 ?_
    refine aw_iconst (v := 0) hX (by decide) d_L_chance_19 ?_
    cases e_1612
    exact aw_ireturn hX (by decide) (by decide) d_L_chance_20
  · have e_1613 := sm_inr e_1609
    clear e_1609
    obtain ⟨hqE5, e_1614⟩ := if_some e_1613
    clear e_1613
    subst hqE5
    refine aw_callC (b := 0) (av := [.int a1, .int a2, .int a3]) (avr := [.int a3, .int a2, .int a1]) (st := [.int 0, rfV a4]) hX (kx_X9_chance (cx_g hX) hF f_1609) mi_X9_chance rfl rfl w_927 w_928 w_929 (by decide) rfl (LAY_lt rfl (by decide)) rfl rfl (by simp only [stW, List.map_cons, List.map_nil, rfV_cat, List.sum_cons, List.sum_nil]; exact Nat.le_of_ble_eq_true rfl) hM1 hM2 d_L_chance_7 [] ⟨0, 12, 15, 18⟩ [] rfl (fun z hz => by cases hz) rfl (by decide) w_913 cast_0 (awr_2 (i := 5) (lv2 := [.ref 0, .int a1, .int a2, .int a3, rfV a4, jk]) hX (by show List.set (List.set _ _ (uncV (rfV _))) _ _ = _; rw [uncV_rfV]; rfl) rfl d_L_chance_15 ?_)
    refine aw_iconst (v := 1) hX (by decide) d_L_chance_17 ?_
    cases e_1614
    exact aw_ireturn hX (by decide) (by decide) d_L_chance_18
theorem k_L_chance {g : GP} (hg : g.1.stackTraces = false) (hF : gF g = true) {a0 : Option Nat} {a1 : Int32} {a2 : Int32} {a3 : Int32} {a4 : Option Nat} {h hz : AH} {z : Int32} (e : s_L_chance a0 a1 a2 a3 a4 h = some (z, hz)) : Ctr g yL_chance (wsW yL_chance cL_chance 6 (some .int) [(0, 12, 15, 18)]) 8 1 6 [rfV a0, .int a1, .int a2, .int a3, rfV a4] NT false h (some (.int z)) NT false hz := ctrW_of (lv0 := [rfV a0, .int a1, .int a2, .int a3, rfV a4, jk]) (by cases a0 <;> cases a4 <;> rfl) (by cases a0 <;> cases a4 <;> rfl) (by decide) hg (fun X hX => t_L_chance hF hX e (Nat.le_refl _) (Nat.le_refl _))
theorem d_L_good_0 : decode cL_good 0 = .ok (.aload_n 3, 1) := by decide +kernel
theorem d_L_good_1 : decode cL_good 1 = .ok (.iconst 0, 1) := by decide +kernel
theorem d_L_good_2 : decode cL_good 2 = .ok (.aload_n 0, 1) := by decide +kernel
theorem d_L_good_3 : decode cL_good 3 = .ok (.iload_n 1, 1) := by decide +kernel
theorem d_L_good_4 : decode cL_good 4 = .ok (.iload_n 2, 1) := by decide +kernel
theorem d_L_good_5 : decode cL_good 5 = .ok (.invokevirtual 34, 3) := by decide +kernel
theorem d_L_good_8 : decode cL_good 8 = .ok (.i2l, 1) := by decide +kernel
theorem d_L_good_9 : decode cL_good 9 = .ok (.lastore, 1) := by decide +kernel
theorem d_L_good_10 : decode cL_good 10 = .ok (.goto 11, 3) := by decide +kernel
theorem d_L_good_13 : decode cL_good 13 = .ok (.astore 4, 2) := by decide +kernel
theorem d_L_good_15 : decode cL_good 15 = .ok (.iconst 1, 1) := by decide +kernel
theorem d_L_good_16 : decode cL_good 16 = .ok (.ireturn, 1) := by decide +kernel
theorem d_L_good_17 : decode cL_good 17 = .ok (.astore 4, 2) := by decide +kernel
theorem d_L_good_19 : decode cL_good 19 = .ok (.iconst 2, 1) := by decide +kernel
theorem d_L_good_20 : decode cL_good 20 = .ok (.ireturn, 1) := by decide +kernel
theorem d_L_good_21 : decode cL_good 21 = .ok (.iconst 0, 1) := by decide +kernel
theorem d_L_good_22 : decode cL_good 22 = .ok (.ireturn, 1) := by decide +kernel
def s_L_good (a0 : Option Nat) (a1 : Int32) (a2 : Int32) (a3 : Option Nat) (h : AH) : Option (Int32 × AH) := if a0 = some 0 then bd (s_X9_good a1 a2 h) fun q1 => sm q1 (fun x2 => bd a3 fun t3 => bd (stL h t3 0 x2.toInt64) fun m4 => some (0, m4)) (fun E5 => if E5 = 0 then some (1, h) else if E5 = 1 then some (2, h) else none) else none
theorem t_L_good {g : GP} {X : MX} {mcR msR : Nat} (hF : gF g = true) (hX : Cx g RL cL_good 8 mcR msR (some .int) (tableOf [(0, 10, 13, 18), (0, 10, 17, 13)]) X) {a0 : Option Nat} {a1 : Int32} {a2 : Int32} {a3 : Option Nat} {h hz : AH} {z : Int32} (e : s_L_good a0 a1 a2 a3 h = some (z, hz)) (hM1 : 1 ≤ mcR) (hM2 : 6 ≤ msR) : AR g X 0 0 (QQ g X NT false hz (.inl (some (.int z))) 1 6) h 0 [rfV a0, .int a1, .int a2, rfV a3, jk] [] := by
  unfold s_L_good at e
  obtain ⟨rfl, e_1615⟩ := if_some e
  clear e
  refine aw_aloadO_n (i := 3) (o := a3) hX rfl rfl d_L_good_0 ?_
  refine aw_iconst (v := 0) hX (by decide) d_L_good_1 ?_
  refine aw_aload_n (i := 0) hX rfl rfl d_L_good_2 ?_
  refine aw_iload_n (i := 1) hX rfl rfl d_L_good_3 ?_
  refine aw_iload_n (i := 2) hX rfl rfl d_L_good_4 ?_
  obtain ⟨q1, f_1616, e_1616⟩ := bd_some e_1615
  clear e_1615
  rcases q1 with x2 | E5
  · have e_1617 := sm_inl e_1616
    clear e_1616
    refine aw_callV (b := 0) (av := [.int a1, .int a2]) (avr := [.int a2, .int a1]) (st := [.int 0, rfV a3]) hX (k_X9_good (cx_g hX) hF f_1616) mi_X9_good rfl rfl w_931 w_932 w_933 (by decide) rfl (LAY_lt rfl (by decide)) rfl rfl (by simp only [stW, List.map_cons, List.map_nil, rfV_cat, List.sum_cons, List.sum_nil]; exact Nat.le_of_ble_eq_true rfl) (Nat.zero_le _) (Nat.zero_le _) d_L_good_5 ?_
    refine aw_i2l hX d_L_good_8 ?_
    obtain ⟨t3, f_1618, e_1618⟩ := bd_some e_1617
    clear e_1617
    subst f_1618
    obtain ⟨m4, f_1619, e_1619⟩ := bd_some e_1618
    clear e_1618
    refine ar_lastore hX f_1619 d_L_good_9 ?_
    refine aw_goto (t := 21) hX (by decide) d_L_good_10 ?_
    refine aw_iconst (v := 0) hX (by decide) d_L_good_21 ?_
    cases e_1619
    exact aw_ireturn hX (by decide) (by decide) d_L_good_22
  · have e_1620 := sm_inr e_1616
    clear e_1616
    by_cases cE50 : E5 = 0
    · rw [if_pos cE50] at e_1620
      subst cE50
      refine aw_callC (b := 0) (av := [.int a1, .int a2]) (avr := [.int a2, .int a1]) (st := [.int 0, rfV a3]) hX (kx_X9_good (cx_g hX) hF f_1616) mi_X9_good rfl rfl w_931 w_932 w_933 (by decide) rfl (LAY_lt rfl (by decide)) rfl rfl (by simp only [stW, List.map_cons, List.map_nil, rfV_cat, List.sum_cons, List.sum_nil]; exact Nat.le_of_ble_eq_true rfl) hM1 hM2 d_L_good_5 [] ⟨0, 10, 13, 18⟩ [⟨0, 10, 17, 13⟩] rfl (fun z hz => by cases hz) rfl (by decide) w_913 cast_0 (awr_2 (i := 4) (lv2 := [.ref 0, .int a1, .int a2, rfV a3, jk]) hX (by show List.set (List.set _ _ (uncV (rfV _))) _ _ = _; rw [uncV_rfV]; rfl) rfl d_L_good_13 ?_)
      refine aw_iconst (v := 1) hX (by decide) d_L_good_15 ?_
      cases e_1620
      exact aw_ireturn hX (by decide) (by decide) d_L_good_16
    rw [if_neg cE50] at e_1620
    obtain ⟨hqE5, e_1621⟩ := if_some e_1620
    clear e_1620
    subst hqE5
    refine aw_callC (b := 0) (av := [.int a1, .int a2]) (avr := [.int a2, .int a1]) (st := [.int 0, rfV a3]) hX (kx_X9_good (cx_g hX) hF f_1616) mi_X9_good rfl rfl w_931 w_932 w_933 (by decide) rfl (LAY_lt rfl (by decide)) rfl rfl (by simp only [stW, List.map_cons, List.map_nil, rfV_cat, List.sum_cons, List.sum_nil]; exact Nat.le_of_ble_eq_true rfl) hM1 hM2 d_L_good_5 [⟨0, 10, 13, 18⟩] ⟨0, 10, 17, 13⟩ [] rfl (fun z hz => by simp only [List.mem_cons, List.not_mem_nil, or_false] at hz; subst hz; exact Or.inr ⟨by decide, exN 0, w_913, hX.2.2.2.2.2.1.2.2.2.2.2.1⟩) rfl (by decide) w_908 cast_1 (awr_2 (i := 4) (lv2 := [.ref 0, .int a1, .int a2, rfV a3, jk]) hX (by show List.set (List.set _ _ (uncV (rfV _))) _ _ = _; rw [uncV_rfV]; rfl) rfl d_L_good_17 ?_)
    refine aw_iconst (v := 2) hX (by decide) d_L_good_19 ?_
    cases e_1621
    exact aw_ireturn hX (by decide) (by decide) d_L_good_20
theorem k_L_good {g : GP} (hg : g.1.stackTraces = false) (hF : gF g = true) {a0 : Option Nat} {a1 : Int32} {a2 : Int32} {a3 : Option Nat} {h hz : AH} {z : Int32} (e : s_L_good a0 a1 a2 a3 h = some (z, hz)) : Ctr g yL_good (wsW yL_good cL_good 5 (some .int) [(0, 10, 13, 18), (0, 10, 17, 13)]) 8 1 6 [rfV a0, .int a1, .int a2, rfV a3] NT false h (some (.int z)) NT false hz := ctrW_of (lv0 := [rfV a0, .int a1, .int a2, rfV a3, jk]) (by cases a0 <;> cases a3 <;> rfl) (by cases a0 <;> cases a3 <;> rfl) (by decide) hg (fun X hX => t_L_good hF hX e (Nat.le_refl _) (Nat.le_refl _))
theorem d_L_buys_0 : decode cL_buys 0 = .ok (.aload_n 2, 1) := by decide +kernel
theorem d_L_buys_1 : decode cL_buys 1 = .ok (.iconst 0, 1) := by decide +kernel
theorem d_L_buys_2 : decode cL_buys 2 = .ok (.aload_n 0, 1) := by decide +kernel
theorem d_L_buys_3 : decode cL_buys 3 = .ok (.iload_n 1, 1) := by decide +kernel
theorem d_L_buys_4 : decode cL_buys 4 = .ok (.invokevirtual 37, 3) := by decide +kernel
theorem d_L_buys_7 : decode cL_buys 7 = .ok (.i2l, 1) := by decide +kernel
theorem d_L_buys_8 : decode cL_buys 8 = .ok (.lastore, 1) := by decide +kernel
theorem d_L_buys_9 : decode cL_buys 9 = .ok (.goto 6, 3) := by decide +kernel
theorem d_L_buys_12 : decode cL_buys 12 = .ok (.astore_n 3, 1) := by decide +kernel
theorem d_L_buys_13 : decode cL_buys 13 = .ok (.iconst 1, 1) := by decide +kernel
theorem d_L_buys_14 : decode cL_buys 14 = .ok (.ireturn, 1) := by decide +kernel
theorem d_L_buys_15 : decode cL_buys 15 = .ok (.iconst 0, 1) := by decide +kernel
theorem d_L_buys_16 : decode cL_buys 16 = .ok (.ireturn, 1) := by decide +kernel
def s_L_buys (a0 : Option Nat) (a1 : Int32) (a2 : Option Nat) (h : AH) : Option (Int32 × AH) := if a0 = some 0 then bd (s_X9_buys a1 h) fun q1 => sm q1 (fun x2 => bd a2 fun t3 => bd (stL h t3 0 x2.toInt64) fun m4 => some (0, m4)) (fun E5 => if E5 = 0 then some (1, h) else none) else none
theorem t_L_buys {g : GP} {X : MX} {mcR msR : Nat} (hF : gF g = true) (hX : Cx g RL cL_buys 8 mcR msR (some .int) (tableOf [(0, 9, 12, 18)]) X) {a0 : Option Nat} {a1 : Int32} {a2 : Option Nat} {h hz : AH} {z : Int32} (e : s_L_buys a0 a1 a2 h = some (z, hz)) (hM1 : 1 ≤ mcR) (hM2 : 6 ≤ msR) : AR g X 0 0 (QQ g X NT false hz (.inl (some (.int z))) 1 6) h 0 [rfV a0, .int a1, rfV a2, jk] [] := by
  unfold s_L_buys at e
  obtain ⟨rfl, e_1622⟩ := if_some e
  clear e
  refine aw_aloadO_n (i := 2) (o := a2) hX rfl rfl d_L_buys_0 ?_
  refine aw_iconst (v := 0) hX (by decide) d_L_buys_1 ?_
  refine aw_aload_n (i := 0) hX rfl rfl d_L_buys_2 ?_
  refine aw_iload_n (i := 1) hX rfl rfl d_L_buys_3 ?_
  obtain ⟨q1, f_1623, e_1623⟩ := bd_some e_1622
  clear e_1622
  rcases q1 with x2 | E5
  · have e_1624 := sm_inl e_1623
    clear e_1623
    refine aw_callV (b := 0) (av := [.int a1]) (avr := [.int a1]) (st := [.int 0, rfV a2]) hX (k_X9_buys (cx_g hX) hF f_1623) mi_X9_buys rfl rfl w_935 w_936 w_937 (by decide) rfl (LAY_lt rfl (by decide)) rfl rfl (by simp only [stW, List.map_cons, List.map_nil, rfV_cat, List.sum_cons, List.sum_nil]; exact Nat.le_of_ble_eq_true rfl) (Nat.zero_le _) (Nat.zero_le _) d_L_buys_4 ?_
    refine aw_i2l hX d_L_buys_7 ?_
    obtain ⟨t3, f_1625, e_1625⟩ := bd_some e_1624
    clear e_1624
    subst f_1625
    obtain ⟨m4, f_1626, e_1626⟩ := bd_some e_1625
    clear e_1625
    refine ar_lastore hX f_1626 d_L_buys_8 ?_
    refine aw_goto (t := 15) hX (by decide) d_L_buys_9 ?_
    refine aw_iconst (v := 0) hX (by decide) d_L_buys_15 ?_
    cases e_1626
    exact aw_ireturn hX (by decide) (by decide) d_L_buys_16
  · have e_1627 := sm_inr e_1623
    clear e_1623
    obtain ⟨hqE5, e_1628⟩ := if_some e_1627
    clear e_1627
    subst hqE5
    refine aw_callC (b := 0) (av := [.int a1]) (avr := [.int a1]) (st := [.int 0, rfV a2]) hX (kx_X9_buys (cx_g hX) hF f_1623) mi_X9_buys rfl rfl w_935 w_936 w_937 (by decide) rfl (LAY_lt rfl (by decide)) rfl rfl (by simp only [stW, List.map_cons, List.map_nil, rfV_cat, List.sum_cons, List.sum_nil]; exact Nat.le_of_ble_eq_true rfl) hM1 hM2 d_L_buys_4 [] ⟨0, 9, 12, 18⟩ [] rfl (fun z hz => by cases hz) rfl (by decide) w_913 cast_0 (awr_n (i := 3) (lv2 := [.ref 0, .int a1, rfV a2, jk]) hX rfl (by show List.set (List.set _ _ (uncV (rfV _))) _ _ = _; rw [uncV_rfV]; rfl) rfl d_L_buys_12 ?_)
    refine aw_iconst (v := 1) hX (by decide) d_L_buys_13 ?_
    cases e_1628
    exact aw_ireturn hX (by decide) (by decide) d_L_buys_14
theorem k_L_buys {g : GP} (hg : g.1.stackTraces = false) (hF : gF g = true) {a0 : Option Nat} {a1 : Int32} {a2 : Option Nat} {h hz : AH} {z : Int32} (e : s_L_buys a0 a1 a2 h = some (z, hz)) : Ctr g yL_buys (wsW yL_buys cL_buys 4 (some .int) [(0, 9, 12, 18)]) 8 1 6 [rfV a0, .int a1, rfV a2] NT false h (some (.int z)) NT false hz := ctrW_of (lv0 := [rfV a0, .int a1, rfV a2, jk]) (by cases a0 <;> cases a2 <;> rfl) (by cases a0 <;> cases a2 <;> rfl) (by decide) hg (fun X hX => t_L_buys hF hX e (Nat.le_refl _) (Nat.le_refl _))
theorem d_L_goes_0 : decode cL_goes 0 = .ok (.aload 5, 2) := by decide +kernel
theorem d_L_goes_2 : decode cL_goes 2 = .ok (.iconst 0, 1) := by decide +kernel
theorem d_L_goes_3 : decode cL_goes 3 = .ok (.aload_n 0, 1) := by decide +kernel
theorem d_L_goes_4 : decode cL_goes 4 = .ok (.iload_n 1, 1) := by decide +kernel
theorem d_L_goes_5 : decode cL_goes 5 = .ok (.iload_n 2, 1) := by decide +kernel
theorem d_L_goes_6 : decode cL_goes 6 = .ok (.iload_n 3, 1) := by decide +kernel
theorem d_L_goes_7 : decode cL_goes 7 = .ok (.iload 4, 2) := by decide +kernel
theorem d_L_goes_9 : decode cL_goes 9 = .ok (.invokevirtual 40, 3) := by decide +kernel
theorem d_L_goes_12 : decode cL_goes 12 = .ok (.ifCond .eq 7, 3) := by decide +kernel
theorem d_L_goes_15 : decode cL_goes 15 = .ok (.lconst 1, 1) := by decide +kernel
theorem d_L_goes_16 : decode cL_goes 16 = .ok (.goto 4, 3) := by decide +kernel
theorem d_L_goes_19 : decode cL_goes 19 = .ok (.lconst 0, 1) := by decide +kernel
theorem d_L_goes_20 : decode cL_goes 20 = .ok (.lastore, 1) := by decide +kernel
theorem d_L_goes_21 : decode cL_goes 21 = .ok (.goto 7, 3) := by decide +kernel
theorem d_L_goes_24 : decode cL_goes 24 = .ok (.astore 6, 2) := by decide +kernel
theorem d_L_goes_26 : decode cL_goes 26 = .ok (.iconst 1, 1) := by decide +kernel
theorem d_L_goes_27 : decode cL_goes 27 = .ok (.ireturn, 1) := by decide +kernel
theorem d_L_goes_28 : decode cL_goes 28 = .ok (.iconst 0, 1) := by decide +kernel
theorem d_L_goes_29 : decode cL_goes 29 = .ok (.ireturn, 1) := by decide +kernel
def j_L_goes_20 (k0 : Int64) (k1 : Int32) (k2 : Option Nat) (h : AH) : Option (Int32 × AH) := bd k2 fun t3 => bd (stL h t3 k1 k0) fun m4 => some (0, m4)
theorem tj_L_goes_20 {g : GP} {X : MX} {mcR msR : Nat} (hF : gF g = true) (hX : Cx g RL cL_goes 8 mcR msR (some .int) (tableOf [(0, 21, 24, 18)]) X) {k0 : Int64} {k1 : Int32} {k2 : Option Nat} {d0 : Value} {d1 : Value} {d2 : Value} {d3 : Value} {d4 : Value} {d5 : Value} {d6 : Value} {h hz : AH} {z : Int32} (e : j_L_goes_20 k0 k1 k2 h = some (z, hz)) (hM1 : 1 ≤ mcR) (hM2 : 6 ≤ msR) : AR g X 0 0 (QQ g X NT false hz (.inl (some (.int z))) 1 6) h 20 [d0, d1, d2, d3, d4, d5, d6] [.long k0, .int k1, rfV k2] := by
  unfold j_L_goes_20 at e
  obtain ⟨t3, f_1629, e_1629⟩ := bd_some e
  clear e
  subst f_1629
  obtain ⟨m4, f_1630, e_1630⟩ := bd_some e_1629
  clear e_1629
  refine ar_lastore hX f_1630 d_L_goes_20 ?_
  refine aw_goto (t := 28) hX (by decide) d_L_goes_21 ?_
  refine aw_iconst (v := 0) hX (by decide) d_L_goes_28 ?_
  cases e_1630
  exact aw_ireturn hX (by decide) (by decide) d_L_goes_29
def s_L_goes (a0 : Option Nat) (a1 : Int32) (a2 : Int32) (a3 : Int32) (a4 : Int32) (a5 : Option Nat) (h : AH) : Option (Int32 × AH) := if a0 = some 0 then bd (s_X9_goes a1 a2 a3 a4 h) fun q1 => sm q1 (fun x2 => if x2 = 0 then j_L_goes_20 0 0 a5 h else j_L_goes_20 1 0 a5 h) (fun E5 => if E5 = 0 then some (1, h) else none) else none
theorem t_L_goes {g : GP} {X : MX} {mcR msR : Nat} (hF : gF g = true) (hX : Cx g RL cL_goes 8 mcR msR (some .int) (tableOf [(0, 21, 24, 18)]) X) {a0 : Option Nat} {a1 : Int32} {a2 : Int32} {a3 : Int32} {a4 : Int32} {a5 : Option Nat} {h hz : AH} {z : Int32} (e : s_L_goes a0 a1 a2 a3 a4 a5 h = some (z, hz)) (hM1 : 1 ≤ mcR) (hM2 : 6 ≤ msR) : AR g X 0 0 (QQ g X NT false hz (.inl (some (.int z))) 1 6) h 0 [rfV a0, .int a1, .int a2, .int a3, .int a4, rfV a5, jk] [] := by
  unfold s_L_goes at e
  obtain ⟨rfl, e_1631⟩ := if_some e
  clear e
  refine aw_aloadO (i := 5) (o := a5) hX rfl d_L_goes_0 ?_
  refine aw_iconst (v := 0) hX (by decide) d_L_goes_2 ?_
  refine aw_aload_n (i := 0) hX rfl rfl d_L_goes_3 ?_
  refine aw_iload_n (i := 1) hX rfl rfl d_L_goes_4 ?_
  refine aw_iload_n (i := 2) hX rfl rfl d_L_goes_5 ?_
  refine aw_iload_n (i := 3) hX rfl rfl d_L_goes_6 ?_
  refine aw_iload (i := 4) hX rfl d_L_goes_7 ?_
  obtain ⟨q1, f_1632, e_1632⟩ := bd_some e_1631
  clear e_1631
  rcases q1 with x2 | E5
  · have e_1633 := sm_inl e_1632
    clear e_1632
    refine aw_callV (b := 0) (av := [.int a1, .int a2, .int a3, .int a4]) (avr := [.int a4, .int a3, .int a2, .int a1]) (st := [.int 0, rfV a5]) hX (k_X9_goes (cx_g hX) hF f_1632) mi_X9_goes rfl rfl w_939 w_940 w_941 (by decide) rfl (LAY_lt rfl (by decide)) rfl rfl (by simp only [stW, List.map_cons, List.map_nil, rfV_cat, List.sum_cons, List.sum_nil]; exact Nat.le_of_ble_eq_true rfl) (Nat.zero_le _) (Nat.zero_le _) d_L_goes_9 ?_
    refine aw_if_eq (t := 19) hX (by decide) d_L_goes_12 (fun c => ?_) (fun c => ?_)
    · rw [if_pos c] at e_1633
      refine aw_lconst (v := 0) hX (by decide) d_L_goes_19 ?_
      exact tj_L_goes_20 hF hX e_1633 hM1 hM2
    · rw [if_neg c] at e_1633
      refine aw_lconst (v := 1) hX (by decide) d_L_goes_15 ?_
      refine aw_goto (t := 20) hX (by decide) d_L_goes_16 ?_
      exact tj_L_goes_20 hF hX e_1633 hM1 hM2
  · have e_1634 := sm_inr e_1632
    clear e_1632
    obtain ⟨hqE5, e_1635⟩ := if_some e_1634
    clear e_1634
    subst hqE5
    refine aw_callC (b := 0) (av := [.int a1, .int a2, .int a3, .int a4]) (avr := [.int a4, .int a3, .int a2, .int a1]) (st := [.int 0, rfV a5]) hX (kx_X9_goes (cx_g hX) hF f_1632) mi_X9_goes rfl rfl w_939 w_940 w_941 (by decide) rfl (LAY_lt rfl (by decide)) rfl rfl (by simp only [stW, List.map_cons, List.map_nil, rfV_cat, List.sum_cons, List.sum_nil]; exact Nat.le_of_ble_eq_true rfl) hM1 hM2 d_L_goes_9 [] ⟨0, 21, 24, 18⟩ [] rfl (fun z hz => by cases hz) rfl (by decide) w_913 cast_0 (awr_2 (i := 6) (lv2 := [.ref 0, .int a1, .int a2, .int a3, .int a4, rfV a5, jk]) hX (by show List.set (List.set _ _ (uncV (rfV _))) _ _ = _; rw [uncV_rfV]; rfl) rfl d_L_goes_24 ?_)
    refine aw_iconst (v := 1) hX (by decide) d_L_goes_26 ?_
    cases e_1635
    exact aw_ireturn hX (by decide) (by decide) d_L_goes_27
theorem k_L_goes {g : GP} (hg : g.1.stackTraces = false) (hF : gF g = true) {a0 : Option Nat} {a1 : Int32} {a2 : Int32} {a3 : Int32} {a4 : Int32} {a5 : Option Nat} {h hz : AH} {z : Int32} (e : s_L_goes a0 a1 a2 a3 a4 a5 h = some (z, hz)) : Ctr g yL_goes (wsW yL_goes cL_goes 7 (some .int) [(0, 21, 24, 18)]) 8 1 6 [rfV a0, .int a1, .int a2, .int a3, .int a4, rfV a5] NT false h (some (.int z)) NT false hz := ctrW_of (lv0 := [rfV a0, .int a1, .int a2, .int a3, .int a4, rfV a5, jk]) (by cases a0 <;> cases a5 <;> rfl) (by cases a0 <;> cases a5 <;> rfl) (by decide) hg (fun X hX => t_L_goes hF hX e (Nat.le_refl _) (Nat.le_refl _))
theorem d_L_coming_0 : decode cL_coming 0 = .ok (.aload_n 3, 1) := by decide +kernel
theorem d_L_coming_1 : decode cL_coming 1 = .ok (.iconst 0, 1) := by decide +kernel
theorem d_L_coming_2 : decode cL_coming 2 = .ok (.aload_n 0, 1) := by decide +kernel
theorem d_L_coming_3 : decode cL_coming 3 = .ok (.iload_n 1, 1) := by decide +kernel
theorem d_L_coming_4 : decode cL_coming 4 = .ok (.iload_n 2, 1) := by decide +kernel
theorem d_L_coming_5 : decode cL_coming 5 = .ok (.invokevirtual 44, 3) := by decide +kernel
theorem d_L_coming_8 : decode cL_coming 8 = .ok (.i2l, 1) := by decide +kernel
theorem d_L_coming_9 : decode cL_coming 9 = .ok (.lastore, 1) := by decide +kernel
theorem d_L_coming_10 : decode cL_coming 10 = .ok (.goto 7, 3) := by decide +kernel
theorem d_L_coming_13 : decode cL_coming 13 = .ok (.astore 4, 2) := by decide +kernel
theorem d_L_coming_15 : decode cL_coming 15 = .ok (.iconst 1, 1) := by decide +kernel
theorem d_L_coming_16 : decode cL_coming 16 = .ok (.ireturn, 1) := by decide +kernel
theorem d_L_coming_17 : decode cL_coming 17 = .ok (.iconst 0, 1) := by decide +kernel
theorem d_L_coming_18 : decode cL_coming 18 = .ok (.ireturn, 1) := by decide +kernel
def s_L_coming (a0 : Option Nat) (a1 : Int32) (a2 : Int32) (a3 : Option Nat) (h : AH) : Option (Int32 × AH) := if a0 = some 0 then bd (s_X9_coming a1 a2 h) fun q1 => sm q1 (fun x2 => bd a3 fun t3 => bd (stL h t3 0 x2.toInt64) fun m4 => some (0, m4)) (fun E5 => if E5 = 0 then some (1, h) else none) else none
theorem t_L_coming {g : GP} {X : MX} {mcR msR : Nat} (hF : gF g = true) (hX : Cx g RL cL_coming 8 mcR msR (some .int) (tableOf [(0, 10, 13, 18)]) X) {a0 : Option Nat} {a1 : Int32} {a2 : Int32} {a3 : Option Nat} {h hz : AH} {z : Int32} (e : s_L_coming a0 a1 a2 a3 h = some (z, hz)) (hM1 : 1 ≤ mcR) (hM2 : 6 ≤ msR) : AR g X 0 0 (QQ g X NT false hz (.inl (some (.int z))) 1 6) h 0 [rfV a0, .int a1, .int a2, rfV a3, jk] [] := by
  unfold s_L_coming at e
  obtain ⟨rfl, e_1636⟩ := if_some e
  clear e
  refine aw_aloadO_n (i := 3) (o := a3) hX rfl rfl d_L_coming_0 ?_
  refine aw_iconst (v := 0) hX (by decide) d_L_coming_1 ?_
  refine aw_aload_n (i := 0) hX rfl rfl d_L_coming_2 ?_
  refine aw_iload_n (i := 1) hX rfl rfl d_L_coming_3 ?_
  refine aw_iload_n (i := 2) hX rfl rfl d_L_coming_4 ?_
  obtain ⟨q1, f_1637, e_1637⟩ := bd_some e_1636
  clear e_1636
  rcases q1 with x2 | E5
  · have e_1638 := sm_inl e_1637
    clear e_1637
    refine aw_callV (b := 0) (av := [.int a1, .int a2]) (avr := [.int a2, .int a1]) (st := [.int 0, rfV a3]) hX (k_X9_coming (cx_g hX) hF f_1637) mi_X9_coming rfl rfl w_943 w_944 w_945 (by decide) rfl (LAY_lt rfl (by decide)) rfl rfl (by simp only [stW, List.map_cons, List.map_nil, rfV_cat, List.sum_cons, List.sum_nil]; exact Nat.le_of_ble_eq_true rfl) (Nat.zero_le _) (Nat.zero_le _) d_L_coming_5 ?_
    refine aw_i2l hX d_L_coming_8 ?_
    obtain ⟨t3, f_1639, e_1639⟩ := bd_some e_1638
    clear e_1638
    subst f_1639
    obtain ⟨m4, f_1640, e_1640⟩ := bd_some e_1639
    clear e_1639
    refine ar_lastore hX f_1640 d_L_coming_9 ?_
    refine aw_goto (t := 17) hX (by decide) d_L_coming_10 ?_
    refine aw_iconst (v := 0) hX (by decide) d_L_coming_17 ?_
    cases e_1640
    exact aw_ireturn hX (by decide) (by decide) d_L_coming_18
  · have e_1641 := sm_inr e_1637
    clear e_1637
    obtain ⟨hqE5, e_1642⟩ := if_some e_1641
    clear e_1641
    subst hqE5
    refine aw_callC (b := 0) (av := [.int a1, .int a2]) (avr := [.int a2, .int a1]) (st := [.int 0, rfV a3]) hX (kx_X9_coming (cx_g hX) hF f_1637) mi_X9_coming rfl rfl w_943 w_944 w_945 (by decide) rfl (LAY_lt rfl (by decide)) rfl rfl (by simp only [stW, List.map_cons, List.map_nil, rfV_cat, List.sum_cons, List.sum_nil]; exact Nat.le_of_ble_eq_true rfl) hM1 hM2 d_L_coming_5 [] ⟨0, 10, 13, 18⟩ [] rfl (fun z hz => by cases hz) rfl (by decide) w_913 cast_0 (awr_2 (i := 4) (lv2 := [.ref 0, .int a1, .int a2, rfV a3, jk]) hX (by show List.set (List.set _ _ (uncV (rfV _))) _ _ = _; rw [uncV_rfV]; rfl) rfl d_L_coming_13 ?_)
    refine aw_iconst (v := 1) hX (by decide) d_L_coming_15 ?_
    cases e_1642
    exact aw_ireturn hX (by decide) (by decide) d_L_coming_16
theorem k_L_coming {g : GP} (hg : g.1.stackTraces = false) (hF : gF g = true) {a0 : Option Nat} {a1 : Int32} {a2 : Int32} {a3 : Option Nat} {h hz : AH} {z : Int32} (e : s_L_coming a0 a1 a2 a3 h = some (z, hz)) : Ctr g yL_coming (wsW yL_coming cL_coming 5 (some .int) [(0, 10, 13, 18)]) 8 1 6 [rfV a0, .int a1, .int a2, rfV a3] NT false h (some (.int z)) NT false hz := ctrW_of (lv0 := [rfV a0, .int a1, .int a2, rfV a3, jk]) (by cases a0 <;> cases a3 <;> rfl) (by cases a0 <;> cases a3 <;> rfl) (by decide) hg (fun X hX => t_L_coming hF hX e (Nat.le_refl _) (Nat.le_refl _))
theorem d_L_often_0 : decode cL_often 0 = .ok (.aload_n 3, 1) := by decide +kernel
theorem d_L_often_1 : decode cL_often 1 = .ok (.iconst 0, 1) := by decide +kernel
theorem d_L_often_2 : decode cL_often 2 = .ok (.aload_n 0, 1) := by decide +kernel
theorem d_L_often_3 : decode cL_often 3 = .ok (.iload_n 1, 1) := by decide +kernel
theorem d_L_often_4 : decode cL_often 4 = .ok (.iload_n 2, 1) := by decide +kernel
theorem d_L_often_5 : decode cL_often 5 = .ok (.invokevirtual 47, 3) := by decide +kernel
theorem d_L_often_8 : decode cL_often 8 = .ok (.lastore, 1) := by decide +kernel
theorem d_L_often_9 : decode cL_often 9 = .ok (.goto 7, 3) := by decide +kernel
theorem d_L_often_12 : decode cL_often 12 = .ok (.astore 4, 2) := by decide +kernel
theorem d_L_often_14 : decode cL_often 14 = .ok (.iconst 1, 1) := by decide +kernel
theorem d_L_often_15 : decode cL_often 15 = .ok (.ireturn, 1) := by decide +kernel
theorem d_L_often_16 : decode cL_often 16 = .ok (.iconst 0, 1) := by decide +kernel
theorem d_L_often_17 : decode cL_often 17 = .ok (.ireturn, 1) := by decide +kernel
def s_L_often (a0 : Option Nat) (a1 : Int32) (a2 : Int32) (a3 : Option Nat) (h : AH) : Option (Int32 × AH) := if a0 = some 0 then bd (s_X9_often a1 a2 h) fun q1 => sm q1.1 (fun x2 => bd a3 fun t3 => bd (stL q1.2 t3 0 x2) fun m4 => some (0, m4)) (fun E5 => if E5 = 0 then some (1, q1.2) else none) else none
theorem t_L_often {g : GP} {X : MX} {mcR msR : Nat} (hF : gF g = true) (hX : Cx g RL cL_often 8 mcR msR (some .int) (tableOf [(0, 9, 12, 18)]) X) {a0 : Option Nat} {a1 : Int32} {a2 : Int32} {a3 : Option Nat} {h hz : AH} {z : Int32} (e : s_L_often a0 a1 a2 a3 h = some (z, hz)) (hM1 : 1 ≤ mcR) (hM2 : 6 ≤ msR) : AR g X 0 0 (QQ g X NT false hz (.inl (some (.int z))) 1 6) h 0 [rfV a0, .int a1, .int a2, rfV a3, jk] [] := by
  unfold s_L_often at e
  obtain ⟨rfl, e_1643⟩ := if_some e
  clear e
  refine aw_aloadO_n (i := 3) (o := a3) hX rfl rfl d_L_often_0 ?_
  refine aw_iconst (v := 0) hX (by decide) d_L_often_1 ?_
  refine aw_aload_n (i := 0) hX rfl rfl d_L_often_2 ?_
  refine aw_iload_n (i := 1) hX rfl rfl d_L_often_3 ?_
  refine aw_iload_n (i := 2) hX rfl rfl d_L_often_4 ?_
  obtain ⟨q1, f_1644, e_1644⟩ := bd_some e_1643
  clear e_1643
  obtain ⟨z6, m7⟩ := q1
  rcases z6 with x2 | E5
  · have e_1645 := sm_inl e_1644
    clear e_1644
    refine aw_callV (b := 0) (av := [.int a1, .int a2]) (avr := [.int a2, .int a1]) (st := [.int 0, rfV a3]) hX (k_X9_often (cx_g hX) hF f_1644) mi_X9_often rfl rfl w_947 w_948 w_949 (by decide) rfl (LAY_lt rfl (by decide)) rfl rfl (by simp only [stW, List.map_cons, List.map_nil, rfV_cat, List.sum_cons, List.sum_nil]; exact Nat.le_of_ble_eq_true rfl) (Nat.zero_le _) (Nat.zero_le _) d_L_often_5 ?_
    obtain ⟨t3, f_1646, e_1646⟩ := bd_some e_1645
    clear e_1645
    subst f_1646
    obtain ⟨m4, f_1647, e_1647⟩ := bd_some e_1646
    clear e_1646
    refine ar_lastore hX f_1647 d_L_often_8 ?_
    refine aw_goto (t := 16) hX (by decide) d_L_often_9 ?_
    refine aw_iconst (v := 0) hX (by decide) d_L_often_16 ?_
    cases e_1647
    exact aw_ireturn hX (by decide) (by decide) d_L_often_17
  · have e_1648 := sm_inr e_1644
    clear e_1644
    obtain ⟨hqE5, e_1649⟩ := if_some e_1648
    clear e_1648
    subst hqE5
    refine aw_callC (b := 0) (av := [.int a1, .int a2]) (avr := [.int a2, .int a1]) (st := [.int 0, rfV a3]) hX (kx_X9_often (cx_g hX) hF f_1644) mi_X9_often rfl rfl w_947 w_948 w_949 (by decide) rfl (LAY_lt rfl (by decide)) rfl rfl (by simp only [stW, List.map_cons, List.map_nil, rfV_cat, List.sum_cons, List.sum_nil]; exact Nat.le_of_ble_eq_true rfl) hM1 hM2 d_L_often_5 [] ⟨0, 9, 12, 18⟩ [] rfl (fun z hz => by cases hz) rfl (by decide) w_913 cast_0 (awr_2 (i := 4) (lv2 := [.ref 0, .int a1, .int a2, rfV a3, jk]) hX (by show List.set (List.set _ _ (uncV (rfV _))) _ _ = _; rw [uncV_rfV]; rfl) rfl d_L_often_12 ?_)
    refine aw_iconst (v := 1) hX (by decide) d_L_often_14 ?_
    cases e_1649
    exact aw_ireturn hX (by decide) (by decide) d_L_often_15
theorem k_L_often {g : GP} (hg : g.1.stackTraces = false) (hF : gF g = true) {a0 : Option Nat} {a1 : Int32} {a2 : Int32} {a3 : Option Nat} {h hz : AH} {z : Int32} (e : s_L_often a0 a1 a2 a3 h = some (z, hz)) : Ctr g yL_often (wsW yL_often cL_often 5 (some .int) [(0, 9, 12, 18)]) 8 1 6 [rfV a0, .int a1, .int a2, rfV a3] NT false h (some (.int z)) NT false hz := ctrW_of (lv0 := [rfV a0, .int a1, .int a2, rfV a3, jk]) (by cases a0 <;> cases a3 <;> rfl) (by cases a0 <;> cases a3 <;> rfl) (by decide) hg (fun X hX => t_L_often hF hX e (Nat.le_refl _) (Nat.le_refl _))
theorem d_L_full_0 : decode cL_full 0 = .ok (.aload_n 3, 1) := by decide +kernel
theorem d_L_full_1 : decode cL_full 1 = .ok (.iconst 0, 1) := by decide +kernel
theorem d_L_full_2 : decode cL_full 2 = .ok (.aload_n 0, 1) := by decide +kernel
theorem d_L_full_3 : decode cL_full 3 = .ok (.iload_n 1, 1) := by decide +kernel
theorem d_L_full_4 : decode cL_full 4 = .ok (.iload_n 2, 1) := by decide +kernel
theorem d_L_full_5 : decode cL_full 5 = .ok (.invokevirtual 51, 3) := by decide +kernel
theorem d_L_full_8 : decode cL_full 8 = .ok (.i2l, 1) := by decide +kernel
theorem d_L_full_9 : decode cL_full 9 = .ok (.lastore, 1) := by decide +kernel
theorem d_L_full_10 : decode cL_full 10 = .ok (.goto 7, 3) := by decide +kernel
theorem d_L_full_13 : decode cL_full 13 = .ok (.astore 4, 2) := by decide +kernel
theorem d_L_full_15 : decode cL_full 15 = .ok (.iconst 1, 1) := by decide +kernel
theorem d_L_full_16 : decode cL_full 16 = .ok (.ireturn, 1) := by decide +kernel
theorem d_L_full_17 : decode cL_full 17 = .ok (.iconst 0, 1) := by decide +kernel
theorem d_L_full_18 : decode cL_full 18 = .ok (.ireturn, 1) := by decide +kernel
def s_L_full (a0 : Option Nat) (a1 : Int32) (a2 : Int32) (a3 : Option Nat) (h : AH) : Option (Int32 × AH) := if a0 = some 0 then bd (s_X9_full a1 a2 h) fun q1 => sm q1.1 (fun x2 => bd a3 fun t3 => bd (stL q1.2 t3 0 x2.toInt64) fun m4 => some (0, m4)) (fun E5 => if E5 = 0 then some (1, q1.2) else none) else none
theorem t_L_full {g : GP} {X : MX} {mcR msR : Nat} (hF : gF g = true) (hX : Cx g RL cL_full 8 mcR msR (some .int) (tableOf [(0, 10, 13, 18)]) X) {a0 : Option Nat} {a1 : Int32} {a2 : Int32} {a3 : Option Nat} {h hz : AH} {z : Int32} (e : s_L_full a0 a1 a2 a3 h = some (z, hz)) (hM1 : 1 ≤ mcR) (hM2 : 6 ≤ msR) : AR g X 0 0 (QQ g X NT false hz (.inl (some (.int z))) 1 6) h 0 [rfV a0, .int a1, .int a2, rfV a3, jk] [] := by
  unfold s_L_full at e
  obtain ⟨rfl, e_1650⟩ := if_some e
  clear e
  refine aw_aloadO_n (i := 3) (o := a3) hX rfl rfl d_L_full_0 ?_
  refine aw_iconst (v := 0) hX (by decide) d_L_full_1 ?_
  refine aw_aload_n (i := 0) hX rfl rfl d_L_full_2 ?_
  refine aw_iload_n (i := 1) hX rfl rfl d_L_full_3 ?_
  refine aw_iload_n (i := 2) hX rfl rfl d_L_full_4 ?_
  obtain ⟨q1, f_1651, e_1651⟩ := bd_some e_1650
  clear e_1650
  obtain ⟨z6, m7⟩ := q1
  rcases z6 with x2 | E5
  · have e_1652 := sm_inl e_1651
    clear e_1651
    refine aw_callV (b := 0) (av := [.int a1, .int a2]) (avr := [.int a2, .int a1]) (st := [.int 0, rfV a3]) hX (k_X9_full (cx_g hX) hF f_1651) mi_X9_full rfl rfl w_951 w_952 w_953 (by decide) rfl (LAY_lt rfl (by decide)) rfl rfl (by simp only [stW, List.map_cons, List.map_nil, rfV_cat, List.sum_cons, List.sum_nil]; exact Nat.le_of_ble_eq_true rfl) (Nat.zero_le _) (Nat.zero_le _) d_L_full_5 ?_
    refine aw_i2l hX d_L_full_8 ?_
    obtain ⟨t3, f_1653, e_1653⟩ := bd_some e_1652
    clear e_1652
    subst f_1653
    obtain ⟨m4, f_1654, e_1654⟩ := bd_some e_1653
    clear e_1653
    refine ar_lastore hX f_1654 d_L_full_9 ?_
    refine aw_goto (t := 17) hX (by decide) d_L_full_10 ?_
    refine aw_iconst (v := 0) hX (by decide) d_L_full_17 ?_
    cases e_1654
    exact aw_ireturn hX (by decide) (by decide) d_L_full_18
  · have e_1655 := sm_inr e_1651
    clear e_1651
    obtain ⟨hqE5, e_1656⟩ := if_some e_1655
    clear e_1655
    subst hqE5
    refine aw_callC (b := 0) (av := [.int a1, .int a2]) (avr := [.int a2, .int a1]) (st := [.int 0, rfV a3]) hX (kx_X9_full (cx_g hX) hF f_1651) mi_X9_full rfl rfl w_951 w_952 w_953 (by decide) rfl (LAY_lt rfl (by decide)) rfl rfl (by simp only [stW, List.map_cons, List.map_nil, rfV_cat, List.sum_cons, List.sum_nil]; exact Nat.le_of_ble_eq_true rfl) hM1 hM2 d_L_full_5 [] ⟨0, 10, 13, 18⟩ [] rfl (fun z hz => by cases hz) rfl (by decide) w_913 cast_0 (awr_2 (i := 4) (lv2 := [.ref 0, .int a1, .int a2, rfV a3, jk]) hX (by show List.set (List.set _ _ (uncV (rfV _))) _ _ = _; rw [uncV_rfV]; rfl) rfl d_L_full_13 ?_)
    refine aw_iconst (v := 1) hX (by decide) d_L_full_15 ?_
    cases e_1656
    exact aw_ireturn hX (by decide) (by decide) d_L_full_16
theorem k_L_full {g : GP} (hg : g.1.stackTraces = false) (hF : gF g = true) {a0 : Option Nat} {a1 : Int32} {a2 : Int32} {a3 : Option Nat} {h hz : AH} {z : Int32} (e : s_L_full a0 a1 a2 a3 h = some (z, hz)) : Ctr g yL_full (wsW yL_full cL_full 5 (some .int) [(0, 10, 13, 18)]) 8 1 6 [rfV a0, .int a1, .int a2, rfV a3] NT false h (some (.int z)) NT false hz := ctrW_of (lv0 := [rfV a0, .int a1, .int a2, rfV a3, jk]) (by cases a0 <;> cases a3 <;> rfl) (by cases a0 <;> cases a3 <;> rfl) (by decide) hg (fun X hX => t_L_full hF hX e (Nat.le_refl _) (Nat.le_refl _))
theorem d_L_prices_0 : decode cL_prices 0 = .ok (.aload 5, 2) := by decide +kernel
theorem d_L_prices_2 : decode cL_prices 2 = .ok (.iconst 0, 1) := by decide +kernel
theorem d_L_prices_3 : decode cL_prices 3 = .ok (.aload_n 0, 1) := by decide +kernel
theorem d_L_prices_4 : decode cL_prices 4 = .ok (.iload_n 1, 1) := by decide +kernel
theorem d_L_prices_5 : decode cL_prices 5 = .ok (.iload_n 2, 1) := by decide +kernel
theorem d_L_prices_6 : decode cL_prices 6 = .ok (.iload_n 3, 1) := by decide +kernel
theorem d_L_prices_7 : decode cL_prices 7 = .ok (.iload 4, 2) := by decide +kernel
theorem d_L_prices_9 : decode cL_prices 9 = .ok (.invokevirtual 54, 3) := by decide +kernel
theorem d_L_prices_12 : decode cL_prices 12 = .ok (.i2l, 1) := by decide +kernel
theorem d_L_prices_13 : decode cL_prices 13 = .ok (.lastore, 1) := by decide +kernel
theorem d_L_prices_14 : decode cL_prices 14 = .ok (.goto 11, 3) := by decide +kernel
theorem d_L_prices_17 : decode cL_prices 17 = .ok (.astore 6, 2) := by decide +kernel
theorem d_L_prices_19 : decode cL_prices 19 = .ok (.iconst 1, 1) := by decide +kernel
theorem d_L_prices_20 : decode cL_prices 20 = .ok (.ireturn, 1) := by decide +kernel
theorem d_L_prices_21 : decode cL_prices 21 = .ok (.astore 6, 2) := by decide +kernel
theorem d_L_prices_23 : decode cL_prices 23 = .ok (.iconst 2, 1) := by decide +kernel
theorem d_L_prices_24 : decode cL_prices 24 = .ok (.ireturn, 1) := by decide +kernel
theorem d_L_prices_25 : decode cL_prices 25 = .ok (.iconst 0, 1) := by decide +kernel
theorem d_L_prices_26 : decode cL_prices 26 = .ok (.ireturn, 1) := by decide +kernel
def s_L_prices (a0 : Option Nat) (a1 : Int32) (a2 : Int32) (a3 : Int32) (a4 : Int32) (a5 : Option Nat) (h : AH) : Option (Int32 × AH) := if a0 = some 0 then bd (s_X9_prices a1 a2 a3 a4 h) fun q1 => sm q1.1 (fun x2 => bd a5 fun t3 => bd (stL q1.2 t3 0 x2.toInt64) fun m4 => some (0, m4)) (fun E5 => if E5 = 0 then some (1, q1.2) else if E5 = 1 then some (2, q1.2) else none) else none
theorem t_L_prices {g : GP} {X : MX} {mcR msR : Nat} (hF : gF g = true) (hX : Cx g RL cL_prices 8 mcR msR (some .int) (tableOf [(0, 14, 17, 18), (0, 14, 21, 13)]) X) {a0 : Option Nat} {a1 : Int32} {a2 : Int32} {a3 : Int32} {a4 : Int32} {a5 : Option Nat} {h hz : AH} {z : Int32} (e : s_L_prices a0 a1 a2 a3 a4 a5 h = some (z, hz)) (hM1 : 1 ≤ mcR) (hM2 : 6 ≤ msR) : AR g X 0 0 (QQ g X NT false hz (.inl (some (.int z))) 1 6) h 0 [rfV a0, .int a1, .int a2, .int a3, .int a4, rfV a5, jk] [] := by
  unfold s_L_prices at e
  obtain ⟨rfl, e_1657⟩ := if_some e
  clear e
  refine aw_aloadO (i := 5) (o := a5) hX rfl d_L_prices_0 ?_
  refine aw_iconst (v := 0) hX (by decide) d_L_prices_2 ?_
  refine aw_aload_n (i := 0) hX rfl rfl d_L_prices_3 ?_
  refine aw_iload_n (i := 1) hX rfl rfl d_L_prices_4 ?_
  refine aw_iload_n (i := 2) hX rfl rfl d_L_prices_5 ?_
  refine aw_iload_n (i := 3) hX rfl rfl d_L_prices_6 ?_
  refine aw_iload (i := 4) hX rfl d_L_prices_7 ?_
  obtain ⟨q1, f_1658, e_1658⟩ := bd_some e_1657
  clear e_1657
  obtain ⟨z6, m7⟩ := q1
  rcases z6 with x2 | E5
  · have e_1659 := sm_inl e_1658
    clear e_1658
    refine aw_callV (b := 0) (av := [.int a1, .int a2, .int a3, .int a4]) (avr := [.int a4, .int a3, .int a2, .int a1]) (st := [.int 0, rfV a5]) hX (k_X9_prices (cx_g hX) hF f_1658) mi_X9_prices rfl rfl w_955 w_956 w_957 (by decide) rfl (LAY_lt rfl (by decide)) rfl rfl (by simp only [stW, List.map_cons, List.map_nil, rfV_cat, List.sum_cons, List.sum_nil]; exact Nat.le_of_ble_eq_true rfl) (Nat.zero_le _) (Nat.zero_le _) d_L_prices_9 ?_
    refine aw_i2l hX d_L_prices_12 ?_
    obtain ⟨t3, f_1660, e_1660⟩ := bd_some e_1659
    clear e_1659
    subst f_1660
    obtain ⟨m4, f_1661, e_1661⟩ := bd_some e_1660
    clear e_1660
    refine ar_lastore hX f_1661 d_L_prices_13 ?_
    refine aw_goto (t := 25) hX (by decide) d_L_prices_14 ?_
    refine aw_iconst (v := 0) hX (by decide) d_L_prices_25 ?_
    cases e_1661
    exact aw_ireturn hX (by decide) (by decide) d_L_prices_26
  · have e_1662 := sm_inr e_1658
    clear e_1658
    by_cases cE50 : E5 = 0
    · rw [if_pos cE50] at e_1662
      subst cE50
      refine aw_callC (b := 0) (av := [.int a1, .int a2, .int a3, .int a4]) (avr := [.int a4, .int a3, .int a2, .int a1]) (st := [.int 0, rfV a5]) hX (kx_X9_prices (cx_g hX) hF f_1658) mi_X9_prices rfl rfl w_955 w_956 w_957 (by decide) rfl (LAY_lt rfl (by decide)) rfl rfl (by simp only [stW, List.map_cons, List.map_nil, rfV_cat, List.sum_cons, List.sum_nil]; exact Nat.le_of_ble_eq_true rfl) hM1 hM2 d_L_prices_9 [] ⟨0, 14, 17, 18⟩ [⟨0, 14, 21, 13⟩] rfl (fun z hz => by cases hz) rfl (by decide) w_913 cast_0 (awr_2 (i := 6) (lv2 := [.ref 0, .int a1, .int a2, .int a3, .int a4, rfV a5, jk]) hX (by show List.set (List.set _ _ (uncV (rfV _))) _ _ = _; rw [uncV_rfV]; rfl) rfl d_L_prices_17 ?_)
      refine aw_iconst (v := 1) hX (by decide) d_L_prices_19 ?_
      cases e_1662
      exact aw_ireturn hX (by decide) (by decide) d_L_prices_20
    rw [if_neg cE50] at e_1662
    obtain ⟨hqE5, e_1663⟩ := if_some e_1662
    clear e_1662
    subst hqE5
    refine aw_callC (b := 0) (av := [.int a1, .int a2, .int a3, .int a4]) (avr := [.int a4, .int a3, .int a2, .int a1]) (st := [.int 0, rfV a5]) hX (kx_X9_prices (cx_g hX) hF f_1658) mi_X9_prices rfl rfl w_955 w_956 w_957 (by decide) rfl (LAY_lt rfl (by decide)) rfl rfl (by simp only [stW, List.map_cons, List.map_nil, rfV_cat, List.sum_cons, List.sum_nil]; exact Nat.le_of_ble_eq_true rfl) hM1 hM2 d_L_prices_9 [⟨0, 14, 17, 18⟩] ⟨0, 14, 21, 13⟩ [] rfl (fun z hz => by simp only [List.mem_cons, List.not_mem_nil, or_false] at hz; subst hz; exact Or.inr ⟨by decide, exN 0, w_913, hX.2.2.2.2.2.1.2.2.2.2.2.1⟩) rfl (by decide) w_908 cast_1 (awr_2 (i := 6) (lv2 := [.ref 0, .int a1, .int a2, .int a3, .int a4, rfV a5, jk]) hX (by show List.set (List.set _ _ (uncV (rfV _))) _ _ = _; rw [uncV_rfV]; rfl) rfl d_L_prices_21 ?_)
    refine aw_iconst (v := 2) hX (by decide) d_L_prices_23 ?_
    cases e_1663
    exact aw_ireturn hX (by decide) (by decide) d_L_prices_24
theorem k_L_prices {g : GP} (hg : g.1.stackTraces = false) (hF : gF g = true) {a0 : Option Nat} {a1 : Int32} {a2 : Int32} {a3 : Int32} {a4 : Int32} {a5 : Option Nat} {h hz : AH} {z : Int32} (e : s_L_prices a0 a1 a2 a3 a4 a5 h = some (z, hz)) : Ctr g yL_prices (wsW yL_prices cL_prices 7 (some .int) [(0, 14, 17, 18), (0, 14, 21, 13)]) 8 1 6 [rfV a0, .int a1, .int a2, .int a3, .int a4, rfV a5] NT false h (some (.int z)) NT false hz := ctrW_of (lv0 := [rfV a0, .int a1, .int a2, .int a3, .int a4, rfV a5, jk]) (by cases a0 <;> cases a5 <;> rfl) (by cases a0 <;> cases a5 <;> rfl) (by decide) hg (fun X hX => t_L_prices hF hX e (Nat.le_refl _) (Nat.le_refl _))
theorem d_L_found_0 : decode cL_found 0 = .ok (.aload_n 2, 1) := by decide +kernel
theorem d_L_found_1 : decode cL_found 1 = .ok (.iconst 0, 1) := by decide +kernel
theorem d_L_found_2 : decode cL_found 2 = .ok (.aload_n 0, 1) := by decide +kernel
theorem d_L_found_3 : decode cL_found 3 = .ok (.iload_n 1, 1) := by decide +kernel
theorem d_L_found_4 : decode cL_found 4 = .ok (.invokevirtual 58, 3) := by decide +kernel
theorem d_L_found_7 : decode cL_found 7 = .ok (.lastore, 1) := by decide +kernel
theorem d_L_found_8 : decode cL_found 8 = .ok (.goto 6, 3) := by decide +kernel
theorem d_L_found_11 : decode cL_found 11 = .ok (.astore_n 3, 1) := by decide +kernel
theorem d_L_found_12 : decode cL_found 12 = .ok (.iconst 1, 1) := by decide +kernel
theorem d_L_found_13 : decode cL_found 13 = .ok (.ireturn, 1) := by decide +kernel
theorem d_L_found_14 : decode cL_found 14 = .ok (.iconst 0, 1) := by decide +kernel
theorem d_L_found_15 : decode cL_found 15 = .ok (.ireturn, 1) := by decide +kernel
def s_L_found (a0 : Option Nat) (a1 : Int32) (a2 : Option Nat) (h : AH) : Option (Int32 × AH) := if a0 = some 0 then bd (s_X9_found a1 h) fun q1 => sm q1 (fun x2 => bd a2 fun t3 => bd (stL h t3 0 x2) fun m4 => some (0, m4)) (fun E5 => if E5 = 0 then some (1, h) else none) else none
theorem t_L_found {g : GP} {X : MX} {mcR msR : Nat} (hF : gF g = true) (hX : Cx g RL cL_found 8 mcR msR (some .int) (tableOf [(0, 8, 11, 18)]) X) {a0 : Option Nat} {a1 : Int32} {a2 : Option Nat} {h hz : AH} {z : Int32} (e : s_L_found a0 a1 a2 h = some (z, hz)) (hM1 : 1 ≤ mcR) (hM2 : 6 ≤ msR) : AR g X 0 0 (QQ g X NT false hz (.inl (some (.int z))) 1 6) h 0 [rfV a0, .int a1, rfV a2, jk] [] := by
  unfold s_L_found at e
  obtain ⟨rfl, e_1664⟩ := if_some e
  clear e
  refine aw_aloadO_n (i := 2) (o := a2) hX rfl rfl d_L_found_0 ?_
  refine aw_iconst (v := 0) hX (by decide) d_L_found_1 ?_
  refine aw_aload_n (i := 0) hX rfl rfl d_L_found_2 ?_
  refine aw_iload_n (i := 1) hX rfl rfl d_L_found_3 ?_
  obtain ⟨q1, f_1665, e_1665⟩ := bd_some e_1664
  clear e_1664
  rcases q1 with x2 | E5
  · have e_1666 := sm_inl e_1665
    clear e_1665
    refine aw_callV (b := 0) (av := [.int a1]) (avr := [.int a1]) (st := [.int 0, rfV a2]) hX (k_X9_found (cx_g hX) hF f_1665) mi_X9_found rfl rfl w_959 w_960 w_961 (by decide) rfl (LAY_lt rfl (by decide)) rfl rfl (by simp only [stW, List.map_cons, List.map_nil, rfV_cat, List.sum_cons, List.sum_nil]; exact Nat.le_of_ble_eq_true rfl) (Nat.zero_le _) (Nat.zero_le _) d_L_found_4 ?_
    obtain ⟨t3, f_1667, e_1667⟩ := bd_some e_1666
    clear e_1666
    subst f_1667
    obtain ⟨m4, f_1668, e_1668⟩ := bd_some e_1667
    clear e_1667
    refine ar_lastore hX f_1668 d_L_found_7 ?_
    refine aw_goto (t := 14) hX (by decide) d_L_found_8 ?_
    refine aw_iconst (v := 0) hX (by decide) d_L_found_14 ?_
    cases e_1668
    exact aw_ireturn hX (by decide) (by decide) d_L_found_15
  · have e_1669 := sm_inr e_1665
    clear e_1665
    obtain ⟨hqE5, e_1670⟩ := if_some e_1669
    clear e_1669
    subst hqE5
    refine aw_callC (b := 0) (av := [.int a1]) (avr := [.int a1]) (st := [.int 0, rfV a2]) hX (kx_X9_found (cx_g hX) hF f_1665) mi_X9_found rfl rfl w_959 w_960 w_961 (by decide) rfl (LAY_lt rfl (by decide)) rfl rfl (by simp only [stW, List.map_cons, List.map_nil, rfV_cat, List.sum_cons, List.sum_nil]; exact Nat.le_of_ble_eq_true rfl) hM1 hM2 d_L_found_4 [] ⟨0, 8, 11, 18⟩ [] rfl (fun z hz => by cases hz) rfl (by decide) w_913 cast_0 (awr_n (i := 3) (lv2 := [.ref 0, .int a1, rfV a2, jk]) hX rfl (by show List.set (List.set _ _ (uncV (rfV _))) _ _ = _; rw [uncV_rfV]; rfl) rfl d_L_found_11 ?_)
    refine aw_iconst (v := 1) hX (by decide) d_L_found_12 ?_
    cases e_1670
    exact aw_ireturn hX (by decide) (by decide) d_L_found_13
theorem k_L_found {g : GP} (hg : g.1.stackTraces = false) (hF : gF g = true) {a0 : Option Nat} {a1 : Int32} {a2 : Option Nat} {h hz : AH} {z : Int32} (e : s_L_found a0 a1 a2 h = some (z, hz)) : Ctr g yL_found (wsW yL_found cL_found 4 (some .int) [(0, 8, 11, 18)]) 8 1 6 [rfV a0, .int a1, rfV a2] NT false h (some (.int z)) NT false hz := ctrW_of (lv0 := [rfV a0, .int a1, rfV a2, jk]) (by cases a0 <;> cases a2 <;> rfl) (by cases a0 <;> cases a2 <;> rfl) (by decide) hg (fun X hX => t_L_found hF hX e (Nat.le_refl _) (Nat.le_refl _))
theorem d_L_over_0 : decode cL_over 0 = .ok (.aload_n 3, 1) := by decide +kernel
theorem d_L_over_1 : decode cL_over 1 = .ok (.iconst 0, 1) := by decide +kernel
theorem d_L_over_2 : decode cL_over 2 = .ok (.aload_n 0, 1) := by decide +kernel
theorem d_L_over_3 : decode cL_over 3 = .ok (.iload_n 1, 1) := by decide +kernel
theorem d_L_over_4 : decode cL_over 4 = .ok (.iload_n 2, 1) := by decide +kernel
theorem d_L_over_5 : decode cL_over 5 = .ok (.invokevirtual 62, 3) := by decide +kernel
theorem d_L_over_8 : decode cL_over 8 = .ok (.i2l, 1) := by decide +kernel
theorem d_L_over_9 : decode cL_over 9 = .ok (.lastore, 1) := by decide +kernel
theorem d_L_over_10 : decode cL_over 10 = .ok (.goto 11, 3) := by decide +kernel
theorem d_L_over_13 : decode cL_over 13 = .ok (.astore 4, 2) := by decide +kernel
theorem d_L_over_15 : decode cL_over 15 = .ok (.iconst 1, 1) := by decide +kernel
theorem d_L_over_16 : decode cL_over 16 = .ok (.ireturn, 1) := by decide +kernel
theorem d_L_over_17 : decode cL_over 17 = .ok (.astore 4, 2) := by decide +kernel
theorem d_L_over_19 : decode cL_over 19 = .ok (.iconst 2, 1) := by decide +kernel
theorem d_L_over_20 : decode cL_over 20 = .ok (.ireturn, 1) := by decide +kernel
theorem d_L_over_21 : decode cL_over 21 = .ok (.iconst 0, 1) := by decide +kernel
theorem d_L_over_22 : decode cL_over 22 = .ok (.ireturn, 1) := by decide +kernel
def s_L_over (a0 : Option Nat) (a1 : Int32) (a2 : Int32) (a3 : Option Nat) (h : AH) : Option (Int32 × AH) := if a0 = some 0 then bd (s_X9_over a1 a2 h) fun q1 => sm q1.1 (fun x2 => bd a3 fun t3 => bd (stL q1.2 t3 0 x2.toInt64) fun m4 => some (0, m4)) (fun E5 => if E5 = 0 then some (1, q1.2) else if E5 = 1 then some (2, q1.2) else none) else none
theorem t_L_over {g : GP} {X : MX} {mcR msR : Nat} (hF : gF g = true) (hX : Cx g RL cL_over 8 mcR msR (some .int) (tableOf [(0, 10, 13, 18), (0, 10, 17, 13)]) X) {a0 : Option Nat} {a1 : Int32} {a2 : Int32} {a3 : Option Nat} {h hz : AH} {z : Int32} (e : s_L_over a0 a1 a2 a3 h = some (z, hz)) (hM1 : 1 ≤ mcR) (hM2 : 6 ≤ msR) : AR g X 0 0 (QQ g X NT false hz (.inl (some (.int z))) 1 6) h 0 [rfV a0, .int a1, .int a2, rfV a3, jk] [] := by
  unfold s_L_over at e
  obtain ⟨rfl, e_1671⟩ := if_some e
  clear e
  refine aw_aloadO_n (i := 3) (o := a3) hX rfl rfl d_L_over_0 ?_
  refine aw_iconst (v := 0) hX (by decide) d_L_over_1 ?_
  refine aw_aload_n (i := 0) hX rfl rfl d_L_over_2 ?_
  refine aw_iload_n (i := 1) hX rfl rfl d_L_over_3 ?_
  refine aw_iload_n (i := 2) hX rfl rfl d_L_over_4 ?_
  obtain ⟨q1, f_1672, e_1672⟩ := bd_some e_1671
  clear e_1671
  obtain ⟨z6, m7⟩ := q1
  rcases z6 with x2 | E5
  · have e_1673 := sm_inl e_1672
    clear e_1672
    refine aw_callV (b := 0) (av := [.int a1, .int a2]) (avr := [.int a2, .int a1]) (st := [.int 0, rfV a3]) hX (k_X9_over (cx_g hX) hF f_1672) mi_X9_over rfl rfl w_963 w_964 w_965 (by decide) rfl (LAY_lt rfl (by decide)) rfl rfl (by simp only [stW, List.map_cons, List.map_nil, rfV_cat, List.sum_cons, List.sum_nil]; exact Nat.le_of_ble_eq_true rfl) (Nat.zero_le _) (Nat.zero_le _) d_L_over_5 ?_
    refine aw_i2l hX d_L_over_8 ?_
    obtain ⟨t3, f_1674, e_1674⟩ := bd_some e_1673
    clear e_1673
    subst f_1674
    obtain ⟨m4, f_1675, e_1675⟩ := bd_some e_1674
    clear e_1674
    refine ar_lastore hX f_1675 d_L_over_9 ?_
    refine aw_goto (t := 21) hX (by decide) d_L_over_10 ?_
    refine aw_iconst (v := 0) hX (by decide) d_L_over_21 ?_
    cases e_1675
    exact aw_ireturn hX (by decide) (by decide) d_L_over_22
  · have e_1676 := sm_inr e_1672
    clear e_1672
    by_cases cE50 : E5 = 0
    · rw [if_pos cE50] at e_1676
      subst cE50
      refine aw_callC (b := 0) (av := [.int a1, .int a2]) (avr := [.int a2, .int a1]) (st := [.int 0, rfV a3]) hX (kx_X9_over (cx_g hX) hF f_1672) mi_X9_over rfl rfl w_963 w_964 w_965 (by decide) rfl (LAY_lt rfl (by decide)) rfl rfl (by simp only [stW, List.map_cons, List.map_nil, rfV_cat, List.sum_cons, List.sum_nil]; exact Nat.le_of_ble_eq_true rfl) hM1 hM2 d_L_over_5 [] ⟨0, 10, 13, 18⟩ [⟨0, 10, 17, 13⟩] rfl (fun z hz => by cases hz) rfl (by decide) w_913 cast_0 (awr_2 (i := 4) (lv2 := [.ref 0, .int a1, .int a2, rfV a3, jk]) hX (by show List.set (List.set _ _ (uncV (rfV _))) _ _ = _; rw [uncV_rfV]; rfl) rfl d_L_over_13 ?_)
      refine aw_iconst (v := 1) hX (by decide) d_L_over_15 ?_
      cases e_1676
      exact aw_ireturn hX (by decide) (by decide) d_L_over_16
    rw [if_neg cE50] at e_1676
    obtain ⟨hqE5, e_1677⟩ := if_some e_1676
    clear e_1676
    subst hqE5
    refine aw_callC (b := 0) (av := [.int a1, .int a2]) (avr := [.int a2, .int a1]) (st := [.int 0, rfV a3]) hX (kx_X9_over (cx_g hX) hF f_1672) mi_X9_over rfl rfl w_963 w_964 w_965 (by decide) rfl (LAY_lt rfl (by decide)) rfl rfl (by simp only [stW, List.map_cons, List.map_nil, rfV_cat, List.sum_cons, List.sum_nil]; exact Nat.le_of_ble_eq_true rfl) hM1 hM2 d_L_over_5 [⟨0, 10, 13, 18⟩] ⟨0, 10, 17, 13⟩ [] rfl (fun z hz => by simp only [List.mem_cons, List.not_mem_nil, or_false] at hz; subst hz; exact Or.inr ⟨by decide, exN 0, w_913, hX.2.2.2.2.2.1.2.2.2.2.2.1⟩) rfl (by decide) w_908 cast_1 (awr_2 (i := 4) (lv2 := [.ref 0, .int a1, .int a2, rfV a3, jk]) hX (by show List.set (List.set _ _ (uncV (rfV _))) _ _ = _; rw [uncV_rfV]; rfl) rfl d_L_over_17 ?_)
    refine aw_iconst (v := 2) hX (by decide) d_L_over_19 ?_
    cases e_1677
    exact aw_ireturn hX (by decide) (by decide) d_L_over_20
theorem k_L_over {g : GP} (hg : g.1.stackTraces = false) (hF : gF g = true) {a0 : Option Nat} {a1 : Int32} {a2 : Int32} {a3 : Option Nat} {h hz : AH} {z : Int32} (e : s_L_over a0 a1 a2 a3 h = some (z, hz)) : Ctr g yL_over (wsW yL_over cL_over 5 (some .int) [(0, 10, 13, 18), (0, 10, 17, 13)]) 8 1 6 [rfV a0, .int a1, .int a2, rfV a3] NT false h (some (.int z)) NT false hz := ctrW_of (lv0 := [rfV a0, .int a1, .int a2, rfV a3, jk]) (by cases a0 <;> cases a3 <;> rfl) (by cases a0 <;> cases a3 <;> rfl) (by decide) hg (fun X hX => t_L_over hF hX e (Nat.le_refl _) (Nat.le_refl _))
theorem d_L_again_0 : decode cL_again 0 = .ok (.aload 4, 2) := by decide +kernel
theorem d_L_again_2 : decode cL_again 2 = .ok (.iconst 0, 1) := by decide +kernel
theorem d_L_again_3 : decode cL_again 3 = .ok (.aload_n 0, 1) := by decide +kernel
theorem d_L_again_4 : decode cL_again 4 = .ok (.iload_n 1, 1) := by decide +kernel
theorem d_L_again_5 : decode cL_again 5 = .ok (.iload_n 2, 1) := by decide +kernel
theorem d_L_again_6 : decode cL_again 6 = .ok (.iload_n 3, 1) := by decide +kernel
theorem d_L_again_7 : decode cL_again 7 = .ok (.invokevirtual 65, 3) := by decide +kernel
theorem d_L_again_10 : decode cL_again 10 = .ok (.i2l, 1) := by decide +kernel
theorem d_L_again_11 : decode cL_again 11 = .ok (.lastore, 1) := by decide +kernel
theorem d_L_again_12 : decode cL_again 12 = .ok (.goto 11, 3) := by decide +kernel
theorem d_L_again_15 : decode cL_again 15 = .ok (.astore 5, 2) := by decide +kernel
theorem d_L_again_17 : decode cL_again 17 = .ok (.iconst 1, 1) := by decide +kernel
theorem d_L_again_18 : decode cL_again 18 = .ok (.ireturn, 1) := by decide +kernel
theorem d_L_again_19 : decode cL_again 19 = .ok (.astore 5, 2) := by decide +kernel
theorem d_L_again_21 : decode cL_again 21 = .ok (.iconst 2, 1) := by decide +kernel
theorem d_L_again_22 : decode cL_again 22 = .ok (.ireturn, 1) := by decide +kernel
theorem d_L_again_23 : decode cL_again 23 = .ok (.iconst 0, 1) := by decide +kernel
theorem d_L_again_24 : decode cL_again 24 = .ok (.ireturn, 1) := by decide +kernel
def s_L_again (a0 : Option Nat) (a1 : Int32) (a2 : Int32) (a3 : Int32) (a4 : Option Nat) (h : AH) : Option (Int32 × AH) := if a0 = some 0 then bd (s_X9_again a1 a2 a3 h) fun q1 => sm q1 (fun x2 => bd a4 fun t3 => bd (stL h t3 0 x2.toInt64) fun m4 => some (0, m4)) (fun E5 => if E5 = 0 then some (1, h) else if E5 = 1 then some (2, h) else none) else none
theorem t_L_again {g : GP} {X : MX} {mcR msR : Nat} (hF : gF g = true) (hX : Cx g RL cL_again 8 mcR msR (some .int) (tableOf [(0, 12, 15, 18), (0, 12, 19, 13)]) X) {a0 : Option Nat} {a1 : Int32} {a2 : Int32} {a3 : Int32} {a4 : Option Nat} {h hz : AH} {z : Int32} (e : s_L_again a0 a1 a2 a3 a4 h = some (z, hz)) (hM1 : 1 ≤ mcR) (hM2 : 6 ≤ msR) : AR g X 0 0 (QQ g X NT false hz (.inl (some (.int z))) 1 6) h 0 [rfV a0, .int a1, .int a2, .int a3, rfV a4, jk] [] := by
  unfold s_L_again at e
  obtain ⟨rfl, e_1678⟩ := if_some e
  clear e
  refine aw_aloadO (i := 4) (o := a4) hX rfl d_L_again_0 ?_
  refine aw_iconst (v := 0) hX (by decide) d_L_again_2 ?_
  refine aw_aload_n (i := 0) hX rfl rfl d_L_again_3 ?_
  refine aw_iload_n (i := 1) hX rfl rfl d_L_again_4 ?_
  refine aw_iload_n (i := 2) hX rfl rfl d_L_again_5 ?_
  refine aw_iload_n (i := 3) hX rfl rfl d_L_again_6 ?_
  obtain ⟨q1, f_1679, e_1679⟩ := bd_some e_1678
  clear e_1678
  rcases q1 with x2 | E5
  · have e_1680 := sm_inl e_1679
    clear e_1679
    refine aw_callV (b := 0) (av := [.int a1, .int a2, .int a3]) (avr := [.int a3, .int a2, .int a1]) (st := [.int 0, rfV a4]) hX (k_X9_again (cx_g hX) hF f_1679) mi_X9_again rfl rfl w_967 w_968 w_969 (by decide) rfl (LAY_lt rfl (by decide)) rfl rfl (by simp only [stW, List.map_cons, List.map_nil, rfV_cat, List.sum_cons, List.sum_nil]; exact Nat.le_of_ble_eq_true rfl) (Nat.zero_le _) (Nat.zero_le _) d_L_again_7 ?_
    refine aw_i2l hX d_L_again_10 ?_
    obtain ⟨t3, f_1681, e_1681⟩ := bd_some e_1680
    clear e_1680
    subst f_1681
    obtain ⟨m4, f_1682, e_1682⟩ := bd_some e_1681
    clear e_1681
    refine ar_lastore hX f_1682 d_L_again_11 ?_
    refine aw_goto (t := 23) hX (by decide) d_L_again_12 ?_
    refine aw_iconst (v := 0) hX (by decide) d_L_again_23 ?_
    cases e_1682
    exact aw_ireturn hX (by decide) (by decide) d_L_again_24
  · have e_1683 := sm_inr e_1679
    clear e_1679
    by_cases cE50 : E5 = 0
    · rw [if_pos cE50] at e_1683
      subst cE50
      refine aw_callC (b := 0) (av := [.int a1, .int a2, .int a3]) (avr := [.int a3, .int a2, .int a1]) (st := [.int 0, rfV a4]) hX (kx_X9_again (cx_g hX) hF f_1679) mi_X9_again rfl rfl w_967 w_968 w_969 (by decide) rfl (LAY_lt rfl (by decide)) rfl rfl (by simp only [stW, List.map_cons, List.map_nil, rfV_cat, List.sum_cons, List.sum_nil]; exact Nat.le_of_ble_eq_true rfl) hM1 hM2 d_L_again_7 [] ⟨0, 12, 15, 18⟩ [⟨0, 12, 19, 13⟩] rfl (fun z hz => by cases hz) rfl (by decide) w_913 cast_0 (awr_2 (i := 5) (lv2 := [.ref 0, .int a1, .int a2, .int a3, rfV a4, jk]) hX (by show List.set (List.set _ _ (uncV (rfV _))) _ _ = _; rw [uncV_rfV]; rfl) rfl d_L_again_15 ?_)
      refine aw_iconst (v := 1) hX (by decide) d_L_again_17 ?_
      cases e_1683
      exact aw_ireturn hX (by decide) (by decide) d_L_again_18
    rw [if_neg cE50] at e_1683
    obtain ⟨hqE5, e_1684⟩ := if_some e_1683
    clear e_1683
    subst hqE5
    refine aw_callC (b := 0) (av := [.int a1, .int a2, .int a3]) (avr := [.int a3, .int a2, .int a1]) (st := [.int 0, rfV a4]) hX (kx_X9_again (cx_g hX) hF f_1679) mi_X9_again rfl rfl w_967 w_968 w_969 (by decide) rfl (LAY_lt rfl (by decide)) rfl rfl (by simp only [stW, List.map_cons, List.map_nil, rfV_cat, List.sum_cons, List.sum_nil]; exact Nat.le_of_ble_eq_true rfl) hM1 hM2 d_L_again_7 [⟨0, 12, 15, 18⟩] ⟨0, 12, 19, 13⟩ [] rfl (fun z hz => by simp only [List.mem_cons, List.not_mem_nil, or_false] at hz; subst hz; exact Or.inr ⟨by decide, exN 0, w_913, hX.2.2.2.2.2.1.2.2.2.2.2.1⟩) rfl (by decide) w_908 cast_1 (awr_2 (i := 5) (lv2 := [.ref 0, .int a1, .int a2, .int a3, rfV a4, jk]) hX (by show List.set (List.set _ _ (uncV (rfV _))) _ _ = _; rw [uncV_rfV]; rfl) rfl d_L_again_19 ?_)
    refine aw_iconst (v := 2) hX (by decide) d_L_again_21 ?_
    cases e_1684
    exact aw_ireturn hX (by decide) (by decide) d_L_again_22
theorem k_L_again {g : GP} (hg : g.1.stackTraces = false) (hF : gF g = true) {a0 : Option Nat} {a1 : Int32} {a2 : Int32} {a3 : Int32} {a4 : Option Nat} {h hz : AH} {z : Int32} (e : s_L_again a0 a1 a2 a3 a4 h = some (z, hz)) : Ctr g yL_again (wsW yL_again cL_again 6 (some .int) [(0, 12, 15, 18), (0, 12, 19, 13)]) 8 1 6 [rfV a0, .int a1, .int a2, .int a3, rfV a4] NT false h (some (.int z)) NT false hz := ctrW_of (lv0 := [rfV a0, .int a1, .int a2, .int a3, rfV a4, jk]) (by cases a0 <;> cases a4 <;> rfl) (by cases a0 <;> cases a4 <;> rfl) (by decide) hg (fun X hX => t_L_again hF hX e (Nat.le_refl _) (Nat.le_refl _))
theorem d_L_pair_0 : decode cL_pair 0 = .ok (.aload_n 2, 1) := by decide +kernel
theorem d_L_pair_1 : decode cL_pair 1 = .ok (.iconst 0, 1) := by decide +kernel
theorem d_L_pair_2 : decode cL_pair 2 = .ok (.aload_n 0, 1) := by decide +kernel
theorem d_L_pair_3 : decode cL_pair 3 = .ok (.iload_n 1, 1) := by decide +kernel
theorem d_L_pair_4 : decode cL_pair 4 = .ok (.invokevirtual 69, 3) := by decide +kernel
theorem d_L_pair_7 : decode cL_pair 7 = .ok (.lastore, 1) := by decide +kernel
theorem d_L_pair_8 : decode cL_pair 8 = .ok (.goto 6, 3) := by decide +kernel
theorem d_L_pair_11 : decode cL_pair 11 = .ok (.astore_n 3, 1) := by decide +kernel
theorem d_L_pair_12 : decode cL_pair 12 = .ok (.iconst 1, 1) := by decide +kernel
theorem d_L_pair_13 : decode cL_pair 13 = .ok (.ireturn, 1) := by decide +kernel
theorem d_L_pair_14 : decode cL_pair 14 = .ok (.iconst 0, 1) := by decide +kernel
theorem d_L_pair_15 : decode cL_pair 15 = .ok (.ireturn, 1) := by decide +kernel
def s_L_pair (a0 : Option Nat) (a1 : Int32) (a2 : Option Nat) (h : AH) : Option (Int32 × AH) := if a0 = some 0 then bd (s_X9_pair a1 h) fun q1 => sm q1.1 (fun x2 => bd a2 fun t3 => bd (stL q1.2 t3 0 x2) fun m4 => some (0, m4)) (fun E5 => if E5 = 1 then some (1, q1.2) else none) else none
theorem t_L_pair {g : GP} {X : MX} {mcR msR : Nat} (hF : gF g = true) (hX : Cx g RL cL_pair 8 mcR msR (some .int) (tableOf [(0, 8, 11, 13)]) X) {a0 : Option Nat} {a1 : Int32} {a2 : Option Nat} {h hz : AH} {z : Int32} (e : s_L_pair a0 a1 a2 h = some (z, hz)) (hM1 : 1 ≤ mcR) (hM2 : 6 ≤ msR) : AR g X 0 0 (QQ g X NT false hz (.inl (some (.int z))) 1 6) h 0 [rfV a0, .int a1, rfV a2, jk] [] := by
  unfold s_L_pair at e
  obtain ⟨rfl, e_1685⟩ := if_some e
  clear e
  refine aw_aloadO_n (i := 2) (o := a2) hX rfl rfl d_L_pair_0 ?_
  refine aw_iconst (v := 0) hX (by decide) d_L_pair_1 ?_
  refine aw_aload_n (i := 0) hX rfl rfl d_L_pair_2 ?_
  refine aw_iload_n (i := 1) hX rfl rfl d_L_pair_3 ?_
  obtain ⟨q1, f_1686, e_1686⟩ := bd_some e_1685
  clear e_1685
  obtain ⟨z6, m7⟩ := q1
  rcases z6 with x2 | E5
  · have e_1687 := sm_inl e_1686
    clear e_1686
    refine aw_callV (b := 0) (av := [.int a1]) (avr := [.int a1]) (st := [.int 0, rfV a2]) hX (k_X9_pair (cx_g hX) hF f_1686) mi_X9_pair rfl rfl w_971 w_972 w_973 (by decide) rfl (LAY_lt rfl (by decide)) rfl rfl (by simp only [stW, List.map_cons, List.map_nil, rfV_cat, List.sum_cons, List.sum_nil]; exact Nat.le_of_ble_eq_true rfl) (Nat.zero_le _) (Nat.zero_le _) d_L_pair_4 ?_
    obtain ⟨t3, f_1688, e_1688⟩ := bd_some e_1687
    clear e_1687
    subst f_1688
    obtain ⟨m4, f_1689, e_1689⟩ := bd_some e_1688
    clear e_1688
    refine ar_lastore hX f_1689 d_L_pair_7 ?_
    refine aw_goto (t := 14) hX (by decide) d_L_pair_8 ?_
    refine aw_iconst (v := 0) hX (by decide) d_L_pair_14 ?_
    cases e_1689
    exact aw_ireturn hX (by decide) (by decide) d_L_pair_15
  · have e_1690 := sm_inr e_1686
    clear e_1686
    obtain ⟨hqE5, e_1691⟩ := if_some e_1690
    clear e_1690
    subst hqE5
    refine aw_callC (b := 0) (av := [.int a1]) (avr := [.int a1]) (st := [.int 0, rfV a2]) hX (kx_X9_pair (cx_g hX) hF f_1686) mi_X9_pair rfl rfl w_971 w_972 w_973 (by decide) rfl (LAY_lt rfl (by decide)) rfl rfl (by simp only [stW, List.map_cons, List.map_nil, rfV_cat, List.sum_cons, List.sum_nil]; exact Nat.le_of_ble_eq_true rfl) hM1 hM2 d_L_pair_4 [] ⟨0, 8, 11, 13⟩ [] rfl (fun z hz => by cases hz) rfl (by decide) w_908 cast_1 (awr_n (i := 3) (lv2 := [.ref 0, .int a1, rfV a2, jk]) hX rfl (by show List.set (List.set _ _ (uncV (rfV _))) _ _ = _; rw [uncV_rfV]; rfl) rfl d_L_pair_11 ?_)
    refine aw_iconst (v := 1) hX (by decide) d_L_pair_12 ?_
    cases e_1691
    exact aw_ireturn hX (by decide) (by decide) d_L_pair_13
theorem k_L_pair {g : GP} (hg : g.1.stackTraces = false) (hF : gF g = true) {a0 : Option Nat} {a1 : Int32} {a2 : Option Nat} {h hz : AH} {z : Int32} (e : s_L_pair a0 a1 a2 h = some (z, hz)) : Ctr g yL_pair (wsW yL_pair cL_pair 4 (some .int) [(0, 8, 11, 13)]) 8 1 6 [rfV a0, .int a1, rfV a2] NT false h (some (.int z)) NT false hz := ctrW_of (lv0 := [rfV a0, .int a1, rfV a2, jk]) (by cases a0 <;> cases a2 <;> rfl) (by cases a0 <;> cases a2 <;> rfl) (by decide) hg (fun X hX => t_L_pair hF hX e (Nat.le_refl _) (Nat.le_refl _))
theorem d_L_paired_0 : decode cL_paired 0 = .ok (.aload_n 2, 1) := by decide +kernel
theorem d_L_paired_1 : decode cL_paired 1 = .ok (.iconst 0, 1) := by decide +kernel
theorem d_L_paired_2 : decode cL_paired 2 = .ok (.aload_n 0, 1) := by decide +kernel
theorem d_L_paired_3 : decode cL_paired 3 = .ok (.iload_n 1, 1) := by decide +kernel
theorem d_L_paired_4 : decode cL_paired 4 = .ok (.invokevirtual 72, 3) := by decide +kernel
theorem d_L_paired_7 : decode cL_paired 7 = .ok (.i2l, 1) := by decide +kernel
theorem d_L_paired_8 : decode cL_paired 8 = .ok (.lastore, 1) := by decide +kernel
theorem d_L_paired_9 : decode cL_paired 9 = .ok (.goto 6, 3) := by decide +kernel
theorem d_L_paired_12 : decode cL_paired 12 = .ok (.astore_n 3, 1) := by decide +kernel
theorem d_L_paired_13 : decode cL_paired 13 = .ok (.iconst 1, 1) := by decide +kernel
theorem d_L_paired_14 : decode cL_paired 14 = .ok (.ireturn, 1) := by decide +kernel
theorem d_L_paired_15 : decode cL_paired 15 = .ok (.iconst 0, 1) := by decide +kernel
theorem d_L_paired_16 : decode cL_paired 16 = .ok (.ireturn, 1) := by decide +kernel
def s_L_paired (a0 : Option Nat) (a1 : Int32) (a2 : Option Nat) (h : AH) : Option (Int32 × AH) := if a0 = some 0 then bd (s_X9_paired a1 h) fun q1 => sm q1 (fun x2 => bd a2 fun t3 => bd (stL h t3 0 x2.toInt64) fun m4 => some (0, m4)) (fun E5 => if E5 = 0 then some (1, h) else none) else none
theorem t_L_paired {g : GP} {X : MX} {mcR msR : Nat} (hF : gF g = true) (hX : Cx g RL cL_paired 8 mcR msR (some .int) (tableOf [(0, 9, 12, 18)]) X) {a0 : Option Nat} {a1 : Int32} {a2 : Option Nat} {h hz : AH} {z : Int32} (e : s_L_paired a0 a1 a2 h = some (z, hz)) (hM1 : 1 ≤ mcR) (hM2 : 6 ≤ msR) : AR g X 0 0 (QQ g X NT false hz (.inl (some (.int z))) 1 6) h 0 [rfV a0, .int a1, rfV a2, jk] [] := by
  unfold s_L_paired at e
  obtain ⟨rfl, e_1692⟩ := if_some e
  clear e
  refine aw_aloadO_n (i := 2) (o := a2) hX rfl rfl d_L_paired_0 ?_
  refine aw_iconst (v := 0) hX (by decide) d_L_paired_1 ?_
  refine aw_aload_n (i := 0) hX rfl rfl d_L_paired_2 ?_
  refine aw_iload_n (i := 1) hX rfl rfl d_L_paired_3 ?_
  obtain ⟨q1, f_1693, e_1693⟩ := bd_some e_1692
  clear e_1692
  rcases q1 with x2 | E5
  · have e_1694 := sm_inl e_1693
    clear e_1693
    refine aw_callV (b := 0) (av := [.int a1]) (avr := [.int a1]) (st := [.int 0, rfV a2]) hX (k_X9_paired (cx_g hX) hF f_1693) mi_X9_paired rfl rfl w_975 w_976 w_977 (by decide) rfl (LAY_lt rfl (by decide)) rfl rfl (by simp only [stW, List.map_cons, List.map_nil, rfV_cat, List.sum_cons, List.sum_nil]; exact Nat.le_of_ble_eq_true rfl) (Nat.zero_le _) (Nat.zero_le _) d_L_paired_4 ?_
    refine aw_i2l hX d_L_paired_7 ?_
    obtain ⟨t3, f_1695, e_1695⟩ := bd_some e_1694
    clear e_1694
    subst f_1695
    obtain ⟨m4, f_1696, e_1696⟩ := bd_some e_1695
    clear e_1695
    refine ar_lastore hX f_1696 d_L_paired_8 ?_
    refine aw_goto (t := 15) hX (by decide) d_L_paired_9 ?_
    refine aw_iconst (v := 0) hX (by decide) d_L_paired_15 ?_
    cases e_1696
    exact aw_ireturn hX (by decide) (by decide) d_L_paired_16
  · have e_1697 := sm_inr e_1693
    clear e_1693
    obtain ⟨hqE5, e_1698⟩ := if_some e_1697
    clear e_1697
    subst hqE5
    refine aw_callC (b := 0) (av := [.int a1]) (avr := [.int a1]) (st := [.int 0, rfV a2]) hX (kx_X9_paired (cx_g hX) hF f_1693) mi_X9_paired rfl rfl w_975 w_976 w_977 (by decide) rfl (LAY_lt rfl (by decide)) rfl rfl (by simp only [stW, List.map_cons, List.map_nil, rfV_cat, List.sum_cons, List.sum_nil]; exact Nat.le_of_ble_eq_true rfl) hM1 hM2 d_L_paired_4 [] ⟨0, 9, 12, 18⟩ [] rfl (fun z hz => by cases hz) rfl (by decide) w_913 cast_0 (awr_n (i := 3) (lv2 := [.ref 0, .int a1, rfV a2, jk]) hX rfl (by show List.set (List.set _ _ (uncV (rfV _))) _ _ = _; rw [uncV_rfV]; rfl) rfl d_L_paired_12 ?_)
    refine aw_iconst (v := 1) hX (by decide) d_L_paired_13 ?_
    cases e_1698
    exact aw_ireturn hX (by decide) (by decide) d_L_paired_14
theorem k_L_paired {g : GP} (hg : g.1.stackTraces = false) (hF : gF g = true) {a0 : Option Nat} {a1 : Int32} {a2 : Option Nat} {h hz : AH} {z : Int32} (e : s_L_paired a0 a1 a2 h = some (z, hz)) : Ctr g yL_paired (wsW yL_paired cL_paired 4 (some .int) [(0, 9, 12, 18)]) 8 1 6 [rfV a0, .int a1, rfV a2] NT false h (some (.int z)) NT false hz := ctrW_of (lv0 := [rfV a0, .int a1, rfV a2, jk]) (by cases a0 <;> cases a2 <;> rfl) (by cases a0 <;> cases a2 <;> rfl) (by decide) hg (fun X hX => t_L_paired hF hX e (Nat.le_refl _) (Nat.le_refl _))
theorem d_L_years_0 : decode cL_years 0 = .ok (.aload 4, 2) := by decide +kernel
theorem d_L_years_2 : decode cL_years 2 = .ok (.iconst 0, 1) := by decide +kernel
theorem d_L_years_3 : decode cL_years 3 = .ok (.aload_n 0, 1) := by decide +kernel
theorem d_L_years_4 : decode cL_years 4 = .ok (.iload_n 1, 1) := by decide +kernel
theorem d_L_years_5 : decode cL_years 5 = .ok (.iload_n 2, 1) := by decide +kernel
theorem d_L_years_6 : decode cL_years 6 = .ok (.iload_n 3, 1) := by decide +kernel
theorem d_L_years_7 : decode cL_years 7 = .ok (.invokevirtual 75, 3) := by decide +kernel
theorem d_L_years_10 : decode cL_years 10 = .ok (.lastore, 1) := by decide +kernel
theorem d_L_years_11 : decode cL_years 11 = .ok (.goto 11, 3) := by decide +kernel
theorem d_L_years_14 : decode cL_years 14 = .ok (.astore 5, 2) := by decide +kernel
theorem d_L_years_16 : decode cL_years 16 = .ok (.iconst 1, 1) := by decide +kernel
theorem d_L_years_17 : decode cL_years 17 = .ok (.ireturn, 1) := by decide +kernel
theorem d_L_years_18 : decode cL_years 18 = .ok (.astore 5, 2) := by decide +kernel
theorem d_L_years_20 : decode cL_years 20 = .ok (.iconst 2, 1) := by decide +kernel
theorem d_L_years_21 : decode cL_years 21 = .ok (.ireturn, 1) := by decide +kernel
theorem d_L_years_22 : decode cL_years 22 = .ok (.iconst 0, 1) := by decide +kernel
theorem d_L_years_23 : decode cL_years 23 = .ok (.ireturn, 1) := by decide +kernel
def s_L_years (a0 : Option Nat) (a1 : Int32) (a2 : Int32) (a3 : Int32) (a4 : Option Nat) (h : AH) : Option (Int32 × AH) := if a0 = some 0 then bd (s_X9_years a1 a2 a3 h) fun q1 => sm q1.1 (fun x2 => bd a4 fun t3 => bd (stL q1.2 t3 0 x2) fun m4 => some (0, m4)) (fun E5 => if E5 = 0 then some (1, q1.2) else if E5 = 1 then some (2, q1.2) else none) else none
theorem t_L_years {g : GP} {X : MX} {mcR msR : Nat} (hF : gF g = true) (hX : Cx g RL cL_years 7 mcR msR (some .int) (tableOf [(0, 11, 14, 18), (0, 11, 18, 13)]) X) {a0 : Option Nat} {a1 : Int32} {a2 : Int32} {a3 : Int32} {a4 : Option Nat} {h hz : AH} {z : Int32} (e : s_L_years a0 a1 a2 a3 a4 h = some (z, hz)) (hM1 : 1 ≤ mcR) (hM2 : 6 ≤ msR) : AR g X 0 0 (QQ g X NT false hz (.inl (some (.int z))) 1 6) h 0 [rfV a0, .int a1, .int a2, .int a3, rfV a4, jk] [] := by
  unfold s_L_years at e
  obtain ⟨rfl, e_1699⟩ := if_some e
  clear e
  refine aw_aloadO (i := 4) (o := a4) hX rfl d_L_years_0 ?_
  refine aw_iconst (v := 0) hX (by decide) d_L_years_2 ?_
  refine aw_aload_n (i := 0) hX rfl rfl d_L_years_3 ?_
  refine aw_iload_n (i := 1) hX rfl rfl d_L_years_4 ?_
  refine aw_iload_n (i := 2) hX rfl rfl d_L_years_5 ?_
  refine aw_iload_n (i := 3) hX rfl rfl d_L_years_6 ?_
  obtain ⟨q1, f_1700, e_1700⟩ := bd_some e_1699
  clear e_1699
  obtain ⟨z6, m7⟩ := q1
  rcases z6 with x2 | E5
  · have e_1701 := sm_inl e_1700
    clear e_1700
    refine aw_callV (b := 0) (av := [.int a1, .int a2, .int a3]) (avr := [.int a3, .int a2, .int a1]) (st := [.int 0, rfV a4]) hX (k_X9_years (cx_g hX) hF f_1700) mi_X9_years rfl rfl w_979 w_980 w_981 (by decide) rfl (LAY_lt rfl (by decide)) rfl rfl (by simp only [stW, List.map_cons, List.map_nil, rfV_cat, List.sum_cons, List.sum_nil]; exact Nat.le_of_ble_eq_true rfl) (Nat.zero_le _) (Nat.zero_le _) d_L_years_7 ?_
    obtain ⟨t3, f_1702, e_1702⟩ := bd_some e_1701
    clear e_1701
    subst f_1702
    obtain ⟨m4, f_1703, e_1703⟩ := bd_some e_1702
    clear e_1702
    refine ar_lastore hX f_1703 d_L_years_10 ?_
    refine aw_goto (t := 22) hX (by decide) d_L_years_11 ?_
    refine aw_iconst (v := 0) hX (by decide) d_L_years_22 ?_
    cases e_1703
    exact aw_ireturn hX (by decide) (by decide) d_L_years_23
  · have e_1704 := sm_inr e_1700
    clear e_1700
    by_cases cE50 : E5 = 0
    · rw [if_pos cE50] at e_1704
      subst cE50
      refine aw_callC (b := 0) (av := [.int a1, .int a2, .int a3]) (avr := [.int a3, .int a2, .int a1]) (st := [.int 0, rfV a4]) hX (kx_X9_years (cx_g hX) hF f_1700) mi_X9_years rfl rfl w_979 w_980 w_981 (by decide) rfl (LAY_lt rfl (by decide)) rfl rfl (by simp only [stW, List.map_cons, List.map_nil, rfV_cat, List.sum_cons, List.sum_nil]; exact Nat.le_of_ble_eq_true rfl) hM1 hM2 d_L_years_7 [] ⟨0, 11, 14, 18⟩ [⟨0, 11, 18, 13⟩] rfl (fun z hz => by cases hz) rfl (by decide) w_913 cast_0 (awr_2 (i := 5) (lv2 := [.ref 0, .int a1, .int a2, .int a3, rfV a4, jk]) hX (by show List.set (List.set _ _ (uncV (rfV _))) _ _ = _; rw [uncV_rfV]; rfl) rfl d_L_years_14 ?_)
      refine aw_iconst (v := 1) hX (by decide) d_L_years_16 ?_
      cases e_1704
      exact aw_ireturn hX (by decide) (by decide) d_L_years_17
    rw [if_neg cE50] at e_1704
    obtain ⟨hqE5, e_1705⟩ := if_some e_1704
    clear e_1704
    subst hqE5
    refine aw_callC (b := 0) (av := [.int a1, .int a2, .int a3]) (avr := [.int a3, .int a2, .int a1]) (st := [.int 0, rfV a4]) hX (kx_X9_years (cx_g hX) hF f_1700) mi_X9_years rfl rfl w_979 w_980 w_981 (by decide) rfl (LAY_lt rfl (by decide)) rfl rfl (by simp only [stW, List.map_cons, List.map_nil, rfV_cat, List.sum_cons, List.sum_nil]; exact Nat.le_of_ble_eq_true rfl) hM1 hM2 d_L_years_7 [⟨0, 11, 14, 18⟩] ⟨0, 11, 18, 13⟩ [] rfl (fun z hz => by simp only [List.mem_cons, List.not_mem_nil, or_false] at hz; subst hz; exact Or.inr ⟨by decide, exN 0, w_913, hX.2.2.2.2.2.1.2.2.2.2.2.1⟩) rfl (by decide) w_908 cast_1 (awr_2 (i := 5) (lv2 := [.ref 0, .int a1, .int a2, .int a3, rfV a4, jk]) hX (by show List.set (List.set _ _ (uncV (rfV _))) _ _ = _; rw [uncV_rfV]; rfl) rfl d_L_years_18 ?_)
    refine aw_iconst (v := 2) hX (by decide) d_L_years_20 ?_
    cases e_1705
    exact aw_ireturn hX (by decide) (by decide) d_L_years_21
theorem k_L_years {g : GP} (hg : g.1.stackTraces = false) (hF : gF g = true) {a0 : Option Nat} {a1 : Int32} {a2 : Int32} {a3 : Int32} {a4 : Option Nat} {h hz : AH} {z : Int32} (e : s_L_years a0 a1 a2 a3 a4 h = some (z, hz)) : Ctr g yL_years (wsW yL_years cL_years 6 (some .int) [(0, 11, 14, 18), (0, 11, 18, 13)]) 7 1 6 [rfV a0, .int a1, .int a2, .int a3, rfV a4] NT false h (some (.int z)) NT false hz := ctrW_of (lv0 := [rfV a0, .int a1, .int a2, .int a3, rfV a4, jk]) (by cases a0 <;> cases a4 <;> rfl) (by cases a0 <;> cases a4 <;> rfl) (by decide) hg (fun X hX => t_L_years hF hX e (Nat.le_refl _) (Nat.le_refl _))
theorem d_L_ordered_0 : decode cL_ordered 0 = .ok (.aload_n 2, 1) := by decide +kernel
theorem d_L_ordered_1 : decode cL_ordered 1 = .ok (.iconst 0, 1) := by decide +kernel
theorem d_L_ordered_2 : decode cL_ordered 2 = .ok (.aload_n 0, 1) := by decide +kernel
theorem d_L_ordered_3 : decode cL_ordered 3 = .ok (.iload_n 1, 1) := by decide +kernel
theorem d_L_ordered_4 : decode cL_ordered 4 = .ok (.invokevirtual 79, 3) := by decide +kernel
theorem d_L_ordered_7 : decode cL_ordered 7 = .ok (.i2l, 1) := by decide +kernel
theorem d_L_ordered_8 : decode cL_ordered 8 = .ok (.lastore, 1) := by decide +kernel
theorem d_L_ordered_9 : decode cL_ordered 9 = .ok (.goto 6, 3) := by decide +kernel
theorem d_L_ordered_12 : decode cL_ordered 12 = .ok (.astore_n 3, 1) := by decide +kernel
theorem d_L_ordered_13 : decode cL_ordered 13 = .ok (.iconst 1, 1) := by decide +kernel
theorem d_L_ordered_14 : decode cL_ordered 14 = .ok (.ireturn, 1) := by decide +kernel
theorem d_L_ordered_15 : decode cL_ordered 15 = .ok (.iconst 0, 1) := by decide +kernel
theorem d_L_ordered_16 : decode cL_ordered 16 = .ok (.ireturn, 1) := by decide +kernel
def s_L_ordered (a0 : Option Nat) (a1 : Int32) (a2 : Option Nat) (h : AH) : Option (Int32 × AH) := if a0 = some 0 then bd (s_X9_ordered a1 h) fun q1 => sm q1 (fun x2 => bd a2 fun t3 => bd (stL h t3 0 x2.toInt64) fun m4 => some (0, m4)) (fun E5 => if E5 = 0 then some (1, h) else none) else none
theorem t_L_ordered {g : GP} {X : MX} {mcR msR : Nat} (hF : gF g = true) (hX : Cx g RL cL_ordered 7 mcR msR (some .int) (tableOf [(0, 9, 12, 18)]) X) {a0 : Option Nat} {a1 : Int32} {a2 : Option Nat} {h hz : AH} {z : Int32} (e : s_L_ordered a0 a1 a2 h = some (z, hz)) (hM1 : 1 ≤ mcR) (hM2 : 6 ≤ msR) : AR g X 0 0 (QQ g X NT false hz (.inl (some (.int z))) 1 6) h 0 [rfV a0, .int a1, rfV a2, jk] [] := by
  unfold s_L_ordered at e
  obtain ⟨rfl, e_1706⟩ := if_some e
  clear e
  refine aw_aloadO_n (i := 2) (o := a2) hX rfl rfl d_L_ordered_0 ?_
  refine aw_iconst (v := 0) hX (by decide) d_L_ordered_1 ?_
  refine aw_aload_n (i := 0) hX rfl rfl d_L_ordered_2 ?_
  refine aw_iload_n (i := 1) hX rfl rfl d_L_ordered_3 ?_
  obtain ⟨q1, f_1707, e_1707⟩ := bd_some e_1706
  clear e_1706
  rcases q1 with x2 | E5
  · have e_1708 := sm_inl e_1707
    clear e_1707
    refine aw_callV (b := 0) (av := [.int a1]) (avr := [.int a1]) (st := [.int 0, rfV a2]) hX (k_X9_ordered (cx_g hX) hF f_1707) mi_X9_ordered rfl rfl w_983 w_984 w_985 (by decide) rfl (LAY_lt rfl (by decide)) rfl rfl (by simp only [stW, List.map_cons, List.map_nil, rfV_cat, List.sum_cons, List.sum_nil]; exact Nat.le_of_ble_eq_true rfl) (Nat.zero_le _) (Nat.zero_le _) d_L_ordered_4 ?_
    refine aw_i2l hX d_L_ordered_7 ?_
    obtain ⟨t3, f_1709, e_1709⟩ := bd_some e_1708
    clear e_1708
    subst f_1709
    obtain ⟨m4, f_1710, e_1710⟩ := bd_some e_1709
    clear e_1709
    refine ar_lastore hX f_1710 d_L_ordered_8 ?_
    refine aw_goto (t := 15) hX (by decide) d_L_ordered_9 ?_
    refine aw_iconst (v := 0) hX (by decide) d_L_ordered_15 ?_
    cases e_1710
    exact aw_ireturn hX (by decide) (by decide) d_L_ordered_16
  · have e_1711 := sm_inr e_1707
    clear e_1707
    obtain ⟨hqE5, e_1712⟩ := if_some e_1711
    clear e_1711
    subst hqE5
    refine aw_callC (b := 0) (av := [.int a1]) (avr := [.int a1]) (st := [.int 0, rfV a2]) hX (kx_X9_ordered (cx_g hX) hF f_1707) mi_X9_ordered rfl rfl w_983 w_984 w_985 (by decide) rfl (LAY_lt rfl (by decide)) rfl rfl (by simp only [stW, List.map_cons, List.map_nil, rfV_cat, List.sum_cons, List.sum_nil]; exact Nat.le_of_ble_eq_true rfl) hM1 hM2 d_L_ordered_4 [] ⟨0, 9, 12, 18⟩ [] rfl (fun z hz => by cases hz) rfl (by decide) w_913 cast_0 (awr_n (i := 3) (lv2 := [.ref 0, .int a1, rfV a2, jk]) hX rfl (by show List.set (List.set _ _ (uncV (rfV _))) _ _ = _; rw [uncV_rfV]; rfl) rfl d_L_ordered_12 ?_)
    refine aw_iconst (v := 1) hX (by decide) d_L_ordered_13 ?_
    cases e_1712
    exact aw_ireturn hX (by decide) (by decide) d_L_ordered_14
theorem k_L_ordered {g : GP} (hg : g.1.stackTraces = false) (hF : gF g = true) {a0 : Option Nat} {a1 : Int32} {a2 : Option Nat} {h hz : AH} {z : Int32} (e : s_L_ordered a0 a1 a2 h = some (z, hz)) : Ctr g yL_ordered (wsW yL_ordered cL_ordered 4 (some .int) [(0, 9, 12, 18)]) 7 1 6 [rfV a0, .int a1, rfV a2] NT false h (some (.int z)) NT false hz := ctrW_of (lv0 := [rfV a0, .int a1, rfV a2, jk]) (by cases a0 <;> cases a2 <;> rfl) (by cases a0 <;> cases a2 <;> rfl) (by decide) hg (fun X hX => t_L_ordered hF hX e (Nat.le_refl _) (Nat.le_refl _))
theorem d_L_owed_0 : decode cL_owed 0 = .ok (.aload_n 3, 1) := by decide +kernel
theorem d_L_owed_1 : decode cL_owed 1 = .ok (.iconst 0, 1) := by decide +kernel
theorem d_L_owed_2 : decode cL_owed 2 = .ok (.aload_n 0, 1) := by decide +kernel
theorem d_L_owed_3 : decode cL_owed 3 = .ok (.iload_n 1, 1) := by decide +kernel
theorem d_L_owed_4 : decode cL_owed 4 = .ok (.iload_n 2, 1) := by decide +kernel
theorem d_L_owed_5 : decode cL_owed 5 = .ok (.invokevirtual 82, 3) := by decide +kernel
theorem d_L_owed_8 : decode cL_owed 8 = .ok (.i2l, 1) := by decide +kernel
theorem d_L_owed_9 : decode cL_owed 9 = .ok (.lastore, 1) := by decide +kernel
theorem d_L_owed_10 : decode cL_owed 10 = .ok (.goto 7, 3) := by decide +kernel
theorem d_L_owed_13 : decode cL_owed 13 = .ok (.astore 4, 2) := by decide +kernel
theorem d_L_owed_15 : decode cL_owed 15 = .ok (.iconst 1, 1) := by decide +kernel
theorem d_L_owed_16 : decode cL_owed 16 = .ok (.ireturn, 1) := by decide +kernel
theorem d_L_owed_17 : decode cL_owed 17 = .ok (.iconst 0, 1) := by decide +kernel
theorem d_L_owed_18 : decode cL_owed 18 = .ok (.ireturn, 1) := by decide +kernel
def s_L_owed (a0 : Option Nat) (a1 : Int32) (a2 : Int32) (a3 : Option Nat) (h : AH) : Option (Int32 × AH) := if a0 = some 0 then bd (s_X9_owed a1 a2 h) fun q1 => sm q1 (fun x2 => bd a3 fun t3 => bd (stL h t3 0 x2.toInt64) fun m4 => some (0, m4)) (fun E5 => if E5 = 0 then some (1, h) else none) else none
theorem t_L_owed {g : GP} {X : MX} {mcR msR : Nat} (hF : gF g = true) (hX : Cx g RL cL_owed 8 mcR msR (some .int) (tableOf [(0, 10, 13, 18)]) X) {a0 : Option Nat} {a1 : Int32} {a2 : Int32} {a3 : Option Nat} {h hz : AH} {z : Int32} (e : s_L_owed a0 a1 a2 a3 h = some (z, hz)) (hM1 : 1 ≤ mcR) (hM2 : 6 ≤ msR) : AR g X 0 0 (QQ g X NT false hz (.inl (some (.int z))) 1 6) h 0 [rfV a0, .int a1, .int a2, rfV a3, jk] [] := by
  unfold s_L_owed at e
  obtain ⟨rfl, e_1713⟩ := if_some e
  clear e
  refine aw_aloadO_n (i := 3) (o := a3) hX rfl rfl d_L_owed_0 ?_
  refine aw_iconst (v := 0) hX (by decide) d_L_owed_1 ?_
  refine aw_aload_n (i := 0) hX rfl rfl d_L_owed_2 ?_
  refine aw_iload_n (i := 1) hX rfl rfl d_L_owed_3 ?_
  refine aw_iload_n (i := 2) hX rfl rfl d_L_owed_4 ?_
  obtain ⟨q1, f_1714, e_1714⟩ := bd_some e_1713
  clear e_1713
  rcases q1 with x2 | E5
  · have e_1715 := sm_inl e_1714
    clear e_1714
    refine aw_callV (b := 0) (av := [.int a1, .int a2]) (avr := [.int a2, .int a1]) (st := [.int 0, rfV a3]) hX (k_X9_owed (cx_g hX) hF f_1714) mi_X9_owed rfl rfl w_987 w_988 w_989 (by decide) rfl (LAY_lt rfl (by decide)) rfl rfl (by simp only [stW, List.map_cons, List.map_nil, rfV_cat, List.sum_cons, List.sum_nil]; exact Nat.le_of_ble_eq_true rfl) (Nat.zero_le _) (Nat.zero_le _) d_L_owed_5 ?_
    refine aw_i2l hX d_L_owed_8 ?_
    obtain ⟨t3, f_1716, e_1716⟩ := bd_some e_1715
    clear e_1715
    subst f_1716
    obtain ⟨m4, f_1717, e_1717⟩ := bd_some e_1716
    clear e_1716
    refine ar_lastore hX f_1717 d_L_owed_9 ?_
    refine aw_goto (t := 17) hX (by decide) d_L_owed_10 ?_
    refine aw_iconst (v := 0) hX (by decide) d_L_owed_17 ?_
    cases e_1717
    exact aw_ireturn hX (by decide) (by decide) d_L_owed_18
  · have e_1718 := sm_inr e_1714
    clear e_1714
    obtain ⟨hqE5, e_1719⟩ := if_some e_1718
    clear e_1718
    subst hqE5
    refine aw_callC (b := 0) (av := [.int a1, .int a2]) (avr := [.int a2, .int a1]) (st := [.int 0, rfV a3]) hX (kx_X9_owed (cx_g hX) hF f_1714) mi_X9_owed rfl rfl w_987 w_988 w_989 (by decide) rfl (LAY_lt rfl (by decide)) rfl rfl (by simp only [stW, List.map_cons, List.map_nil, rfV_cat, List.sum_cons, List.sum_nil]; exact Nat.le_of_ble_eq_true rfl) hM1 hM2 d_L_owed_5 [] ⟨0, 10, 13, 18⟩ [] rfl (fun z hz => by cases hz) rfl (by decide) w_913 cast_0 (awr_2 (i := 4) (lv2 := [.ref 0, .int a1, .int a2, rfV a3, jk]) hX (by show List.set (List.set _ _ (uncV (rfV _))) _ _ = _; rw [uncV_rfV]; rfl) rfl d_L_owed_13 ?_)
    refine aw_iconst (v := 1) hX (by decide) d_L_owed_15 ?_
    cases e_1719
    exact aw_ireturn hX (by decide) (by decide) d_L_owed_16
theorem k_L_owed {g : GP} (hg : g.1.stackTraces = false) (hF : gF g = true) {a0 : Option Nat} {a1 : Int32} {a2 : Int32} {a3 : Option Nat} {h hz : AH} {z : Int32} (e : s_L_owed a0 a1 a2 a3 h = some (z, hz)) : Ctr g yL_owed (wsW yL_owed cL_owed 5 (some .int) [(0, 10, 13, 18)]) 8 1 6 [rfV a0, .int a1, .int a2, rfV a3] NT false h (some (.int z)) NT false hz := ctrW_of (lv0 := [rfV a0, .int a1, .int a2, rfV a3, jk]) (by cases a0 <;> cases a3 <;> rfl) (by cases a0 <;> cases a3 <;> rfl) (by decide) hg (fun X hX => t_L_owed hF hX e (Nat.le_refl _) (Nat.le_refl _))
theorem d_L_on_0 : decode cL_on 0 = .ok (.aload_n 2, 1) := by decide +kernel
theorem d_L_on_1 : decode cL_on 1 = .ok (.iconst 0, 1) := by decide +kernel
theorem d_L_on_2 : decode cL_on 2 = .ok (.aload_n 0, 1) := by decide +kernel
theorem d_L_on_3 : decode cL_on 3 = .ok (.iload_n 1, 1) := by decide +kernel
theorem d_L_on_4 : decode cL_on 4 = .ok (.invokevirtual 85, 3) := by decide +kernel
theorem d_L_on_7 : decode cL_on 7 = .ok (.i2l, 1) := by decide +kernel
theorem d_L_on_8 : decode cL_on 8 = .ok (.lastore, 1) := by decide +kernel
theorem d_L_on_9 : decode cL_on 9 = .ok (.goto 6, 3) := by decide +kernel
theorem d_L_on_12 : decode cL_on 12 = .ok (.astore_n 3, 1) := by decide +kernel
theorem d_L_on_13 : decode cL_on 13 = .ok (.iconst 1, 1) := by decide +kernel
theorem d_L_on_14 : decode cL_on 14 = .ok (.ireturn, 1) := by decide +kernel
theorem d_L_on_15 : decode cL_on 15 = .ok (.iconst 0, 1) := by decide +kernel
theorem d_L_on_16 : decode cL_on 16 = .ok (.ireturn, 1) := by decide +kernel
def s_L_on (a0 : Option Nat) (a1 : Int32) (a2 : Option Nat) (h : AH) : Option (Int32 × AH) := if a0 = some 0 then bd (s_X9_on a1 h) fun q1 => sm q1.1 (fun x2 => bd a2 fun t3 => bd (stL q1.2 t3 0 x2.toInt64) fun m4 => some (0, m4)) (fun E5 => if E5 = 1 then some (1, q1.2) else none) else none
theorem t_L_on {g : GP} {X : MX} {mcR msR : Nat} (hF : gF g = true) (hX : Cx g RL cL_on 7 mcR msR (some .int) (tableOf [(0, 9, 12, 13)]) X) {a0 : Option Nat} {a1 : Int32} {a2 : Option Nat} {h hz : AH} {z : Int32} (e : s_L_on a0 a1 a2 h = some (z, hz)) (hM1 : 1 ≤ mcR) (hM2 : 6 ≤ msR) : AR g X 0 0 (QQ g X NT false hz (.inl (some (.int z))) 1 6) h 0 [rfV a0, .int a1, rfV a2, jk] [] := by
  unfold s_L_on at e
  obtain ⟨rfl, e_1720⟩ := if_some e
  clear e
  refine aw_aloadO_n (i := 2) (o := a2) hX rfl rfl d_L_on_0 ?_
  refine aw_iconst (v := 0) hX (by decide) d_L_on_1 ?_
  refine aw_aload_n (i := 0) hX rfl rfl d_L_on_2 ?_
  refine aw_iload_n (i := 1) hX rfl rfl d_L_on_3 ?_
  obtain ⟨q1, f_1721, e_1721⟩ := bd_some e_1720
  clear e_1720
  obtain ⟨z6, m7⟩ := q1
  rcases z6 with x2 | E5
  · have e_1722 := sm_inl e_1721
    clear e_1721
    refine aw_callV (b := 0) (av := [.int a1]) (avr := [.int a1]) (st := [.int 0, rfV a2]) hX (k_X9_on (cx_g hX) hF f_1721) mi_X9_on rfl rfl w_991 w_992 w_993 (by decide) rfl (LAY_lt rfl (by decide)) rfl rfl (by simp only [stW, List.map_cons, List.map_nil, rfV_cat, List.sum_cons, List.sum_nil]; exact Nat.le_of_ble_eq_true rfl) (Nat.zero_le _) (Nat.zero_le _) d_L_on_4 ?_
    refine aw_i2l hX d_L_on_7 ?_
    obtain ⟨t3, f_1723, e_1723⟩ := bd_some e_1722
    clear e_1722
    subst f_1723
    obtain ⟨m4, f_1724, e_1724⟩ := bd_some e_1723
    clear e_1723
    refine ar_lastore hX f_1724 d_L_on_8 ?_
    refine aw_goto (t := 15) hX (by decide) d_L_on_9 ?_
    refine aw_iconst (v := 0) hX (by decide) d_L_on_15 ?_
    cases e_1724
    exact aw_ireturn hX (by decide) (by decide) d_L_on_16
  · have e_1725 := sm_inr e_1721
    clear e_1721
    obtain ⟨hqE5, e_1726⟩ := if_some e_1725
    clear e_1725
    subst hqE5
    refine aw_callC (b := 0) (av := [.int a1]) (avr := [.int a1]) (st := [.int 0, rfV a2]) hX (kx_X9_on (cx_g hX) hF f_1721) mi_X9_on rfl rfl w_991 w_992 w_993 (by decide) rfl (LAY_lt rfl (by decide)) rfl rfl (by simp only [stW, List.map_cons, List.map_nil, rfV_cat, List.sum_cons, List.sum_nil]; exact Nat.le_of_ble_eq_true rfl) hM1 hM2 d_L_on_4 [] ⟨0, 9, 12, 13⟩ [] rfl (fun z hz => by cases hz) rfl (by decide) w_908 cast_1 (awr_n (i := 3) (lv2 := [.ref 0, .int a1, rfV a2, jk]) hX rfl (by show List.set (List.set _ _ (uncV (rfV _))) _ _ = _; rw [uncV_rfV]; rfl) rfl d_L_on_12 ?_)
    refine aw_iconst (v := 1) hX (by decide) d_L_on_13 ?_
    cases e_1726
    exact aw_ireturn hX (by decide) (by decide) d_L_on_14
theorem k_L_on {g : GP} (hg : g.1.stackTraces = false) (hF : gF g = true) {a0 : Option Nat} {a1 : Int32} {a2 : Option Nat} {h hz : AH} {z : Int32} (e : s_L_on a0 a1 a2 h = some (z, hz)) : Ctr g yL_on (wsW yL_on cL_on 4 (some .int) [(0, 9, 12, 13)]) 7 1 6 [rfV a0, .int a1, rfV a2] NT false h (some (.int z)) NT false hz := ctrW_of (lv0 := [rfV a0, .int a1, rfV a2, jk]) (by cases a0 <;> cases a2 <;> rfl) (by cases a0 <;> cases a2 <;> rfl) (by decide) hg (fun X hX => t_L_on hF hX e (Nat.le_refl _) (Nat.le_refl _))
theorem d_L_seen_0 : decode cL_seen 0 = .ok (.aload_n 3, 1) := by decide +kernel
theorem d_L_seen_1 : decode cL_seen 1 = .ok (.iconst 0, 1) := by decide +kernel
theorem d_L_seen_2 : decode cL_seen 2 = .ok (.aload_n 0, 1) := by decide +kernel
theorem d_L_seen_3 : decode cL_seen 3 = .ok (.iload_n 1, 1) := by decide +kernel
theorem d_L_seen_4 : decode cL_seen 4 = .ok (.iload_n 2, 1) := by decide +kernel
theorem d_L_seen_5 : decode cL_seen 5 = .ok (.invokevirtual 88, 3) := by decide +kernel
theorem d_L_seen_8 : decode cL_seen 8 = .ok (.i2l, 1) := by decide +kernel
theorem d_L_seen_9 : decode cL_seen 9 = .ok (.lastore, 1) := by decide +kernel
theorem d_L_seen_10 : decode cL_seen 10 = .ok (.goto 7, 3) := by decide +kernel
theorem d_L_seen_13 : decode cL_seen 13 = .ok (.astore 4, 2) := by decide +kernel
theorem d_L_seen_15 : decode cL_seen 15 = .ok (.iconst 1, 1) := by decide +kernel
theorem d_L_seen_16 : decode cL_seen 16 = .ok (.ireturn, 1) := by decide +kernel
theorem d_L_seen_17 : decode cL_seen 17 = .ok (.iconst 0, 1) := by decide +kernel
theorem d_L_seen_18 : decode cL_seen 18 = .ok (.ireturn, 1) := by decide +kernel
def s_L_seen (a0 : Option Nat) (a1 : Int32) (a2 : Int32) (a3 : Option Nat) (h : AH) : Option (Int32 × AH) := if a0 = some 0 then bd (s_X9_seen a1 a2 h) fun q1 => sm q1 (fun x2 => bd a3 fun t3 => bd (stL h t3 0 x2.toInt64) fun m4 => some (0, m4)) (fun E5 => if E5 = 0 then some (1, h) else none) else none
theorem t_L_seen {g : GP} {X : MX} {mcR msR : Nat} (hF : gF g = true) (hX : Cx g RL cL_seen 8 mcR msR (some .int) (tableOf [(0, 10, 13, 18)]) X) {a0 : Option Nat} {a1 : Int32} {a2 : Int32} {a3 : Option Nat} {h hz : AH} {z : Int32} (e : s_L_seen a0 a1 a2 a3 h = some (z, hz)) (hM1 : 1 ≤ mcR) (hM2 : 6 ≤ msR) : AR g X 0 0 (QQ g X NT false hz (.inl (some (.int z))) 1 6) h 0 [rfV a0, .int a1, .int a2, rfV a3, jk] [] := by
  unfold s_L_seen at e
  obtain ⟨rfl, e_1727⟩ := if_some e
  clear e
  refine aw_aloadO_n (i := 3) (o := a3) hX rfl rfl d_L_seen_0 ?_
  refine aw_iconst (v := 0) hX (by decide) d_L_seen_1 ?_
  refine aw_aload_n (i := 0) hX rfl rfl d_L_seen_2 ?_
  refine aw_iload_n (i := 1) hX rfl rfl d_L_seen_3 ?_
  refine aw_iload_n (i := 2) hX rfl rfl d_L_seen_4 ?_
  obtain ⟨q1, f_1728, e_1728⟩ := bd_some e_1727
  clear e_1727
  rcases q1 with x2 | E5
  · have e_1729 := sm_inl e_1728
    clear e_1728
    refine aw_callV (b := 0) (av := [.int a1, .int a2]) (avr := [.int a2, .int a1]) (st := [.int 0, rfV a3]) hX (k_X9_seen (cx_g hX) hF f_1728) mi_X9_seen rfl rfl w_995 w_996 w_997 (by decide) rfl (LAY_lt rfl (by decide)) rfl rfl (by simp only [stW, List.map_cons, List.map_nil, rfV_cat, List.sum_cons, List.sum_nil]; exact Nat.le_of_ble_eq_true rfl) (Nat.zero_le _) (Nat.zero_le _) d_L_seen_5 ?_
    refine aw_i2l hX d_L_seen_8 ?_
    obtain ⟨t3, f_1730, e_1730⟩ := bd_some e_1729
    clear e_1729
    subst f_1730
    obtain ⟨m4, f_1731, e_1731⟩ := bd_some e_1730
    clear e_1730
    refine ar_lastore hX f_1731 d_L_seen_9 ?_
    refine aw_goto (t := 17) hX (by decide) d_L_seen_10 ?_
    refine aw_iconst (v := 0) hX (by decide) d_L_seen_17 ?_
    cases e_1731
    exact aw_ireturn hX (by decide) (by decide) d_L_seen_18
  · have e_1732 := sm_inr e_1728
    clear e_1728
    obtain ⟨hqE5, e_1733⟩ := if_some e_1732
    clear e_1732
    subst hqE5
    refine aw_callC (b := 0) (av := [.int a1, .int a2]) (avr := [.int a2, .int a1]) (st := [.int 0, rfV a3]) hX (kx_X9_seen (cx_g hX) hF f_1728) mi_X9_seen rfl rfl w_995 w_996 w_997 (by decide) rfl (LAY_lt rfl (by decide)) rfl rfl (by simp only [stW, List.map_cons, List.map_nil, rfV_cat, List.sum_cons, List.sum_nil]; exact Nat.le_of_ble_eq_true rfl) hM1 hM2 d_L_seen_5 [] ⟨0, 10, 13, 18⟩ [] rfl (fun z hz => by cases hz) rfl (by decide) w_913 cast_0 (awr_2 (i := 4) (lv2 := [.ref 0, .int a1, .int a2, rfV a3, jk]) hX (by show List.set (List.set _ _ (uncV (rfV _))) _ _ = _; rw [uncV_rfV]; rfl) rfl d_L_seen_13 ?_)
    refine aw_iconst (v := 1) hX (by decide) d_L_seen_15 ?_
    cases e_1733
    exact aw_ireturn hX (by decide) (by decide) d_L_seen_16
theorem k_L_seen {g : GP} (hg : g.1.stackTraces = false) (hF : gF g = true) {a0 : Option Nat} {a1 : Int32} {a2 : Int32} {a3 : Option Nat} {h hz : AH} {z : Int32} (e : s_L_seen a0 a1 a2 a3 h = some (z, hz)) : Ctr g yL_seen (wsW yL_seen cL_seen 5 (some .int) [(0, 10, 13, 18)]) 8 1 6 [rfV a0, .int a1, .int a2, rfV a3] NT false h (some (.int z)) NT false hz := ctrW_of (lv0 := [rfV a0, .int a1, .int a2, rfV a3, jk]) (by cases a0 <;> cases a3 <;> rfl) (by cases a0 <;> cases a3 <;> rfl) (by decide) hg (fun X hX => t_L_seen hF hX e (Nat.le_refl _) (Nat.le_refl _))
