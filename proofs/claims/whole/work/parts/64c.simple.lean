/-! 64c.simple -/
section
variable {D : HD} {T : Nat} {h : AH}
theorem g_found (x : IVd D T h) (a0 : Int32) : ag (fun v => v) (s_L_found (some 0) a0 (some 277) h) (s_X10_found a0) := by
  obtain ⟨a, rfl, ha1, ha2⟩ := zi_of a0
  have xf := x.2.2.2.2.2.2.2.1
  by_cases q1 : 0 ≤ a ∧ a ≤ 4
  · have ea : zi a = zi (a.toNat : Nat) := congrArg zi (by omega)
    rcases xf with ⟨f1, f2⟩ | ⟨f1, f2, f3⟩
    · refine ag_t (k := 1) (b := 0) x ?_ (by decide) ?_
      · unfold s_L_found s_X9_found
        rw [if_pos rfl, c_needW rfl ((show (4 : Int32) = zi 4 from zi_lit 4)) ha1 ha2 (by decide) (by decide), if_pos q1, bd_v, sm_l, if_pos f1]
        rfl
      · refine zw_o ?_
        unfold s_X10_found
        refine zw_t (by rw [gI_sI, if_neg (by omega)]; exact f2) ?_
        unfold j_X10_found_26 j_X10_found_27
        refine zw_bd1 (r_right (b := false) rfl g0_z (by decide)) ?_
        rw [if_neg ff]
        exact zw_t rfl (zw_some rfl)
    · refine ag_v (v := gL h 219 a.toNat) x ?_ ?_
      · unfold s_L_found s_X9_found
        rw [if_pos rfl, c_needW rfl ((show (4 : Int32) = zi 4 from zi_lit 4)) ha1 ha2 (by decide) (by decide), if_pos q1, bd_v, sm_l, if_neg (by rw [f1]; decide), atW_ok a.toNat (n := 5) rfl ea (by omega), bd_v, bd_v, sm_l]
        exact hl_v rfl
      · refine zw_e (z := (gL h 219 a.toNat, _)) ?_ ⟨rfl, g0_z, frz _⟩
        unfold s_X10_found
        refine zw_f (by rw [gI_sI, if_neg (by omega), gI_sL, f2]; decide) ?_
        refine zw_bd1 (r_within rfl ((show (0 : Int32) = zi 0 from zi_lit 0)) ((show (4 : Int32) = zi 4 from zi_lit 4)) ha1 ha2 (by decide) (by decide) (by decide) (by decide)) ?_
        rw [if_pos (decide_eq_true q1)]
        refine zw_f one_ne ?_
        unfold j_X10_found_27
        refine zw_bd1 (r_right (b := true) rfl g0_z (by decide)) ?_
        rw [if_pos rfl]
        refine zw_f one_ne ?_
        refine zw_bd1 (ldL_ok a.toNat (n := 5) rfl ea (by omega)) (zw_some (Prod.ext ?_ rfl))
        show gL (sI (sL h 277 0 (gL h 219 a.toNat)) 240 0 0) 260 a.toNat = gL h 219 a.toNat
        rw [gL_sI, gL_sL, if_neg (by omega), f3 _ (by omega)]
  · refine ag_t (k := 1) (b := 0) x ?_ (by decide) ?_
    · unfold s_L_found s_X9_found
      rw [if_pos rfl, c_needW rfl ((show (4 : Int32) = zi 4 from zi_lit 4)) ha1 ha2 (by decide) (by decide), if_neg q1]
      rfl
    · refine zw_o ?_
      have thr : zw (j_X10_found_26 (zi a) (sI h 240 0 0)) (fun r => r = (0, sI (sI h 240 0 0) 240 0 1)) := by
        unfold j_X10_found_26 j_X10_found_27
        refine zw_bd1 (r_right (b := false) rfl g0_z (by decide)) ?_
        rw [if_neg ff]
        exact zw_t rfl (zw_some rfl)
      unfold s_X10_found
      refine zw_if (fun _ => thr) (fun _ => ?_)
      refine zw_bd1 (r_within rfl ((show (0 : Int32) = zi 0 from zi_lit 0)) ((show (4 : Int32) = zi 4 from zi_lit 4)) ha1 ha2 (by decide) (by decide) (by decide) (by decide)) ?_
      rw [if_neg (fun z => q1 (of_decide_eq_true z))]
      exact zw_t rfl thr
theorem g_paired (x : IVd D T h) (a0 : Int32) : ag Int32.toInt64 (s_L_paired (some 0) a0 (some 277) h) (s_X10_paired a0) := by
  obtain ⟨a, rfl, ha1, ha2⟩ := zi_of a0
  have xf := x.2.2.2.2.2.2.2.2.1
  have thr : zw (j_X10_paired_27 (zi a) (sI h 240 0 0)) (fun r => r = (0, sI (sI h 240 0 0) 240 0 1)) := by
    unfold j_X10_paired_27 j_X10_paired_28
    refine zw_bd1 (r_right (b := false) rfl g0_z (by decide)) ?_
    rw [if_neg ff]
    exact zw_t rfl (zw_some rfl)
  by_cases q1 : 0 ≤ a ∧ a ≤ 1
  · rcases xf with ⟨f1, f2⟩ | ⟨f1, f2, f3, f4⟩
    · refine ag_t (k := 1) (b := 0) x ?_ (by decide) ?_
      · unfold s_L_paired s_X9_paired
        rw [if_pos rfl, c_needW rfl ((show (1 : Int32) = zi 1 from zi_lit 1)) ha1 ha2 (by decide) (by decide), if_pos q1, bd_v, sm_l, if_pos f1]
        rfl
      · refine zw_o ?_
        unfold s_X10_paired
        exact zw_t (by rw [gI_sI, if_neg (by omega)]; exact f2) thr
    · refine ag_v (v := (if a = 0 then gI h 215 6 else gI h 215 7).toInt64) x ?_ ?_
      · unfold s_L_paired s_X9_paired
        rw [if_pos rfl, c_needW rfl ((show (1 : Int32) = zi 1 from zi_lit 1)) ha1 ha2 (by decide) (by decide), if_pos q1, bd_v, sm_l, if_neg (by rw [f1]; decide)]
        by_cases q0 : a = 0
        · rw [if_pos (by rw [q0]; rfl), if_pos q0, bd_v, sm_l]
          exact hl_v rfl
        · rw [if_neg (zi_nk ((show (0 : Int32) = zi 0 from zi_lit 0)) q0 ha1 ha2), if_neg q0, bd_v, sm_l]
          exact hl_v rfl
      · refine zw_e (z := (if a = 0 then gI h 215 6 else gI h 215 7, _)) ?_ ⟨rfl, g0_z, frz _⟩
        have ans : zw (j_X10_paired_23 (zi a) (sI (sL h 277 0 (if a = 0 then gI h 215 6 else gI h 215 7).toInt64) 240 0 0)) (fun r => r = (if a = 0 then gI h 215 6 else gI h 215 7, sI (sL h 277 0 (if a = 0 then gI h 215 6 else gI h 215 7).toInt64) 240 0 0)) := by
          unfold j_X10_paired_23 j_X10_paired_28
          refine zw_bd1 (r_right (b := true) rfl g0_z (by decide)) ?_
          rw [if_pos rfl]
          refine zw_f one_ne ?_
          by_cases q0 : a = 0
          · refine zw_t (by rw [q0]; rfl) (zw_some ?_)
            rw [gI_sI, if_neg (by omega), gI_sL, if_pos q0, f3]
          · refine zw_f (zi_nk ((show (0 : Int32) = zi 0 from zi_lit 0)) q0 ha1 ha2) (zw_some ?_)
            rw [gI_sI, if_neg (by omega), gI_sL, if_neg q0, f4]
        unfold s_X10_paired
        refine zw_f (by rw [gI_sI, if_neg (by omega), gI_sL]; exact f2) ?_
        by_cases q0 : a = 0
        · exact zw_t (by rw [q0]; rfl) ans
        · refine zw_f (zi_nk ((show (0 : Int32) = zi 0 from zi_lit 0)) q0 ha1 ha2) (zw_t ?_ ans)
          rw [show a = 1 by omega]
          rfl
  · refine ag_t (k := 1) (b := 0) x ?_ (by decide) ?_
    · unfold s_L_paired s_X9_paired
      rw [if_pos rfl, c_needW rfl ((show (1 : Int32) = zi 1 from zi_lit 1)) ha1 ha2 (by decide) (by decide), if_neg q1]
      rfl
    · refine zw_o ?_
      unfold s_X10_paired
      refine zw_if (fun _ => thr) (fun _ => ?_)
      refine zw_f (zi_nk ((show (0 : Int32) = zi 0 from zi_lit 0)) (by omega : a ≠ 0) ha1 ha2) ?_
      exact zw_f (zi_nk ((show (1 : Int32) = zi 1 from zi_lit 1)) (by omega : a ≠ 1) ha1 ha2) thr
theorem g_ordered (x : IVd D T h) (a0 : Int32) : ag Int32.toInt64 (s_L_ordered (some 0) a0 (some 277) h) (s_X10_ordered a0) := by
  obtain ⟨a, rfl, ha1, ha2⟩ := zi_of a0
  have xo := x.2.2.2.2.2.2.2.2.2.1
  have em1 : (-1 : Int32) = zi (-1) := rfl
  have thr : zw (j_X10_ordered_22 (zi a) (sI h 240 0 0)) (fun r => r = (0, sI (sI h 240 0 0) 240 0 1)) := by
    unfold j_X10_ordered_22 j_X10_ordered_23
    refine zw_bd1 (r_right (b := false) rfl g0_z (by decide)) ?_
    rw [if_neg ff]
    exact zw_t rfl (zw_some rfl)
  rcases xo with ⟨f1, f2⟩ | ⟨f1, m, hm, f2, f3, f4⟩
  · refine ag_t (k := 1) (b := 0) x ?_ (by decide) ?_
    · unfold s_L_ordered s_X9_ordered
      rw [if_pos rfl, if_pos f1]
      rfl
    · refine zw_o ?_
      unfold s_X10_ordered
      refine zw_if (fun _ => thr) (fun q => zw_t ?_ thr)
      rw [gI_sI, if_neg (by omega), f2, em1, zi_le (by omega) (by omega) (by omega) (by omega)]
      rw [(show (0 : Int32) = zi 0 from zi_lit 0), zi_lt (by omega) (by omega) (by omega) (by omega)] at q
      omega
  · by_cases q1 : 0 ≤ a ∧ a < m
    · have ea : zi a = zi (a.toNat : Nat) := congrArg zi (by omega)
      refine ag_v (v := (gI h 221 a.toNat).toInt64) x ?_ ?_
      · unfold s_L_ordered s_X9_ordered
        rw [if_pos rfl, if_neg (by rw [f1]; decide), if_neg (by rw [(show (0 : Int32) = zi 0 from zi_lit 0), zi_lt (by omega) (by omega) (by omega) (by omega)]; omega), f2, if_pos (by rw [zi_lt (by omega) (by omega) (by omega) (by omega)]; omega), at_ok a.toNat (n := 5) rfl ea (by omega), bd_v, bd_v, sm_l]
        exact hl_v rfl
      · refine zw_e (z := (gI h 221 a.toNat, _)) ?_ ⟨rfl, g0_z, frz _⟩
        unfold s_X10_ordered
        refine zw_f (by rw [(show (0 : Int32) = zi 0 from zi_lit 0), zi_lt (by omega) (by omega) (by omega) (by omega)]; omega) ?_
        refine zw_f (by rw [gI_sI, if_neg (by omega), gI_sL, f3, zi_le (by omega) (by omega) (by omega) (by omega)]; omega) ?_
        unfold j_X10_ordered_23
        refine zw_bd1 (r_right (b := true) rfl g0_z (by decide)) ?_
        rw [if_pos rfl]
        refine zw_f one_ne ?_
        refine zw_bd1 (ldI_ok a.toNat (n := 5) rfl ea (by omega)) (zw_some (Prod.ext ?_ rfl))
        show gI (sI (sL h 277 0 (gI h 221 a.toNat).toInt64) 240 0 0) 265 a.toNat = gI h 221 a.toNat
        rw [gI_sI, if_neg (by omega), gI_sL, f4 _ (by omega)]
    · refine ag_t (k := 1) (b := 0) x ?_ (by decide) ?_
      · unfold s_L_ordered s_X9_ordered j_X9_ordered_25
        rw [if_pos rfl, if_neg (by rw [f1]; decide)]
        by_cases q2 : a < 0
        · rw [if_pos (by rw [(show (0 : Int32) = zi 0 from zi_lit 0), zi_lt (by omega) (by omega) (by omega) (by omega)]; exact q2)]
          rfl
        · rw [if_neg (by rw [(show (0 : Int32) = zi 0 from zi_lit 0), zi_lt (by omega) (by omega) (by omega) (by omega)]; exact q2), f2, if_neg (by rw [zi_lt (by omega) (by omega) (by omega) (by omega)]; omega)]
          rfl
      · refine zw_o ?_
        unfold s_X10_ordered
        refine zw_if (fun _ => thr) (fun q => zw_t ?_ thr)
        rw [(show (0 : Int32) = zi 0 from zi_lit 0), zi_lt (by omega) (by omega) (by omega) (by omega)] at q
        rw [gI_sI, if_neg (by omega), f3, zi_le (by omega) (by omega) (by omega) (by omega)]
        omega
end
