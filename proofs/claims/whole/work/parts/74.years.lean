/-! 74.years: years: both answer alike -/
section
variable {D : HD} {T : Nat} {h : AH}
theorem g_years (x : IVd D T h) (a0 a1 a2 : Int32) : ag (fun v => v) (s_L_years (some 0) a0 a1 a2 (some 277) h) (s_X10_years a0 a1 a2) := by
  obtain ⟨n, rfl, hn1, hn2⟩ := zi_of a0
  obtain ⟨b, rfl, hb1, hb2⟩ := zi_of a1
  obtain ⟨w, rfl, hw1, hw2⟩ := zi_of a2
  have hK := x.wf.K6
  have thr1 : ∀ H : AH, zw (j_X10_years_34 (zi n) (zi b) (zi w) (sI H 240 0 0)) (fun r => r = (0, sI (sI H 240 0 0) 240 0 1)) := by
    intro H
    unfold j_X10_years_34 j_X10_years_35
    refine zw_bd1 (r_right (b := false) rfl g0_z (by decide)) ?_
    rw [if_neg ff]
    exact zw_t rfl (zw_some rfl)
  have thr2 : ∀ H : AH, zw (j_X10_years_68 (zi n) (zi b) (zi w) (sI H 240 0 0)) (fun r => r = (0, sI (sI H 240 0 0) 240 0 2)) := by
    intro H
    unfold j_X10_years_68 j_X10_years_69
    refine zw_bd1 (r_right (b := false) rfl g0_z (by decide)) ?_
    rw [if_neg ff]
    exact zw_t rfl (zw_some rfl)
  have sub2 : 0 ≤ w → zi w - 2 = zi (w - 2) := fun _ => zi_sub _ 2
  -- the way to the second question
  have head : ∀ H : AH, IVd D T H → (0 ≤ w ∧ w - 2 < D.K) → ∀ Q : Int64 × AH → Prop, zw (bd (s_X10_within (zi n) 1 60 (sI H 240 0 0)) fun x3 => if x3 = 0 then j_X10_years_68 (zi n) (zi b) (zi w) (sI H 240 0 0) else bd (s_X10_within (zi b) 0 1000 (sI H 240 0 0)) fun x34 => if x34 = 0 then j_X10_years_68 (zi n) (zi b) (zi w) (sI H 240 0 0) else j_X10_years_69 (zi n) (zi b) (zi w) 1 (sI H 240 0 0)) Q → zw (s_X10_years (zi n) (zi b) (zi w) H) Q := by
    intro H y q1 Q hh
    have go : zw (j_X10_years_30 (zi n) (zi b) (zi w) (sI H 240 0 0)) Q := by
      unfold j_X10_years_30 j_X10_years_35
      refine zw_bd1 (r_right (b := true) rfl g0_z (by decide)) ?_
      rw [if_pos rfl]
      exact zw_f one_ne hh
    unfold s_X10_years
    refine zw_bd1 (r_within rfl ((show (0 : Int32) = zi 0 from zi_lit 0)) ((show (1 : Int32) = zi 1 from zi_lit 1)) hw1 hw2 (by decide) (by decide) (by decide) (by decide)) ?_
    by_cases q2 : 0 ≤ w ∧ w ≤ 1
    · rw [if_pos (decide_eq_true q2)]
      exact zw_f one_ne go
    · rw [if_neg (fun z => q2 (of_decide_eq_true z))]
      refine zw_t rfl (zw_f (by rw [(show (2 : Int32) = zi 2 from zi_lit 2), zi_lt (by omega) (by omega) (by omega) (by omega)]; omega) (zw_f ?_ go))
      rw [sub2 q1.1, y.z.rh.1.2.2.2.1, zi_le (by omega) (by omega) (by omega) (by omega)]
      omega
  by_cases q1 : 0 ≤ w ∧ w - 2 < D.K
  · by_cases q2 : (1 ≤ n ∧ n ≤ 60) ∧ 0 ≤ b ∧ b ≤ 1000
    · have en : zi n = zi (n.toNat : Nat) := congrArg zi (by omega)
      obtain ⟨⟨v, h1⟩, e1, hv, f1⟩ := c_years x (n := n.toNat) (sh := b) (w := w) (by omega) q2.2 q1 en rfl rfl
      dsimp only at hv f1
      subst hv
      have x1 := x.fr (f1.mono (by unfold SC; omega))
      have y := (x1.o (if w = 0 then zl (yLast D b n.toNat) else if w = 1 then zl (zs (yE D b) n.toNat) else zl (yM D b n.toNat (w - 2).toNat))).z
      obtain ⟨⟨v2, h2⟩, e2, hv2, f2, x2⟩ := r_years y (n := n.toNat) (sh := b) (w := w) (by omega) q2.2 q1 en rfl rfl
      dsimp only at hv2 f2 x2
      subst hv2
      generalize (if w = 0 then zl (yLast D b n.toNat) else if w = 1 then zl (zs (yE D b) n.toNat) else zl (yM D b n.toNat (w - 2).toNat)) = V at *
      refine ⟨0, sL h1 277 0 V, V, h2, ?_, zw_o (head _ (x1.o _) q1 _ ?_), ?_, fun _ => ?_, D, T, x2⟩
      · unfold s_L_years s_X9_years
        rw [if_pos rfl, if_neg (by rw [(show (0 : Int32) = zi 0 from zi_lit 0), zi_lt (by omega) (by omega) (by omega) (by omega)]; omega), x.t8, bd_v, if_pos x.tl.l0, sub2 q1.1, x.ch.1.2.2.2.1, if_pos (by rw [zi_lt (by omega) (by omega) (by omega) (by omega)]; exact q1.2), if_neg (by rw [(show (1 : Int32) = zi 1 from zi_lit 1), zi_lt (by omega) (by omega) (by omega) (by omega)]; omega), if_neg (by rw [(show (60 : Int32) = zi 60 from zi_lit 60), zi_lt (by omega) (by omega) (by omega) (by omega)]; omega), if_neg (by rw [(show (0 : Int32) = zi 0 from zi_lit 0), zi_lt (by omega) (by omega) (by omega) (by omega)]; omega), if_pos (by rw [(show (1000 : Int32) = zi 1000 from zi_lit 1000), zi_le (by omega) (by omega) (by omega) (by omega)]; omega), e1, bd_v, bd_v, sm_l]
        exact hl_v rfl
      · refine zw_bd1 (r_within rfl ((show (1 : Int32) = zi 1 from zi_lit 1)) ((show (60 : Int32) = zi 60 from zi_lit 60)) hn1 hn2 (by decide) (by decide) (by decide) (by decide)) ?_
        rw [if_pos (decide_eq_true q2.1)]
        refine zw_f one_ne ?_
        refine zw_bd1 (r_within rfl ((show (0 : Int32) = zi 0 from zi_lit 0)) ((show (1000 : Int32) = zi 1000 from zi_lit 1000)) hb1 hb2 (by decide) (by decide) (by decide) (by decide)) ?_
        rw [if_pos (decide_eq_true q2.2)]
        refine zw_f one_ne ?_
        unfold j_X10_years_69
        refine zw_bd1 (r_right (b := true) rfl g0_z (by decide)) ?_
        rw [if_pos rfl]
        refine zw_f one_ne ?_
        exact ⟨_, e2, rfl⟩
      · rw [f2.i (by omega)]
        exact g0_z
      · rw [f2.l (by omega), gL_sI, gL_sL, if_pos ⟨rfl, rfl⟩]
    · refine ag_t (k := 2) (b := 0) x ?_ (by decide) ?_
      · have e2 : s_X9_years (zi n) (zi b) (zi w) h = some (.inr 1, h) := by
          unfold s_X9_years j_X9_years_47
          rw [if_neg (by rw [(show (0 : Int32) = zi 0 from zi_lit 0), zi_lt (by omega) (by omega) (by omega) (by omega)]; omega), x.t8, bd_v, if_pos x.tl.l0, sub2 q1.1, x.ch.1.2.2.2.1, if_pos (by rw [zi_lt (by omega) (by omega) (by omega) (by omega)]; exact q1.2)]
          by_cases p1 : n < 1
          · rw [if_pos (by rw [(show (1 : Int32) = zi 1 from zi_lit 1), zi_lt (by omega) (by omega) (by omega) (by omega)]; exact p1)]
          · rw [if_neg (by rw [(show (1 : Int32) = zi 1 from zi_lit 1), zi_lt (by omega) (by omega) (by omega) (by omega)]; exact p1)]
            by_cases p2 : 60 < n
            · rw [if_pos (by rw [(show (60 : Int32) = zi 60 from zi_lit 60), zi_lt (by omega) (by omega) (by omega) (by omega)]; exact p2)]
            · rw [if_neg (by rw [(show (60 : Int32) = zi 60 from zi_lit 60), zi_lt (by omega) (by omega) (by omega) (by omega)]; exact p2)]
              by_cases p3 : b < 0
              · rw [if_pos (by rw [(show (0 : Int32) = zi 0 from zi_lit 0), zi_lt (by omega) (by omega) (by omega) (by omega)]; exact p3)]
              · rw [if_neg (by rw [(show (0 : Int32) = zi 0 from zi_lit 0), zi_lt (by omega) (by omega) (by omega) (by omega)]; exact p3), if_neg (by rw [(show (1000 : Int32) = zi 1000 from zi_lit 1000), zi_le (by omega) (by omega) (by omega) (by omega)]; omega)]
        unfold s_L_years
        rw [if_pos rfl, e2]
        rfl
      · refine zw_o (head h x q1 _ ?_)
        refine zw_bd1 (r_within rfl ((show (1 : Int32) = zi 1 from zi_lit 1)) ((show (60 : Int32) = zi 60 from zi_lit 60)) hn1 hn2 (by decide) (by decide) (by decide) (by decide)) ?_
        by_cases p1 : 1 ≤ n ∧ n ≤ 60
        · rw [if_pos (decide_eq_true p1)]
          refine zw_f one_ne ?_
          refine zw_bd1 (r_within rfl ((show (0 : Int32) = zi 0 from zi_lit 0)) ((show (1000 : Int32) = zi 1000 from zi_lit 1000)) hb1 hb2 (by decide) (by decide) (by decide) (by decide)) ?_
          rw [if_neg (fun z => q2 ⟨p1, of_decide_eq_true z⟩)]
          exact zw_t rfl (thr2 h)
        · rw [if_neg (fun z => p1 (of_decide_eq_true z))]
          exact zw_t rfl (thr2 h)
  · refine ag_t (k := 1) (b := 0) x ?_ (by decide) ?_
    · unfold s_L_years s_X9_years j_X9_years_17
      rw [if_pos rfl]
      by_cases p : w < 0
      · rw [if_pos (by rw [(show (0 : Int32) = zi 0 from zi_lit 0), zi_lt (by omega) (by omega) (by omega) (by omega)]; exact p)]
        rfl
      · rw [if_neg (by rw [(show (0 : Int32) = zi 0 from zi_lit 0), zi_lt (by omega) (by omega) (by omega) (by omega)]; exact p), x.t8, bd_v, if_pos x.tl.l0, sub2 (by omega), x.ch.1.2.2.2.1, if_neg (by rw [zi_lt (by omega) (by omega) (by omega) (by omega)]; omega)]
        rfl
    · refine zw_o ?_
      unfold s_X10_years
      refine zw_bd1 (r_within rfl ((show (0 : Int32) = zi 0 from zi_lit 0)) ((show (1 : Int32) = zi 1 from zi_lit 1)) hw1 hw2 (by decide) (by decide) (by decide) (by decide)) ?_
      rw [if_neg (show ¬ decide (0 ≤ w ∧ w ≤ 1) = true from fun z => q1 (by have := of_decide_eq_true z; omega))]
      refine zw_t rfl ?_
      by_cases p : w < 2
      · exact zw_t (by rw [(show (2 : Int32) = zi 2 from zi_lit 2), zi_lt (by omega) (by omega) (by omega) (by omega)]; exact p) (thr1 h)
      · refine zw_f (by rw [(show (2 : Int32) = zi 2 from zi_lit 2), zi_lt (by omega) (by omega) (by omega) (by omega)]; exact p) (zw_t ?_ (thr1 h))
        rw [sub2 (by omega), x.z.rh.1.2.2.2.1, zi_le (by omega) (by omega) (by omega) (by omega)]
        omega
end
