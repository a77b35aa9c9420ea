/-! 64b.simple -/
section
variable {D : HD} {T : Nat} {h : AH}
theorem ff : ¬ (false = true) := by decide
theorem dW_val (x : IVd D T h) {k t : Nat} (hk : k < D.K) (ht : t < 5) : s_X2_value (31 + 6 * (5 * k + t)) h = some (zl (dW D k t)) := by
  have hK := x.wf.K6
  unfold s_X2_value
  rw [if_pos (PL.of (by omega : k < 6) ht).l0, (x.c.2.1 k t hk ht).1.2.1]
theorem g_good (x : IVd D T h) (a0 a1 : Int32) : ag Int32.toInt64 (s_L_good (some 0) a0 a1 (some 277) h) (s_X10_good a0 a1) := by
  obtain ⟨a, rfl, ha1, ha2⟩ := zi_of a0
  obtain ⟨b, rfl, hb1, hb2⟩ := zi_of a1
  have hK := x.wf.K6
  have em1 : (-1 : Int32) = zi (-1) := rfl
  by_cases q1 : 0 ≤ a ∧ a < D.K
  · have ea : zi a = zi (a.toNat : Nat) := congrArg zi (by omega)
    by_cases q2 : 0 ≤ b ∧ b < 5
    · have eb : zi b = zi (b.toNat : Nat) := congrArg zi (by omega)
      have bP := x.wf.p.2.1 b.toNat (by omega)
      have rg : ∀ h', IVd D T h' → s_X10_goodOf (zi a) (zi b) h' = some (zi (gd (dW D a.toNat) D.P b.toNat)) := fun h' y => r_good ea eb (by omega) (by omega) (y.r.g a.toNat b.toNat (by omega) (by omega)).1 (y.rh.2.2.2.2 b.toNat (by omega))
      have head : ∀ (v : Int32) (H : AH), IVd D T H → zw (if zi b = 0 then j_X10_good_42 (zi a) (zi b) (sI H 240 0 0) else bd (ldI (sI H 240 0 0) 244 (zi b)) fun x6 => if x6 = (-1) then j_X10_good_47 (zi a) (zi b) 0 (sI H 240 0 0) else j_X10_good_42 (zi a) (zi b) (sI H 240 0 0)) (fun r => r = (v, sI H 240 0 0) ∨ r = (0, sI (sI H 240 0 0) 240 0 2)) → zw (s_X10_good (zi a) (zi b) H) (fun r => r = (v, sI H 240 0 0) ∨ r = (0, sI (sI H 240 0 0) 240 0 2)) := by
        intro v H y hh
        unfold s_X10_good
        refine zw_bd1 (r_isK y.z.rh hK rfl ha1 ha2 g0_z) ?_
        rw [if_pos q1]
        refine zw_f one_ne ?_
        refine zw_bd1 (r_within rfl ((show (0 : Int32) = zi 0 from zi_lit 0)) ((show (4 : Int32) = zi 4 from zi_lit 4)) hb1 hb2 (by decide) (by decide) (by decide) (by decide)) ?_
        refine zw_bd1 (r_right rfl g0_z (by decide)) ?_
        rw [if_pos (show decide (0 ≤ b ∧ b ≤ 4) = true from decide_eq_true (by omega))]
        exact zw_f one_ne hh
      have gives : ∀ H, IVd D T H → zw (j_X10_good_42 (zi a) (zi b) (sI H 240 0 0)) (fun r => r = (zi (gd (dW D a.toNat) D.P b.toNat), sI H 240 0 0)) := by
        intro H y
        unfold j_X10_good_42 j_X10_good_47
        refine zw_bd1 (r_right (b := true) rfl g0_z (by decide)) ?_
        rw [if_pos rfl]
        refine zw_f one_ne ?_
        exact zw_bd1 (rg _ y.z) (zw_some rfl)
      by_cases q0 : b = 0
      · subst q0
        refine ag_v (v := (zi (gd (dW D a.toNat) D.P 0)).toInt64) x ?_ ?_
        · unfold s_L_good s_X9_good
          rw [if_pos rfl, c_needK x rfl ha1 ha2, if_pos q1, bd_v, sm_l, c_needT rfl hb1 hb2, if_pos q2, bd_v, sm_l, if_pos ((show (0 : Int32) = zi 0 from zi_lit 0)).symm, c_planOf x.cb ea (t := 0) (a1 := 0) rfl (by omega) (by decide), bd_v, bd_v, if_pos (PL.of (by omega : a.toNat < 6) (by decide : 0 < 5)).l0, dW_val x (by omega) (by decide), bd_v, zl_i, bd_v, sm_l]
          exact hl_v rfl
        · have y := x.o (zi (gd (dW D a.toNat) D.P 0)).toInt64
          refine zw_e (z := (zi (gd (dW D a.toNat) D.P 0), _)) ?_ ⟨rfl, g0_z, frz _⟩
          refine zw_eq (zw_o (z := (zi (gd (dW D a.toNat) D.P 0), sI (sL h 277 0 (zi (gd (dW D a.toNat) D.P 0)).toInt64) 240 0 0)) ?_) rfl
          unfold s_X10_good
          refine zw_bd1 (r_isK y.z.rh hK rfl ha1 ha2 g0_z) ?_
          rw [if_pos q1]
          refine zw_f one_ne ?_
          refine zw_bd1 (r_within rfl ((show (0 : Int32) = zi 0 from zi_lit 0)) ((show (4 : Int32) = zi 4 from zi_lit 4)) hb1 hb2 (by decide) (by decide) (by decide) (by decide)) ?_
          refine zw_bd1 (r_right rfl g0_z (by decide)) ?_
          rw [if_pos (show decide ((0 : Int) ≤ 0 ∧ (0 : Int) ≤ 4) = true from rfl)]
          exact zw_f one_ne (zw_t rfl (gives _ y))
      · by_cases qp : D.P b.toNat = -1
        · refine ag_t (k := 2) (b := 0) x ?_ (by decide) ?_
          · unfold s_L_good s_X9_good
            rw [if_pos rfl, c_needK x rfl ha1 ha2, if_pos q1, bd_v, sm_l, c_needT rfl hb1 hb2, if_pos q2, bd_v, sm_l, if_neg (zi_nk ((show (0 : Int32) = zi 0 from zi_lit 0)) q0 hb1 hb2), x.t8, bd_v, if_pos x.tl.l0, c_price x.tl x.ch eb (by omega), bd_v, qp, if_pos em1.symm]
            rfl
          · refine zw_o ?_
            unfold s_X10_good
            refine zw_bd1 (r_isK x.z.rh hK rfl ha1 ha2 g0_z) ?_
            rw [if_pos q1]
            refine zw_f one_ne ?_
            refine zw_bd1 (r_within rfl ((show (0 : Int32) = zi 0 from zi_lit 0)) ((show (4 : Int32) = zi 4 from zi_lit 4)) hb1 hb2 (by decide) (by decide) (by decide) (by decide)) ?_
            refine zw_bd1 (r_right rfl g0_z (by decide)) ?_
            rw [if_pos (show decide (0 ≤ b ∧ b ≤ 4) = true from decide_eq_true (by omega))]
            refine zw_f one_ne ?_
            refine zw_f (zi_nk ((show (0 : Int32) = zi 0 from zi_lit 0)) q0 hb1 hb2) ?_
            refine zw_bd1 (r_P x.z.rh eb (by omega)) ?_
            refine zw_t (by rw [qp]; rfl) ?_
            unfold j_X10_good_47
            refine zw_bd1 (r_right (b := false) rfl g0_z (by decide)) ?_
            rw [if_neg ff]
            exact zw_t rfl (zw_some rfl)
        · have eg : (zl (dW D a.toNat b.toNat) - (1000 * (zi (D.P b.toNat)).toInt64)).toInt32 = zi (gd (dW D a.toNat) D.P b.toNat) := by
            rw [zi_l (by omega) (by omega)]
            simp only [zi_lit, zi_neg, zi_add, zi_sub, zi_mul, zl_lit, zl_neg, zl_add, zl_sub, zl_mul, zl_i]
            unfold gd
            rw [if_neg (by omega)]
          refine ag_v (v := (zi (gd (dW D a.toNat) D.P b.toNat)).toInt64) x ?_ ?_
          · unfold s_L_good s_X9_good
            rw [if_pos rfl, c_needK x rfl ha1 ha2, if_pos q1, bd_v, sm_l, c_needT rfl hb1 hb2, if_pos q2, bd_v, sm_l, if_neg (zi_nk ((show (0 : Int32) = zi 0 from zi_lit 0)) q0 hb1 hb2), x.t8, bd_v, if_pos x.tl.l0, c_price x.tl x.ch eb (by omega), bd_v, if_neg (zi_nk em1 qp (by omega) (by omega)), c_planOf x.cb ea eb (by omega) (by omega), bd_v, bd_v, if_pos (PL.of (by omega : a.toNat < 6) (by omega : b.toNat < 5)).l0, dW_val x (by omega) (by omega), bd_v, eg, bd_v, sm_l]
            exact hl_v rfl
          · have y := x.o (zi (gd (dW D a.toNat) D.P b.toNat)).toInt64
            refine zw_e (z := (zi (gd (dW D a.toNat) D.P b.toNat), _)) ?_ ⟨rfl, g0_z, frz _⟩
            unfold s_X10_good
            refine zw_bd1 (r_isK y.z.rh hK rfl ha1 ha2 g0_z) ?_
            rw [if_pos q1]
            refine zw_f one_ne ?_
            refine zw_bd1 (r_within rfl ((show (0 : Int32) = zi 0 from zi_lit 0)) ((show (4 : Int32) = zi 4 from zi_lit 4)) hb1 hb2 (by decide) (by decide) (by decide) (by decide)) ?_
            refine zw_bd1 (r_right rfl g0_z (by decide)) ?_
            rw [if_pos (show decide (0 ≤ b ∧ b ≤ 4) = true from decide_eq_true (by omega))]
            refine zw_f one_ne ?_
            refine zw_f (zi_nk ((show (0 : Int32) = zi 0 from zi_lit 0)) q0 hb1 hb2) ?_
            refine zw_bd1 (r_P y.z.rh eb (by omega)) ?_
            refine zw_f (zi_nk em1 qp (by omega) (by omega)) ?_
            exact gives _ y
    · refine ag_t (k := 1) (b := 0) x ?_ (by decide) ?_
      · unfold s_L_good s_X9_good
        rw [if_pos rfl, c_needK x rfl ha1 ha2, if_pos q1, bd_v, sm_l, c_needT rfl hb1 hb2, if_neg q2]
        rfl
      · refine zw_o ?_
        unfold s_X10_good
        refine zw_bd1 (r_isK x.z.rh hK rfl ha1 ha2 g0_z) ?_
        rw [if_pos q1]
        refine zw_f one_ne ?_
        refine zw_bd1 (r_within rfl ((show (0 : Int32) = zi 0 from zi_lit 0)) ((show (4 : Int32) = zi 4 from zi_lit 4)) hb1 hb2 (by decide) (by decide) (by decide) (by decide)) ?_
        refine zw_bd1 (r_right rfl g0_z (by decide)) ?_
        rw [if_neg (show ¬ decide (0 ≤ b ∧ b ≤ 4) = true from fun z => q2 (by have := of_decide_eq_true z; omega))]
        exact zw_t rfl (zw_some rfl)
  · refine ag_t (k := 1) (b := 0) x ?_ (by decide) ?_
    · unfold s_L_good s_X9_good
      rw [if_pos rfl, c_needK x rfl ha1 ha2, if_neg q1]
      rfl
    · refine zw_o ?_
      unfold s_X10_good
      refine zw_bd1 (r_isK x.z.rh hK rfl ha1 ha2 g0_z) ?_
      rw [if_neg q1]
      exact zw_t rfl (zw_some rfl)
theorem IVd.buys (x : IVd D T h) {k : Nat} {a : Int32} (ha : a = zi k) (hk : k < D.K) : s_X10_buysOf a h = some (zi (dB D k)) := r_buysG x.wf x.rh x.r.g (dG_ok x.wf) ha hk
theorem g_buys (x : IVd D T h) (a0 : Int32) : ag Int32.toInt64 (s_L_buys (some 0) a0 (some 277) h) (s_X10_buys a0) := by
  obtain ⟨a, rfl, ha1, ha2⟩ := zi_of a0
  have hK := x.wf.K6
  by_cases q1 : 0 ≤ a ∧ a < D.K
  · have ea : zi a = zi (a.toNat : Nat) := congrArg zi (by omega)
    refine ag_v (v := (zi (dB D a.toNat)).toInt64) x ?_ ?_
    · unfold s_L_buys s_X9_buys
      rw [if_pos rfl, c_needK x rfl ha1 ha2, if_pos q1, bd_v, sm_l, at_ok a.toNat (n := 6) rfl ea (by omega), bd_v, x.c.2.2 _ (by omega), bd_v, sm_l]
      exact hl_v rfl
    · have y := (x.o (zi (dB D a.toNat)).toInt64).z
      refine zw_e (z := (zi (dB D a.toNat), _)) ?_ ⟨rfl, g0_z, frz _⟩
      unfold s_X10_buys
      refine zw_bd1 (r_isK y.rh hK rfl ha1 ha2 g0_z) ?_
      rw [if_pos q1]
      refine zw_f one_ne ?_
      exact zw_bd1 (y.buys ea (by omega)) (zw_some rfl)
  · refine ag_t (k := 1) (b := 0) x ?_ (by decide) ?_
    · unfold s_L_buys s_X9_buys
      rw [if_pos rfl, c_needK x rfl ha1 ha2, if_neg q1]
      rfl
    · refine zw_o ?_
      unfold s_X10_buys
      refine zw_bd1 (r_isK x.z.rh hK rfl ha1 ha2 g0_z) ?_
      rw [if_neg q1]
      exact zw_t rfl (zw_some rfl)
theorem g_coming (x : IVd D T h) (a0 a1 : Int32) : ag Int32.toInt64 (s_L_coming (some 0) a0 a1 (some 277) h) (s_X10_coming a0 a1) := by
  obtain ⟨a, rfl, ha1, ha2⟩ := zi_of a0
  obtain ⟨b, rfl, hb1, hb2⟩ := zi_of a1
  have hK := x.wf.K6
  have hN := x.wf.N16
  by_cases q1 : 0 ≤ a ∧ a < D.K
  · by_cases q2 : 0 ≤ b ∧ b < D.N
    · have ea : zi a = zi (a.toNat : Nat) := congrArg zi (by omega)
      have eb : zi b = zi (b.toNat : Nat) := congrArg zi (by omega)
      refine ag_v (v := (zi (cf D a.toNat (dB D a.toNat) b.toNat)).toInt64) x ?_ ?_
      · unfold s_L_coming s_X9_coming
        rw [if_pos rfl, c_needK x rfl ha1 ha2, if_pos q1, bd_v, sm_l, c_needE x rfl hb1 hb2, if_pos q2, bd_v, sm_l, c_boughtBy x.wf x.c ea (by omega), bd_v, bd_v, if_pos (PL.of (by omega : a.toNat < 6) (dB_lt D _)).l0, c_coming x.wf x.c eb (by omega) (dB_lt D _) (by omega), bd_v, bd_v, sm_l]
        exact hl_v rfl
      · have y := (x.o (zi (cf D a.toNat (dB D a.toNat) b.toNat)).toInt64).z
        refine zw_e (z := (zi (cf D a.toNat (dB D a.toNat) b.toNat), _)) ?_ ⟨rfl, g0_z, frz _⟩
        unfold s_X10_coming
        refine zw_bd1 (r_isK y.rh hK rfl ha1 ha2 g0_z) ?_
        rw [if_pos q1]
        refine zw_f one_ne ?_
        refine zw_bd1 (r_isE y.rh hN rfl hb1 hb2 g0_z) ?_
        rw [if_pos q2]
        refine zw_f one_ne ?_
        exact zw_bd1 (r_comingG y.wf y.rh y.r.g (dG_ok y.wf) ea eb (by omega) (by omega)) (zw_some (Prod.ext (zl_i _) rfl))
    · refine ag_t (k := 1) (b := 0) x ?_ (by decide) ?_
      · unfold s_L_coming s_X9_coming
        rw [if_pos rfl, c_needK x rfl ha1 ha2, if_pos q1, bd_v, sm_l, c_needE x rfl hb1 hb2, if_neg q2]
        rfl
      · refine zw_o ?_
        unfold s_X10_coming
        refine zw_bd1 (r_isK x.z.rh hK rfl ha1 ha2 g0_z) ?_
        rw [if_pos q1]
        refine zw_f one_ne ?_
        refine zw_bd1 (r_isE x.z.rh hN rfl hb1 hb2 g0_z) ?_
        rw [if_neg q2]
        exact zw_t rfl (zw_some rfl)
  · refine ag_t (k := 1) (b := 0) x ?_ (by decide) ?_
    · unfold s_L_coming s_X9_coming
      rw [if_pos rfl, c_needK x rfl ha1 ha2, if_neg q1]
      rfl
    · refine zw_o ?_
      unfold s_X10_coming
      refine zw_bd1 (r_isK x.z.rh hK rfl ha1 ha2 g0_z) ?_
      rw [if_neg q1]
      exact zw_t rfl (zw_some rfl)
end
