/-! 64.simple: calls that only look: both answer alike -/
section
variable {D : HD} {T : Nat} {h : AH}
theorem frz (v : Int64) : Fr (fun a k => SC a k ∧ a ≠ 277) (sL h 277 0 v) (sI (sL h 277 0 v) 240 0 0) := (Fr.refl _ _).sI (by unfold SC; omega)
theorem zi_ne {a b : Int} (h : a ≠ b) (a1 : -2147483648 ≤ a) (a2 : a < 2147483648) (b1 : -2147483648 ≤ b) (b2 : b < 2147483648) : ¬ zi a = zi b := by rw [zi_eq a1 a2 b1 b2]; exact h
theorem zi_nk {k : Int32} {a b : Int} (hk : k = zi b) (h : a ≠ b) (a1 : -2147483648 ≤ a) (a2 : a < 2147483648) (b1 : -2147483648 ≤ b := by decide) (b2 : b < 2147483648 := by decide) : ¬ zi a = k := by rw [hk]; exact zi_ne h a1 a2 b1 b2
theorem one_ne : ¬ (1 : Int32) = 0 := by decide
theorem two_ne : ¬ (2 : Int32) = 0 := by decide
/-- the reference answers (v) or tells what it throws -/
theorem zw_e {α : Type} {o : Option α} {z : α} {Q : α → Prop} (hz : zw o (fun r => r = z)) (h : Q z) : zw o Q := zw_mono hz (fun r hr => hr ▸ h)
theorem zw_o {α : Type} {o : Option α} {z : α} (hz : zw o (fun r => r = z)) : o = some z := by
  obtain ⟨w, e, rfl⟩ := hz
  exact e
theorem g_kind (x : IVd D T h) (a0 a1 : Int32) : ag Int32.toInt64 (s_L_kind (some 0) a0 a1 (some 277) h) (s_X10_kind a0 a1) := by
  obtain ⟨a, rfl, ha1, ha2⟩ := zi_of a0
  obtain ⟨b, rfl, hb1, hb2⟩ := zi_of a1
  have hK := x.wf.K6
  by_cases q1 : 0 ≤ a ∧ a < D.K
  · by_cases q2 : 0 ≤ b ∧ b ≤ 10
    · have ea : zi a = zi (a.toNat : Nat) := congrArg zi (by omega)
      have eb : zi b = zi (b.toNat : Nat) := congrArg zi (by omega)
      refine ag_v (v := (zi (D.Q a.toNat b.toNat)).toInt64) x ?_ ?_
      · unfold s_L_kind s_X9_kind
        rw [if_pos rfl, c_needK x rfl ha1 ha2, if_pos q1, bd_v, sm_l, c_needW rfl ((show (10 : Int32) = zi 10 from zi_lit 10)) hb1 hb2 (by decide) (by decide), if_pos q2, bd_v, sm_l, x.t8, bd_v, if_pos x.tl.l0, c_ofQ x.wf x.tl x.ch ea eb (by omega) (by omega), bd_v, bd_v, sm_l]
        exact hl_v rfl
      · have y := (x.o (zi (D.Q a.toNat b.toNat)).toInt64).z
        refine zw_e (z := (zi (D.Q a.toNat b.toNat), _)) ?_ ⟨rfl, g0_z, frz _⟩
        unfold s_X10_kind
        refine zw_bd1 (r_isK y.rh hK rfl ha1 ha2 g0_z) ?_
        rw [if_pos q1]
        refine zw_f one_ne ?_
        refine zw_bd1 (r_within rfl ((show (0 : Int32) = zi 0 from zi_lit 0)) ((show (10 : Int32) = zi 10 from zi_lit 10)) hb1 hb2 (by decide) (by decide) (by decide) (by decide)) ?_
        refine zw_bd1 (r_right rfl g0_z (by decide)) ?_
        rw [if_pos (decide_eq_true q2)]
        refine zw_f one_ne ?_
        exact zw_bd1 (r_of y.wf y.rh ea eb (by omega) (by omega)) (zw_some rfl)
    · refine ag_t (k := 1) (b := 0) x ?_ (by decide) ?_
      · unfold s_L_kind s_X9_kind
        rw [if_pos rfl, c_needK x rfl ha1 ha2, if_pos q1, bd_v, sm_l, c_needW rfl ((show (10 : Int32) = zi 10 from zi_lit 10)) hb1 hb2 (by decide) (by decide), if_neg q2]
        rfl
      · refine zw_o ?_
        have y := x.z
        unfold s_X10_kind
        refine zw_bd1 (r_isK y.rh hK rfl ha1 ha2 g0_z) ?_
        rw [if_pos q1]
        refine zw_f one_ne ?_
        refine zw_bd1 (r_within rfl ((show (0 : Int32) = zi 0 from zi_lit 0)) ((show (10 : Int32) = zi 10 from zi_lit 10)) hb1 hb2 (by decide) (by decide) (by decide) (by decide)) ?_
        refine zw_bd1 (r_right rfl g0_z (by decide)) ?_
        rw [if_neg (fun z => q2 (of_decide_eq_true z))]
        exact zw_t rfl (zw_some rfl)
  · refine ag_t (k := 1) (b := 0) x ?_ (by decide) ?_
    · unfold s_L_kind s_X9_kind
      rw [if_pos rfl, c_needK x rfl ha1 ha2, if_neg q1]
      rfl
    · refine zw_o ?_
      unfold s_X10_kind
      refine zw_bd1 (r_isK x.z.rh hK rfl ha1 ha2 g0_z) ?_
      rw [if_neg q1]
      exact zw_t rfl (zw_some rfl)
theorem g_evening (x : IVd D T h) (a0 a1 : Int32) : ag Int32.toInt64 (s_L_evening (some 0) a0 a1 (some 277) h) (s_X10_evening a0 a1) := by
  obtain ⟨a, rfl, ha1, ha2⟩ := zi_of a0
  obtain ⟨b, rfl, hb1, hb2⟩ := zi_of a1
  have hN := x.wf.N16
  by_cases q1 : 0 ≤ a ∧ a < D.N
  · by_cases q2 : 0 ≤ b ∧ b ≤ 3
    · have ea : zi a = zi (a.toNat : Nat) := congrArg zi (by omega)
      have eb : zi b = zi (b.toNat : Nat) := congrArg zi (by omega)
      refine ag_v (v := (zi (D.E a.toNat b.toNat)).toInt64) x ?_ ?_
      · unfold s_L_evening s_X9_evening
        rw [if_pos rfl, c_needE x rfl ha1 ha2, if_pos q1, bd_v, sm_l, c_needW rfl ((show (3 : Int32) = zi 3 from zi_lit 3)) hb1 hb2 (by decide) (by decide), if_pos q2, bd_v, sm_l]
        by_cases q3 : b = 3
        · subst q3
          rw [if_pos ((show (3 : Int32) = zi 3 from zi_lit 3)).symm, x.t8, bd_v, if_pos x.tl.l0, c_set x.wf x.tl x.ch ea (by omega), bd_v, bd_v, sm_l]
          exact hl_v rfl
        · rw [if_neg (zi_nk ((show (3 : Int32) = zi 3 from zi_lit 3)) q3 hb1 hb2), x.t8, bd_v, if_pos x.tl.l0, c_ofE x.wf x.tl x.ch ea eb (by omega) (by omega), bd_v, bd_v, sm_l]
          exact hl_v rfl
      · have y := (x.o (zi (D.E a.toNat b.toNat)).toInt64).z
        refine zw_e (z := (zi (D.E a.toNat b.toNat), _)) ?_ ⟨rfl, g0_z, frz _⟩
        unfold s_X10_evening
        refine zw_bd1 (r_isE y.rh hN rfl ha1 ha2 g0_z) ?_
        rw [if_pos q1]
        refine zw_f one_ne ?_
        refine zw_bd1 (r_within rfl ((show (0 : Int32) = zi 0 from zi_lit 0)) ((show (3 : Int32) = zi 3 from zi_lit 3)) hb1 hb2 (by decide) (by decide) (by decide) (by decide)) ?_
        refine zw_bd1 (r_right rfl g0_z (by decide)) ?_
        rw [if_pos (decide_eq_true q2)]
        refine zw_f one_ne ?_
        exact zw_bd1 (r_E y.wf y.rh a.toNat b.toNat (by rw [ea, eb]; exact (by first | (simp only [zi_lit, zi_neg, zi_add, zi_sub, zi_mul, zl_lit, zl_neg, zl_add, zl_sub, zl_mul, zl_i]; exact congrArg zi (by omega)) | (simp only [zi_lit, zi_neg, zi_add, zi_sub, zi_mul, zl_lit, zl_neg, zl_add, zl_sub, zl_mul, zl_i]; done) | exact congrArg zi (by omega))) (by omega) (by omega)) (zw_some rfl)
    · refine ag_t (k := 1) (b := 0) x ?_ (by decide) ?_
      · unfold s_L_evening s_X9_evening
        rw [if_pos rfl, c_needE x rfl ha1 ha2, if_pos q1, bd_v, sm_l, c_needW rfl ((show (3 : Int32) = zi 3 from zi_lit 3)) hb1 hb2 (by decide) (by decide), if_neg q2]
        rfl
      · refine zw_o ?_
        unfold s_X10_evening
        refine zw_bd1 (r_isE x.z.rh hN rfl ha1 ha2 g0_z) ?_
        rw [if_pos q1]
        refine zw_f one_ne ?_
        refine zw_bd1 (r_within rfl ((show (0 : Int32) = zi 0 from zi_lit 0)) ((show (3 : Int32) = zi 3 from zi_lit 3)) hb1 hb2 (by decide) (by decide) (by decide) (by decide)) ?_
        refine zw_bd1 (r_right rfl g0_z (by decide)) ?_
        rw [if_neg (fun z => q2 (of_decide_eq_true z))]
        exact zw_t rfl (zw_some rfl)
  · refine ag_t (k := 1) (b := 0) x ?_ (by decide) ?_
    · unfold s_L_evening s_X9_evening
      rw [if_pos rfl, c_needE x rfl ha1 ha2, if_neg q1]
      rfl
    · refine zw_o ?_
      unfold s_X10_evening
      refine zw_bd1 (r_isE x.z.rh hN rfl ha1 ha2 g0_z) ?_
      rw [if_neg q1]
      exact zw_t rfl (zw_some rfl)
theorem g_price (x : IVd D T h) (a0 : Int32) : ag Int32.toInt64 (s_L_price (some 0) a0 (some 277) h) (s_X10_price a0) := by
  obtain ⟨a, rfl, ha1, ha2⟩ := zi_of a0
  by_cases q1 : 0 ≤ a ∧ a < 5
  · have ea : zi a = zi (a.toNat : Nat) := congrArg zi (by omega)
    refine ag_v (v := (zi (D.P a.toNat)).toInt64) x ?_ ?_
    · unfold s_L_price s_X9_price
      rw [if_pos rfl, c_needT rfl ha1 ha2, if_pos q1, bd_v, sm_l, x.t8, bd_v, if_pos x.tl.l0, c_price x.tl x.ch ea (by omega), bd_v, bd_v, sm_l]
      exact hl_v rfl
    · have y := (x.o (zi (D.P a.toNat)).toInt64).z
      refine zw_e (z := (zi (D.P a.toNat), _)) ?_ ⟨rfl, g0_z, frz _⟩
      unfold s_X10_price
      refine zw_bd1 (r_within rfl ((show (0 : Int32) = zi 0 from zi_lit 0)) ((show (4 : Int32) = zi 4 from zi_lit 4)) ha1 ha2 (by decide) (by decide) (by decide) (by decide)) ?_
      refine zw_bd1 (r_right rfl g0_z (by decide)) ?_
      rw [if_pos (show decide (0 ≤ a ∧ a ≤ 4) = true from decide_eq_true (by omega))]
      refine zw_f one_ne ?_
      exact zw_bd1 (r_P y.rh ea (by omega)) (zw_some rfl)
  · refine ag_t (k := 1) (b := 0) x ?_ (by decide) ?_
    · unfold s_L_price s_X9_price
      rw [if_pos rfl, c_needT rfl ha1 ha2, if_neg q1]
      rfl
    · refine zw_o ?_
      unfold s_X10_price
      refine zw_bd1 (r_within rfl ((show (0 : Int32) = zi 0 from zi_lit 0)) ((show (4 : Int32) = zi 4 from zi_lit 4)) ha1 ha2 (by decide) (by decide) (by decide) (by decide)) ?_
      refine zw_bd1 (r_right rfl g0_z (by decide)) ?_
      rw [if_neg (show ¬ decide (0 ≤ a ∧ a ≤ 4) = true from fun z => q1 (by have := of_decide_eq_true z; omega))]
      exact zw_t rfl (zw_some rfl)
theorem g_chance (x : IVd D T h) (a0 a1 a2 : Int32) (h2 : a2 = 0 ∨ a2 = 1) : ag Int32.toInt64 (s_L_chance (some 0) a0 a1 a2 (some 277) h) (s_X10_chance a0 a1 a2) := by
  obtain ⟨a, rfl, ha1, ha2⟩ := zi_of a0
  obtain ⟨b, rfl, hb1, hb2⟩ := zi_of a1
  have hK := x.wf.K6
  have hN := x.wf.N16
  obtain ⟨th, h12⟩ : ∃ th : Nat, (th = 1 ∧ a2 = 0) ∨ (th = 2 ∧ a2 = 1) := by
    rcases h2 with q | q
    · exact ⟨1, Or.inl ⟨rfl, q⟩⟩
    · exact ⟨2, Or.inr ⟨rfl, q⟩⟩
  by_cases q1 : 0 ≤ a ∧ a < D.K
  · by_cases q2 : 0 ≤ b ∧ b < D.N
    · have ea : zi a = zi (a.toNat : Nat) := congrArg zi (by omega)
      have eb : zi b = zi (b.toNat : Nat) := congrArg zi (by omega)
      refine ag_v (v := (zi (dC D a.toNat b.toNat th)).toInt64) x ?_ ?_
      · unfold s_L_chance s_X9_chance
        rw [if_pos rfl, c_needK x rfl ha1 ha2, if_pos q1, bd_v, sm_l, c_needE x rfl hb1 hb2, if_pos q2, bd_v, sm_l, x.t8, bd_v, if_pos x.tl.l0, c_likely x.wf x.tl x.ch ea eb (by omega) (by omega) h12, bd_v, bd_v, sm_l]
        exact hl_v rfl
      · have y := (x.o (zi (dC D a.toNat b.toNat th)).toInt64).z
        refine zw_e (z := (zi (dC D a.toNat b.toNat th), _)) ?_ ⟨rfl, g0_z, frz _⟩
        unfold s_X10_chance
        refine zw_bd1 (r_isK y.rh hK rfl ha1 ha2 g0_z) ?_
        rw [if_pos q1]
        refine zw_f one_ne ?_
        refine zw_bd1 (r_isE y.rh hN rfl hb1 hb2 g0_z) ?_
        rw [if_pos q2]
        refine zw_f one_ne ?_
        exact zw_bd1 (r_chance y.wf y.rh ea eb (by omega) (by omega) h12) (zw_some (Prod.ext (zl_i _) rfl))
    · refine ag_t (k := 1) (b := 0) x ?_ (by decide) ?_
      · unfold s_L_chance s_X9_chance
        rw [if_pos rfl, c_needK x rfl ha1 ha2, if_pos q1, bd_v, sm_l, c_needE x rfl hb1 hb2, if_neg q2]
        rfl
      · refine zw_o ?_
        unfold s_X10_chance
        refine zw_bd1 (r_isK x.z.rh hK rfl ha1 ha2 g0_z) ?_
        rw [if_pos q1]
        refine zw_f one_ne ?_
        refine zw_bd1 (r_isE x.z.rh hN rfl hb1 hb2 g0_z) ?_
        rw [if_neg q2]
        exact zw_t rfl (zw_some rfl)
  · refine ag_t (k := 1) (b := 0) x ?_ (by decide) ?_
    · unfold s_L_chance s_X9_chance
      rw [if_pos rfl, c_needK x rfl ha1 ha2, if_neg q1]
      rfl
    · refine zw_o ?_
      unfold s_X10_chance
      refine zw_bd1 (r_isK x.z.rh hK rfl ha1 ha2 g0_z) ?_
      rw [if_neg q1]
      exact zw_t rfl (zw_some rfl)
end
