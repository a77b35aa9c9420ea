/-! 65.count: count, fault, earns -/
def tb (P : Nat → Int) : Nat → Int32
  | 0 => 1
  | i + 1 => if P (i + 1) = -1 then tb P i else tb P i ||| (1 <<< (zi ((i + 1 : Nat) : Int) &&& 31))
theorem tb_s (P : Nat → Int) (i : Nat) : tb P (i + 1) = if P (i + 1) = -1 then tb P i else tb P i ||| (1 <<< (zi ((i + 1 : Nat) : Int) &&& 31)) := rfl
section
variable {D : HD} {T : Nat} {h : AH}
theorem c_people (hD : WFD D) (hT : TL T) (x : CH D T h) : s_X8_people T h = some (zi (zs (fun k => D.Q k 0) D.K)) := by
  have hK := hD.K6
  unfold s_X8_people
  have L : lpP (l_X8_people_4 T h) FU (0, 0) = some (zi (zs (fun k => D.Q k 0) D.K)) := by
    refine lpP_for D.K (fun i => (zi (zs (fun k => D.Q k 0) i), zi i)) (by omega) rfl ?_ ?_
    · intro i hi
      unfold l_X8_people_4
      dsimp only
      rw [x.1.2.2.2.1, if_neg (by rw [zi_le (by omega) (by omega) (by omega) (by omega)]; omega), c_many hD hT x rfl hi, bd_v, zi_add, show zi (i : Int) + 1 = zi ((i + 1 : Nat) : Int) from (by first | (simp only [zi_lit, zi_neg, zi_add, zi_sub, zi_mul, zl_lit, zl_neg, zl_add, zl_sub, zl_mul, zl_i]; exact congrArg zi (by omega)) | (simp only [zi_lit, zi_neg, zi_add, zi_sub, zi_mul, zl_lit, zl_neg, zl_add, zl_sub, zl_mul, zl_i]; done) | exact congrArg zi (by omega))]
      rfl
    · unfold l_X8_people_4
      dsimp only
      rw [x.1.2.2.2.1, if_pos (by rw [zi_le (by omega) (by omega) (by omega) (by omega)]; omega)]
  rw [if_pos hT.l0, L, bd_v]
theorem r_people (hD : WFD D) (x : RH D h) : s_X10_people h = some (zi (zs (fun k => D.Q k 0) D.K)) := by
  have hK := hD.K6
  unfold s_X10_people
  have L : lpP (l_X10_people_4 h) FU (0, 0) = some (zi (zs (fun k => D.Q k 0) D.K)) := by
    refine lpP_for D.K (fun i => (zi (zs (fun k => D.Q k 0) i), zi i)) (by omega) rfl ?_ ?_
    · intro i hi
      unfold l_X10_people_4
      dsimp only
      rw [x.1.2.2.2.1, if_neg (by rw [zi_le (by omega) (by omega) (by omega) (by omega)]; omega), r_of hD x rfl (w := 0) ((show (0 : Int32) = zi 0 from zi_lit 0)) hi (by decide), bd_v, zi_add, show zi (i : Int) + 1 = zi ((i + 1 : Nat) : Int) from (by first | (simp only [zi_lit, zi_neg, zi_add, zi_sub, zi_mul, zl_lit, zl_neg, zl_add, zl_sub, zl_mul, zl_i]; exact congrArg zi (by omega)) | (simp only [zi_lit, zi_neg, zi_add, zi_sub, zi_mul, zl_lit, zl_neg, zl_add, zl_sub, zl_mul, zl_i]; done) | exact congrArg zi (by omega))]
      rfl
    · unfold l_X10_people_4
      dsimp only
      rw [x.1.2.2.2.1, if_pos (by rw [zi_le (by omega) (by omega) (by omega) (by omega)]; omega)]
  rw [L, bd_v]
theorem c_bits (hD : WFD D) (hT : TL T) (x : CH D T h) : s_X8_ticketBits T h = some (tb D.P 4) := by
  have em1 : (-1 : Int32) = zi (-1) := rfl
  unfold s_X8_ticketBits
  have L : lpP (l_X8_ticketBits_4 T h) FU (1, 1) = some (tb D.P 4) := by
    refine lpP_for 4 (fun i => (tb D.P i, zi ((i + 1 : Nat) : Int))) (by decide) rfl ?_ ?_
    · intro i hi
      have bp := hD.p.2.1 (i + 1) (by omega)
      unfold l_X8_ticketBits_4 j_X8_ticketBits_27_4
      dsimp only
      rw [if_neg (by rw [(show (5 : Int32) = zi 5 from zi_lit 5), zi_le (by omega) (by omega) (by omega) (by omega)]; show ¬ (5 : Int) ≤ ((i + 1 : Nat) : Int); omega), c_price hT x rfl (by omega), bd_v, show zi ((i + 1 : Nat) : Int) + 1 = zi ((i + 1 + 1 : Nat) : Int) from (by first | (simp only [zi_lit, zi_neg, zi_add, zi_sub, zi_mul, zl_lit, zl_neg, zl_add, zl_sub, zl_mul, zl_i]; exact congrArg zi (by omega)) | (simp only [zi_lit, zi_neg, zi_add, zi_sub, zi_mul, zl_lit, zl_neg, zl_add, zl_sub, zl_mul, zl_i]; done) | exact congrArg zi (by omega)), tb_s]
      by_cases q : D.P (i + 1) = -1
      · rw [if_pos (by rw [q]; rfl), if_pos q]
      · rw [if_neg (zi_nk em1 q (by omega) (by omega)), if_neg q]
    · unfold l_X8_ticketBits_4
      rfl
  rw [if_pos hT.l0, L, bd_v]
theorem r_bits (hD : WFD D) (x : RH D h) (a0 : Int32) : lpH (l_X10_count_26 a0) FU (1, 1) h = some (tb D.P 4, h) := by
  have em1 : (-1 : Int32) = zi (-1) := rfl
  refine lpH_for 4 (fun i => (tb D.P i, zi ((i + 1 : Nat) : Int))) (by decide) rfl ?_ ?_
  · intro i hi
    have bp := hD.p.2.1 (i + 1) (by omega)
    unfold l_X10_count_26 j_X10_count_49_26
    dsimp only
    rw [if_neg (by rw [(show (5 : Int32) = zi 5 from zi_lit 5), zi_le (by omega) (by omega) (by omega) (by omega)]; show ¬ (5 : Int) ≤ ((i + 1 : Nat) : Int); omega), r_P x rfl (by omega), bd_v, show zi ((i + 1 : Nat) : Int) + 1 = zi ((i + 1 + 1 : Nat) : Int) from (by first | (simp only [zi_lit, zi_neg, zi_add, zi_sub, zi_mul, zl_lit, zl_neg, zl_add, zl_sub, zl_mul, zl_i]; exact congrArg zi (by omega)) | (simp only [zi_lit, zi_neg, zi_add, zi_sub, zi_mul, zl_lit, zl_neg, zl_add, zl_sub, zl_mul, zl_i]; done) | exact congrArg zi (by omega)), tb_s]
    by_cases q : D.P (i + 1) = -1
    · rw [if_pos (by rw [q]; rfl), if_pos q, Int32.or_zero]
    · rw [if_neg (zi_nk em1 q (by omega) (by omega)), if_neg q]
  · unfold l_X10_count_26
    rfl
theorem g_count (x : IVd D T h) (a0 : Int32) : ag Int32.toInt64 (s_L_count (some 0) a0 (some 277) h) (s_X10_count a0) := by
  obtain ⟨a, rfl, ha1, ha2⟩ := zi_of a0
  obtain ⟨tl, t1, t2, t3, t4⟩ := x.2.2.2.2.2.1
  have xs := x.2.2.2.2.2.2.1
  by_cases q1 : 0 ≤ a ∧ a ≤ 9
  · have e7 : ∀ w : Int64, gI (sI (sL h 277 0 w) 240 0 0) 240 12 = gI h 2 1 := fun w => by rw [gI_sI, if_neg (by omega), gI_sL, t3, t2]
    have e8 : ∀ w : Int64, gI (sI (sL h 277 0 w) 240 0 0) 246 0 = gI h 0 11 := fun w => by rw [gI_sI, if_neg (by omega), gI_sL, xs.2.1]
    have e9 : ∀ w : Int64, gI (sI (sL h 277 0 w) 240 0 0) 246 1 = gI h 0 12 := fun w => by rw [gI_sI, if_neg (by omega), gI_sL, xs.2.2]
    have head : ∀ (b : Int) (hb : a = b) (v : Int32) {H : AH} (hD : WFD D) (y : RH D (sI H 240 0 0)) (u : Unit), zw (if zi b = 0 then some (gI (sI H 240 0 0) 240 1, sI H 240 0 0) else if zi b = 1 then some (gI (sI H 240 0 0) 240 2, sI H 240 0 0) else if zi b = 2 then some (gI (sI H 240 0 0) 240 3, sI H 240 0 0) else if zi b = 3 then some (gI (sI H 240 0 0) 240 4, sI H 240 0 0) else if zi b = 4 then bd (s_X10_people (sI H 240 0 0)) fun x7 => some (x7, sI H 240 0 0) else if zi b = 5 then some (gI (sI H 240 0 0) 240 5, sI H 240 0 0) else if zi b = 6 then some (tb D.P 4, sI H 240 0 0) else if zi b = 7 then some (gI (sI H 240 0 0) 240 12, sI H 240 0 0) else bd (ldI (sI H 240 0 0) 246 (zi b - 8)) fun x6 => some (x6, sI H 240 0 0)) (fun r => r = (v, sI H 240 0 0)) → zw (s_X10_count (zi b) H) (fun r => r = (v, sI H 240 0 0)) := by
      rintro b rfl v H hD y u hh
      unfold s_X10_count
      refine zw_bd1 (r_within rfl ((show (0 : Int32) = zi 0 from zi_lit 0)) ((show (9 : Int32) = zi 9 from zi_lit 9)) ha1 ha2 (by decide) (by decide) (by decide) (by decide)) ?_
      refine zw_bd1 (r_right rfl g0_z (by decide)) ?_
      rw [if_pos (decide_eq_true q1)]
      refine zw_f one_ne ?_
      exact zw_bd1 (r_bits hD y _) hh
    rcases (by omega : a = 0 ∨ a = 1 ∨ a = 2 ∨ a = 3 ∨ a = 4 ∨ a = 5 ∨ a = 6 ∨ a = 7 ∨ a = 8 ∨ a = 9) with qa | qa | qa | qa | qa | qa | qa | qa | qa | qa
    · subst qa
      refine ag_v (v := (zi D.ch : Int32).toInt64) x ?_ ?_
      · unfold s_L_count s_X9_count
        rw [if_pos rfl, if_pos (by decide), x.t8, bd_v, if_pos x.tl.l0, x.ch.1.1, bd_v, sm_l]
        exact hl_v rfl
      · have y := (x.o (zi D.ch : Int32).toInt64).z
        refine zw_e (z := (zi D.ch, _)) ?_ ⟨rfl, g0_z, frz _⟩
        refine head 0 rfl _ y.wf y.rh () ?_
        refine zw_t (by decide) ?_
        exact zw_some (Prod.ext y.rh.1.1 rfl)
    · subst qa
      refine ag_v (v := (zi D.co : Int32).toInt64) x ?_ ?_
      · unfold s_L_count s_X9_count
        rw [if_pos rfl, if_neg (by decide), if_pos (by decide), x.t8, bd_v, if_pos x.tl.l0, x.ch.1.2.1, bd_v, sm_l]
        exact hl_v rfl
      · have y := (x.o (zi D.co : Int32).toInt64).z
        refine zw_e (z := (zi D.co, _)) ?_ ⟨rfl, g0_z, frz _⟩
        refine head 1 rfl _ y.wf y.rh () ?_
        refine zw_f (by decide) ?_
        refine zw_t (by decide) ?_
        exact zw_some (Prod.ext y.rh.1.2.1 rfl)
    · subst qa
      refine ag_v (v := (zi D.N : Int32).toInt64) x ?_ ?_
      · unfold s_L_count s_X9_count
        rw [if_pos rfl, if_neg (by decide), if_neg (by decide), if_pos (by decide), x.t8, bd_v, if_pos x.tl.l0, x.ch.1.2.2.1, bd_v, sm_l]
        exact hl_v rfl
      · have y := (x.o (zi D.N : Int32).toInt64).z
        refine zw_e (z := (zi D.N, _)) ?_ ⟨rfl, g0_z, frz _⟩
        refine head 2 rfl _ y.wf y.rh () ?_
        refine zw_f (by decide) ?_
        refine zw_f (by decide) ?_
        refine zw_t (by decide) ?_
        exact zw_some (Prod.ext y.rh.1.2.2.1 rfl)
    · subst qa
      refine ag_v (v := (zi D.K : Int32).toInt64) x ?_ ?_
      · unfold s_L_count s_X9_count
        rw [if_pos rfl, if_neg (by decide), if_neg (by decide), if_neg (by decide), if_pos (by decide), x.t8, bd_v, if_pos x.tl.l0, x.ch.1.2.2.2.1, bd_v, sm_l]
        exact hl_v rfl
      · have y := (x.o (zi D.K : Int32).toInt64).z
        refine zw_e (z := (zi D.K, _)) ?_ ⟨rfl, g0_z, frz _⟩
        refine head 3 rfl _ y.wf y.rh () ?_
        refine zw_f (by decide) ?_
        refine zw_f (by decide) ?_
        refine zw_f (by decide) ?_
        refine zw_t (by decide) ?_
        exact zw_some (Prod.ext y.rh.1.2.2.2.1 rfl)
    · subst qa
      refine ag_v (v := (zi (zs (fun k => D.Q k 0) D.K) : Int32).toInt64) x ?_ ?_
      · unfold s_L_count s_X9_count
        rw [if_pos rfl, if_neg (by decide), if_neg (by decide), if_neg (by decide), if_neg (by decide), if_pos (by decide), x.t8, bd_v, if_pos x.tl.l0, c_people x.wf x.tl x.ch, bd_v, bd_v, sm_l]
        exact hl_v rfl
      · have y := (x.o (zi (zs (fun k => D.Q k 0) D.K) : Int32).toInt64).z
        refine zw_e (z := (zi (zs (fun k => D.Q k 0) D.K), _)) ?_ ⟨rfl, g0_z, frz _⟩
        refine head 4 rfl _ y.wf y.rh () ?_
        refine zw_f (by decide) ?_
        refine zw_f (by decide) ?_
        refine zw_f (by decide) ?_
        refine zw_f (by decide) ?_
        refine zw_t (by decide) ?_
        exact zw_bd1 (r_people y.wf y.rh) (zw_some rfl)
    · subst qa
      refine ag_v (v := (zi D.R : Int32).toInt64) x ?_ ?_
      · unfold s_L_count s_X9_count
        rw [if_pos rfl, if_neg (by decide), if_neg (by decide), if_neg (by decide), if_neg (by decide), if_neg (by decide), if_pos (by decide), x.t8, bd_v, if_pos x.tl.l0, x.ch.1.2.2.2.2.1, bd_v, sm_l]
        exact hl_v rfl
      · have y := (x.o (zi D.R : Int32).toInt64).z
        refine zw_e (z := (zi D.R, _)) ?_ ⟨rfl, g0_z, frz _⟩
        refine head 5 rfl _ y.wf y.rh () ?_
        refine zw_f (by decide) ?_
        refine zw_f (by decide) ?_
        refine zw_f (by decide) ?_
        refine zw_f (by decide) ?_
        refine zw_f (by decide) ?_
        refine zw_t (by decide) ?_
        exact zw_some (Prod.ext y.rh.1.2.2.2.2.1 rfl)
    · subst qa
      refine ag_v (v := (tb D.P 4 : Int32).toInt64) x ?_ ?_
      · unfold s_L_count s_X9_count
        rw [if_pos rfl, if_neg (by decide), if_neg (by decide), if_neg (by decide), if_neg (by decide), if_neg (by decide), if_neg (by decide), if_pos (by decide), x.t8, bd_v, if_pos x.tl.l0, c_bits x.wf x.tl x.ch, bd_v, bd_v, sm_l]
        exact hl_v rfl
      · have y := (x.o (tb D.P 4 : Int32).toInt64).z
        refine zw_e (z := (tb D.P 4, _)) ?_ ⟨rfl, g0_z, frz _⟩
        refine head 6 rfl _ y.wf y.rh () ?_
        refine zw_f (by decide) ?_
        refine zw_f (by decide) ?_
        refine zw_f (by decide) ?_
        refine zw_f (by decide) ?_
        refine zw_f (by decide) ?_
        refine zw_f (by decide) ?_
        refine zw_t (by decide) ?_
        exact zw_some rfl
    · subst qa
      refine ag_v (v := (gI h 2 1 : Int32).toInt64) x ?_ ?_
      · unfold s_L_count s_X9_count
        rw [if_pos rfl, if_neg (by decide), if_neg (by decide), if_neg (by decide), if_neg (by decide), if_neg (by decide), if_neg (by decide), if_neg (by decide), if_pos (by decide), bd_v, sm_l]
        exact hl_v rfl
      · have y := (x.o (gI h 2 1 : Int32).toInt64).z
        refine zw_e (z := (gI h 2 1, _)) ?_ ⟨rfl, g0_z, frz _⟩
        refine head 7 rfl _ y.wf y.rh () ?_
        refine zw_f (by decide) ?_
        refine zw_f (by decide) ?_
        refine zw_f (by decide) ?_
        refine zw_f (by decide) ?_
        refine zw_f (by decide) ?_
        refine zw_f (by decide) ?_
        refine zw_f (by decide) ?_
        refine zw_t (by decide) ?_
        exact zw_some (Prod.ext (e7 (gI h 2 1).toInt64) rfl)
    · subst qa
      refine ag_v (v := (gI h 0 11 : Int32).toInt64) x ?_ ?_
      · unfold s_L_count s_X9_count
        rw [if_pos rfl, if_neg (by decide), if_neg (by decide), if_neg (by decide), if_neg (by decide), if_neg (by decide), if_neg (by decide), if_neg (by decide), if_neg (by decide), if_pos (by decide), bd_v, sm_l]
        exact hl_v rfl
      · have y := (x.o (gI h 0 11 : Int32).toInt64).z
        refine zw_e (z := (gI h 0 11, _)) ?_ ⟨rfl, g0_z, frz _⟩
        refine head 8 rfl _ y.wf y.rh () ?_
        refine zw_f (by decide) ?_
        refine zw_f (by decide) ?_
        refine zw_f (by decide) ?_
        refine zw_f (by decide) ?_
        refine zw_f (by decide) ?_
        refine zw_f (by decide) ?_
        refine zw_f (by decide) ?_
        refine zw_f (by decide) ?_
        exact zw_bd1 (ldI_ok (x := zi 8 - 8) 0 (n := 2) rfl rfl (by decide)) (zw_some (Prod.ext (e8 (gI h 0 11).toInt64) rfl))
    · subst qa
      refine ag_v (v := (gI h 0 12 : Int32).toInt64) x ?_ ?_
      · unfold s_L_count s_X9_count
        rw [if_pos rfl, if_neg (by decide), if_neg (by decide), if_neg (by decide), if_neg (by decide), if_neg (by decide), if_neg (by decide), if_neg (by decide), if_neg (by decide), if_neg (by decide), if_pos (by decide), bd_v, sm_l]
        exact hl_v rfl
      · have y := (x.o (gI h 0 12 : Int32).toInt64).z
        refine zw_e (z := (gI h 0 12, _)) ?_ ⟨rfl, g0_z, frz _⟩
        refine head 9 rfl _ y.wf y.rh () ?_
        refine zw_f (by decide) ?_
        refine zw_f (by decide) ?_
        refine zw_f (by decide) ?_
        refine zw_f (by decide) ?_
        refine zw_f (by decide) ?_
        refine zw_f (by decide) ?_
        refine zw_f (by decide) ?_
        refine zw_f (by decide) ?_
        exact zw_bd1 (ldI_ok (x := zi 9 - 8) 1 (n := 2) rfl rfl (by decide)) (zw_some (Prod.ext (e9 (gI h 0 12).toInt64) rfl))
  · refine ag_t (k := 1) (b := 0) x ?_ (by decide) ?_
    · unfold s_L_count s_X9_count
      rw [if_pos rfl, if_neg (zi_nk ((show (0 : Int32) = zi 0 from zi_lit 0)) (by omega : a ≠ 0) ha1 ha2), if_neg (zi_nk ((show (1 : Int32) = zi 1 from zi_lit 1)) (by omega : a ≠ 1) ha1 ha2), if_neg (zi_nk ((show (2 : Int32) = zi 2 from zi_lit 2)) (by omega : a ≠ 2) ha1 ha2), if_neg (zi_nk ((show (3 : Int32) = zi 3 from zi_lit 3)) (by omega : a ≠ 3) ha1 ha2), if_neg (zi_nk ((show (4 : Int32) = zi 4 from zi_lit 4)) (by omega : a ≠ 4) ha1 ha2), if_neg (zi_nk ((show (5 : Int32) = zi 5 from zi_lit 5)) (by omega : a ≠ 5) ha1 ha2), if_neg (zi_nk ((show (6 : Int32) = zi 6 from zi_lit 6)) (by omega : a ≠ 6) ha1 ha2), if_neg (zi_nk ((show (7 : Int32) = zi 7 from zi_lit 7)) (by omega : a ≠ 7) ha1 ha2), if_neg (zi_nk ((show (8 : Int32) = zi 8 from zi_lit 8)) (by omega : a ≠ 8) ha1 ha2), if_neg (zi_nk ((show (9 : Int32) = zi 9 from zi_lit 9)) (by omega : a ≠ 9) ha1 ha2)]
      rfl
    · refine zw_o ?_
      unfold s_X10_count
      refine zw_bd1 (r_within rfl ((show (0 : Int32) = zi 0 from zi_lit 0)) ((show (9 : Int32) = zi 9 from zi_lit 9)) ha1 ha2 (by decide) (by decide) (by decide) (by decide)) ?_
      refine zw_bd1 (r_right rfl g0_z (by decide)) ?_
      rw [if_neg (fun z => q1 (of_decide_eq_true z))]
      exact zw_t rfl (zw_some rfl)
/-- both methods are called by the law itself -/
def a2 {α : Type} (c : Option (α × AH)) (m : AH → Option (α × AH)) : Prop := ∃ v h1 h2, c = some (v, h1) ∧ m h1 = some (v, h2) ∧ IV h2
theorem g_fault (x : IVd D T h) : ∃ v h2, s_X9_fault h = some v ∧ s_X10_fault h = some (v, h2) ∧ IV h2 := by
  refine ⟨_, _, rfl, ?_, D, T, x.z⟩
  unfold s_X10_fault
  rw [gI_sI, if_neg (by omega), x.2.2.2.2.2.2.1.1]
theorem IVd.earnsC (x : IVd D T h) : s_X0_takings (some 14) (some (T + 7)) (some (T + 4)) h = some (zl (eTake D.N D.K (dB D) D.P (fun k => D.Q k 0) (cf D) (fun e => D.E e 1))) := c_takings x.wf x.c rfl x.tl.l7 x.tl.l4 (fun k hk => ⟨x.c.2.2 k hk, dB_lt D k⟩) (fun t ht => x.ch.2.2.2.2.2.2 t ht) (fun k hk => ⟨x.ch.2.2.2.2.1 k hk, (x.wf.q k hk).1⟩) x.wf.p.2.1
theorem g_earns (x : IVd D T h) : ∃ v h2, s_X9_earns h = some v ∧ s_X10_earns h = some (v, h2) ∧ IV h2 := by
  refine ⟨zl (eTake D.N D.K (dB D) D.P (fun k => D.Q k 0) (cf D) (fun e => D.E e 1)), sI h 240 0 0, ?_, ?_, D, T, x.z⟩
  · unfold s_X9_earns
    rw [x.t8, bd_v, if_pos x.tl.l0, bd_v, if_pos x.tl.l0, x.earnsC, bd_v]
  · unfold s_X10_earns
    rw [r_earns x.z.wf x.z.rh x.z.r.g (dG_ok x.wf), bd_v]
end
