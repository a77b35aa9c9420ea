/-! 66.floor: the two floors -/
theorem tdiv_1000 (a : Int) : a.tdiv 1000 = if 0 ≤ a ∨ a % 1000 = 0 then a / 1000 else a / 1000 + 1 := by
  by_cases q : 0 ≤ a
  · rw [if_pos (Or.inl q), Int.tdiv_eq_ediv_of_nonneg q]
  · have e : a = -(-a) := by omega
    have h1 : a.tdiv 1000 = -((-a) / 1000) := by
      rw [e, Int.neg_tdiv, Int.tdiv_eq_ediv_of_nonneg (by omega)]
      rw [Int.neg_neg]
    rw [h1]
    split <;> omega
theorem zl_nonneg {x : Int64} : 0 ≤ x ↔ x.toBitVec.msb = false := by
  rw [Int64.le_iff_toInt_le]
  show (0 : Int) ≤ x.toBitVec.toInt ↔ _
  rw [BitVec.msb_eq_toInt]
  rw [decide_eq_false_iff_not]
  omega
theorem c_floor {h : AH} {a : Int} (h1 : -1000000000000000 ≤ a) (h2 : a ≤ 1000000000000000) {x y : Int64} (hx : x = zl a) (hy : y = 1000) : s_J9_floorDiv_f86c9 x y h = some (zl (a / 1000)) := by
  subst hx hy
  unfold s_J9_floorDiv_f86c9
  rw [ldivF_ne (by decide), bd_v]
  have e1 : zl a / 1000 = zl (a.tdiv 1000) := zl_divT (b := 1000) (by omega) (by omega) (by decide) (by decide)
  have eq1 : zl a / 1000 * 1000 = zl (a.tdiv 1000 * 1000) := by
    rw [e1]
    exact zl_mul _ 1000
  have em : (zl a / 1000 * 1000 = zl a) ↔ a.tdiv 1000 * 1000 = a := by
    rw [eq1]
    have t := tdiv_1000 a
    rw [zl_eq (by rw [t]; split <;> omega) (by rw [t]; split <;> omega) (by omega) (by omega)]
  have es : (0 ≤ (zl a ^^^ 1000)) ↔ 0 ≤ a := by
    rw [zl_nonneg, Int64.toBitVec_xor, BitVec.msb_xor]
    have h3 : (1000 : Int64).toBitVec.msb = false := by decide
    rw [h3, Bool.xor_false, ← zl_nonneg, (show (0 : Int64) = zl 0 from zl_lit 0), zl_le (by omega) (by omega) (by omega) (by omega)]
  have t := tdiv_1000 a
  by_cases q : 0 ≤ a
  · rw [if_pos (es.mpr q), e1, t, if_pos (Or.inl q)]
  · rw [if_neg (fun z => q (es.mp z))]
    by_cases q2 : a % 1000 = 0
    · rw [if_pos (em.mpr (by rw [t, if_pos (Or.inr q2)]; omega)), e1, t, if_pos (Or.inr q2)]
    · rw [if_neg (fun z => by
        have := em.mp z
        rw [t, if_neg (by omega)] at this
        omega), e1, t, if_neg (by omega)]
      refine congrArg some ?_
      rw [(show (1 : Int64) = zl 1 from zl_lit 1), zl_sub]
      exact congrArg zl (by omega)
theorem r_floor {h : AH} {a : Int} (h1 : -1000000000000000 ≤ a) (h2 : a ≤ 1000000000000000) {x y : Int64} (hx : x = zl a) (hy : y = 1000) : s_X10_floor x y h = some (zl (a / 1000)) := by
  subst hx hy
  have e1 : zl a / 1000 = zl (a.tdiv 1000) := zl_divT (b := 1000) (by omega) (by omega) (by decide) (by decide)
  have t := tdiv_1000 a
  have er : zl a - zl a / 1000 * 1000 = zl (a - a.tdiv 1000 * 1000) := by
    rw [e1, show zl (a.tdiv 1000) * 1000 = zl (a.tdiv 1000 * 1000) from zl_mul _ 1000, zl_sub]
  unfold s_X10_floor
  rw [ldivF_ne (by decide), bd_v]
  unfold lremF
  rw [if_neg (by decide), bd_v, er, e1]
  by_cases q2 : a % 1000 = 0
  · rw [if_pos (by
      rw [(show (0 : Int64) = zl 0 from zl_lit 0)]
      refine congrArg zl ?_
      rw [t]
      split <;> omega), t, if_pos (Or.inr q2)]
  · rw [if_neg (by
      rw [(show (0 : Int64) = zl 0 from zl_lit 0), zl_eq (by rw [t]; split <;> omega) (by rw [t]; split <;> omega) (by omega) (by omega), t]
      split <;> omega)]
    by_cases q : 0 ≤ a
    · rw [if_pos (by rw [(show (0 : Int64) = zl 0 from zl_lit 0), zl_le (by omega) (by omega) (by omega) (by omega)]; exact q)]
      unfold j_X10_floor_24 j_X10_floor_35
      rw [if_pos (by decide), if_pos rfl, t, if_pos (Or.inl q)]
    · rw [if_neg (by rw [(show (0 : Int64) = zl 0 from zl_lit 0), zl_le (by omega) (by omega) (by omega) (by omega)]; exact q)]
      unfold j_X10_floor_24 j_X10_floor_35
      rw [if_pos (by decide), if_neg (by decide), t, if_neg (by omega)]
      refine congrArg some ?_
      rw [(show (1 : Int64) = zl 1 from zl_lit 1), zl_sub]
      exact congrArg zl (by omega)
