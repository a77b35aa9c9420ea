/-! 99f.read: a line, all lines: side by side -/
section
variable {D : HD} {h hc hr : AH} {n T q : Nat} {B : Nat → Nat} {f : Nat → Bool}
theorem r_lw {j : Nat} (hj : j ≤ 8) (h0 : ∀ i : Nat, i < j → s_X10_is (zi (i : Int)) hr = some 0) (h1 : s_X10_is (zi (j : Int)) hr = some 1) : s_X10_lineWord hr = some (zi (j : Int)) := by
  unfold s_X10_lineWord
  have L : lpP (l_X10_lineWord_2 hr) FU 0 = some (.inl (zi (j : Int))) := by
    refine lpP_for j (fun i => zi (i : Int)) (by omega) rfl ?_ ?_
    · intro i hi
      unfold l_X10_lineWord_2
      rw [if_neg (by rw [(show (8 : Int32) = zi 8 from zi_lit 8), zi_lt (by omega) (by omega) (by omega) (by omega)]; show ¬ (8 : Int) < i; omega), h0 i hi, bd_v, if_pos rfl]
      exact congrArg (fun z => some (Sum.inl z)) (by first | (simp only [zi_lit, zi_neg, zi_add, zi_sub, zi_mul, zl_lit, zl_neg, zl_add, zl_sub, zl_mul, zl_i]; exact congrArg zi (by omega)) | (simp only [zi_lit, zi_neg, zi_add, zi_sub, zi_mul, zl_lit, zl_neg, zl_add, zl_sub, zl_mul, zl_i]; done) | exact congrArg zi (by omega))
    · unfold l_X10_lineWord_2
      rw [if_neg (by rw [(show (8 : Int32) = zi 8 from zi_lit 8), zi_lt (by omega) (by omega) (by omega) (by omega)]; show ¬ (8 : Int) < j; omega), h1, bd_v, if_neg one_ne]
  rw [L, bd_v]
  rfl
theorem r_lw9 (h0 : ∀ i : Nat, i < 9 → s_X10_is (zi (i : Int)) hr = some 0) : s_X10_lineWord hr = some (-1) := by
  unfold s_X10_lineWord
  have L : lpP (l_X10_lineWord_2 hr) FU 0 = some (.inr ()) := by
    refine lpP_for 9 (fun i => zi (i : Int)) (by omega) rfl ?_ ?_
    · intro i hi
      unfold l_X10_lineWord_2
      rw [if_neg (by rw [(show (8 : Int32) = zi 8 from zi_lit 8), zi_lt (by omega) (by omega) (by omega) (by omega)]; show ¬ (8 : Int) < i; omega), h0 i hi, bd_v, if_pos rfl]
      exact congrArg (fun z => some (Sum.inl z)) (by first | (simp only [zi_lit, zi_neg, zi_add, zi_sub, zi_mul, zl_lit, zl_neg, zl_add, zl_sub, zl_mul, zl_i]; exact congrArg zi (by omega)) | (simp only [zi_lit, zi_neg, zi_add, zi_sub, zi_mul, zl_lit, zl_neg, zl_add, zl_sub, zl_mul, zl_i]; done) | exact congrArg zi (by omega))
    · unfold l_X10_lineWord_2
      rfl
  rw [L, bd_v]
  rfl
theorem x_line (hT : TL T) (x : RS n B T q hc hr) (g : nofl hc) (d : LD D T f hc hr) : z2 (s_X3_readLine hc) (s_X10_line hr) (PLn n B T (q + 1) hc hr) := by
  obtain ⟨x1, x2, x3, ⟨p, e, x4, x5⟩, x6⟩ := id x
  have hgood := x.good g
  obtain ⟨w0, -, c0, r0⟩ := x_is x1 x4 (c := 0) (by decide)
  obtain ⟨w1, -, c1, r1⟩ := x_is x1 x4 (c := 1) (by decide)
  obtain ⟨w2, -, c2, r2⟩ := x_is x1 x4 (c := 2) (by decide)
  obtain ⟨w3, -, c3, r3⟩ := x_is x1 x4 (c := 4) (by decide)
  obtain ⟨w4, -, c4, r4⟩ := x_is x1 x4 (c := 12) (by decide)
  obtain ⟨w5, -, c5, r5⟩ := x_is x1 x4 (c := 14) (by decide)
  obtain ⟨w6, -, c6, r6⟩ := x_is x1 x4 (c := 15) (by decide)
  obtain ⟨w7, -, c7, r7⟩ := x_is x1 x4 (c := 16) (by decide)
  obtain ⟨w8, -, c8, r8⟩ := x_is x1 x4 (c := 18) (by decide)
  have F : b1 false = 0 := rfl
  have TT : ¬ b1 true = 0 := by decide
  unfold s_X3_readLine s_X10_line
  rw [c0, bd_v]
  cases w0
  case true =>
    rw [if_neg TT, r_lw (j := 0) (by decide) (fun i hi => by omega) r0, bd_v]
    exact z2_rf (by decide) (x_chairs hT x g d)
  rw [if_pos F, c1, bd_v]
  have i0 : s_X10_is (zi ((0 : Nat) : Int)) hr = some 0 := r0
  cases w1
  case true =>
    rw [if_neg TT, r_lw (j := 1) (by decide) (fun i hi => by have : i = 0 := by omega
                                                             rw [this]; exact i0) r1, bd_v]
    exact z2_rf (by decide) (x_costs hT x g d)
  rw [if_pos F, c2, bd_v]
  have i1 : s_X10_is (zi ((1 : Nat) : Int)) hr = some 0 := r1
  have u2 : ∀ i : Nat, i < 2 → s_X10_is (zi (i : Int)) hr = some 0 := fun i hi => by
    have c : i = 0 ∨ i = 1 := by omega
    rcases c with rfl | rfl
    · exact i0
    · exact i1
  cases w2
  case true =>
    rw [if_neg TT, r_lw (j := 2) (by decide) u2 r2, bd_v]
    refine z2_rf (by decide) ?_
    unfold j_X10_line_15
    refine z2_r hgood (z2_rf one_ne (z2_rt rfl ?_))
    exact x_lineE hT (x_evLine hT x g d)
  rw [if_pos F, c3, bd_v]
  have i2 : s_X10_is (zi ((2 : Nat) : Int)) hr = some 0 := r2
  have u3 : ∀ i : Nat, i < 3 → s_X10_is (zi (i : Int)) hr = some 0 := fun i hi => by
    by_cases c : i = 2
    · rw [c]; exact i2
    · exact u2 i (by omega)
  cases w3
  case true =>
    rw [if_neg TT, r_lw (j := 3) (by decide) u3 r3, bd_v]
    refine z2_rf (by decide) ?_
    unfold j_X10_line_15
    refine z2_r hgood (z2_rf one_ne (z2_rf (by decide) (z2_rt rfl ?_)))
    exact x_lineE hT (x_pplLine hT x g d)
  rw [if_pos F, c4, bd_v]
  have i3 : s_X10_is (zi ((3 : Nat) : Int)) hr = some 0 := r3
  have u4 : ∀ i : Nat, i < 4 → s_X10_is (zi (i : Int)) hr = some 0 := fun i hi => by
    by_cases c : i = 3
    · rw [c]; exact i3
    · exact u3 i (by omega)
  cases w4
  case true =>
    rw [if_neg TT, r_lw (j := 4) (by decide) u4 r4, bd_v]
    refine z2_rf (by decide) ?_
    unfold j_X10_line_15
    refine z2_r hgood (z2_rf one_ne (z2_rf (by decide) (z2_rf (by decide) (z2_rt rfl ?_))))
    exact x_lineE hT (x_seatLine hT x g d)
  rw [if_pos F, c5, bd_v]
  have i4 : s_X10_is (zi ((4 : Nat) : Int)) hr = some 0 := r4
  have u5 : ∀ i : Nat, i < 5 → s_X10_is (zi (i : Int)) hr = some 0 := fun i hi => by
    by_cases c : i = 4
    · rw [c]; exact i4
    · exact u4 i (by omega)
  cases w5
  case true =>
    rw [if_neg TT, r_lw (j := 5) (by decide) u5 r5, bd_v]
    exact z2_rf (by decide) (x_year hT x g d)
  rw [if_pos F, c6, bd_v]
  have i5 : s_X10_is (zi ((5 : Nat) : Int)) hr = some 0 := r5
  have u6 : ∀ i : Nat, i < 6 → s_X10_is (zi (i : Int)) hr = some 0 := fun i hi => by
    by_cases c : i = 5
    · rw [c]; exact i5
    · exact u5 i (by omega)
  cases w6
  case true =>
    rw [if_neg TT, r_lw (j := 6) (by decide) u6 r6, bd_v]
    exact z2_rf (by decide) (x_ten hT x g d)
  rw [if_pos F, c7, bd_v]
  have i6 : s_X10_is (zi ((6 : Nat) : Int)) hr = some 0 := r6
  have u7 : ∀ i : Nat, i < 7 → s_X10_is (zi (i : Int)) hr = some 0 := fun i hi => by
    by_cases c : i = 6
    · rw [c]; exact i6
    · exact u6 i (by omega)
  cases w7
  case true =>
    rw [if_neg TT, r_lw (j := 7) (by decide) u7 r7, bd_v]
    exact z2_rf (by decide) (x_set hT x g d)
  rw [if_pos F, c8, bd_v]
  have i7 : s_X10_is (zi ((7 : Nat) : Int)) hr = some 0 := r7
  have u8 : ∀ i : Nat, i < 8 → s_X10_is (zi (i : Int)) hr = some 0 := fun i hi => by
    by_cases c : i = 7
    · rw [c]; exact i7
    · exact u7 i (by omega)
  cases w8
  case true =>
    rw [if_neg TT, r_lw (j := 8) (by decide) u8 r8, bd_v]
    exact z2_rf (by decide) (x_cheap hT x g d)
  have i8 : s_X10_is (zi ((8 : Nat) : Int)) hr = some 0 := r8
  rw [if_pos F, r_lw9 (fun i hi => by
    by_cases c : i = 8
    · rw [c]; exact i8
    · exact u8 i (by omega)), bd_v]
  refine z2_rt rfl ?_
  refine z2_bd (x_ref (q' := q + 1) x (F := 1) (by decide) g) ?_
  rintro ⟨v1, a⟩ ⟨v2, b⟩ ⟨y1, y2, y3, y4, -, -⟩
  dsimp only at y1 y2 y3 y4 ⊢
  unfold j_X3_readLine_258 j_X10_line_15
  rw [b_stop y2, bd_v]
  exact z2_r (y1.bad y2) (z2_rt rfl (z2_some ⟨y1, y3.mono (fun a k z => Or.inl z), y4.mono (fun a k z => Or.inl z), fun z => absurd z y2⟩))
theorem x_lines (hT : TL T) (x : RS n B T 0 hc hr) (d : nofl hc → ∃ D f, LD D T f hc hr) : z2 (lpH (l_X3_read_78 (zi n)) FU 0 hc) (lpH l_X10_hall_116 FU () hr) (fun a b => RS n B T 0 a.2 b.2 ∧ Fr (lnC T) hc a.2 ∧ Fr lnR hr b.2 ∧ (nofl a.2 → ∃ D f, LD D T f a.2 b.2)) := by
  have n7 := x.1.1
  refine z2_lp n (fun i s h _ j => s = zi (i : Int) ∧ RS n B T i h j ∧ Fr (lnC T) hc h ∧ Fr lnR hr j ∧ (nofl h → ∃ D f, LD D T f h j)) (by omega) ⟨rfl, x, Fr.refl _ hc, Fr.refl _ hr, d⟩ ?_
  rintro i s h t j hi ⟨rfl, xi, fc, fr, di⟩
  unfold l_X3_read_78 l_X10_hall_116
  have out : z2 (some ((Sum.inr () : Int32 ⊕ Unit), h)) (some ((Sum.inr () : Unit ⊕ Unit), j)) (fun a b => (∃ s' t', a.1 = .inl s' ∧ b.1 = .inl t' ∧ i < n ∧ s' = zi ((i + 1 : Nat) : Int) ∧ RS n B T (i + 1) a.2 b.2 ∧ Fr (lnC T) hc a.2 ∧ Fr lnR hr b.2 ∧ (nofl a.2 → ∃ D f, LD D T f a.2 b.2)) ∨ (∃ e u, a.1 = .inr e ∧ b.1 = .inr u ∧ RS n B T 0 a.2 b.2 ∧ Fr (lnC T) hc a.2 ∧ Fr lnR hr b.2 ∧ (nofl a.2 → ∃ D f, LD D T f a.2 b.2))) := z2_some (Or.inr ⟨_, _, rfl, rfl, xi.le (Nat.zero_le _), fc, fr, di⟩)
  by_cases g : nofl h
  · obtain ⟨x1, x2, x3, ⟨p, e, x4, x5⟩, x6⟩ := id xi
    have pi := x5 g
    refine z2_r (xi.good g) (z2_rf one_ne ?_)
    rcases x4.2.2.2.2.2.2.2 with ⟨q1, q2, q3⟩ | ⟨q1, q2, q3, q4, -⟩
    · rw [q2, q3]
      refine z2_rt rfl ?_
      by_cases c : n ≤ i
      · exact z2_lt (by rw [zi_le (by omega) (by omega) (by omega) (by omega)]; omega) out
      · exact z2_lf (by rw [zi_le (by omega) (by omega) (by omega) (by omega)]; omega) (z2_lt g (z2_lt rfl out))
    · have el := x4.2.1
      have tb := ty_b (B p)
      have sb : 1 ≤ sof (ty (B p)) ∧ sof (ty (B p)) ≤ 5 := by
        unfold sof
        split <;> omega
      rw [q3, q4]
      refine z2_lf (by rw [zi_le (by omega) (by omega) (by omega) (by omega)]; omega) (z2_lt g (z2_lf (zi_nk ((show (0 : Int32) = zi 0 from zi_lit 0)) (by omega) (by omega) (by omega)) (z2_rf (zi_nk ((show (0 : Int32) = zi 0 from zi_lit 0)) (by omega) (by omega) (by omega)) ?_)))
      obtain ⟨D, f, dd⟩ := di g
      refine z2_bd (x_line hT xi g dd) ?_
      rintro ⟨v1, a⟩ ⟨v2, b⟩ ⟨y1, y2, y3, y4⟩
      exact z2_some (Or.inl ⟨_, _, rfl, rfl, by omega, (by first | (simp only [zi_lit, zi_neg, zi_add, zi_sub, zi_mul, zl_lit, zl_neg, zl_add, zl_sub, zl_mul, zl_i]; exact congrArg zi (by omega)) | (simp only [zi_lit, zi_neg, zi_add, zi_sub, zi_mul, zl_lit, zl_neg, zl_add, zl_sub, zl_mul, zl_i]; done) | exact congrArg zi (by omega)), y1, fc.trans y2, fr.trans y3, y4⟩)
  · refine z2_r (xi.bad g) (z2_rt rfl ?_)
    by_cases c : n ≤ i
    · exact z2_lt (by rw [zi_le (by omega) (by omega) (by omega) (by omega)]; omega) out
    · exact z2_lf (by rw [zi_le (by omega) (by omega) (by omega) (by omega)]; omega) (z2_lf g out)
/-- a new hall -/
def HD0 : HD := (1, 0, 0, 0, 0, 0, fun _ _ => 0, fun _ _ => 0, fun _ _ => 0, fun _ => -1)
theorem HD0_wf : WFD HD0 := ⟨⟨⟨by decide, by decide⟩, ⟨by decide, by decide⟩, by decide, by decide, by decide, by decide, by decide⟩, fun e he => absurd he (Nat.not_lt_zero _), fun e he => absurd he (Nat.not_lt_zero _), fun e he => absurd he (Nat.not_lt_zero _), rfl, fun t _ => ⟨by show (-1 : Int) ≤ -1; decide, by show (-1 : Int) ≤ 9999; decide⟩, fun z => absurd rfl z, fun z => absurd rfl z⟩
theorem c_clear8 (hT : TL T) : zw (s_X8_clear T h) (fun r => Fr (fun a _ => T ≤ a ∧ a ≤ T + 7) h r.2 ∧ CH HD0 T r.2 ∧ ∀ e, e < 16 → gI r.2 (T + 2) e = 0) := by
  have bT := hT.b
  unfold s_X8_clear
  rw [if_pos hT.l0]
  have v0 : gI (sI (sI (sI (sI (sI (sI h T 0 1) T 1 0) T 2 0) T 3 0) T 4 0) T 5 0) T 0 = 1 := by
    rw [gI_sI, if_neg (by omega), gI_sI, if_neg (by omega), gI_sI, if_neg (by omega), gI_sI, if_neg (by omega), gI_sI, if_neg (by omega), gI_sI, if_pos ⟨rfl, rfl⟩]
  have v1 : ∀ k, 1 ≤ k → k ≤ 5 → gI (sI (sI (sI (sI (sI (sI h T 0 1) T 1 0) T 2 0) T 3 0) T 4 0) T 5 0) T k = 0 := by
    intro k k1 k2
    have c : k = 1 ∨ k = 2 ∨ k = 3 ∨ k = 4 ∨ k = 5 := by omega
    rcases c with rfl | rfl | rfl | rfl | rfl
    · rw [gI_sI, if_neg (by omega), gI_sI, if_neg (by omega), gI_sI, if_neg (by omega), gI_sI, if_neg (by omega), gI_sI, if_pos ⟨rfl, rfl⟩]
    · rw [gI_sI, if_neg (by omega), gI_sI, if_neg (by omega), gI_sI, if_neg (by omega), gI_sI, if_pos ⟨rfl, rfl⟩]
    · rw [gI_sI, if_neg (by omega), gI_sI, if_neg (by omega), gI_sI, if_pos ⟨rfl, rfl⟩]
    · rw [gI_sI, if_neg (by omega), gI_sI, if_pos ⟨rfl, rfl⟩]
    · rw [gI_sI, if_pos ⟨rfl, rfl⟩]
  have f0 : Fr (fun a _ => T ≤ a ∧ a ≤ T + 7) h (sI (sI (sI (sI (sI (sI h T 0 1) T 1 0) T 2 0) T 3 0) T 4 0) T 5 0) := ((((((Fr.refl (fun a _ => T ≤ a ∧ a ≤ T + 7) h).sI (by omega)).sI (by omega)).sI (by omega)).sI (by omega)).sI (by omega)).sI (by omega)
  generalize sI (sI (sI (sI (sI (sI h T 0 1) T 1 0) T 2 0) T 3 0) T 4 0) T 5 0 = G at v0 v1 f0 ⊢
  refine zw_bd (fill_ok (n := 48) hT.l1) ?_
  rintro ⟨u1, g1⟩ ⟨f1, c1⟩
  dsimp only at f1 c1 ⊢
  refine zw_bd (fill_ok (n := 16) hT.l2) ?_
  rintro ⟨u2, g2⟩ ⟨f2, c2⟩
  dsimp only at f2 c2 ⊢
  refine zw_bd (fill_ok (n := 66) hT.l3) ?_
  rintro ⟨u3, g3⟩ ⟨f3, c3⟩
  dsimp only at f3 c3 ⊢
  refine zw_bd (fill_ok (n := 6) hT.l4) ?_
  rintro ⟨u4, g4⟩ ⟨f4, c4⟩
  dsimp only at f4 c4 ⊢
  refine zw_bd (fill_ok (n := 4) hT.l5) ?_
  rintro ⟨u5, g5⟩ ⟨f5, c5⟩
  dsimp only at f5 c5 ⊢
  refine zw_bd (fill_ok (n := 4) hT.l6) ?_
  rintro ⟨u6, g6⟩ ⟨f6, c6⟩
  dsimp only at f6 c6 ⊢
  refine zw_bd (fill_ok (n := 5) hT.l7) ?_
  rintro ⟨u7, g7⟩ ⟨f7, c7⟩
  dsimp only at f7 c7 ⊢
  have fT : Fr (fun a _ => T + 1 ≤ a ∧ a ≤ T + 7) G g7 := ((((((f1.mono (by omega)).trans (f2.mono (by omega))).trans (f3.mono (by omega))).trans (f4.mono (by omega))).trans (f5.mono (by omega))).trans (f6.mono (by omega))).trans (f7.mono (by omega))
  have fT3 : Fr (fun a _ => T + 3 ≤ a ∧ a ≤ T + 7) g2 g7 := ((((f3.mono (by omega)).trans (f4.mono (by omega))).trans (f5.mono (by omega))).trans (f6.mono (by omega))).trans (f7.mono (by omega))
  refine zw_some ⟨f0.trans (fT.mono (by omega)), ⟨⟨?_, ?_, ?_, ?_, ?_, ?_⟩, fun e w he _ => absurd he (Nat.not_lt_zero _), fun e he => absurd he (Nat.not_lt_zero _), fun k w hk _ => absurd hk (Nat.not_lt_zero _), fun k hk => absurd hk (Nat.not_lt_zero _), fun r hr => absurd hr (Nat.not_lt_zero _), fun t ht => c7 t ht⟩, fun e he => ?_⟩
  · exact (fT.i (by omega)).trans v0
  · exact (fT.i (by omega)).trans (v1 1 (by decide) (by decide))
  · exact (fT.i (by omega)).trans (v1 2 (by decide) (by decide))
  · exact (fT.i (by omega)).trans (v1 3 (by decide) (by decide))
  · exact (fT.i (by omega)).trans (v1 4 (by decide) (by decide))
  · exact (fT.i (by omega)).trans (v1 5 (by decide) (by decide))
  · show gI g7 (T + 2) e = 0
    rw [fT3.i (by omega)]
    exact c2 e he
/-- what reading changes of the class -/
def rdC (T a k : Nat) : Prop := a = 1 ∨ a = 4 ∨ (T ≤ a ∧ a ≤ T + 7)
theorem x_read (hT : TL T) (hn : n ≤ 700) (hb : ∀ i, i < n → B i < 256 ∧ gI hc 3 i = zi (B i) ∧ gI hr 245 i = zi (B i)) (r13 : gI hr 240 13 = 0) (r14 : gI hr 240 14 = -1) (r16 : gI hr 240 16 = zi n) (r17 : gI hr 240 17 = 0) (r23 : gI hr 240 23 = 1) (r24 : ∀ k, 24 ≤ k → k ≤ 29 → gI hr 240 k = 0) : z2 (s_X3_read (some T) (zi n) hc) (bd (lpH l_X10_hall_94 FU 0 hr) fun y3 => bd (s_X10_steps y3.2) fun q5 => lpH l_X10_hall_116 FU () q5.2) (fun a b => a.1 = gI a.2 1 8 ∧ RS n B T 0 a.2 b.2 ∧ Fr (rdC T) hc a.2 ∧ Fr lnR hr b.2 ∧ (nofl a.2 → ∃ D f, LD D T f a.2 b.2)) := by
  have bT := hT.b
  unfold s_X3_read
  rw [bd_v, if_pos hT.l0, show gR (sR hc 1 2 (some T)) 1 2 = some T by rw [gR_sR, if_pos ⟨rfl, rfl⟩], bd_v, if_pos hT.l0]
  have f0 : Fr (rdC T) hc (sR hc 1 2 (some T)) := (Fr.refl _ hc).sR (by unfold rdC; omega)
  have i0 : gR (sR hc 1 2 (some T)) 1 2 = some T := by rw [gR_sR, if_pos ⟨rfl, rfl⟩]
  have s0 : ∀ a k, gI (sR hc 1 2 (some T)) a k = gI hc a k := fun a k => gI_sR _ _ _ _ _ _
  generalize sR hc 1 2 (some T) = h0 at f0 i0 s0 ⊢
  refine z2_lz (c_clear8 hT) ?_
  rintro ⟨u1, h1⟩ ⟨f1, c1, z1⟩
  dsimp only at f1 c1 z1 ⊢
  have g2 : Fr (fun a k => a = 1 ∧ k ≠ 2) h1 (sI (sI (sI (sI (sI h1 1 3 (zi n)) 1 6 0) 1 7 0) 1 8 0) 1 9 (-1)) := (((((Fr.refl (fun a k => a = 1 ∧ k ≠ 2) h1).sI (by omega)).sI (by omega)).sI (by omega)).sI (by omega)).sI (by omega)
  have v3 : gI (sI (sI (sI (sI (sI h1 1 3 (zi n)) 1 6 0) 1 7 0) 1 8 0) 1 9 (-1)) 1 3 = zi n := by rw [gI_sI, if_neg (by omega), gI_sI, if_neg (by omega), gI_sI, if_neg (by omega), gI_sI, if_neg (by omega), gI_sI, if_pos ⟨rfl, rfl⟩]
  have v6 : gI (sI (sI (sI (sI (sI h1 1 3 (zi n)) 1 6 0) 1 7 0) 1 8 0) 1 9 (-1)) 1 6 = 0 := by rw [gI_sI, if_neg (by omega), gI_sI, if_neg (by omega), gI_sI, if_neg (by omega), gI_sI, if_pos ⟨rfl, rfl⟩]
  have v7 : gI (sI (sI (sI (sI (sI h1 1 3 (zi n)) 1 6 0) 1 7 0) 1 8 0) 1 9 (-1)) 1 7 = 0 := by rw [gI_sI, if_neg (by omega), gI_sI, if_neg (by omega), gI_sI, if_pos ⟨rfl, rfl⟩]
  have v8 : gI (sI (sI (sI (sI (sI h1 1 3 (zi n)) 1 6 0) 1 7 0) 1 8 0) 1 9 (-1)) 1 8 = 0 := by rw [gI_sI, if_neg (by omega), gI_sI, if_pos ⟨rfl, rfl⟩]
  generalize sI (sI (sI (sI (sI h1 1 3 (zi n)) 1 6 0) 1 7 0) 1 8 0) 1 9 (-1) = h2 at g2 v3 v6 v7 v8 ⊢
  have tape2 : ∀ i, gI h2 3 i = gI hc 3 i := fun i => by rw [g2.i (by omega), f1.i (by omega), s0]
  -- the types
  refine z2_lz (P := fun a => Fr (fun a _ => a = 4) h2 a.2 ∧ ∀ i, i < n → gI a.2 4 i = zi (ty (B i))) ?_ ?_
  · refine zw_for n (fun i => zi (i : Int)) () (fun i h' => Fr (fun a _ => a = 4) h2 h' ∧ ∀ j, j < i → gI h' 4 j = zi (ty (B j))) (by omega) rfl ⟨Fr.refl _ h2, fun j hj => by omega⟩ ?_ ?_
    · rintro i h' hi ⟨hf, hv⟩
      have xb := hb i hi
      unfold l_X3_read_39
      refine zw_f (by rw [zi_le (by omega) (by omega) (by omega) (by omega)]; omega) ?_
      refine zw_bd1 (at_ok i (n := 700) lay_3.1 rfl (by omega)) ?_
      rw [hf.i (by decide), tape2, xb.2.1]
      refine zw_bd1 (c_typeOf xb.1) ?_
      refine zw_bd1 (put_ok i (n := 700) lay_3.2.2 rfl (by omega)) ?_
      refine zw_some ⟨congrArg Sum.inl (by first | (simp only [zi_lit, zi_neg, zi_add, zi_sub, zi_mul, zl_lit, zl_neg, zl_add, zl_sub, zl_mul, zl_i]; exact congrArg zi (by omega)) | (simp only [zi_lit, zi_neg, zi_add, zi_sub, zi_mul, zl_lit, zl_neg, zl_add, zl_sub, zl_mul, zl_i]; done) | exact congrArg zi (by omega)), hf.sI rfl, fun j hj => ?_⟩
      show gI (sI h' 4 i _) 4 j = _
      rw [gI_sI]
      by_cases q : j = i
      · rw [if_pos ⟨rfl, q⟩, q]
      · rw [if_neg (fun z => q z.2)]
        exact hv j (by omega)
    · rintro h' ⟨hf, hv⟩
      unfold l_X3_read_39
      exact zw_t (by rw [zi_le (by omega) (by omega) (by omega) (by omega)]; omega) (zw_some ⟨rfl, hf, hv⟩)
  rintro ⟨u3, h3⟩ ⟨f3, t3⟩
  dsimp only at f3 t3 ⊢
  -- the reference's prices
  refine z2_rz (P := fun b => Fr (fun a _ => a = 250) hr b.2 ∧ ∀ t, t < 5 → gI b.2 250 t = -1) ?_ ?_
  · refine zw_for 5 (fun i => zi (i : Int)) () (fun i h' => Fr (fun a _ => a = 250) hr h' ∧ ∀ j, j < i → gI h' 250 j = -1) (by decide) rfl ⟨Fr.refl _ hr, fun j hj => by omega⟩ ?_ ?_
    · rintro i h' hi ⟨hf, hv⟩
      unfold l_X10_hall_94
      refine zw_f (by rw [(show (5 : Int32) = zi 5 from zi_lit 5), zi_le (by omega) (by omega) (by omega) (by omega)]; show ¬ (5 : Int) ≤ i; omega) ?_
      refine zw_bd1 (stI_ok i (n := 5) rfl rfl (by omega)) ?_
      refine zw_some ⟨congrArg Sum.inl (by first | (simp only [zi_lit, zi_neg, zi_add, zi_sub, zi_mul, zl_lit, zl_neg, zl_add, zl_sub, zl_mul, zl_i]; exact congrArg zi (by omega)) | (simp only [zi_lit, zi_neg, zi_add, zi_sub, zi_mul, zl_lit, zl_neg, zl_add, zl_sub, zl_mul, zl_i]; done) | exact congrArg zi (by omega)), hf.sI rfl, fun j hj => ?_⟩
      show gI (sI h' 250 i _) 250 j = _
      rw [gI_sI]
      by_cases q : j = i
      · rw [if_pos ⟨rfl, q⟩]
      · rw [if_neg (fun z => q z.2)]
        exact hv j (by omega)
    · rintro h' ⟨hf, hv⟩
      unfold l_X10_hall_94
      exact zw_t (by decide) (zw_some ⟨rfl, hf, hv⟩)
  rintro ⟨u4, r1⟩ ⟨f4, t4⟩
  dsimp only at f4 t4 ⊢
  have tx : TX n B h3 r1 := ⟨hn, (f3.i (by decide)).trans v3, (f4.i (by decide)).trans r16, fun i hi => ⟨(hb i hi).1, (f3.i (by decide)).trans ((tape2 i).trans (hb i hi).2.1), t3 i hi, (f4.i (by decide)).trans (hb i hi).2.2⟩⟩
  have g8 : gI h3 1 8 = 0 := (f3.i (by decide)).trans v8
  refine z2_bd (x_adv (q := 0) tx g8 (Nat.zero_le _) ((f3.i (by decide)).trans v6) ((f4.i (by decide)).trans r17)) ?_
  rintro ⟨u5, h4⟩ ⟨u6, r2⟩ ⟨p, e, -, tk, f5, f6⟩
  dsimp only at tk f5 f6 ⊢
  have into4 : gR h4 1 2 = some T := by rw [f5.r (by unfold aC; omega), f3.r (by decide), g2.r (by omega), f1.r (by omega)]; exact i0
  have n8 : gI h4 1 8 = 0 := (f5.i (by unfold aC; omega)).trans g8
  have rs : RS n B T 0 h4 r2 := ⟨tx.fr f5 f6 (by unfold aC; omega) (by intro k; unfold aC; omega) (by intro k; unfold aC; omega) (by unfold aR; omega) (by intro k; unfold aR; omega), into4, by rw [n8, f6.i (by unfold aR; omega), f4.i (by decide), r13], ⟨p, e, tk, fun _ => Nat.zero_le _⟩, fun z => absurd n8 z, fun _ => by rw [f6.i (by unfold aR; omega), f4.i (by decide)]; exact r14⟩
  have ld : LD HD0 T (fun _ => false) h4 r2 := by
    have k24 : ∀ k, 23 ≤ k → k ≤ 29 → gI r2 240 k = gI hr 240 k := fun k k1 k2 => by rw [f6.i (by unfold aR; omega), f4.i (by decide)]
    refine ⟨((c1.fr g2 (fun a k h1 h2 => by omega)).fr f3 (fun a k h1 h2 => by omega)).fr f5 (fun a k h1 h2 => by unfold aC; omega), ⟨⟨(k24 _ (by decide) (by decide)).trans r23, (k24 _ (by decide) (by decide)).trans (r24 _ (by decide) (by decide)), (k24 _ (by decide) (by decide)).trans (r24 _ (by decide) (by decide)), (k24 _ (by decide) (by decide)).trans (r24 _ (by decide) (by decide)), (k24 _ (by decide) (by decide)).trans (r24 _ (by decide) (by decide)), (k24 _ (by decide) (by decide)).trans (r24 _ (by decide) (by decide))⟩, fun e w he _ => absurd he (Nat.not_lt_zero _), fun k w hk _ => absurd hk (Nat.not_lt_zero _), fun r w hr _ => absurd hr (Nat.not_lt_zero _), fun t ht => ?_⟩, HD0_wf, fun k hk => absurd hk (Nat.not_lt_zero _), fun e _ he => ?_, ⟨?_, ?_⟩, fun _ e he => absurd he (Nat.not_lt_zero _)⟩
    · rw [f6.i (by unfold aR; omega)]
      exact t4 t ht
    · rw [f5.i (by unfold aC; omega), f3.i (by omega), g2.i (by omega)]
      exact z1 e he
    · rw [f5.i (by unfold aC; omega), f3.i (by decide)]
      exact v7
    · exact (k24 _ (by decide) (by decide)).trans (r24 _ (by decide) (by decide))
  have lines := x_lines hT rs (fun _ => ⟨_, _, ld⟩)
  obtain ⟨⟨u7, h5⟩, ⟨u8, r3⟩, e1, e2, y1, y2, y3, y4⟩ := lines
  dsimp only at y1 y2 y3 y4
  rw [e1, e2, bd_v]
  unfold j_X3_read_107
  refine z2_some ⟨rfl, y1, ?_, ?_, y4⟩
  · exact ((((f0.trans (f1.mono (by unfold rdC; omega))).trans (g2.mono (by unfold rdC; omega))).trans (f3.mono (by unfold rdC; omega))).trans (f5.mono (by unfold aC rdC; omega))).trans (y2.mono (by unfold lnC opC lC rdC; omega))
  · exact ((f4.mono (fun a k z => Or.inr (by unfold lR; omega))).trans (f6.mono (fun a k z => Or.inl (by unfold aR at z; unfold opR; omega)))).trans y3
end
