/-! 99h.hall: hall: alike -/
section
variable {D : HD} {T : Nat} {h : AH}
/-- what the class does with a hall that was read -/
theorem c_taken {D : HD} {c1 : AH} (hD : WFD D) (hT : TL T) (hne : T ≠ 5) (x : CH D T c1) (cb : CB c1) (pk : ∀ t p, PL t p → PK t p c1) {T0 : Nat} (hT0 : TL T0) (g8 : gR c1 0 8 = some T0) (g9 : gR c1 0 9 = some T) : zw (bd (gR (sI (sI c1 2 1 0) 0 10 (-1)) 0 8) fun t3 => if LAY t3 = (0, 8) then bd (gR (sI (sI c1 2 1 0) 0 10 (-1)) 0 9) fun t4 => if LAY t4 = (0, 8) then bd (gR (sR (sR (sI (sI c1 2 1 0) 0 10 (-1)) 0 8 (some t4)) 0 9 (some t3)) 0 8) fun t5 => if LAY t5 = (0, 8) then bd (s_X0_open (some t5) (sR (sR (sI (sI c1 2 1 0) 0 10 (-1)) 0 8 (some t4)) 0 9 (some t3))) fun q6 => bd (s_X1_forget q6.2) fun q7 => bd (s_X5_forget q7.2) fun q8 => bd (s_X6_forget q8.2) fun q9 => some ((.inl 0 : Int32 ⊕ Nat), sI (sI q9.2 224 0 0) 228 0 0) else none else none else none) (fun r => r.1 = .inl 0 ∧ Fr (fun a k => (a = 2 ∧ k = 1) ∨ (a = 0 ∧ (k = 8 ∨ k = 9 ∨ k = 10)) ∨ opF a k ∨ a = 213 ∨ a = 214 ∨ (a = 215 ∧ (k = 4 ∨ k = 5)) ∨ (a = 220 ∧ k = 0) ∨ (a = 224 ∧ k = 0) ∨ (a = 228 ∧ k = 0)) c1 r.2 ∧ gR r.2 0 8 = some T ∧ gR r.2 0 9 = some T0 ∧ gR r.2 13 1 = some T ∧ YC2 D r.2 ∧ gI r.2 2 1 = 0 ∧ gI r.2 0 10 = -1 ∧ (∀ k, k < 6 → gI r.2 214 k = 0 ∧ ∀ m, m < 401 → gI r.2 213 (401 * k + m) = 0) ∧ gI r.2 215 4 = 0 ∧ gI r.2 215 5 = 0 ∧ gI r.2 220 0 = 0 ∧ gI r.2 224 0 = 0 ∧ gI r.2 228 0 = 0) := by
  have bT := hT.b
  have lay213 : LAY 213 = (1, 2406) ∧ LAY 214 = (1, 6) := by decide +kernel
  have e8 : gR (sI (sI c1 2 1 0) 0 10 (-1)) 0 8 = some T0 := by rw [gR_sI, gR_sI]; exact g8
  have e9 : gR (sI (sI c1 2 1 0) 0 10 (-1)) 0 9 = some T := by rw [gR_sI, gR_sI]; exact g9
  rw [e8, bd_v, if_pos hT0.l0, e9, bd_v, if_pos hT.l0]
  have e8' : gR (sR (sR (sI (sI c1 2 1 0) 0 10 (-1)) 0 8 (some T)) 0 9 (some T0)) 0 8 = some T := by rw [gR_sR, if_neg (by omega), gR_sR, if_pos ⟨rfl, rfl⟩]
  have e9' : gR (sR (sR (sI (sI c1 2 1 0) 0 10 (-1)) 0 8 (some T)) 0 9 (some T0)) 0 9 = some T0 := by rw [gR_sR, if_pos ⟨rfl, rfl⟩]
  have z21 : gI (sR (sR (sI (sI c1 2 1 0) 0 10 (-1)) 0 8 (some T)) 0 9 (some T0)) 2 1 = 0 := by rw [gI_sR, gI_sR, gI_sI, if_neg (by omega), gI_sI, if_pos ⟨rfl, rfl⟩]
  have z10 : gI (sR (sR (sI (sI c1 2 1 0) 0 10 (-1)) 0 8 (some T)) 0 9 (some T0)) 0 10 = -1 := by rw [gI_sR, gI_sR, gI_sI, if_pos ⟨rfl, rfl⟩]
  have f0 : Fr (fun a k => (a = 2 ∧ k = 1) ∨ (a = 0 ∧ (k = 8 ∨ k = 9 ∨ k = 10))) c1 (sR (sR (sI (sI c1 2 1 0) 0 10 (-1)) 0 8 (some T)) 0 9 (some T0)) := ((((Fr.refl (fun a k => (a = 2 ∧ k = 1) ∨ (a = 0 ∧ (k = 8 ∨ k = 9 ∨ k = 10))) c1).sI (by omega)).sI (by omega)).sR (by omega)).sR (by omega)
  rw [e8', bd_v, if_pos hT.l0]
  generalize sR (sR (sI (sI c1 2 1 0) 0 10 (-1)) 0 8 (some T)) 0 9 (some T0) = h0 at e8' e9' z21 z10 f0 ⊢
  have x0 : CH D T h0 := x.fr f0 (fun a k h1 h2 => by omega)
  have cb0 : CB h0 := cb.fr f0 (by intro j; omega)
  have pk0 : ∀ t p, PL t p → PK t p h0 := fun t p hp => (pk t p hp).fr f0 (by have := hp.b; omega) (by have := hp.b; omega)
  refine zw_bd (c_open hD hT hne x0 cb0 pk0) ?_
  rintro ⟨u1, h1⟩ ⟨f1, g13, yc⟩
  dsimp only at f1 g13 yc ⊢
  unfold s_X1_forget s_X5_forget s_X6_forget
  simp only [bd_bd]
  refine zw_bd (fill_ok (n := 6) lay213.2) ?_
  rintro ⟨u2, h2⟩ ⟨f2, c2⟩
  dsimp only at f2 c2 ⊢
  refine zw_bd (fill_ok (n := 2406) lay213.1) ?_
  rintro ⟨u3, h3⟩ ⟨f3, c3⟩
  dsimp only at f3 c3 ⊢
  rw [bd_v, bd_v, bd_v]
  dsimp only
  have f4 : Fr (fun a k => (a = 215 ∧ (k = 4 ∨ k = 5)) ∨ (a = 220 ∧ k = 0) ∨ (a = 224 ∧ k = 0) ∨ (a = 228 ∧ k = 0)) h3 (sI (sI (sI (sI (sI h3 215 4 0) 215 5 0) 220 0 0) 224 0 0) 228 0 0) := (((((Fr.refl (fun a k => (a = 215 ∧ (k = 4 ∨ k = 5)) ∨ (a = 220 ∧ k = 0) ∨ (a = 224 ∧ k = 0) ∨ (a = 228 ∧ k = 0)) h3).sI (by omega)).sI (by omega)).sI (by omega)).sI (by omega)).sI (by omega)
  have v1 : gI (sI (sI (sI (sI (sI h3 215 4 0) 215 5 0) 220 0 0) 224 0 0) 228 0 0) 215 4 = 0 := by rw [gI_sI, if_neg (by omega), gI_sI, if_neg (by omega), gI_sI, if_neg (by omega), gI_sI, if_neg (by omega), gI_sI, if_pos ⟨rfl, rfl⟩]
  have v2 : gI (sI (sI (sI (sI (sI h3 215 4 0) 215 5 0) 220 0 0) 224 0 0) 228 0 0) 215 5 = 0 := by rw [gI_sI, if_neg (by omega), gI_sI, if_neg (by omega), gI_sI, if_neg (by omega), gI_sI, if_pos ⟨rfl, rfl⟩]
  have v3 : gI (sI (sI (sI (sI (sI h3 215 4 0) 215 5 0) 220 0 0) 224 0 0) 228 0 0) 220 0 = 0 := by rw [gI_sI, if_neg (by omega), gI_sI, if_neg (by omega), gI_sI, if_pos ⟨rfl, rfl⟩]
  have v4 : gI (sI (sI (sI (sI (sI h3 215 4 0) 215 5 0) 220 0 0) 224 0 0) 228 0 0) 224 0 = 0 := by rw [gI_sI, if_neg (by omega), gI_sI, if_pos ⟨rfl, rfl⟩]
  have v5 : gI (sI (sI (sI (sI (sI h3 215 4 0) 215 5 0) 220 0 0) 224 0 0) 228 0 0) 228 0 = 0 := by rw [gI_sI, if_pos ⟨rfl, rfl⟩]
  generalize sI (sI (sI (sI (sI h3 215 4 0) 215 5 0) 220 0 0) 224 0 0) 228 0 0 = h4 at f4 v1 v2 v3 v4 v5 ⊢
  have f14 : Fr (fun a k => a = 213 ∨ a = 214 ∨ (a = 215 ∧ (k = 4 ∨ k = 5)) ∨ (a = 220 ∧ k = 0) ∨ (a = 224 ∧ k = 0) ∨ (a = 228 ∧ k = 0)) h1 h4 := ((f2.mono (by omega)).trans (f3.mono (by omega))).trans (f4.mono (by omega))
  have fall : Fr (fun a k => (a = 2 ∧ k = 1) ∨ (a = 0 ∧ (k = 8 ∨ k = 9 ∨ k = 10)) ∨ opF a k ∨ a = 213 ∨ a = 214 ∨ (a = 215 ∧ (k = 4 ∨ k = 5)) ∨ (a = 220 ∧ k = 0) ∨ (a = 224 ∧ k = 0) ∨ (a = 228 ∧ k = 0)) c1 h4 := ((f0.mono (by omega)).trans (f1.mono (fun a k z => Or.inr (Or.inr (Or.inl z))))).trans (f14.mono (by omega))
  refine zw_some ⟨rfl, fall, ?_, ?_, ?_, ⟨fun k t hk ht => (yc.1 k t hk ht).fr f14 (fun a j h1 h2 => by have := hD.K6; omega), fun k hk => (f14.i (by omega)).trans (yc.2 k hk)⟩, ?_, ?_, fun k hk => ⟨?_, fun m hm => ?_⟩, v1, v2, v3, v4, v5⟩
  · show gR h4 0 8 = _
    rw [f14.r (by omega), f1.r (by unfold opF; omega)]; exact e8'
  · show gR h4 0 9 = _
    rw [f14.r (by omega), f1.r (by unfold opF; omega)]; exact e9'
  · show gR h4 13 1 = _
    rw [f14.r (by omega)]; exact g13
  · show gI h4 2 1 = _
    rw [f14.i (by omega), f1.i (by unfold opF; omega)]; exact z21
  · show gI h4 0 10 = _
    rw [f14.i (by omega), f1.i (by unfold opF; omega)]; exact z10
  · show gI h4 214 k = 0
    rw [f4.i (by omega), f3.i (by omega)]
    exact c2 k hk
  · show gI h4 213 (401 * k + m) = 0
    rw [f4.i (by omega)]
    exact c3 _ (by omega)
/-- what the reference does with it -/
def tkR (a k : Nat) : Prop := wkA a k ∨ (241 ≤ a ∧ a ≤ 244) ∨ (a = 240 ∧ ((1 ≤ k ∧ k ≤ 6) ∨ k = 45 ∨ k = 48 ∨ k = 53 ∨ k = 58 ∨ k = 59))
theorem r_taken {D : HD} {b : AH} (hD : WFD D) (x : NWh D b) (good : s_X10_isGood b = some 1) : zw (j_X10_hall_137 b) (fun r => r.1 = 0 ∧ Fr tkR b r.2 ∧ YR D r.2 ∧ gI r.2 240 45 = 0 ∧ gI r.2 240 48 = -1 ∧ gI r.2 240 53 = -1 ∧ gI r.2 240 58 = 0 ∧ gI r.2 240 59 = 0) := by
  obtain ⟨⟨n1, n2, n3, n4, n5, n6⟩, m1, m2, m3, m4⟩ := x
  have hN := hD.N16
  have hK := hD.K6
  have hR := hD.R4
  have lay : LAY 247 = (1, 64) ∧ LAY 241 = (1, 64) ∧ LAY 248 = (1, 66) ∧ LAY 242 = (1, 66) ∧ LAY 249 = (1, 8) ∧ LAY 243 = (1, 8) ∧ LAY 250 = (1, 5) ∧ LAY 244 = (1, 5) := by decide +kernel
  obtain ⟨l1, l2, l3, l4, l5, l6, l7, l8⟩ := lay
  unfold j_X10_hall_137
  refine zw_bd1 good (zw_f one_ne ?_)
  rw [n1, show gI (sI b 240 1 (zi D.ch)) 240 24 = zi D.co by rw [gI_sI, if_neg (by omega)]; exact n2,
    show gI (sI (sI b 240 1 (zi D.ch)) 240 2 (zi D.co)) 240 25 = zi D.N by rw [gI_sI, if_neg (by omega), gI_sI, if_neg (by omega)]; exact n3,
    show gI (sI (sI (sI b 240 1 (zi D.ch)) 240 2 (zi D.co)) 240 3 (zi D.N)) 240 26 = zi D.K by rw [gI_sI, if_neg (by omega), gI_sI, if_neg (by omega), gI_sI, if_neg (by omega)]; exact n4,
    show gI (sI (sI (sI (sI b 240 1 (zi D.ch)) 240 2 (zi D.co)) 240 3 (zi D.N)) 240 4 (zi D.K)) 240 27 = zi D.R by rw [gI_sI, if_neg (by omega), gI_sI, if_neg (by omega), gI_sI, if_neg (by omega), gI_sI, if_neg (by omega)]; exact n5,
    show gI (sI (sI (sI (sI (sI b 240 1 (zi D.ch)) 240 2 (zi D.co)) 240 3 (zi D.N)) 240 4 (zi D.K)) 240 5 (zi D.R)) 240 28 = zi D.ten by rw [gI_sI, if_neg (by omega), gI_sI, if_neg (by omega), gI_sI, if_neg (by omega), gI_sI, if_neg (by omega), gI_sI, if_neg (by omega)]; exact n6]
  have f0 : Fr (fun a k => a = 240 ∧ 1 ≤ k ∧ k ≤ 6) b (sI (sI (sI (sI (sI (sI b 240 1 (zi D.ch)) 240 2 (zi D.co)) 240 3 (zi D.N)) 240 4 (zi D.K)) 240 5 (zi D.R)) 240 6 (zi D.ten)) := ((((((Fr.refl (fun a k => a = 240 ∧ 1 ≤ k ∧ k ≤ 6) b).sI (by omega)).sI (by omega)).sI (by omega)).sI (by omega)).sI (by omega)).sI (by omega)
  have k1 : gI (sI (sI (sI (sI (sI (sI b 240 1 (zi D.ch)) 240 2 (zi D.co)) 240 3 (zi D.N)) 240 4 (zi D.K)) 240 5 (zi D.R)) 240 6 (zi D.ten)) 240 1 = zi D.ch := by rw [gI_sI, if_neg (by omega), gI_sI, if_neg (by omega), gI_sI, if_neg (by omega), gI_sI, if_neg (by omega), gI_sI, if_neg (by omega), gI_sI, if_pos ⟨rfl, rfl⟩]
  have k2 : gI (sI (sI (sI (sI (sI (sI b 240 1 (zi D.ch)) 240 2 (zi D.co)) 240 3 (zi D.N)) 240 4 (zi D.K)) 240 5 (zi D.R)) 240 6 (zi D.ten)) 240 2 = zi D.co := by rw [gI_sI, if_neg (by omega), gI_sI, if_neg (by omega), gI_sI, if_neg (by omega), gI_sI, if_neg (by omega), gI_sI, if_pos ⟨rfl, rfl⟩]
  have k3 : gI (sI (sI (sI (sI (sI (sI b 240 1 (zi D.ch)) 240 2 (zi D.co)) 240 3 (zi D.N)) 240 4 (zi D.K)) 240 5 (zi D.R)) 240 6 (zi D.ten)) 240 3 = zi D.N := by rw [gI_sI, if_neg (by omega), gI_sI, if_neg (by omega), gI_sI, if_neg (by omega), gI_sI, if_pos ⟨rfl, rfl⟩]
  have k4 : gI (sI (sI (sI (sI (sI (sI b 240 1 (zi D.ch)) 240 2 (zi D.co)) 240 3 (zi D.N)) 240 4 (zi D.K)) 240 5 (zi D.R)) 240 6 (zi D.ten)) 240 4 = zi D.K := by rw [gI_sI, if_neg (by omega), gI_sI, if_neg (by omega), gI_sI, if_pos ⟨rfl, rfl⟩]
  have k5 : gI (sI (sI (sI (sI (sI (sI b 240 1 (zi D.ch)) 240 2 (zi D.co)) 240 3 (zi D.N)) 240 4 (zi D.K)) 240 5 (zi D.R)) 240 6 (zi D.ten)) 240 5 = zi D.R := by rw [gI_sI, if_neg (by omega), gI_sI, if_pos ⟨rfl, rfl⟩]
  have k6 : gI (sI (sI (sI (sI (sI (sI b 240 1 (zi D.ch)) 240 2 (zi D.co)) 240 3 (zi D.N)) 240 4 (zi D.K)) 240 5 (zi D.R)) 240 6 (zi D.ten)) 240 6 = zi D.ten := by rw [gI_sI, if_pos ⟨rfl, rfl⟩]
  generalize sI (sI (sI (sI (sI (sI b 240 1 (zi D.ch)) 240 2 (zi D.co)) 240 3 (zi D.N)) 240 4 (zi D.K)) 240 5 (zi D.R)) 240 6 (zi D.ten) = b0 at f0 k1 k2 k3 k4 k5 k6 ⊢
  refine zw_bd (copies_ok (n := 64) (by decide) l1 l2) ?_
  rintro ⟨u1, g1⟩ ⟨f1, c1⟩
  dsimp only at f1 c1 ⊢
  refine zw_bd (copies_ok (n := 66) (by decide) l3 l4) ?_
  rintro ⟨u2, g2⟩ ⟨f2, c2⟩
  dsimp only at f2 c2 ⊢
  refine zw_bd (copies_ok (n := 8) (by decide) l5 l6) ?_
  rintro ⟨u3, g3⟩ ⟨f3, c3⟩
  dsimp only at f3 c3 ⊢
  refine zw_bd (copies_ok (n := 5) (by decide) l7 l8) ?_
  rintro ⟨u4, g4⟩ ⟨f4, c4⟩
  dsimp only at f4 c4 ⊢
  have f5 : Fr (fun a k => a = 240 ∧ (k = 45 ∨ k = 48 ∨ k = 53 ∨ k = 58 ∨ k = 59)) g4 (sI (sI (sI (sI (sI g4 240 45 0) 240 48 (-1)) 240 53 (-1)) 240 58 0) 240 59 0) := (((((Fr.refl (fun a k => a = 240 ∧ (k = 45 ∨ k = 48 ∨ k = 53 ∨ k = 58 ∨ k = 59)) g4).sI (by omega)).sI (by omega)).sI (by omega)).sI (by omega)).sI (by omega)
  have v1 : gI (sI (sI (sI (sI (sI g4 240 45 0) 240 48 (-1)) 240 53 (-1)) 240 58 0) 240 59 0) 240 45 = 0 := by rw [gI_sI, if_neg (by omega), gI_sI, if_neg (by omega), gI_sI, if_neg (by omega), gI_sI, if_neg (by omega), gI_sI, if_pos ⟨rfl, rfl⟩]
  have v2 : gI (sI (sI (sI (sI (sI g4 240 45 0) 240 48 (-1)) 240 53 (-1)) 240 58 0) 240 59 0) 240 48 = -1 := by rw [gI_sI, if_neg (by omega), gI_sI, if_neg (by omega), gI_sI, if_neg (by omega), gI_sI, if_pos ⟨rfl, rfl⟩]
  have v3 : gI (sI (sI (sI (sI (sI g4 240 45 0) 240 48 (-1)) 240 53 (-1)) 240 58 0) 240 59 0) 240 53 = -1 := by rw [gI_sI, if_neg (by omega), gI_sI, if_neg (by omega), gI_sI, if_pos ⟨rfl, rfl⟩]
  have v4 : gI (sI (sI (sI (sI (sI g4 240 45 0) 240 48 (-1)) 240 53 (-1)) 240 58 0) 240 59 0) 240 58 = 0 := by rw [gI_sI, if_neg (by omega), gI_sI, if_pos ⟨rfl, rfl⟩]
  have v5 : gI (sI (sI (sI (sI (sI g4 240 45 0) 240 48 (-1)) 240 53 (-1)) 240 58 0) 240 59 0) 240 59 = 0 := by rw [gI_sI, if_pos ⟨rfl, rfl⟩]
  generalize sI (sI (sI (sI (sI g4 240 45 0) 240 48 (-1)) 240 53 (-1)) 240 58 0) 240 59 0 = g5 at f5 v1 v2 v3 v4 v5 ⊢
  have f04 : Fr (fun a k => 241 ≤ a ∧ a ≤ 244) b0 g4 := (((f1.mono (by omega)).trans (f2.mono (by omega))).trans (f3.mono (by omega))).trans (f4.mono (by omega))
  have f05 : Fr (fun a k => (241 ≤ a ∧ a ≤ 244) ∨ (a = 240 ∧ (k = 45 ∨ k = 48 ∨ k = 53 ∨ k = 58 ∨ k = 59))) b0 g5 := (f04.mono (by omega)).trans (f5.mono (by omega))
  have rh : RH D g5 := by
    refine ⟨⟨(f05.i (by omega)).trans k1, (f05.i (by omega)).trans k2, (f05.i (by omega)).trans k3, (f05.i (by omega)).trans k4, (f05.i (by omega)).trans k5, (f05.i (by omega)).trans k6⟩, fun e w he hw => ?_, fun k w hk hw => ?_, fun r w hr hw => ?_, fun t ht => ?_⟩
    · rw [f5.i (by omega), f4.i (by omega), f3.i (by omega), f2.i (by omega), c1 _ (by omega), f0.i (by omega)]
      exact m1 e w he hw
    · rw [f5.i (by omega), f4.i (by omega), f3.i (by omega), c2 _ (by omega), f1.i (by omega), f0.i (by omega)]
      exact m2 k w hk hw
    · rw [f5.i (by omega), f4.i (by omega), c3 _ (by omega), f2.i (by omega), f1.i (by omega), f0.i (by omega)]
      exact m3 r w hr hw
    · rw [f5.i (by omega), c4 _ ht, f3.i (by omega), f2.i (by omega), f1.i (by omega), f0.i (by omega)]
      exact m4 t ht
  refine zw_bd (r_worksA hD rh) ?_
  rintro ⟨u6, g6⟩ ⟨f6, yr⟩
  dsimp only at f6 yr ⊢
  refine zw_some ⟨rfl, ((f0.mono (by unfold tkR; omega)).trans (f05.mono (by unfold tkR; omega))).trans (f6.mono (fun a k z => Or.inl z)), yr, ?_, ?_, ?_, ?_, ?_⟩
  · show gI g6 240 45 = 0
    rw [f6.i (by unfold wkA; omega)]; exact v1
  · show gI g6 240 48 = -1
    rw [f6.i (by unfold wkA; omega)]; exact v2
  · show gI g6 240 53 = -1
    rw [f6.i (by unfold wkA; omega)]; exact v3
  · show gI g6 240 58 = 0
    rw [f6.i (by unfold wkA; omega)]; exact v4
  · show gI g6 240 59 = 0
    rw [f6.i (by unfold wkA; omega)]; exact v5
end
