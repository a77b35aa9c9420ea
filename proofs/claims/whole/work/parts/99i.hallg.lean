/-! 99i.hallg: hall() alike -/
def hallI (G : AH) (v1 : Int32) : AH := sI (sI (sI (sI (sI (sI (sI (sI (sI (sI (sI (sI G 240 12 0) 240 14 (-1)) 240 13 0) 240 16 v1) 240 17 0) 240 23 1) 240 24 0) 240 25 0) 240 26 0) 240 27 0) 240 28 0) 240 29 0
theorem hallI_g (G : AH) (v1 : Int32) (a k : Nat) : gI (hallI G v1) a k = if a = 240 ∧ 24 ≤ k ∧ k ≤ 29 then 0 else if a = 240 ∧ k = 23 then 1 else if a = 240 ∧ k = 17 then 0 else if a = 240 ∧ k = 16 then v1 else if a = 240 ∧ k = 13 then 0 else if a = 240 ∧ k = 14 then -1 else if a = 240 ∧ k = 12 then 0 else gI G a k := by
  unfold hallI
  by_cases h : a = 240
  · subst h
    simp only [gI_sI, true_and]
    by_cases c1 : 24 ≤ k ∧ k ≤ 29
    · rw [if_pos c1]
      have c : k = 24 ∨ k = 25 ∨ k = 26 ∨ k = 27 ∨ k = 28 ∨ k = 29 := by omega
      rcases c with rfl | rfl | rfl | rfl | rfl | rfl <;> rfl
    · rw [if_neg c1, if_neg (by omega : ¬ k = 29), if_neg (by omega : ¬ k = 28), if_neg (by omega : ¬ k = 27), if_neg (by omega : ¬ k = 26), if_neg (by omega : ¬ k = 25), if_neg (by omega : ¬ k = 24)]
  · simp only [gI_sI, h, false_and, if_false]
theorem hallI_f (G : AH) (v1 : Int32) : Fr (fun a k => a = 240 ∧ 12 ≤ k ∧ k ≤ 29) G (hallI G v1) := by
  unfold hallI
  exact ((((((((((((Fr.refl (fun a k => a = 240 ∧ 12 ≤ k ∧ k ≤ 29) G).sI (by omega)).sI (by omega)).sI (by omega)).sI (by omega)).sI (by omega)).sI (by omega)).sI (by omega)).sI (by omega)).sI (by omega)).sI (by omega)).sI (by omega)).sI (by omega)
section
variable {D : HD} {T : Nat} {h : AH}
theorem g_hall (x : IVd D T h) (a0 : Int32) : ag Int32.toInt64 (s_L_hall (some 0) a0 (some 277) h) (s_X10_hall a0) := by
  obtain ⟨a, rfl, ha1, ha2⟩ := zi_of a0
  obtain ⟨tl, htl, t1, t2, t3⟩ := x.tape
  by_cases q : 0 ≤ a ∧ a ≤ tl
  · have hTT : TL (247 - T) ∧ 247 - T ≠ 5 := by
      have b := x.tl.b
      have ne := x.2.2.2.1.1.2.1
      rcases b with rfl | rfl | rfl
      · exact absurd rfl ne
      · exact ⟨Or.inr (Or.inr rfl), by decide⟩
      · exact ⟨Or.inr (Or.inl rfl), by decide⟩
    have bT := x.tl.b
    have neT := x.2.2.2.1.1.2.1
    have g09 := x.2.2.1
    obtain ⟨hT', hne'⟩ := hTT
    obtain ⟨n, ea, hn⟩ : ∃ n : Nat, zi a = zi (n : Int) ∧ n ≤ tl := ⟨a.toNat, congrArg zi (by omega), by omega⟩
    obtain ⟨B, hB⟩ : ∃ B : Nat → Nat, ∀ i, i < tl → B i < 256 ∧ gI h 3 i = zi (B i) ∧ gI h 245 i = zi (B i) := by
      refine ⟨fun i => if hi : i < tl then Classical.choose (t3 i hi) else 0, fun i hi => ?_⟩
      have z := Classical.choose_spec (t3 i hi)
      dsimp only
      rw [dif_pos hi]
      exact z
    have run := fun (G : AH) (hG : ∀ i, i < n → gI G 245 i = gI h 245 i) => x_read (n := n) (B := B) (T := 247 - T) (hc := h) (hr := hallI G (zi n)) hT' (by omega) (fun i hi => ⟨(hB i (by omega)).1, (hB i (by omega)).2.1, by rw [hallI_g, if_neg (by omega), if_neg (by omega), if_neg (by omega), if_neg (by omega), if_neg (by omega), if_neg (by omega), if_neg (by omega), hG i hi]; exact (hB i (by omega)).2.2⟩) (by rw [hallI_g]; rfl) (by rw [hallI_g]; rfl) (by rw [hallI_g]; rfl) (by rw [hallI_g]; rfl) (by rw [hallI_g]; rfl) (fun k k1 k2 => by rw [hallI_g, if_pos ⟨rfl, k1, k2⟩])
    obtain ⟨⟨v0, c1⟩, ⟨u1, b1'⟩, e1, -, hv0, rs1, fc1, -, ld1⟩ := run h (fun _ _ => rfl)
    dsimp only at hv0 rs1 fc1 ld1
    subst hv0
    have hall : s_X9_hall (zi a) h = bd (s_X3_read (some (247 - T)) (zi n) h) fun q2 => if q2.1 = 0 then bd (gR (sI (sI q2.2 2 1 0) 0 10 (-1)) 0 8) fun t3 => if LAY t3 = (0, 8) then bd (gR (sI (sI q2.2 2 1 0) 0 10 (-1)) 0 9) fun t4 => if LAY t4 = (0, 8) then bd (gR (sR (sR (sI (sI q2.2 2 1 0) 0 10 (-1)) 0 8 (some t4)) 0 9 (some t3)) 0 8) fun t5 => if LAY t5 = (0, 8) then bd (s_X0_open (some t5) (sR (sR (sI (sI q2.2 2 1 0) 0 10 (-1)) 0 8 (some t4)) 0 9 (some t3))) fun q6 => bd (s_X1_forget q6.2) fun q7 => bd (s_X5_forget q7.2) fun q8 => bd (s_X6_forget q8.2) fun q9 => some (.inl 0, sI (sI q9.2 224 0 0) 228 0 0) else none else none else none else bd (s_X3_place (sI q2.2 2 1 0)) fun x10 => some (.inl q2.1, sI (sI (sI q2.2 2 1 0) 0 10 x10) 0 11 ((gI (sI (sI q2.2 2 1 0) 0 10 x10) 0 11) + 1)) := by
      unfold s_X9_hall
      rw [if_neg (by rw [(show (0 : Int32) = zi 0 from zi_lit 0), zi_lt (by omega) (by omega) (by omega) (by omega)]; omega), t1, if_pos (by rw [zi_le (by omega) (by omega) (by omega) (by omega)]; exact q.2), g09, bd_v, if_pos hT'.l0, ea]
    rw [e1, bd_v] at hall
    dsimp only at hall
    have refH : ∀ (G0 : AH) (Q : Int32 × AH → Prop), gI G0 240 12 = zi tl → zw (bd (lpH l_X10_hall_94 FU 0 (hallI (sI G0 240 0 0) (zi n))) fun y3 => bd (s_X10_steps y3.2) fun q5 => bd (lpH l_X10_hall_116 FU () q5.2) fun y8 => j_X10_hall_137 y8.2) Q → zw (s_X10_hall (zi a) G0) Q := by
      intro G0 Q h12 hh
      unfold s_X10_hall
      refine zw_f (by rw [(show (0 : Int32) = zi 0 from zi_lit 0), zi_lt (by omega) (by omega) (by omega) (by omega)]; omega) ?_
      refine zw_f (by rw [gI_sI, if_neg (by omega), h12, zi_lt (by omega) (by omega) (by omega) (by omega)]; omega) ?_
      unfold j_X10_hall_23
      refine zw_bd1 (r_right (b := true) rfl g0_z (by decide)) ?_
      rw [if_pos rfl]
      refine zw_f one_ne ?_
      rw [ea]
      exact hh
    have pk1 : ∀ t p, PL t p → PK t p c1 := fun t p hp => (x.pk hp).fr fc1 (by have := hp.b; unfold rdC; omega) (by have := hp.b; unfold rdC; omega)
    have cb1 : CB c1 := x.cb.fr fc1 (by intro j; unfold rdC; omega)
    by_cases g : nofl c1
    · -- the text is a hall
      have g' : gI c1 1 8 = 0 := g
      rw [if_pos g'] at hall
      obtain ⟨D1, f1, l1⟩ := ld1 g
      have g08 : gR c1 0 8 = some T := (fc1.r (by unfold rdC; omega)).trans x.t8
      have g09' : gR c1 0 9 = some (247 - T) := (fc1.r (by unfold rdC; omega)).trans g09
      have tk := fun (D' : HD) (hD' : WFD D') (ch : CH D' (247 - T) c1) => c_taken hD' hT' hne' ch cb1 pk1 x.tl g08 g09'
      obtain ⟨⟨w, c5⟩, e5, hw, fr5, -⟩ := tk D1 l1.2.2.1 l1.1
      dsimp only at hw fr5
      subst hw
      have hall5 : s_X9_hall (zi a) h = some (.inl 0, c5) := hall.trans e5
      have fh5 : Fr (fun a k => rdC (247 - T) a k ∨ (a = 2 ∧ k = 1) ∨ (a = 0 ∧ (k = 8 ∨ k = 9 ∨ k = 10)) ∨ opF a k ∨ (213 ≤ a ∧ a ≤ 228)) h c5 := (fc1.mono (fun a k z => Or.inl z)).trans (fr5.mono (by unfold opF; intro a k; omega))
      -- the reference
      have G245 : ∀ i, i < n → gI (sI (sL c5 277 0 (0 : Int32).toInt64) 240 0 0) 245 i = gI h 245 i := fun i hi => by rw [gI_sI, if_neg (by omega), gI_sL, fh5.i (by unfold rdC opF; omega)]
      have G12 : gI (sL c5 277 0 (0 : Int32).toInt64) 240 12 = zi tl := by rw [gI_sL, fh5.i (by unfold rdC opF; omega)]; exact t2
      obtain ⟨⟨v2, c1'⟩, ⟨u2, b2⟩, e2, e3, hv2, rs2, fc2, fr2, ld2⟩ := run _ G245
      dsimp only at hv2 rs2 fc2 fr2 ld2
      have same : c1' = c1 := by
        rw [e1] at e2
        exact (Prod.mk.inj (Option.some.inj e2)).2.symm
      subst same
      obtain ⟨D2, f2, l2⟩ := ld2 g
      obtain ⟨⟨w2, c5'⟩, e5', hw2, fr5', k8, k9, k13, yc2, k21, k10, kcr, k4, k5, k220, k224, k228⟩ := tk D2 l2.2.2.1 l2.1
      have same5 : c5' = c5 := by
        rw [e5] at e5'
        exact (Prod.mk.inj (Option.some.inj e5')).2.symm
      subst same5
      dsimp only at fr5' k8 k9 k13 yc2 k21 k10 kcr k4 k5 k220 k224 k228
      obtain ⟨⟨w3, h2⟩, e6, hw3, f6, yr, m45, m48, m53, m58, m59⟩ := r_taken l2.2.2.1 l2.2.1 (rs2.good g)
      dsimp only at hw3 f6 yr m45 m48 m53 m58 m59
      subst hw3
      -- all together
      have fg : Fr (fun a k => a = 277 ∨ (a = 240 ∧ (k = 0 ∨ (12 ≤ k ∧ k ≤ 29)))) c5' (hallI (sI (sL c5' 277 0 (0 : Int32).toInt64) 240 0 0) (zi n)) := (((Fr.refl (fun a k => a = 277 ∨ (a = 240 ∧ (k = 0 ∨ (12 ≤ k ∧ k ≤ 29)))) c5').sL (by omega)).sI (by omega)).trans ((hallI_f _ _).mono (by omega))
      have f5h : Fr (fun a k => (240 ≤ a ∧ a ≤ 244) ∨ (247 ≤ a ∧ a ≤ 258) ∨ a = 277) c5' h2 := ((fg.mono (by omega)).trans (fr2.mono (by unfold lnR opR lR; omega))).trans (f6.mono (by unfold tkR wkA; omega))
      have s0 : gI h2 240 0 = 0 := by
        rw [f6.i (by unfold tkR wkA; omega), fr2.i (by unfold lnR opR lR; omega), hallI_g, if_neg (by omega), if_neg (by omega), if_neg (by omega), if_neg (by omega), if_neg (by omega), if_neg (by omega), if_neg (by omega)]
        exact g0_z
      have s12 : gI h2 240 12 = 0 := by
        rw [f6.i (by unfold tkR wkA; omega), fr2.i (by unfold lnR opR lR; omega), hallI_g]
        rfl
      have s14 : gI h2 240 14 = -1 := by
        rw [f6.i (by unfold tkR wkA; omega)]
        exact rs2.2.2.2.2.2 g
      have s77 : gL h2 277 0 = (0 : Int32).toInt64 := by
        rw [f6.l (by unfold tkR wkA; omega), fr2.l (by unfold lnR opR lR; omega), (hallI_f _ _).l (by omega), gL_sI, gL_sL, if_pos ⟨rfl, rfl⟩]
      have oh : ∀ a k, a = 246 ∨ (a = 0 ∧ (k = 11 ∨ k = 12)) → gI h2 a k = gI h a k := fun a k z => by rw [f5h.i (by omega), fh5.i (by unfold rdC opF; omega)]
      have st := x.stat
      have ch5 : CH D2 (247 - T) c5' := l2.1.fr fr5' (fun a k h1 h2 => by unfold opF; omega)
      have yc5 : YC D2 (247 - T) c5' := ⟨⟨hT', hne', ch5, cb1.fr fr5' (by intro j; unfold opF; omega), k13, k8, fun t p hp => by
        rcases hp with ⟨rfl, rfl⟩ | ⟨k, hk, ht, rfl⟩
        · exact (pk1 _ _ PL.sp).fr fr5' (by unfold opF; omega) (by unfold opF; omega)
        · exact (pk1 _ _ (PL.of hk ht)).fr fr5' (by unfold opF; omega) (by unfold opF; omega)⟩, yc2⟩
      have K6 := l2.2.2.1.K6
      have ivd : IVd D2 (247 - T) h2 := by
        refine ⟨l2.2.2.1, l2.2.2.2.1, ?_, yc5.fr2 l2.2.2.1 f5h (by intro a k; omega), yr, ⟨0, by decide, ?_, s12, fun i hi => by omega⟩, ⟨?_, ?_, ?_⟩, Or.inl ⟨?_, m45⟩, Or.inl ⟨?_, m48⟩, Or.inl ⟨?_, m53⟩, fun k hk => Or.inl ⟨?_, fun m w1 w2 => ?_⟩, Or.inl ⟨?_, m58⟩, Or.inl ⟨?_, m59⟩⟩
        · rw [f5h.r (by omega), k9, show 247 - (247 - T) = T by omega]
        · rw [f5h.i (by omega)]; exact k21
        · rw [f5h.i (by omega), k10, s14]
        · rw [oh _ _ (by omega), oh _ _ (by omega)]; exact st.2.1
        · rw [oh _ _ (by omega), oh _ _ (by omega)]; exact st.2.2
        · rw [f5h.i (by omega)]; exact k4
        · rw [f5h.i (by omega)]; exact k5
        · rw [f5h.i (by omega)]; exact k220
        · rw [f5h.i (by omega)]; exact (kcr k (by omega)).1
        · rw [f5h.i (by omega)]; exact (kcr k (by omega)).2 m (by omega)
        · rw [f5h.i (by omega)]; exact k224
        · rw [f5h.i (by omega)]; exact k228
      refine ⟨0, sL c5' 277 0 (0 : Int32).toInt64, 0, h2, ?_, zw_o (refH _ (fun r => r = (0, h2)) G12 ?_), s0, fun _ => s77, D2, 247 - T, ivd⟩
      · unfold s_L_hall
        rw [if_pos rfl, hall5, bd_v, sm_l]
        exact hl_v rfl
      · have key : bd (bd (lpH l_X10_hall_94 FU 0 (hallI (sI (sL c5' 277 0 (0 : Int32).toInt64) 240 0 0) (zi n))) fun y3 => bd (s_X10_steps y3.2) fun q5 => lpH l_X10_hall_116 FU () q5.2) (fun y8 => j_X10_hall_137 y8.2) = j_X10_hall_137 b2 := by
          rw [e3, bd_v]
        simp only [bd_bd] at key
        rw [key]
        exact ⟨_, e6, rfl⟩
    · -- a fault
      have g' : ¬ gI c1 1 8 = 0 := g
      rw [if_neg g'] at hall
      unfold s_X3_place at hall
      rw [bd_v, show gI (sI c1 2 1 0) 1 9 = gI c1 1 9 by rw [gI_sI, if_neg (by omega)], show gI (sI (sI c1 2 1 0) 0 10 (gI c1 1 9)) 0 11 = gI h 0 11 by rw [gI_sI, if_neg (by omega), gI_sI, if_neg (by omega), fc1.i (by unfold rdC; omega)]] at hall
      have fr5 : Fr (fun a k => (a = 2 ∧ k = 1) ∨ (a = 0 ∧ (k = 10 ∨ k = 11))) c1 (sI (sI (sI c1 2 1 0) 0 10 (gI c1 1 9)) 0 11 (gI h 0 11 + 1)) := (((Fr.refl (fun a k => (a = 2 ∧ k = 1) ∨ (a = 0 ∧ (k = 10 ∨ k = 11))) c1).sI (by omega)).sI (by omega)).sI (by omega)
      have k21 : gI (sI (sI (sI c1 2 1 0) 0 10 (gI c1 1 9)) 0 11 (gI h 0 11 + 1)) 2 1 = 0 := by rw [gI_sI, if_neg (by omega), gI_sI, if_neg (by omega), gI_sI, if_pos ⟨rfl, rfl⟩]
      have k10 : gI (sI (sI (sI c1 2 1 0) 0 10 (gI c1 1 9)) 0 11 (gI h 0 11 + 1)) 0 10 = gI c1 1 9 := by rw [gI_sI, if_neg (by omega), gI_sI, if_pos ⟨rfl, rfl⟩]
      have k11 : gI (sI (sI (sI c1 2 1 0) 0 10 (gI c1 1 9)) 0 11 (gI h 0 11 + 1)) 0 11 = gI h 0 11 + 1 := by rw [gI_sI, if_pos ⟨rfl, rfl⟩]
      generalize sI (sI (sI c1 2 1 0) 0 10 (gI c1 1 9)) 0 11 (gI h 0 11 + 1) = c5 at hall fr5 k21 k10 k11
      have fh5 : Fr (fun a k => rdC (247 - T) a k ∨ (a = 2 ∧ k = 1) ∨ (a = 0 ∧ (k = 10 ∨ k = 11))) h c5 := (fc1.mono (fun a k z => Or.inl z)).trans (fr5.mono (by intro a k; omega))
      generalize hV : gI c1 1 8 = V at hall
      have G245 : ∀ i, i < n → gI (sI (sL c5 277 0 V.toInt64) 240 0 0) 245 i = gI h 245 i := fun i hi => by rw [gI_sI, if_neg (by omega), gI_sL, fh5.i (by unfold rdC; omega)]
      have G12 : gI (sL c5 277 0 V.toInt64) 240 12 = zi tl := by rw [gI_sL, fh5.i (by unfold rdC; omega)]; exact t2
      obtain ⟨⟨v2, c1'⟩, ⟨u2, b2⟩, e2, e3, hv2, rs2, fc2, fr2, ld2⟩ := run _ G245
      dsimp only at hv2 rs2 fc2 fr2 ld2
      have same : c1' = c1 := by
        rw [e1] at e2
        exact (Prod.mk.inj (Option.some.inj e2)).2.symm
      subst same
      have b13 : gI b2 240 13 = V := rs2.2.2.1.symm.trans hV
      have b14 : gI b2 240 14 = gI c1' 1 9 := (rs2.2.2.2.2.1 g).symm
      have fg : Fr (fun a k => a = 277 ∨ (a = 240 ∧ (k = 0 ∨ (12 ≤ k ∧ k ≤ 29)))) c5 (hallI (sI (sL c5 277 0 V.toInt64) 240 0 0) (zi n)) := (((Fr.refl (fun a k => a = 277 ∨ (a = 240 ∧ (k = 0 ∨ (12 ≤ k ∧ k ≤ 29)))) c5).sL (by omega)).sI (by omega)).trans ((hallI_f _ _).mono (by omega))
      have fgb : Fr (fun a k => a = 277 ∨ (a = 240 ∧ (k = 0 ∨ (12 ≤ k ∧ k ≤ 29))) ∨ (247 ≤ a ∧ a ≤ 250)) c5 b2 := (fg.mono (by omega)).trans (fr2.mono (by unfold lnR opR lR; omega))
      have b246 : gI b2 246 0 = gI h 246 0 := by rw [fgb.i (by omega), fh5.i (by unfold rdC; omega)]
      have f6 : Fr (fun a k => a = 246 ∧ k = 0) b2 (sI b2 246 0 (gI h 246 0 + 1)) := (Fr.refl (fun a k => a = 246 ∧ k = 0) b2).sI (by omega)
      have k246 : gI (sI b2 246 0 (gI h 246 0 + 1)) 246 0 = gI h 246 0 + 1 := by rw [gI_sI, if_pos ⟨rfl, rfl⟩]
      have e137 : j_X10_hall_137 b2 = some (V, sI b2 246 0 (gI h 246 0 + 1)) := by
        unfold j_X10_hall_137
        rw [rs2.bad g, bd_v, if_pos rfl, ldI_ok (x := 0) 0 (n := 2) rfl rfl (by decide), bd_v, b246, stI_ok (x := 0) 0 (n := 2) rfl rfl (by decide), bd_v, f6.i (by omega), b13]
      generalize sI b2 246 0 (gI h 246 0 + 1) = h2 at f6 k246 e137
      have f5h : Fr (fun a k => a = 277 ∨ (a = 240 ∧ (k = 0 ∨ (12 ≤ k ∧ k ≤ 29))) ∨ (247 ≤ a ∧ a ≤ 250) ∨ (a = 246 ∧ k = 0)) c5 h2 := (fgb.mono (by omega)).trans (f6.mono (by omega))
      have s0 : gI h2 240 0 = 0 := by
        rw [f6.i (by omega), fr2.i (by unfold lnR opR lR; omega), hallI_g, if_neg (by omega), if_neg (by omega), if_neg (by omega), if_neg (by omega), if_neg (by omega), if_neg (by omega), if_neg (by omega)]
        exact g0_z
      have s12 : gI h2 240 12 = 0 := by
        rw [f6.i (by omega), fr2.i (by unfold lnR opR lR; omega), hallI_g]
        rfl
      have s77 : gL h2 277 0 = V.toInt64 := by
        rw [f6.l (by omega), fr2.l (by unfold lnR opR lR; omega), (hallI_f _ _).l (by omega), gL_sI, gL_sL, if_pos ⟨rfl, rfl⟩]
      have st := x.stat
      have fall : Fr (fun a k => rdC (247 - T) a k ∨ (a = 2 ∧ k = 1) ∨ (a = 0 ∧ (k = 10 ∨ k = 11)) ∨ a = 277 ∨ (a = 240 ∧ (k = 0 ∨ (12 ≤ k ∧ k ≤ 29))) ∨ (246 ≤ a ∧ a ≤ 250)) h h2 := (fh5.mono (fun a k z => by rcases z with z | z | z; exact Or.inl z; exact Or.inr (Or.inl z); exact Or.inr (Or.inr (Or.inl z)))).trans (f5h.mono (by intro a k; omega))
      have K6 := x.wf.K6
      obtain ⟨i1, i2, i3, i4, i5, i6, i7, i8, i9, i10, i11, i12, i13⟩ := x
      have ivd : IVd D T h2 := ⟨i1, i2, (fall.r (by unfold rdC; omega)).trans i3, i4.fr2 i1 fall (by intro a k; unfold rdC; omega), i5.fr fall (by intro a k; unfold YRa rdC; omega), ⟨0, by decide, (f5h.i (by omega)).trans k21, s12, fun i hi => by omega⟩, ⟨by rw [f5h.i (by omega), k10, f6.i (by omega), b14], by rw [f5h.i (by omega), k11, k246, st.2.1], by rw [fall.i (by unfold rdC; omega), f6.i (by omega), fgb.i (by omega), fh5.i (by unfold rdC; omega)]; exact st.2.2⟩, i8.fr fall (by intro a k; unfold rdC; omega), i9.fr fall (by intro a k; unfold rdC; omega), i10.fr fall (by intro a k; unfold rdC; omega), i11.fr fall (by intro a k; unfold rdC; omega), i12.fr fall K6 (by intro a k; unfold rdC; omega), i13.fr fall K6 (by intro a k; unfold rdC; omega)⟩
      refine ⟨0, sL c5 277 0 V.toInt64, V, h2, ?_, zw_o (refH _ (fun r => r = (V, h2)) G12 ?_), s0, fun _ => s77, D, T, ivd⟩
      · unfold s_L_hall
        rw [if_pos rfl, hall, bd_v, sm_l]
        exact hl_v rfl
      · have key : bd (bd (lpH l_X10_hall_94 FU 0 (hallI (sI (sL c5 277 0 V.toInt64) 240 0 0) (zi n))) fun y3 => bd (s_X10_steps y3.2) fun q5 => lpH l_X10_hall_116 FU () q5.2) (fun y8 => j_X10_hall_137 y8.2) = j_X10_hall_137 b2 := by
          rw [e3, bd_v]
        simp only [bd_bd] at key
        rw [key]
        exact ⟨_, e137, rfl⟩
  · refine ag_t (k := 1) (b := 0) x ?_ (by decide) (zw_o ?_)
    · unfold s_L_hall s_X9_hall j_X9_hall_15
      by_cases c1 : a < 0
      · rw [if_pos rfl, if_pos (by rw [(show (0 : Int32) = zi 0 from zi_lit 0), zi_lt (by omega) (by omega) (by omega) (by omega)]; exact c1)]
        rfl
      · rw [if_pos rfl, if_neg (by rw [(show (0 : Int32) = zi 0 from zi_lit 0), zi_lt (by omega) (by omega) (by omega) (by omega)]; exact c1), t1, if_neg (by rw [zi_le (by omega) (by omega) (by omega) (by omega)]; omega)]
        rfl
    · have thr : zw (j_X10_hall_22 (zi a) (sI h 240 0 0)) (fun r => r = (0, sI (sI h 240 0 0) 240 0 1)) := by
        unfold j_X10_hall_22 j_X10_hall_23
        refine zw_bd1 (r_right (b := false) rfl g0_z (by decide)) ?_
        rw [if_neg ff]
        exact zw_t rfl (zw_some rfl)
      unfold s_X10_hall
      by_cases c1 : a < 0
      · exact zw_t (by rw [(show (0 : Int32) = zi 0 from zi_lit 0), zi_lt (by omega) (by omega) (by omega) (by omega)]; exact c1) thr
      · refine zw_f (by rw [(show (0 : Int32) = zi 0 from zi_lit 0), zi_lt (by omega) (by omega) (by omega) (by omega)]; exact c1) (zw_t ?_ thr)
        rw [gI_sI, if_neg (by omega), t2, zi_lt (by omega) (by omega) (by omega) (by omega)]
        omega
end
