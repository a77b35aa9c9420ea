/-! 95.step: advance and steps; words; numbers -/
section
variable {h hc hr : AH} {n : Nat} {B : Nat → Nat}
theorem x_adv {q : Nat} (x : TX n B hc hr) (g : gI hc 1 8 = 0) (hq : q ≤ n) (c6 : gI hc 1 6 = zi q) (c7 : gI hr 240 17 = zi q) : z2 (s_X3_advance hc) (s_X10_steps hr) (fun a b => ∃ p e, q ≤ p ∧ TK n B p e a.2 b.2 ∧ Fr aC hc a.2 ∧ Fr aR hr b.2) := by
  have n7 := x.1
  unfold s_X3_advance s_X10_steps
  refine z2_lt g ?_
  rw [c6]
  have f5 : Fr aC hc (sI hc 1 5 (zi q)) := (Fr.refl _ hc).sI (by unfold aC; omega)
  have v5 : gI (sI hc 1 5 (zi q)) 1 5 = zi q := by rw [gI_sI, if_pos ⟨rfl, rfl⟩]
  generalize sI hc 1 5 (zi q) = h0 at f5 v5 ⊢
  have x0 : TX n B h0 hr := x.fr f5 (Fr.refl (fun _ _ => False) hr) (by unfold aC; omega) (by intro k; unfold aC; omega) (by intro k; unfold aC; omega) (fun z => z) (fun _ z => z)
  refine z2_bd (x_blank x0 hq v5 c7) ?_
  rintro ⟨u1, h1⟩ ⟨u2, r1⟩ ⟨p, p1, p2, p3, p4, p5, p6, p7⟩
  dsimp only at p4 p5 p6 p7 ⊢
  have fc1 : Fr aC hc h1 := f5.trans (p6.mono (by unfold aC; omega))
  have fr1 : Fr aR hr r1 := p7.mono (by unfold aR; omega)
  have x1 : TX n B h1 r1 := x0.fr p6 p7 (by omega) (by intro k; omega) (by intro k; omega) (by omega) (by intro k; omega)
  unfold j_X10_steps_50
  rw [p5]
  -- the reference's marks
  have fr2 : Fr aR hr (sI (sL (sI r1 240 19 (zi p)) 240 22 0) 240 21 0) := ((fr1.sI (by unfold aR; omega)).sL (by unfold aR; omega)).sI (by unfold aR; omega)
  have m17 : gI (sI (sL (sI r1 240 19 (zi p)) 240 22 0) 240 21 0) 240 17 = zi p := by rw [gI_sI, if_neg (by omega), gI_sL, gI_sI, if_neg (by omega)]; exact p5
  have m19 : gI (sI (sL (sI r1 240 19 (zi p)) 240 22 0) 240 21 0) 240 19 = zi p := by rw [gI_sI, if_neg (by omega), gI_sL, gI_sI, if_pos ⟨rfl, rfl⟩]
  have m16 : gI (sI (sL (sI r1 240 19 (zi p)) 240 22 0) 240 21 0) 240 16 = zi n := by rw [gI_sI, if_neg (by omega), gI_sL, gI_sI, if_neg (by omega)]; exact x1.2.2.1
  have m21 : gI (sI (sL (sI r1 240 19 (zi p)) 240 22 0) 240 21 0) 240 21 = zi ((0 : Nat) : Int) := by rw [gI_sI, if_pos ⟨rfl, rfl⟩]; rfl
  have m22 : gL (sI (sL (sI r1 240 19 (zi p)) 240 22 0) 240 21 0) 240 22 = 0 := by rw [gL_sI, gL_sL, if_pos ⟨rfl, rfl⟩]
  have xm : ∀ hx, TX n B hx r1 → TX n B hx (sI (sL (sI r1 240 19 (zi p)) 240 22 0) 240 21 0) := fun hx z => z.fr (Fr.refl (fun _ _ => False) hx) ((((Fr.refl (fun a k => a = 240 ∧ 19 ≤ k) r1).sI (by omega)).sL (by omega)).sI (by omega)) (fun z => z) (fun _ z => z) (fun _ z => z) (by omega) (by intro k; omega)
  rw [m17, m16]
  generalize sI (sL (sI r1 240 19 (zi p)) 240 22 0) 240 21 0 = r2 at fr2 m17 m19 m16 m21 m22 xm ⊢
  have x2 : TX n B h1 r2 := xm h1 x1
  have rb := r_byte x2 (i := p) (by omega)
  refine z2_r rb.1 ?_
  unfold j_X3_advance_55
  rw [p4, x1.2.1]
  by_cases q1 : p = n
  · -- the text ends
    refine z2_lt (by rw [zi_le (by omega) (by omega) (by omega) (by omega)]; omega) (z2_rf (by rw [zi_lt (by omega) (by omega) (by omega) (by omega)]; omega) ?_)
    unfold j_X3_advance_82 j_X3_advance_123 j_X10_steps_278
    have a5 : gI (sI h1 1 4 0) 1 5 = zi p := by rw [gI_sI, if_neg (by omega)]; exact p4
    have a3 : gI (sI h1 1 4 0) 1 3 = zi n := by rw [gI_sI, if_neg (by omega)]; exact x1.2.1
    rw [a5, a3]
    have e6 : (if zi (p : Int) + 1 < zi (n : Int) then zi (p : Int) + 1 else zi (n : Int)) = zi (n : Int) := by
      rw [show zi (p : Int) + 1 = zi ((p + 1 : Nat) : Int) from (by first | (simp only [zi_lit, zi_neg, zi_add, zi_sub, zi_mul, zl_lit, zl_neg, zl_add, zl_sub, zl_mul, zl_i]; exact congrArg zi (by omega)) | (simp only [zi_lit, zi_neg, zi_add, zi_sub, zi_mul, zl_lit, zl_neg, zl_add, zl_sub, zl_mul, zl_i]; done) | exact congrArg zi (by omega)), if_neg (by rw [zi_lt (by omega) (by omega) (by omega) (by omega)]; omega)]
    rw [e6]
    have b4 : gI (sI (sI h1 1 4 0) 1 6 (zi n)) 1 4 = 0 := by rw [gI_sI, if_neg (by omega), gI_sI, if_pos ⟨rfl, rfl⟩]
    have b5 : gI (sI (sI h1 1 4 0) 1 6 (zi n)) 1 5 = zi p := by rw [gI_sI, if_neg (by omega)]; exact a5
    have b6 : gI (sI (sI h1 1 4 0) 1 6 (zi n)) 1 6 = zi n := by rw [gI_sI, if_pos ⟨rfl, rfl⟩]
    have fc3 : Fr aC hc (sI (sI h1 1 4 0) 1 6 (zi n)) := (fc1.sI (by unfold aC; omega)).sI (by unfold aC; omega)
    rw [b4]
    generalize sI (sI h1 1 4 0) 1 6 (zi n) = h3 at b4 b5 b6 fc3 ⊢
    refine z2_lf (by decide) (z2_lf (by decide) ?_)
    refine z2_l (a := ((), h3)) ?_ ?_
    · show lpH _ (9999 + 1) () h3 = _
      unfold lpH l_X3_advance_124
      rw [if_pos rfl]
    · have n17 : gI (sI r2 240 18 0) 240 17 = zi p := by rw [gI_sI, if_neg (by omega)]; exact m17
      have n19 : gI (sI r2 240 18 0) 240 19 = zi p := by rw [gI_sI, if_neg (by omega)]; exact m19
      rw [n17, n19, zi_sub]
      refine z2_some ⟨p, n, p1, ⟨by omega, Nat.le_refl _, b5, b6, ?_, ?_, ?_, Or.inl ⟨q1, b4, ?_⟩⟩, fc3, (fr2.sI (by unfold aR; omega)).sI (by unfold aR; omega)⟩
      · show gI (sI (sI r2 240 18 0) 240 20 _) 240 17 = _
        rw [gI_sI, if_neg (by omega), n17, q1]
      · show gI (sI (sI r2 240 18 0) 240 20 _) 240 19 = _
        rw [gI_sI, if_neg (by omega), n19]
      · show gI (sI (sI r2 240 18 0) 240 20 _) 240 20 = _
        rw [gI_sI, if_pos ⟨rfl, rfl⟩]
        exact congrArg zi (by omega)
      · show gI (sI (sI r2 240 18 0) 240 20 _) 240 18 = _
        rw [gI_sI, if_neg (by omega), gI_sI, if_pos ⟨rfl, rfl⟩]
  · -- a token
    have t4 : ty (B p) ≠ 4 := by
      rcases p3 with z | z
      · exact absurd z q1
      · exact z
    have xp := x1.2.2.2 p (by omega)
    have tb := ty_b (B p)
    have eb : bt n B p = B p := by unfold bt; rw [if_pos (by omega)]
    rw [eb] at rb
    rw [eb]
    refine z2_lf (by rw [zi_le (by omega) (by omega) (by omega) (by omega)]; omega) (z2_rt (by rw [zi_lt (by omega) (by omega) (by omega) (by omega)]; omega) ?_)
    refine z2_l (at_ok p (n := 700) lay_3.2.2 rfl (by omega)) ?_
    rw [xp.2.2.1]
    refine z2_r (r_letter rb.2) ?_
    unfold j_X3_advance_82
    have a5 : gI (sI h1 1 4 (zi (ty (B p)))) 1 5 = zi p := by rw [gI_sI, if_neg (by omega)]; exact p4
    have a3 : gI (sI h1 1 4 (zi (ty (B p)))) 1 3 = zi n := by rw [gI_sI, if_neg (by omega)]; exact x1.2.1
    rw [a5, a3]
    have e6 : (if zi (p : Int) + 1 < zi (n : Int) then zi (p : Int) + 1 else zi (n : Int)) = zi ((p + 1 : Nat) : Int) := by
      rw [show zi (p : Int) + 1 = zi ((p + 1 : Nat) : Int) from (by first | (simp only [zi_lit, zi_neg, zi_add, zi_sub, zi_mul, zl_lit, zl_neg, zl_add, zl_sub, zl_mul, zl_i]; exact congrArg zi (by omega)) | (simp only [zi_lit, zi_neg, zi_add, zi_sub, zi_mul, zl_lit, zl_neg, zl_add, zl_sub, zl_mul, zl_i]; done) | exact congrArg zi (by omega))]
      by_cases z : p + 1 < n
      · rw [if_pos (by rw [zi_lt (by omega) (by omega) (by omega) (by omega)]; omega)]
      · rw [if_neg (by rw [zi_lt (by omega) (by omega) (by omega) (by omega)]; omega)]
        exact congrArg zi (by omega)
    rw [e6]
    have b4 : gI (sI (sI h1 1 4 (zi (ty (B p)))) 1 6 (zi ((p + 1 : Nat) : Int))) 1 4 = zi (ty (B p)) := by rw [gI_sI, if_neg (by omega), gI_sI, if_pos ⟨rfl, rfl⟩]
    have b5 : gI (sI (sI h1 1 4 (zi (ty (B p)))) 1 6 (zi ((p + 1 : Nat) : Int))) 1 5 = zi p := by rw [gI_sI, if_neg (by omega)]; exact a5
    have b6 : gI (sI (sI h1 1 4 (zi (ty (B p)))) 1 6 (zi ((p + 1 : Nat) : Int))) 1 6 = zi ((p + 1 : Nat) : Int) := by rw [gI_sI, if_pos ⟨rfl, rfl⟩]
    have fc3 : Fr aC hc (sI (sI h1 1 4 (zi (ty (B p)))) 1 6 (zi ((p + 1 : Nat) : Int))) := (fc1.sI (by unfold aC; omega)).sI (by unfold aC; omega)
    have x3 : TX n B (sI (sI h1 1 4 (zi (ty (B p)))) 1 6 (zi ((p + 1 : Nat) : Int))) r2 := x2.fr (((Fr.refl aC h1).sI (by unfold aC; omega)).sI (by unfold aC; omega)) (Fr.refl (fun _ _ => False) r2) (by unfold aC; omega) (by intro k; unfold aC; omega) (by intro k; unfold aC; omega) (fun z => z) (fun _ z => z)
    rw [b4]
    generalize sI (sI h1 1 4 (zi (ty (B p)))) 1 6 (zi ((p + 1 : Nat) : Int)) = h3 at b4 b5 b6 fc3 x3 ⊢
    by_cases t1 : ty (B p) = 1
    · -- a word
      rw [if_pos t1]
      refine z2_lt (by rw [t1]; rfl) (z2_rf one_ne ?_)
      unfold j_X3_advance_118 j_X3_advance_123
      refine z2_lz (c_end x3 (p := p) (t := ty (B p)) (by omega) (by omega) b4 b6) ?_
      rintro ⟨u3, h4⟩ ⟨e, e1, e2, e3, e4, e5, e7⟩
      dsimp only at e5 e7 ⊢
      have all1 : ∀ j, p ≤ j → j < e → ty (B j) = 1 := fun j j1 j2 => by
        rcases Nat.eq_or_lt_of_le j1 with z | z
        · rw [← z]; exact t1
        · rw [e3 j z j2]; exact t1
      refine z2_rz (r_word (hc := h3) x3 e2 e1 all1 (by rw [t1] at e4; exact e4) m17 m19 m22) ?_
      rintro ⟨u4, r4⟩ ⟨w1, w2, w3⟩
      dsimp only at w1 w2 w3 ⊢
      unfold j_X10_steps_278
      have n17 : gI (sI r4 240 18 1) 240 17 = zi e := by rw [gI_sI, if_neg (by omega)]; exact w1
      have n19 : gI (sI r4 240 18 1) 240 19 = zi p := by rw [gI_sI, if_neg (by omega), w3.i (by omega)]; exact m19
      rw [n17, n19, zi_sub]
      refine z2_some ⟨p, e, p1, ⟨by omega, e2, (e7.i (by omega)).trans b5, e5, ?_, ?_, ?_, Or.inr ⟨e1, t4, (e7.i (by omega)).trans b4, ?_, fun _ => ⟨all1, ?_⟩, fun z => by omega⟩⟩, fc3.trans (e7.mono (by unfold aC; omega)), ((fr2.trans (w3.mono (by unfold aR; omega))).sI (by unfold aR; omega)).sI (by unfold aR; omega)⟩
      · show gI (sI (sI r4 240 18 1) 240 20 _) 240 17 = _
        rw [gI_sI, if_neg (by omega), n17]
      · show gI (sI (sI r4 240 18 1) 240 20 _) 240 19 = _
        rw [gI_sI, if_neg (by omega), n19]
      · show gI (sI (sI r4 240 18 1) 240 20 _) 240 20 = _
        rw [gI_sI, if_pos ⟨rfl, rfl⟩]
        exact congrArg zi (by omega)
      · show gI (sI (sI r4 240 18 1) 240 20 _) 240 18 = _
        rw [gI_sI, if_neg (by omega), gI_sI, if_pos ⟨rfl, rfl⟩, t1]
        rfl
      · show gL (sI (sI r4 240 18 1) 240 20 _) 240 22 = _
        rw [gL_sI, gL_sI]
        exact w2
    · rw [if_neg t1]
      refine z2_lf (zi_nk ((show (1 : Int32) = zi 1 from zi_lit 1)) (by omega) (by omega) (by omega)) (z2_rt rfl ?_)
      refine z2_r (r_digit rb.2) ?_
      by_cases t2 : ty (B p) = 2
      · -- a number
        rw [if_pos t2]
        refine z2_lt (by rw [t2]; rfl) (z2_rf one_ne ?_)
        unfold j_X3_advance_118 j_X3_advance_123
        refine z2_lz (c_end x3 (p := p) (t := ty (B p)) (by omega) (by omega) b4 b6) ?_
        rintro ⟨u3, h4⟩ ⟨e, e1, e2, e3, e4, e5, e7⟩
        dsimp only at e5 e7 ⊢
        have all1 : ∀ j, p ≤ j → j < e → ty (B j) = 2 := fun j j1 j2 => by
          rcases Nat.eq_or_lt_of_le j1 with z | z
          · rw [← z]; exact t2
          · rw [e3 j z j2]; exact t2
        refine z2_rz (r_num (hc := h3) x3 e2 e1 all1 (by rw [t2] at e4; exact e4) m17 m19 m21) ?_
        rintro ⟨u4, r4⟩ ⟨w1, w2, w3⟩
        dsimp only at w1 w2 w3 ⊢
        unfold j_X10_steps_278
        have n17 : gI (sI r4 240 18 2) 240 17 = zi e := by rw [gI_sI, if_neg (by omega)]; exact w1
        have n19 : gI (sI r4 240 18 2) 240 19 = zi p := by rw [gI_sI, if_neg (by omega), w3.i (by omega)]; exact m19
        rw [n17, n19, zi_sub]
        refine z2_some ⟨p, e, p1, ⟨by omega, e2, (e7.i (by omega)).trans b5, e5, ?_, ?_, ?_, Or.inr ⟨e1, t4, (e7.i (by omega)).trans b4, ?_, fun z => by omega, fun _ => ⟨all1, ?_⟩⟩⟩, fc3.trans (e7.mono (by unfold aC; omega)), ((fr2.trans (w3.mono (by unfold aR; omega))).sI (by unfold aR; omega)).sI (by unfold aR; omega)⟩
        · show gI (sI (sI r4 240 18 2) 240 20 _) 240 17 = _
          rw [gI_sI, if_neg (by omega), n17]
        · show gI (sI (sI r4 240 18 2) 240 20 _) 240 19 = _
          rw [gI_sI, if_neg (by omega), n19]
        · show gI (sI (sI r4 240 18 2) 240 20 _) 240 20 = _
          rw [gI_sI, if_pos ⟨rfl, rfl⟩]
          exact congrArg zi (by omega)
        · show gI (sI (sI r4 240 18 2) 240 20 _) 240 18 = _
          rw [gI_sI, if_neg (by omega), gI_sI, if_pos ⟨rfl, rfl⟩, t2]
          rfl
        · show gI (sI (sI r4 240 18 2) 240 20 _) 240 21 = _
          rw [gI_sI, if_neg (by omega), gI_sI, if_neg (by omega)]
          exact w2
      · -- a sign
        rw [if_neg t2]
        refine z2_lf (zi_nk ((show (2 : Int32) = zi 2 from zi_lit 2)) (by omega) (by omega) (by omega)) (z2_rt rfl ?_)
        unfold j_X3_advance_123
        refine z2_l (a := ((), h3)) ?_ ?_
        · show lpH _ (9999 + 1) () h3 = _
          unfold lpH l_X3_advance_124
          rw [if_pos rfl]
        rw [show zi (p : Int) + 1 = zi ((p + 1 : Nat) : Int) from (by first | (simp only [zi_lit, zi_neg, zi_add, zi_sub, zi_mul, zl_lit, zl_neg, zl_add, zl_sub, zl_mul, zl_i]; exact congrArg zi (by omega)) | (simp only [zi_lit, zi_neg, zi_add, zi_sub, zi_mul, zl_lit, zl_neg, zl_add, zl_sub, zl_mul, zl_i]; done) | exact congrArg zi (by omega))]
        have sign : ∀ w : Nat, w = sof (ty (B p)) → z2 (some ((), h3)) (j_X10_steps_275 (zi w) (sI r2 240 17 (zi ((p + 1 : Nat) : Int)))) (fun a b => ∃ p e, q ≤ p ∧ TK n B p e a.2 b.2 ∧ Fr aC hc a.2 ∧ Fr aR hr b.2) := by
          intro w hw
          unfold j_X10_steps_275 j_X10_steps_278
          have n17 : gI (sI (sI r2 240 17 (zi ((p + 1 : Nat) : Int))) 240 18 (zi w)) 240 17 = zi ((p + 1 : Nat) : Int) := by rw [gI_sI, if_neg (by omega), gI_sI, if_pos ⟨rfl, rfl⟩]
          have n19 : gI (sI (sI r2 240 17 (zi ((p + 1 : Nat) : Int))) 240 18 (zi w)) 240 19 = zi p := by rw [gI_sI, if_neg (by omega), gI_sI, if_neg (by omega)]; exact m19
          have n18 : gI (sI (sI r2 240 17 (zi ((p + 1 : Nat) : Int))) 240 18 (zi w)) 240 18 = zi w := by rw [gI_sI, if_pos ⟨rfl, rfl⟩]
          have fr3 : Fr aR hr (sI (sI r2 240 17 (zi ((p + 1 : Nat) : Int))) 240 18 (zi w)) := (fr2.sI (by unfold aR; omega)).sI (by unfold aR; omega)
          rw [n17, n19, zi_sub]
          generalize sI (sI r2 240 17 (zi ((p + 1 : Nat) : Int))) 240 18 (zi w) = r5 at n17 n19 n18 fr3 ⊢
          refine z2_some ⟨p, p + 1, p1, ⟨by omega, by omega, b5, b6, ?_, ?_, ?_, Or.inr ⟨by omega, t4, b4, ?_, fun z => absurd z t1, fun z => absurd z t2⟩⟩, fc3, fr3.sI (by unfold aR; omega)⟩
          · show gI (sI r5 240 20 _) 240 17 = _
            rw [gI_sI, if_neg (by omega), n17]
          · show gI (sI r5 240 20 _) 240 19 = _
            rw [gI_sI, if_neg (by omega), n19]
          · show gI (sI r5 240 20 _) 240 20 = _
            rw [gI_sI, if_pos ⟨rfl, rfl⟩]
            exact congrArg zi (by omega)
          · show gI (sI r5 240 20 _) 240 18 = _
            rw [gI_sI, if_neg (by omega), n18, hw]
        by_cases c59 : B p = 59
        · refine z2_rt (by rw [c59]; rfl) ?_
          exact sign 3 (by rw [c59]; rfl)
        · refine z2_rf (zi_nk ((show (59 : Int32) = zi 59 from zi_lit 59)) (by omega) (by omega) (by omega)) ?_
          refine sign 4 ?_
          have t5 : ty (B p) = 5 := by
            have z1 : ¬ (97 ≤ B p ∧ B p ≤ 122) := fun z => t1 (ty_1.mpr z)
            have z2' : ¬ (48 ≤ B p ∧ B p ≤ 57) := fun z => t2 (ty_2.mpr z)
            have z4 : ¬ (B p = 32 ∨ B p = 10) := fun z => t4 (ty_4.mpr z)
            unfold ty
            rw [if_neg z4, if_neg z1, if_neg z2', if_neg c59]
          rw [t5]
          rfl
end
