/-! 93.feed: the tape: alike -/
theorem fb_eq (x : Int32) : ∀ i : Nat, i < 4 → (x >>> (zi (24 - 8 * (i : Int)) &&& 31)) &&& 255 = iushrF x (zi (24 - 8 * (i : Int))) &&& 255 := by
  intro i hi
  rw [← Int32.toBitVec_inj, Int32.toBitVec_and, Int32.toBitVec_and]
  have c : i = 0 ∨ i = 1 ∨ i = 2 ∨ i = 3 := by omega
  rcases c with rfl | rfl | rfl | rfl
  · exact (bs_and x.toBitVec (n := 24) (m := 8) (by decide) (k := 255#32) (by decide)).symm
  · exact (bs_and x.toBitVec (n := 16) (m := 8) (by decide) (k := 255#32) (by decide)).symm
  · exact (bs_and x.toBitVec (n := 8) (m := 8) (by decide) (k := 255#32) (by decide)).symm
  · exact (bs_and x.toBitVec (n := 0) (m := 8) (by decide) (k := 255#32) (by decide)).symm
/-- the tape of both -/
def TP (tl : Nat) (hc hr : AH) : Prop := gI hc 2 1 = zi tl ∧ gI hr 240 12 = zi tl ∧ ∀ i, i < tl → ∃ b : Nat, b < 256 ∧ gI hc 3 i = zi b ∧ gI hr 245 i = zi b
def tC (a k : Nat) : Prop := (a = 2 ∧ k = 1) ∨ a = 3
def tR (a k : Nat) : Prop := (a = 240 ∧ k = 12) ∨ a = 245
section
variable {D : HD} {T : Nat} {h hc hr : AH}
theorem lay_3 : LAY 3 = (1, 700) ∧ LAY 245 = (1, 700) ∧ LAY 4 = (1, 700) := by decide +kernel
theorem x_add {tl : Nat} (a : Int32) (ht : tl + 4 ≤ 700) (t : TP tl hc hr) : z2 (s_X7_add a hc) (s_X10_lays a hr) (fun x y => TP (tl + 4) x.2 y.2 ∧ Fr tC hc x.2 ∧ Fr tR hr y.2) := by
  unfold s_X7_add s_X10_lays
  refine z2_bd (P := fun x y => TP (tl + 4) x.2 y.2 ∧ Fr tC hc x.2 ∧ Fr tR hr y.2) ?_ (fun x y q => z2_some q)
  refine z2_for 4 (fun i s h t j => s = zi (24 - 8 * (i : Int)) ∧ t = zi (24 - 8 * (i : Int)) ∧ TP (tl + i) h j ∧ Fr tC hc h ∧ Fr tR hr j) (by decide) ⟨rfl, rfl, t, Fr.refl _ hc, Fr.refl _ hr⟩ ?_ ?_
  · rintro i s h t j hi ⟨rfl, rfl, ⟨t1, t2, t3⟩, fc, fr⟩
    obtain ⟨b, hb, eb⟩ := i_and (iushrF a (zi (24 - 8 * (i : Int)))) (k := 255) (by decide)
    have eb' : iushrF a (zi (24 - 8 * (i : Int))) &&& 255 = zi b := eb
    have es : zi (24 - 8 * (i : Int)) + -8 = zi (24 - 8 * ((i + 1 : Nat) : Int)) := (by first | (simp only [zi_lit, zi_neg, zi_add, zi_sub, zi_mul, zl_lit, zl_neg, zl_add, zl_sub, zl_mul, zl_i]; exact congrArg zi (by omega)) | (simp only [zi_lit, zi_neg, zi_add, zi_sub, zi_mul, zl_lit, zl_neg, zl_add, zl_sub, zl_mul, zl_i]; done) | exact congrArg zi (by omega))
    unfold l_X7_add_3 l_X10_lays_3 j_X7_add_45_3
    refine z2_lf (by rw [(show (0 : Int32) = zi 0 from zi_lit 0), zi_lt (by omega) (by omega) (by omega) (by omega)]; show ¬ (24 - 8 * (i : Int)) < 0; omega) ?_
    refine z2_rf (by rw [(show (0 : Int32) = zi 0 from zi_lit 0), zi_lt (by omega) (by omega) (by omega) (by omega)]; show ¬ (24 - 8 * (i : Int)) < 0; omega) ?_
    rw [t1, t2, fb_eq a i hi, eb', es]
    refine z2_lf (by rw [(show (700 : Int32) = zi 700 from zi_lit 700), zi_le (by omega) (by omega) (by omega) (by omega)]; show ¬ (700 : Int) ≤ ((tl + i : Nat) : Int); omega) ?_
    refine z2_l (put_ok (tl + i) (n := 700) lay_3.1 rfl (by omega)) ?_
    refine z2_r (stI_ok (tl + i) (n := 700) lay_3.2.1 rfl (by omega)) ?_
    have e1 : gI (sI h 3 (tl + i) (zi b)) 2 1 = zi ((tl + i : Nat) : Int) := by rw [gI_sI, if_neg (by omega)]; exact t1
    have e2 : gI (sI j 245 (tl + i) (zi b)) 240 12 = zi ((tl + i : Nat) : Int) := by rw [gI_sI, if_neg (by omega)]; exact t2
    dsimp only
    rw [e1, e2, show zi ((tl + i : Nat) : Int) + 1 = zi ((tl + (i + 1) : Nat) : Int) from (by first | (simp only [zi_lit, zi_neg, zi_add, zi_sub, zi_mul, zl_lit, zl_neg, zl_add, zl_sub, zl_mul, zl_i]; exact congrArg zi (by omega)) | (simp only [zi_lit, zi_neg, zi_add, zi_sub, zi_mul, zl_lit, zl_neg, zl_add, zl_sub, zl_mul, zl_i]; done) | exact congrArg zi (by omega))]
    refine z2_some ⟨_, _, rfl, rfl, rfl, rfl, ⟨?_, ?_, fun u hu => ?_⟩, (fc.sI (Or.inr rfl)).sI (Or.inl ⟨rfl, rfl⟩), (fr.sI (Or.inr rfl)).sI (Or.inl ⟨rfl, rfl⟩)⟩
    · show gI (sI (sI h 3 _ _) 2 1 _) 2 1 = _
      rw [gI_sI, if_pos ⟨rfl, rfl⟩]
    · show gI (sI (sI j 245 _ _) 240 12 _) 240 12 = _
      rw [gI_sI, if_pos ⟨rfl, rfl⟩]
    · have c3 : ∀ w : Int32, gI (sI (sI h 3 (tl + i) (zi b)) 2 1 w) 3 u = if u = tl + i then zi b else gI h 3 u := fun w => by
        rw [gI_sI, if_neg (by omega), gI_sI]
        by_cases q : u = tl + i
        · rw [if_pos ⟨rfl, q⟩, if_pos q]
        · rw [if_neg (fun z => q z.2), if_neg q]
      have c4 : ∀ w : Int32, gI (sI (sI j 245 (tl + i) (zi b)) 240 12 w) 245 u = if u = tl + i then zi b else gI j 245 u := fun w => by
        rw [gI_sI, if_neg (by omega), gI_sI]
        by_cases q : u = tl + i
        · rw [if_pos ⟨rfl, q⟩, if_pos q]
        · rw [if_neg (fun z => q z.2), if_neg q]
      by_cases q : u = tl + i
      · exact ⟨b, by omega, (c3 _).trans (if_pos q), (c4 _).trans (if_pos q)⟩
      · obtain ⟨b', w1, w2, w3⟩ := t3 u (by omega)
        exact ⟨b', w1, ((c3 _).trans (if_neg q)).trans w2, ((c4 _).trans (if_neg q)).trans w3⟩
  · rintro s h t j ⟨rfl, rfl, tt, fc, fr⟩
    unfold l_X7_add_3 l_X10_lays_3
    exact z2_lt (by decide) (z2_rt (by decide) (z2_some ⟨_, _, rfl, rfl, tt, fc, fr⟩))
theorem x_adds {tl : Nat} (a b c d e : Int32) (ht : tl + 20 ≤ 700) (t : TP tl hc hr) : z2 (bd (s_X7_add a hc) fun q1 => bd (s_X7_add b q1.2) fun q2 => bd (s_X7_add c q2.2) fun q3 => bd (s_X7_add d q3.2) fun q4 => bd (s_X7_add e q4.2) fun q5 => some ((gI q5.2 2 1), q5.2)) (bd (s_X10_lays a hr) fun q1 => bd (s_X10_lays b q1.2) fun q2 => bd (s_X10_lays c q2.2) fun q3 => bd (s_X10_lays d q3.2) fun q4 => bd (s_X10_lays e q4.2) fun q5 => some ((gI q5.2 240 12), q5.2)) (fun x y => x.1 = zi ((tl + 20 : Nat) : Int) ∧ y.1 = zi ((tl + 20 : Nat) : Int) ∧ TP (tl + 20) x.2 y.2 ∧ Fr tC hc x.2 ∧ Fr tR hr y.2) := by
  refine z2_bd (x_add a (by omega) t) ?_
  rintro ⟨u1, c1⟩ ⟨v1, r1⟩ ⟨t1, f1, g1⟩
  dsimp only at t1 f1 g1 ⊢
  refine z2_bd (x_add b (by omega) t1) ?_
  rintro ⟨u2, c2⟩ ⟨v2, r2⟩ ⟨t2, f2, g2⟩
  dsimp only at t2 f2 g2 ⊢
  refine z2_bd (x_add c (by omega) t2) ?_
  rintro ⟨u3, c3⟩ ⟨v3, r3⟩ ⟨t3, f3, g3⟩
  dsimp only at t3 f3 g3 ⊢
  refine z2_bd (x_add d (by omega) t3) ?_
  rintro ⟨u4, c4⟩ ⟨v4, r4⟩ ⟨t4, f4, g4⟩
  dsimp only at t4 f4 g4 ⊢
  refine z2_bd (x_add e (by omega) t4) ?_
  rintro ⟨u5, c5⟩ ⟨v5, r5⟩ ⟨t5, f5, g5⟩
  dsimp only at t5 f5 g5 ⊢
  exact z2_some ⟨t5.1, t5.2.1, t5, (((f1.trans f2).trans f3).trans f4).trans f5, (((g1.trans g2).trans g3).trans g4).trans g5⟩
theorem IVd.tape (x : IVd D T h) : ∃ tl : Nat, tl ≤ 700 ∧ TP tl h h := by
  obtain ⟨tl, t1, t2, t3, t4⟩ := x.2.2.2.2.2.1
  exact ⟨tl, t1, t2, t3, t4⟩
theorem IVd.frT {h' : AH} (x : IVd D T h) (f : Fr (fun a k => SC a k ∨ tC a k ∨ tR a k) h h') (z : IVt h') : IVd D T h' := by
  obtain ⟨h1, h2, h3, h4, h5, h6, h7, h8, h9, h10, h11, h12, h13⟩ := x
  exact ⟨h1, h2, (f.r (by unfold SC tC tR; omega)).trans h3, h4.fr h1 f (by intro a k; unfold YCa SC tC tR; omega), h5.fr f (by intro a k; unfold YRa SC tC tR; omega), z, h7.fr f (by intro a k; unfold SC tC tR; omega), h8.fr f (by intro a k; unfold SC tC tR; omega), h9.fr f (by intro a k; unfold SC tC tR; omega), h10.fr f (by intro a k; unfold SC tC tR; omega), h11.fr f (by intro a k; unfold SC tC tR; omega), h12.fr f h1.K6 (by intro a k; unfold SC tC tR; omega), h13.fr f h1.K6 (by intro a k; unfold SC tC tR; omega)⟩
theorem g_feed (x : IVd D T h) (a b c d e : Int32) : ∃ v h1 h2, s_X9_feed a b c d e h = some (v, h1) ∧ s_X10_feed a b c d e h1 = some (v, h2) ∧ IV h2 := by
  obtain ⟨tl, ht, t⟩ := x.tape
  by_cases q : tl + 20 ≤ 700
  · obtain ⟨⟨v, c1⟩, w, e1, -, hv, -, -, f1, -⟩ := x_adds (hr := h) a b c d e q t
    dsimp only at hv f1
    have t' : TP tl h (sI c1 240 0 0) := by
      refine ⟨t.1, ?_, fun i hi => ?_⟩
      · rw [gI_sI, if_neg (by omega), f1.i (by unfold tC; omega)]; exact t.2.1
      · obtain ⟨b, b1, b2, b3⟩ := t.2.2 i hi
        exact ⟨b, b1, b2, by rw [gI_sI, if_neg (by omega), f1.i (by unfold tC; omega)]; exact b3⟩
    obtain ⟨⟨v2, c2⟩, ⟨w2, r2⟩, e2, e3, hv2, hw2, t2, f2, g2⟩ := x_adds a b c d e q t'
    dsimp only at hv2 hw2 t2 f2 g2
    have same : c2 = c1 := by
      rw [e1] at e2
      exact (Prod.mk.inj (Option.some.inj e2)).2.symm
    subst same
    subst hv hw2
    have fg : Fr (fun a k => (a = 240 ∧ k = 0) ∨ tR a k) c2 r2 := ((Fr.refl (fun a k => (a = 240 ∧ k = 0) ∨ tR a k) c2).sI (Or.inl ⟨rfl, rfl⟩)).trans (g2.mono (fun a k q => Or.inr q))
    have ff : Fr (fun a k => SC a k ∨ tC a k ∨ tR a k) h r2 := (f2.mono (fun a k q => Or.inr (Or.inl q))).trans (fg.mono (by unfold SC; intro a k q; rcases q with q | q; exact Or.inl (by omega); exact Or.inr (Or.inr q)))
    refine ⟨zi ((tl + 20 : Nat) : Int), c2, r2, ?_, ?_, D, T, x.frT ff ⟨tl + 20, q, ?_, t2.2.1, fun i hi => ?_⟩⟩
    · unfold s_X9_feed
      rw [t.1, if_pos (by rw [show zi (tl : Int) + 20 = zi ((tl : Int) + 20) from zi_add _ 20, (show (700 : Int32) = zi 700 from zi_lit 700), zi_le (by omega) (by omega) (by omega) (by omega)]; show (tl : Int) + 20 ≤ 700; omega)]
      exact e1
    · unfold s_X10_feed
      rw [t'.2.1, if_pos (by rw [show zi (tl : Int) + 20 = zi ((tl : Int) + 20) from zi_add _ 20, (show (700 : Int32) = zi 700 from zi_lit 700), zi_le (by omega) (by omega) (by omega) (by omega)]; show (tl : Int) + 20 ≤ 700; omega)]
      exact e3
    · rw [fg.i (by unfold tR; omega)]; exact t2.1
    · obtain ⟨b, b1, b2, b3⟩ := t2.2.2 i hi
      exact ⟨b, b1, by rw [fg.i (by unfold tR; omega)]; exact b2, b3⟩
  · refine ⟨-1, h, sI h 240 0 0, ?_, ?_, D, T, x.z⟩
    · unfold s_X9_feed
      rw [t.1, if_neg (by rw [show zi (tl : Int) + 20 = zi ((tl : Int) + 20) from zi_add _ 20, (show (700 : Int32) = zi 700 from zi_lit 700), zi_le (by omega) (by omega) (by omega) (by omega)]; show ¬ (tl : Int) + 20 ≤ 700; omega)]
    · unfold s_X10_feed
      have e : gI (sI h 240 0 0) 240 12 = zi tl := by rw [gI_sI, if_neg (by omega)]; exact t.2.1
      rw [e, if_neg (by rw [show zi (tl : Int) + 20 = zi ((tl : Int) + 20) from zi_add _ 20, (show (700 : Int32) = zi 700 from zi_lit 700), zi_le (by omega) (by omega) (by omega) (by omega)]; show ¬ (tl : Int) + 20 ≤ 700; omega)]
end
