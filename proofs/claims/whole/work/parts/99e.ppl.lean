/-! 99e.ppl: the lines of people and of seats, whole -/
section
variable {D : HD} {h hc hr : AH} {n T q : Nat} {B : Nat → Nat} {f : Nat → Bool}
theorem x_pplLine (hT : TL T) (x : RS n B T q hc hr) (g : nofl hc) (d : LD D T f hc hr) : z2 (s_X3_readPeople hc) (s_X10_readsPeople hr) (fun a b => RS n B T q a.2 b.2 ∧ Fr (lnC T) hc a.2 ∧ Fr lnR hr b.2 ∧ (nofl a.2 → ∃ D f, LD D T f a.2 b.2)) := by
  have bT := hT.b
  obtain ⟨d1, d2, d3, d4, d5, d6, d7⟩ := id d
  have hK6 := d3.K6
  have into := x.2.1
  unfold s_X10_readsPeople
  rw [d2.1.2.2.2.1]
  by_cases q0 : D.K = 6
  · refine z2_rt (by rw [q0]; rfl) ?_
    obtain ⟨⟨u1, a⟩, ⟨u2, b⟩, e1, e2, y1, y2, y3, y4, y5, -⟩ := x_ref (q' := q) x (F := 2) (by decide) g
    dsimp only at y1 y2 y3 y4 y5
    have eq : s_X3_readPeople hc = s_X3_readPeople a := by
      have t2 : s_X3_tellNext (gI hc T 3) 6 hc = some ((), a) := by
        unfold s_X3_tellNext j_X3_tellNext_10
        rw [d1.1.2.2.2.1, if_neg (by rw [(show (6 : Int32) = zi 6 from zi_lit 6), zi_lt (by omega) (by omega) (by omega) (by omega)]; show ¬ ((D.K : Nat) : Int) < 6; omega), e1, bd_v, b_adv y2]
        rfl
      unfold s_X3_readPeople
      rw [into, y1.2.1, bd_v, bd_v, if_pos hT.l0, if_pos hT.l0, t2, b_next y2]
    rw [eq]
    obtain ⟨r, e3, f3⟩ := b_people hT y1 y2
    refine ⟨r, ((), b), e3, ?_, y1.ln hT f3 (Fr.refl lR b), (y3.mono (fun a k z => Or.inl z)).trans (f3.mono (fun a k z => Or.inr z)), y4.mono (fun a k z => Or.inl z), fun z => absurd ((nofl_ln hT f3).symm.trans z) y2⟩
    rw [e2, bd_v]
    unfold j_X10_readsPeople_14
    rw [y1.bad y2, bd_v, if_pos rfl]
  · have hK : D.K < 6 := by omega
    refine z2_rf (by rw [(show (6 : Int32) = zi 6 from zi_lit 6), zi_eq (by omega) (by omega) (by omega) (by omega)]; show ¬ ((D.K : Nat) : Int) = 6; omega) ?_
    unfold j_X10_readsPeople_14
    refine z2_r (x.good g) (z2_rf one_ne ?_)
    obtain ⟨-, -, -, ⟨p, e, x4, x5⟩, -⟩ := id x
    have hq : q ≤ e := Nat.le_trans (x5 g) x4.1
    obtain ⟨⟨u1, a1⟩, ⟨u2, b1'⟩, e1, e2, y1, y2, y3, y4⟩ := x_next x g x4
    dsimp only at y1 y2 y3 y4
    have t2 : s_X3_tellNext (gI hc T 3) 6 hc = some ((), a1) := by
      unfold s_X3_tellNext j_X3_tellNext_10
      rw [d1.1.2.2.2.1, if_pos (by rw [(show (6 : Int32) = zi 6 from zi_lit 6), zi_lt (by omega) (by omega) (by omega) (by omega)]; show ((D.K : Nat) : Int) < 6; omega), e1, bd_v]
    have dd := d.op hT y3 y4
    have n1 : gI a1 T 3 = zi D.K := dd.1.1.2.2.2.1
    have m1 : gI b1' 240 26 = zi D.K := dd.2.1.1.2.2.2.1
    unfold s_X3_readPeople
    rw [into, bd_v, if_pos hT.l0, t2, bd_v]
    dsimp only
    rw [y1.2.1, bd_v, if_pos hT.l0, n1]
    refine z2_r e2 ?_
    dsimp only
    rw [m1]
    have i0 : zi (D.K : Int) * 11 + 0 = zi ((11 * D.K + 0 : Nat) : Int) := (by first | (simp only [zi_lit, zi_neg, zi_add, zi_sub, zi_mul, zl_lit, zl_neg, zl_add, zl_sub, zl_mul, zl_i]; exact congrArg zi (by omega)) | (simp only [zi_lit, zi_neg, zi_add, zi_sub, zi_mul, zl_lit, zl_neg, zl_add, zl_sub, zl_mul, zl_i]; done) | exact congrArg zi (by omega))
    have iK : zi (D.K : Int) * 11 = zi ((11 * D.K : Nat) : Int) := (by first | (simp only [zi_lit, zi_neg, zi_add, zi_sub, zi_mul, zl_lit, zl_neg, zl_add, zl_sub, zl_mul, zl_i]; exact congrArg zi (by omega)) | (simp only [zi_lit, zi_neg, zi_add, zi_sub, zi_mul, zl_lit, zl_neg, zl_add, zl_sub, zl_mul, zl_i]; done) | exact congrArg zi (by omega))
    have jK : (11 : Int32) * zi (D.K : Int) = zi ((11 * D.K : Nat) : Int) := (by first | (simp only [zi_lit, zi_neg, zi_add, zi_sub, zi_mul, zl_lit, zl_neg, zl_add, zl_sub, zl_mul, zl_i]; exact congrArg zi (by omega)) | (simp only [zi_lit, zi_neg, zi_add, zi_sub, zi_mul, zl_lit, zl_neg, zl_add, zl_sub, zl_mul, zl_i]; done) | exact congrArg zi (by omega))
    have ii : ∀ m : Nat, ∀ w : Int32, w = zi (m : Int) → zi ((11 * D.K : Nat) : Int) + w = zi ((11 * D.K + m : Nat) : Int) := fun m w hw => by rw [hw]; exact (by first | (simp only [zi_lit, zi_neg, zi_add, zi_sub, zi_mul, zl_lit, zl_neg, zl_add, zl_sub, zl_mul, zl_i]; exact congrArg zi (by omega)) | (simp only [zi_lit, zi_neg, zi_add, zi_sub, zi_mul, zl_lit, zl_neg, zl_add, zl_sub, zl_mul, zl_i]; done) | exact congrArg zi (by omega))
    -- how many
    refine z2_bd (x_take (l := 0) (m := 60) y1 (by decide) (by decide) (by decide) rfl rfl rfl rfl) ?_
    rintro ⟨w0, a2⟩ ⟨z0, b2⟩ ⟨r2, f2, h2, v2⟩
    dsimp only at r2 f2 h2 v2 ⊢
    rw [r2.2.1, bd_v, if_pos hT.l0, bd_v, if_pos hT.l0, show gI a2 T 3 = zi D.K from (f2.i (by unfold opC; omega)).trans n1, i0, iK, jK]
    refine z2_l (put_ok D.K (n := 6) hT.l4 rfl hK) ?_
    have fk : Fr (lC T) a2 (sI a2 (T + 4) D.K w0) := (Fr.refl _ a2).sI (by unfold lC; omega)
    dsimp only
    rw [(into_ln hT fk).trans r2.2.1, bd_v, if_pos hT.l0]
    refine z2_l (put_ok (11 * D.K + 0) (n := 66) hT.l3 rfl (by omega)) (z2_r (stI_ok (11 * D.K + 0) (n := 66) rfl rfl (by omega)) ?_)
    have fc3 : Fr (lC T) a2 (sI (sI a2 (T + 4) D.K w0) (T + 3) (11 * D.K + 0) w0) := fk.sI (by unfold lC; omega)
    have fr3 : Fr lR b2 (sI b2 248 (11 * D.K + 0) z0) := (Fr.refl _ b2).sI (by unfold lR; omega)
    have s1 : SP n B T e D a1 b1' 1 (sI (sI a2 (T + 4) D.K w0) (T + 3) (11 * D.K + 0) w0) (sI b2 248 (11 * D.K + 0) z0) := by
      refine ⟨(r2.ln hT fc3 fr3).le (by omega), ((f2.mono (fun a k z => Or.inl z) : Fr (cpP D T) a1 a2).sI (by unfold cpP; omega)).sI (by unfold cpP; omega), (h2.mono (fun a k z => Or.inl z) : Fr (rpP D) b1' b2).sI (by unfold rpP; omega), fun z => ?_⟩
      obtain ⟨-, v, rfl, rfl, v3, v4⟩ := v2 ((nofl_ln hT fc3).symm.trans z)
      refine ⟨fun i hi => ⟨v, ?_, ?_, v3, ?_⟩, fun _ => ?_⟩
      · have : i = 0 := by omega
        rw [this, gI_sI, if_pos ⟨rfl, rfl⟩]
      · have : i = 0 := by omega
        rw [this, gI_sI, if_pos ⟨rfl, rfl⟩]
      · have : i = 0 := by omega
        rw [this]; exact v4
      · rw [gI_sI, if_neg (by omega), gI_sI, if_pos ⟨rfl, rfl⟩, gI_sI, if_pos ⟨rfl, by omega⟩]
    dsimp only
    generalize sI (sI a2 (T + 4) D.K w0) (T + 3) (11 * D.K + 0) w0 = a3 at s1 ⊢
    generalize sI b2 248 (11 * D.K + 0) z0 = b3 at s1 ⊢
    -- comes
    unfold s_X10_named
    simp only [bd_bd]
    refine x_need s1.1 (c := 5) (by decide) rfl ?_
    rintro ⟨u5, a4⟩ ⟨u6, b4⟩ r4 f4 h4 g4
    dsimp only at r4 f4 h4 g4 ⊢
    have s2 := s1.op hT r4 (by omega) f4 h4 g4
    refine z2_bd (x_take (l := 0) (m := 1000) s2.1 (by decide) (by decide) (by decide) rfl rfl rfl rfl) ?_
    rintro ⟨w1, a5⟩ ⟨z1, b5⟩ ⟨r5, f5, h5, v5⟩
    dsimp only at r5 f5 h5 v5 ⊢
    rw [bd_v, r5.2.1, bd_v, if_pos hT.l0, ii 1 1 rfl]
    refine z2_l (put_ok (11 * D.K + 1) (n := 66) hT.l3 rfl (by omega)) (z2_r (stI_ok (11 * D.K + 1) (n := 66) rfl rfl (by omega)) (z2_r (ldI_ok (11 * D.K + 1) (n := 66) rfl rfl (by omega)) ?_))
    have s3 := (s2.op hT r5 (by omega) f5 h5 (fun z => (v5 z).1)).put (w := w1) (z := z1) hT hK (by decide) (by decide) (fun z => by
      obtain ⟨-, v, v3, v4, v6, v7⟩ := v5 z
      exact ⟨v, v3, v4, v6, v7⟩)
    have fc6 : Fr (lC T) a5 (sI a5 (T + 3) (11 * D.K + 1) w1) := (Fr.refl _ a5).sI (by unfold lC; omega)
    have z6 : gI (sI b5 248 (11 * D.K + 1) z1) 248 (11 * D.K + 1) = z1 := by rw [gI_sI, if_pos ⟨rfl, rfl⟩]
    have v6 : nofl (sI a5 (T + 3) (11 * D.K + 1) w1) → ∃ v : Int, w1 = zi v ∧ z1 = zi v ∧ 0 ≤ v ∧ v ≤ 1000 := fun z => (v5 ((nofl_ln hT fc6).symm.trans z)).2
    rw [z6]
    dsimp only
    generalize sI a5 (T + 3) (11 * D.K + 1) w1 = a6 at s3 v6 ⊢
    generalize sI b5 248 (11 * D.K + 1) z1 = b6 at s3 ⊢
    rw [s3.1.2.1, bd_v, if_pos hT.l0]
    -- thinks
    refine x_pplPerh (K := fun v h => j_X3_readPeople_124 (zi ((11 * D.K : Nat) : Int)) v (zi ((11 * D.K : Nat) : Int) + 2) (T + 3) h) (hi := 1000) (m := 2) hT hK (by decide) (by decide) s3 (c := 6) (by decide) rfl rfl (by decide) (ii 2 2 rfl) (ii 2 2 rfl) rfl rfl v6 (fun v h => rfl) ?_
    intro a7 b7 s4
    dsimp only
    rw [s4.1.2.1, bd_v, if_pos hT.l0]
    -- wet
    refine x_pplPerh (K := fun v h => j_X3_readPeople_158 (zi ((11 * D.K : Nat) : Int)) v (zi ((11 * D.K : Nat) : Int) + 3) (T + 3) h) (hi := 1000) (m := 3) hT hK (by decide) (by decide) s4 (c := 7) (by decide) rfl rfl (by decide) (ii 3 3 rfl) (ii 3 3 rfl) rfl rfl (fun _ => ⟨0, rfl, rfl, by decide, by decide⟩) (fun v h => rfl) ?_
    intro a8 b8 s5
    dsimp only
    rw [s5.1.2.1, bd_v, if_pos hT.l0]
    -- habit
    refine x_pplPerh (K := fun v h => j_X3_readPeople_192 (zi ((11 * D.K : Nat) : Int)) v (zi ((11 * D.K : Nat) : Int) + 4) (T + 3) h) (hi := 1000) (m := 4) hT hK (by decide) (by decide) s5 (c := 8) (by decide) rfl rfl (by decide) (ii 4 4 rfl) (ii 4 4 rfl) rfl rfl (fun _ => ⟨0, rfl, rfl, by decide, by decide⟩) (fun v h => rfl) ?_
    intro a9 b9 s6
    dsimp only
    rw [s6.1.2.1, bd_v, if_pos hT.l0]
    -- falls
    refine x_pplPerh (K := fun v h => j_X3_readPeople_226 (zi ((11 * D.K : Nat) : Int)) v (zi ((11 * D.K : Nat) : Int) + 5) (T + 3) h) (hi := 500) (m := 5) hT hK (by decide) (by decide) s6 (c := 9) (by decide) rfl rfl (by decide) (ii 5 5 rfl) (ii 5 5 rfl) rfl rfl (fun _ => ⟨0, rfl, rfl, by decide, by decide⟩) (fun v h => rfl) ?_
    intro aa ba s7
    dsimp only
    -- worth
    refine x_need s7.1 (c := 10) (by decide) rfl ?_
    rintro ⟨u7, ab⟩ ⟨u8, bb⟩ r8 f8 h8 g8
    dsimp only at r8 f8 h8 g8 ⊢
    have s8 := s7.op hT r8 (by omega) f8 h8 g8
    refine z2_bd (P := fun x y => SP n B T e D a1 b1' 10 x.2 y.2) ?_ ?_
    · refine z2_for 4 (fun i s h t j => s = zi (i : Int) ∧ t = zi (i : Int) ∧ SP n B T e D a1 b1' (6 + i) h j) (by decide) ⟨rfl, rfl, s8⟩ ?_ ?_
      · rintro i s h t j hi ⟨rfl, rfl, si⟩
        unfold l_X3_readPeople_238 l_X10_readsPeople_160
        refine z2_lf (by rw [(show (4 : Int32) = zi 4 from zi_lit 4), zi_le (by omega) (by omega) (by omega) (by omega)]; show ¬ (4 : Int) ≤ i; omega) (z2_rf (by rw [(show (4 : Int32) = zi 4 from zi_lit 4), zi_le (by omega) (by omega) (by omega) (by omega)]; show ¬ (4 : Int) ≤ i; omega) ?_)
        rw [si.1.2.1, bd_v, if_pos hT.l0]
        have e6 : zi ((11 * D.K : Nat) : Int) + 6 + zi (i : Int) = zi ((11 * D.K + (6 + i) : Nat) : Int) := (by first | (simp only [zi_lit, zi_neg, zi_add, zi_sub, zi_mul, zl_lit, zl_neg, zl_add, zl_sub, zl_mul, zl_i]; exact congrArg zi (by omega)) | (simp only [zi_lit, zi_neg, zi_add, zi_sub, zi_mul, zl_lit, zl_neg, zl_add, zl_sub, zl_mul, zl_i]; done) | exact congrArg zi (by omega))
        refine x_pplTake (K := fun q29 => some (Sum.inl (zi (i : Int) + 1), q29.2)) (G := fun m19 => some (Sum.inl (zi (i : Int) + 1), m19)) (hi := 999) (m := 6 + i) hT hK (by omega) (by omega) si ?_ (by decide) e6 e6 rfl rfl ?_
        · unfold hiP
          rw [if_neg (by omega), if_neg (by omega), if_neg (by omega), if_pos (by omega)]
        · intro a b sb
          have ei : zi (i : Int) + 1 = zi ((i + 1 : Nat) : Int) := (by first | (simp only [zi_lit, zi_neg, zi_add, zi_sub, zi_mul, zl_lit, zl_neg, zl_add, zl_sub, zl_mul, zl_i]; exact congrArg zi (by omega)) | (simp only [zi_lit, zi_neg, zi_add, zi_sub, zi_mul, zl_lit, zl_neg, zl_add, zl_sub, zl_mul, zl_i]; done) | exact congrArg zi (by omega))
          exact z2_some ⟨_, _, rfl, rfl, ei, ei, sb⟩
      · rintro s h t j ⟨rfl, rfl, si⟩
        unfold l_X3_readPeople_238 l_X10_readsPeople_160
        exact z2_lt (by decide) (z2_rt (by decide) (z2_some ⟨_, _, rfl, rfl, si⟩))
    · rintro ⟨u9, ac⟩ ⟨v9, bc⟩ s9
      dsimp only at s9 ⊢
      rw [s9.1.2.1, bd_v, if_pos hT.l0, ii 10 10 rfl]
      -- young
      have last : ∀ (w : Bool) (a b : AH), SP n B T e D a1 b1' 10 a b → z2 (j_X3_readPeople_300 (b1 w) (zi ((11 * D.K + 10 : Nat) : Int)) (T + 3) a) (j_X10_readsPeople_237 (b1 w) (zi ((11 * D.K + 10 : Nat) : Int)) b) (fun a b => RS n B T q a.2 b.2 ∧ Fr (lnC T) hc a.2 ∧ Fr lnR hr b.2 ∧ (nofl a.2 → ∃ D f, LD D T f a.2 b.2)) := by
        intro w a b sa
        unfold j_X3_readPeople_300 j_X10_readsPeople_237
        refine z2_l (put_ok (11 * D.K + 10) (n := 66) hT.l3 rfl (by omega)) (z2_r (stI_ok (11 * D.K + 10) (n := 66) rfl rfl (by omega)) ?_)
        have sb := sa.put (w := b1 w) (z := b1 w) hT hK (by decide) (by decide) (fun _ => by
          cases w
          · exact ⟨0, rfl, rfl, by decide, by decide⟩
          · exact ⟨1, rfl, rfl, by decide, by decide⟩)
        dsimp only
        refine z2_mono (x_pplEnd hT hK dd sb) ?_
        rintro a b ⟨z1, z2', z3, z4⟩
        refine ⟨z1.le hq, (y3.mono (fun a k z => Or.inl z)).trans (z2'.mono ?_), (y4.mono (fun a k z => Or.inl z)).trans (z3.mono ?_), z4⟩
        · intro a k z
          unfold cpP at z
          unfold lC at z ⊢
          rcases z with (z | z) | z
          · exact Or.inl z
          · exact Or.inr (by omega)
          · exact Or.inr z
        · intro a k z
          unfold rpP at z
          unfold lR at z ⊢
          rcases z with (z | z) | z
          · exact Or.inl z
          · exact Or.inr (by omega)
          · exact Or.inr z
      have r210 : ∀ b : AH, j_X10_readsPeople_210 (zi ((11 * D.K : Nat) : Int)) b = j_X10_readsPeople_237 (b1 false) (zi ((11 * D.K + 10 : Nat) : Int)) b := fun b => by
        unfold j_X10_readsPeople_210 j_X10_readsPeople_211 j_X10_readsPeople_220
        rw [if_pos rfl, if_pos rfl, ii 10 10 rfl]
        rfl
      by_cases g9 : nofl ac
      · have hgood := s9.1.good g9
        obtain ⟨x1, x2, x3, ⟨p', e', k4, k5⟩, x6⟩ := id s9.1
        obtain ⟨w, w1, w2, w3⟩ := x_is x1 k4 (c := 11) (by decide)
        unfold s_X3_takesWord
        rw [w2, bd_v]
        refine z2_r hgood (z2_rf one_ne (z2_r w3 ?_))
        cases w
        · rw [if_pos (show b1 false = 0 from rfl), if_pos (show b1 false = 0 ∨ b1 false = 1 from Or.inl rfl), bd_v]
          refine z2_lt rfl ?_
          rw [if_pos (show b1 false = 0 from rfl), r210]
          exact last false ac bc s9
        · rw [if_neg (show ¬ b1 true = 0 by decide)]
          obtain ⟨⟨u3, ad⟩, ⟨u4, bd'⟩, ee1, ee2, yy1, yy2, yy3, yy4⟩ := x_next s9.1 g9 k4
          dsimp only at yy1 yy2 yy3 yy4
          rw [ee1, bd_v, if_pos (show b1 true = 0 ∨ b1 true = 1 from Or.inr rfl), bd_v]
          refine z2_lf (show ¬ b1 true = 0 by decide) ?_
          rw [if_neg (show ¬ b1 true = 0 by decide)]
          unfold j_X10_readsPeople_211 j_X10_readsPeople_220
          rw [if_neg one_ne, ee2, bd_v, if_neg one_ne, ii 10 10 rfl]
          have := k5 g9
          have := k4.1
          exact last true ad bd' (s9.op hT yy1 (by omega) yy3 yy4 (fun _ => g9))
      · obtain ⟨w, hw⟩ := b_takes s9.1 g9 (c := 11) (by decide)
        rw [hw, bd_v]
        refine z2_r (s9.1.bad g9) (z2_rt rfl ?_)
        rw [r210]
        have bad : ∀ w : Bool, z2 (j_X3_readPeople_300 (b1 w) (zi ((11 * D.K + 10 : Nat) : Int)) (T + 3) ac) (j_X10_readsPeople_237 (b1 false) (zi ((11 * D.K + 10 : Nat) : Int)) bc) (fun a b => RS n B T q a.2 b.2 ∧ Fr (lnC T) hc a.2 ∧ Fr lnR hr b.2 ∧ (nofl a.2 → ∃ D f, LD D T f a.2 b.2)) := by
          intro w
          unfold j_X3_readPeople_300 j_X10_readsPeople_237
          refine z2_l (put_ok (11 * D.K + 10) (n := 66) hT.l3 rfl (by omega)) (z2_r (stI_ok (11 * D.K + 10) (n := 66) rfl rfl (by omega)) ?_)
          have sb := s9.put (w := b1 w) (z := b1 false) hT hK (by decide) (by decide) (fun z => absurd z g9)
          dsimp only
          refine z2_mono (x_pplEnd hT hK dd sb) ?_
          rintro a b ⟨z1, z2', z3, z4⟩
          refine ⟨z1.le hq, (y3.mono (fun a k z => Or.inl z)).trans (z2'.mono ?_), (y4.mono (fun a k z => Or.inl z)).trans (z3.mono ?_), z4⟩
          · intro a k z
            unfold cpP at z
            unfold lC at z ⊢
            rcases z with (z | z) | z
            · exact Or.inl z
            · exact Or.inr (by omega)
            · exact Or.inr z
          · intro a k z
            unfold rpP at z
            unfold lR at z ⊢
            rcases z with (z | z) | z
            · exact Or.inl z
            · exact Or.inr (by omega)
            · exact Or.inr z
        cases w
        · exact z2_lt rfl (bad false)
        · exact z2_lf (show ¬ b1 true = 0 by decide) (bad true)
theorem addS_wf (hD : WFD D) (hR : D.R < 4) {v : Nat → Int} (h0 : 1 ≤ v 0 ∧ v 0 ≤ 400) (h1 : 0 ≤ v 1 ∧ v 1 ≤ 99) : WFD (addS D v) := by
  obtain ⟨c1, c2, c3, c4, c5, c6⟩ := hD.c
  refine ⟨⟨c1, c2, c3, c4, by show D.R + 1 ≤ 4; omega, c6⟩, hD.e, hD.q, fun r hr => ?_, hD.p⟩
  have hr' : r < D.R + 1 := hr
  show (1 ≤ (if r = D.R then v 0 else D.S r 0) ∧ (if r = D.R then v 0 else D.S r 0) ≤ 400) ∧ (0 ≤ (if r = D.R then v 1 else D.S r 1) ∧ (if r = D.R then v 1 else D.S r 1) ≤ 99)
  by_cases c : r = D.R
  · rw [if_pos c, if_pos c]; exact ⟨h0, h1⟩
  · rw [if_neg c, if_neg c]; exact hD.s r (by omega)
theorem x_seatLine (hT : TL T) (x : RS n B T q hc hr) (g : nofl hc) (d : LD D T f hc hr) : z2 (s_X3_readSeats hc) (s_X10_readsSeats hr) (fun a b => RS n B T q a.2 b.2 ∧ Fr (lnC T) hc a.2 ∧ Fr lnR hr b.2 ∧ (nofl a.2 → ∃ D f, LD D T f a.2 b.2)) := by
  have bT := hT.b
  obtain ⟨d1, d2, d3, d4, d5, d6, d7⟩ := id d
  have hR4 := d3.R4
  have into := x.2.1
  unfold s_X10_readsSeats
  rw [d2.1.2.2.2.2.1]
  by_cases q0 : D.R = 4
  · refine z2_rt (by rw [q0]; rfl) ?_
    obtain ⟨⟨u1, a⟩, ⟨u2, b⟩, e1, e2, y1, y2, y3, y4, y5, -⟩ := x_ref (q' := q) x (F := 2) (by decide) g
    dsimp only at y1 y2 y3 y4 y5
    have eq : s_X3_readSeats hc = s_X3_readSeats a := by
      have t2 : s_X3_tellNext (gI hc T 4) 4 hc = some ((), a) := by
        unfold s_X3_tellNext j_X3_tellNext_10
        rw [d1.1.2.2.2.2.1, if_neg (by rw [(show (4 : Int32) = zi 4 from zi_lit 4), zi_lt (by omega) (by omega) (by omega) (by omega)]; show ¬ ((D.R : Nat) : Int) < 4; omega), e1, bd_v, b_adv y2]
        rfl
      unfold s_X3_readSeats
      rw [into, y1.2.1, bd_v, bd_v, if_pos hT.l0, if_pos hT.l0, t2, b_next y2]
    rw [eq]
    obtain ⟨r, e3, f3⟩ := b_seats hT y1 y2
    refine ⟨r, ((), b), e3, ?_, y1.ln hT f3 (Fr.refl lR b), (y3.mono (fun a k z => Or.inl z)).trans (f3.mono (fun a k z => Or.inr z)), y4.mono (fun a k z => Or.inl z), fun z => absurd ((nofl_ln hT f3).symm.trans z) y2⟩
    rw [e2, bd_v]
    unfold j_X10_readsSeats_13
    rw [y1.bad y2, bd_v, if_pos rfl]
  · have hR : D.R < 4 := by omega
    refine z2_rf (by rw [(show (4 : Int32) = zi 4 from zi_lit 4), zi_eq (by omega) (by omega) (by omega) (by omega)]; show ¬ ((D.R : Nat) : Int) = 4; omega) ?_
    unfold j_X10_readsSeats_13
    refine z2_r (x.good g) (z2_rf one_ne ?_)
    obtain ⟨-, -, -, ⟨p, e, x4, x5⟩, -⟩ := id x
    have hq : q ≤ e := Nat.le_trans (x5 g) x4.1
    obtain ⟨⟨u1, a1⟩, ⟨u2, b1'⟩, e1, e2, y1, y2, y3, y4⟩ := x_next x g x4
    dsimp only at y1 y2 y3 y4
    have t2 : s_X3_tellNext (gI hc T 4) 4 hc = some ((), a1) := by
      unfold s_X3_tellNext j_X3_tellNext_10
      rw [d1.1.2.2.2.2.1, if_pos (by rw [(show (4 : Int32) = zi 4 from zi_lit 4), zi_lt (by omega) (by omega) (by omega) (by omega)]; show ((D.R : Nat) : Int) < 4; omega), e1, bd_v]
    have dd := d.op hT y3 y4
    have n1 : gI a1 T 4 = zi D.R := dd.1.1.2.2.2.2.1
    have m1 : gI b1' 240 27 = zi D.R := dd.2.1.1.2.2.2.2.1
    unfold s_X3_readSeats
    rw [into, bd_v, if_pos hT.l0, t2, bd_v]
    dsimp only
    rw [y1.2.1, bd_v, if_pos hT.l0, bd_v, if_pos hT.l0, n1]
    refine z2_r e2 ?_
    dsimp only
    rw [m1]
    have j0 : (2 : Int32) * zi (D.R : Int) = zi ((2 * D.R : Nat) : Int) := (by first | (simp only [zi_lit, zi_neg, zi_add, zi_sub, zi_mul, zl_lit, zl_neg, zl_add, zl_sub, zl_mul, zl_i]; exact congrArg zi (by omega)) | (simp only [zi_lit, zi_neg, zi_add, zi_sub, zi_mul, zl_lit, zl_neg, zl_add, zl_sub, zl_mul, zl_i]; done) | exact congrArg zi (by omega))
    have j1 : (2 : Int32) * zi (D.R : Int) + 1 = zi ((2 * D.R + 1 : Nat) : Int) := (by first | (simp only [zi_lit, zi_neg, zi_add, zi_sub, zi_mul, zl_lit, zl_neg, zl_add, zl_sub, zl_mul, zl_i]; exact congrArg zi (by omega)) | (simp only [zi_lit, zi_neg, zi_add, zi_sub, zi_mul, zl_lit, zl_neg, zl_add, zl_sub, zl_mul, zl_i]; done) | exact congrArg zi (by omega))
    refine z2_bd (x_take (l := 1) (m := 400) y1 (by decide) (by decide) (by decide) rfl rfl rfl rfl) ?_
    rintro ⟨w0, a2⟩ ⟨z0, b2⟩ ⟨r2, f2, h2, v2⟩
    dsimp only at r2 f2 h2 v2 ⊢
    rw [j0]
    refine z2_l (put_ok D.R (n := 4) hT.l5 rfl hR) (z2_r (stI_ok (2 * D.R) (n := 8) rfl rfl (by omega)) ?_)
    have fc3 : Fr (lC T) a2 (sI a2 (T + 5) D.R w0) := (Fr.refl _ a2).sI (by unfold lC; omega)
    have fr3 : Fr lR b2 (sI b2 249 (2 * D.R) z0) := (Fr.refl _ b2).sI (by unfold lR; omega)
    have r3 := r2.ln hT fc3 fr3
    have c3 : gI (sI a2 (T + 5) D.R w0) (T + 5) D.R = w0 := by rw [gI_sI, if_pos ⟨rfl, rfl⟩]
    have k3 : gI (sI b2 249 (2 * D.R) z0) 249 (2 * D.R) = z0 := by rw [gI_sI, if_pos ⟨rfl, rfl⟩]
    have F3 : Fr (fun a k => opC a k ∨ ((a = T + 5 ∨ a = T + 6) ∧ k = D.R)) a1 (sI a2 (T + 5) D.R w0) := (f2.mono (fun a k z => Or.inl z) : Fr (fun a k => opC a k ∨ ((a = T + 5 ∨ a = T + 6) ∧ k = D.R)) a1 a2).sI (by omega)
    have G3 : Fr (fun a k => opR a k ∨ (a = 249 ∧ 2 * D.R ≤ k ∧ k ≤ 2 * D.R + 1)) b1' (sI b2 249 (2 * D.R) z0) := (h2.mono (fun a k z => Or.inl z) : Fr (fun a k => opR a k ∨ (a = 249 ∧ 2 * D.R ≤ k ∧ k ≤ 2 * D.R + 1)) b1' b2).sI (by omega)
    have nf3 : nofl (sI a2 (T + 5) D.R w0) → nofl a2 := fun z => (nofl_ln hT fc3).symm.trans z
    dsimp only
    generalize sI a2 (T + 5) D.R w0 = a3 at fc3 r3 c3 F3 nf3 ⊢
    generalize sI b2 249 (2 * D.R) z0 = b3 at fr3 r3 k3 G3 ⊢
    unfold s_X10_named
    simp only [bd_bd]
    rw [show gI b3 240 27 = zi D.R from (G3.i (by unfold opR; omega)).trans m1, j1]
    refine x_need r3 (c := 13) (by decide) rfl ?_
    rintro ⟨u5, a4⟩ ⟨u6, b4⟩ r4 f4 h4 g4
    dsimp only at r4 f4 h4 g4 ⊢
    rw [r4.2.1, bd_v, if_pos hT.l0, bd_v, if_pos hT.l0]
    have F4 := F3.trans (f4.mono (fun a k z => Or.inl z))
    have G4 := G3.trans (h4.mono (fun a k z => Or.inl z))
    rw [show gI a4 T 4 = zi D.R from (F4.i (by unfold opC; omega)).trans n1]
    refine z2_bd (x_take (l := 0) (m := 99) r4 (by decide) (by decide) (by decide) rfl rfl rfl rfl) ?_
    rintro ⟨w1, a5⟩ ⟨z1, b5⟩ ⟨r5, f5, h5, v5⟩
    dsimp only at r5 f5 h5 v5 ⊢
    rw [bd_v]
    refine z2_l (put_ok D.R (n := 4) hT.l6 rfl hR) (z2_r (stI_ok (2 * D.R + 1) (n := 8) rfl rfl (by omega)) ?_)
    have fc7 : Fr (lC T) a5 (sI a5 (T + 6) D.R w1) := (Fr.refl _ a5).sI (by unfold lC; omega)
    have fr7 : Fr lR b5 (sI b5 249 (2 * D.R + 1) z1) := (Fr.refl _ b5).sI (by unfold lR; omega)
    have r7 := r5.ln hT fc7 fr7
    have c7 : gI (sI a5 (T + 6) D.R w1) (T + 5) D.R = w0 ∧ gI (sI a5 (T + 6) D.R w1) (T + 6) D.R = w1 := ⟨by rw [gI_sI, if_neg (by omega), f5.i (by unfold opC; omega), f4.i (by unfold opC; omega)]; exact c3, by rw [gI_sI, if_pos ⟨rfl, rfl⟩]⟩
    have k7 : gI (sI b5 249 (2 * D.R + 1) z1) 249 (2 * D.R) = z0 ∧ gI (sI b5 249 (2 * D.R + 1) z1) 249 (2 * D.R + 1) = z1 := ⟨by rw [gI_sI, if_neg (by omega), h5.i (by unfold opR; omega), h4.i (by unfold opR; omega)]; exact k3, by rw [gI_sI, if_pos ⟨rfl, rfl⟩]⟩
    have F7 : Fr (fun a k => opC a k ∨ ((a = T + 5 ∨ a = T + 6) ∧ k = D.R)) a1 (sI a5 (T + 6) D.R w1) := (F4.trans (f5.mono (fun a k z => Or.inl z))).sI (by omega)
    have G7 : Fr (fun a k => opR a k ∨ (a = 249 ∧ 2 * D.R ≤ k ∧ k ≤ 2 * D.R + 1)) b1' (sI b5 249 (2 * D.R + 1) z1) := (G4.trans (h5.mono (fun a k z => Or.inl z))).sI (by omega)
    have nf7 : nofl (sI a5 (T + 6) D.R w1) → nofl a5 := fun z => (nofl_ln hT fc7).symm.trans z
    dsimp only
    generalize sI a5 (T + 6) D.R w1 = a7 at fc7 r7 c7 F7 nf7 ⊢
    generalize sI b5 249 (2 * D.R + 1) z1 = b7 at fr7 r7 k7 G7 ⊢
    rw [r7.2.1, bd_v, if_pos hT.l0, show gI a7 T 4 = zi D.R from (F7.i (by unfold opC; omega)).trans n1]
    have ec : Fr (lnC T) hc a7 := (y3.mono (fun a k z => Or.inl z)).trans (F7.mono (by unfold lC; intro a k z; rcases z with z | z; exact Or.inl z; exact Or.inr (by omega)))
    have er : Fr lnR hr b7 := (y4.mono (fun a k z => Or.inl z)).trans (G7.mono (by unfold lR; intro a k z; rcases z with z | z; exact Or.inl z; exact Or.inr (by omega)))
    have fc8 : Fr (lC T) a7 (sI a7 T 4 (zi (D.R : Int) + 1)) := (Fr.refl _ a7).sI (by unfold lC; omega)
    by_cases g7 : nofl a7
    · refine z2_r (r7.good g7) (z2_rf one_ne ?_)
      rw [show gI b7 240 27 = zi D.R from (G7.i (by unfold opR; omega)).trans m1]
      have fr8 : Fr lR b7 (sI b7 240 27 (zi (D.R : Int) + 1)) := (Fr.refl _ b7).sI (by unfold lR; omega)
      obtain ⟨g5, s1, s1a, s1b, s1c, s1d⟩ := v5 (nf7 g7)
      obtain ⟨-, s0, s0a, s0b, s0c, s0d⟩ := v2 (nf3 (g4 g5))
      have eR : zi (D.R : Int) + 1 = zi ((D.R + 1 : Nat) : Int) := (by first | (simp only [zi_lit, zi_neg, zi_add, zi_sub, zi_mul, zl_lit, zl_neg, zl_add, zl_sub, zl_mul, zl_i]; exact congrArg zi (by omega)) | (simp only [zi_lit, zi_neg, zi_add, zi_sub, zi_mul, zl_lit, zl_neg, zl_add, zl_sub, zl_mul, zl_i]; done) | exact congrArg zi (by omega))
      refine z2_some ⟨(r7.ln hT fc8 fr8).le (by omega), ec.trans (fc8.mono (fun a k z => Or.inr z)), er.trans (fr8.mono (fun a k z => Or.inr z)), fun _ => ⟨addS D (fun w => if w = 0 then s0 else s1), f, ?_, ?_, addS_wf d3 hR ⟨s0c, s0d⟩ ⟨s1c, s1d⟩, d4, ?_, ?_, d7⟩⟩
      · obtain ⟨⟨o0, o1, o2, o3, o4, o5⟩, p1, p2, p3, p4, p5, p6⟩ := dd.1
        have oc : ∀ a k, ¬ (a = T ∧ k = 4) → ¬ opC a k → ¬ ((a = T + 5 ∨ a = T + 6) ∧ k = D.R) → gI (sI a7 T 4 (zi (D.R : Int) + 1)) a k = gI a1 a k := fun a k z1 z2 z3 => by
          rw [gI_sI, if_neg z1, F7.i (fun z => z.elim z2 z3)]
        have nop : ∀ a k, T ≤ a → ¬ opC a k := fun a k z1 z2 => by unfold opC at z2; omega
        refine ⟨⟨(oc _ _ (by omega) (nop _ _ (by omega)) (by omega)).trans o0, (oc _ _ (by omega) (nop _ _ (by omega)) (by omega)).trans o1, (oc _ _ (by omega) (nop _ _ (by omega)) (by omega)).trans o2, (oc _ _ (by omega) (nop _ _ (by omega)) (by omega)).trans o3, ?_, (oc _ _ (by omega) (nop _ _ (by omega)) (by omega)).trans o5⟩, fun e w he hw => (oc _ _ (by omega) (nop _ _ (by omega)) (by omega)).trans (p1 e w he hw), fun e he => (oc _ _ (by omega) (nop _ _ (by omega)) (by omega)).trans (p2 e he), fun k w hk hw => (oc _ _ (by omega) (nop _ _ (by omega)) (by omega)).trans (p3 k w hk hw), fun k hk => (oc _ _ (by omega) (nop _ _ (by omega)) (by omega)).trans (p4 k hk), fun r hr => ?_, fun t ht => (oc _ _ (by omega) (nop _ _ (by omega)) (by omega)).trans (p6 t ht)⟩
        · show gI (sI a7 T 4 (zi (D.R : Int) + 1)) T 4 = zi ((D.R + 1 : Nat) : Int)
          rw [gI_sI, if_pos ⟨rfl, rfl⟩, eR]
        · show gI (sI a7 T 4 (zi (D.R : Int) + 1)) (T + 5) r = zi (if r = D.R then s0 else D.S r 0) ∧ gI (sI a7 T 4 (zi (D.R : Int) + 1)) (T + 6) r = zi (if r = D.R then s1 else D.S r 1)
          have hr' : r < D.R + 1 := hr
          by_cases c : r = D.R
          · rw [if_pos c, if_pos c, gI_sI, if_neg (by omega), gI_sI, if_neg (by omega), c]
            exact ⟨c7.1.trans s0a, c7.2.trans s1a⟩
          · rw [if_neg c, if_neg c, oc _ _ (by omega) (nop _ _ (by omega)) (by omega), oc _ _ (by omega) (nop _ _ (by omega)) (by omega)]
            exact p5 r (by omega)
      · obtain ⟨⟨o0, o1, o2, o3, o4, o5⟩, p1, p2, p3, p4⟩ := dd.2.1
        have oc : ∀ a k, ¬ (a = 240 ∧ k = 27) → ¬ opR a k → ¬ (a = 249 ∧ 2 * D.R ≤ k ∧ k ≤ 2 * D.R + 1) → gI (sI b7 240 27 (zi (D.R : Int) + 1)) a k = gI b1' a k := fun a k z1 z2 z3 => by
          rw [gI_sI, if_neg z1, G7.i (fun z => z.elim z2 z3)]
        refine ⟨⟨(oc _ _ (by omega) (by unfold opR; omega) (by omega)).trans o0, (oc _ _ (by omega) (by unfold opR; omega) (by omega)).trans o1, (oc _ _ (by omega) (by unfold opR; omega) (by omega)).trans o2, (oc _ _ (by omega) (by unfold opR; omega) (by omega)).trans o3, ?_, (oc _ _ (by omega) (by unfold opR; omega) (by omega)).trans o5⟩, fun e w he hw => (oc _ _ (by omega) (by unfold opR; omega) (by omega)).trans (p1 e w he hw), fun k w hk hw => (oc _ _ (by omega) (by unfold opR; omega) (by omega)).trans (p2 k w hk hw), fun r w hr hw => ?_, fun t ht => (oc _ _ (by omega) (by unfold opR; omega) (by omega)).trans (p4 t ht)⟩
        · show gI (sI b7 240 27 (zi (D.R : Int) + 1)) 240 27 = zi ((D.R + 1 : Nat) : Int)
          rw [gI_sI, if_pos ⟨rfl, rfl⟩, eR]
        · show gI (sI b7 240 27 (zi (D.R : Int) + 1)) 249 (2 * r + w) = zi (if r = D.R then (if w = 0 then s0 else s1) else D.S r w)
          have hr' : r < D.R + 1 := hr
          by_cases c : r = D.R
          · rw [if_pos c, gI_sI, if_neg (by omega), c]
            have cw : w = 0 ∨ w = 1 := by omega
            rcases cw with rfl | rfl
            · exact k7.1.trans s0b
            · exact k7.2.trans s1b
          · rw [if_neg c, oc _ _ (by omega) (by unfold opR; omega) (by omega)]
            exact p3 r w (by omega) hw
      · intro e h1 h2
        show gI (sI a7 T 4 _) (T + 2) e = 0
        rw [gI_sI, if_neg (by omega), F7.i (by unfold opC; omega)]
        exact dd.2.2.2.2.1 e h1 h2
      · refine ⟨?_, ?_⟩
        · show gI (sI a7 T 4 _) 1 7 = _
          rw [gI_sI, if_neg (by omega), F7.i (by unfold opC; omega)]
          exact dd.2.2.2.2.2.1.1
        · show gI (sI b7 240 27 _) 240 29 = _
          rw [gI_sI, if_neg (by omega), G7.i (by unfold opR; omega)]
          exact dd.2.2.2.2.2.1.2
    · refine z2_r (r7.bad g7) (z2_rt rfl ?_)
      exact z2_some ⟨(r7.ln hT fc8 (Fr.refl lR b7)).up (fun z => g7 ((nofl_ln hT fc8).symm.trans z)), ec.trans (fc8.mono (fun a k z => Or.inr z)), er, fun z => absurd ((nofl_ln hT fc8).symm.trans z) g7⟩
end
