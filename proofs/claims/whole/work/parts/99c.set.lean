/-! 99c.set: the line of a set -/
theorem lp_in {σ ε : Type} {body : σ → AH → Option ((σ ⊕ ε) × AH)} {s s' : σ} {h h' : AH} (f : Nat) (e : body s h = some (.inl s', h')) : lpH body (f + 1) s h = lpH body f s' h' := by
  show lpH body (f + 1) s h = _
  rw [lpH, e]
theorem lp_out {σ ε : Type} {body : σ → AH → Option ((σ ⊕ ε) × AH)} {s : σ} {x : ε} {h h' : AH} (f : Nat) (e : body s h = some (.inr x, h')) : lpH body (f + 1) s h = some (x, h') := by
  show lpH body (f + 1) s h = _
  rw [lpH, e]
theorem zs_pos {F : Nat → Int} : ∀ n, (∀ e, e < n → F e = 0 ∨ F e = 1) → 1 ≤ zs F n → ∃ e, e < n ∧ F e = 1 := by
  intro n
  induction n with
  | zero => intro _ h; rw [zs_0] at h; omega
  | succ n ih =>
    intro h1 h2
    rcases h1 n (by omega) with z | z
    · rw [zs_s, z, Int.add_zero] at h2
      obtain ⟨e, e1, e2⟩ := ih (fun e he => h1 e (by omega)) h2
      exact ⟨e, by omega, e2⟩
    · exact ⟨n, by omega, z⟩
section
variable {D : HD} {h hc hr : AH} {n T q : Nat} {B : Nat → Nat} {f : Nat → Bool}
theorem mkd_mk {v : Nat} (hv : v < D.N) (h0 : D.E v 3 = 0) : mkd (setMk D v) = mkd D + 1 := by
  have e : mkd (setMk D v) = zs (fun e => if e = v then 1 else D.E e 3) D.N := zs_congr (fun i _ => by
    show (if i = v ∧ 3 = 3 then 1 else D.E i 3) = if i = v then 1 else D.E i 3
    by_cases z : i = v
    · rw [if_pos ⟨z, rfl⟩, if_pos z]
    · rw [if_neg (fun y => z y.1), if_neg z])
  rw [e]
  exact zs_upd (fun e => D.E e 3) v D.N hv h0
/-- what a set's turns leave -/
abbrev SL (n : Nat) (B : Nat → Nat) (T q : Nat) (f : Nat → Bool) (hc hr : AH) : Unit × AH → Unit × AH → Prop := fun a b => RS n B T q a.2 b.2 ∧ Fr (lnC T) hc a.2 ∧ Fr lnR hr b.2 ∧ (nofl a.2 → ∃ D, LSet D T f a.2 b.2 ∧ 1 ≤ mkd D ∧ D.P 3 ≠ -1)
theorem x_setLoop (hT : TL T) {h0 r0 : AH} : ∀ (d i : Nat) (D : HD) (hc hr : AH) (fv : Nat), i + d = 17 → 1 ≤ i → d < fv → RS n B T q hc hr → Fr (lnC T) h0 hc → Fr lnR r0 hr → nofl hc → LSet D T f hc hr → mkd D = i → D.P 3 ≠ -1 → z2 (lpH l_X3_readSet_33 (10000 - i) (zi (i : Int)) hc) (lpH l_X10_line_237 fv () hr) (SL n B T q f h0 r0) := by
  intro d
  induction d with
  | zero =>
    intro i D hc hr fv hi h1 hf x fc fr g l m p3
    exfalso
    have hN : D.N ≤ 16 := l.2.2.1.1.2.2.1
    have := zs_le (f := fun e => D.E e 3) (n := D.N) (B := 1) (fun e he => by rcases (l.2.2.1.2.1 e he).2.2.2 with z | z <;> rw [z] <;> decide)
    unfold mkd at m
    omega
  | succ d ih =>
    intro i D hc hr fv hi h1 hf x fc fr g l m p3
    obtain ⟨fu, hfu⟩ : ∃ fu, 10000 - i = fu + 1 := ⟨10000 - i - 1, by omega⟩
    obtain ⟨fw, rfl⟩ : ∃ fw, fv = fw + 1 := ⟨fv - 1, by omega⟩
    have hgood := x.good g
    have cb : l_X3_readSet_33 (zi (i : Int)) hc = if gI hc 1 4 = 2 then j_X3_readSet_51_33 (zi (i : Int)) hc else some (.inr (), hc) := by
      unfold l_X3_readSet_33
      rw [if_neg (by rw [(show (16 : Int32) = zi 16 from zi_lit 16), zi_lt (by omega) (by omega) (by omega) (by omega)]; show ¬ (16 : Int) < i; omega), if_neg (zi_nk ((show (0 : Int32) = zi 0 from zi_lit 0)) (by omega) (by omega) (by omega))]
    have rb : l_X10_line_237 () hr = if gI hr 240 18 = 2 then bd (s_X10_member hr) fun q12 => some (.inl (), q12.2) else some (.inr (), hr) := by
      unfold l_X10_line_237
      rw [hgood, bd_v, if_neg one_ne]
    obtain ⟨x1, x2, x3, ⟨p, e, x4, x5⟩, x6⟩ := id x
    have ty2 : (gI hc 1 4 = 2 ∧ gI hr 240 18 = 2) ∨ (gI hc 1 4 ≠ 2 ∧ gI hr 240 18 ≠ 2) := by
      rcases c_number x1 x4 with ⟨s1, s2, -⟩ | ⟨s1, s2, -⟩
      · exact Or.inl ⟨s1, s2⟩
      · exact Or.inr ⟨s1, s2⟩
    rcases ty2 with ⟨s1, s2⟩ | ⟨s1, s2⟩
    · rw [if_pos s1] at cb
      rw [if_pos s2] at rb
      obtain ⟨⟨u1, a⟩, ⟨u2, b⟩, e1, e2, y1, y2, y3, y4⟩ := x_member hT x g l
      dsimp only at y1 y2 y3 y4
      have cb2 : l_X3_readSet_33 (zi (i : Int)) hc = some (.inl (zi ((i + 1 : Nat) : Int)), a) := by
        rw [cb]
        unfold j_X3_readSet_51_33
        rw [e1, bd_v]
        exact congrArg (fun z => some (Sum.inl z, a)) (by first | (simp only [zi_lit, zi_neg, zi_add, zi_sub, zi_mul, zl_lit, zl_neg, zl_add, zl_sub, zl_mul, zl_i]; exact congrArg zi (by omega)) | (simp only [zi_lit, zi_neg, zi_add, zi_sub, zi_mul, zl_lit, zl_neg, zl_add, zl_sub, zl_mul, zl_i]; done) | exact congrArg zi (by omega))
      rw [e2, bd_v] at rb
      have lc : lpH l_X3_readSet_33 (10000 - i) (zi (i : Int)) hc = lpH l_X3_readSet_33 (10000 - (i + 1)) (zi ((i + 1 : Nat) : Int)) a := by
        rw [hfu, show 10000 - (i + 1) = fu by omega]
        exact lp_in fu cb2
      have lr : lpH l_X10_line_237 (fw + 1) () hr = lpH l_X10_line_237 fw () b := by
        exact lp_in fw rb
      rw [lc, lr]
      by_cases g2 : nofl a
      · obtain ⟨v, v1, v2, v3⟩ := y4 g2
        exact ih (i + 1) (setMk D v) a b fw (by omega) (by omega) (by omega) y1 (fc.trans y2) (fr.trans y3) g2 v3 (by rw [mkd_mk v1 v2, m]; omega) p3
      · obtain ⟨⟨u3, c⟩, e3, f3⟩ := b_setLoop hT y1 g2 (i := i + 1) (by omega)
        dsimp only at f3
        obtain ⟨fy, rfl⟩ : ∃ fy, fw = fy + 1 := ⟨fw - 1, by omega⟩
        refine ⟨(u3, c), ((), b), e3, ?_, y1.ln hT f3 (Fr.refl lR b), (fc.trans y2).trans (f3.mono (fun a k z => Or.inr z)), fr.trans y3, fun z => absurd ((nofl_ln hT f3).symm.trans z) g2⟩
        refine lp_out _ ?_
        unfold l_X10_line_237
        rw [y1.bad g2, bd_v, if_pos rfl]
    · rw [if_neg s1] at cb
      rw [if_neg s2] at rb
      refine ⟨((), hc), ((), hr), ?_, ?_, x, fc, fr, fun _ => ⟨D, l, by omega, p3⟩⟩
      · rw [hfu]
        exact lp_out fu cb
      · exact lp_out fw rb
/-- all turns -/
theorem x_setAll (hT : TL T) (x : RS n B T q hc hr) (l : nofl hc → ∃ D, LSet D T f hc hr ∧ mkd D = 0 ∧ D.P 3 ≠ -1) : z2 (lpH l_X3_readSet_33 FU 0 hc) (bd (s_X10_member hr) fun q10 => lpH l_X10_line_237 FU () q10.2) (SL n B T q f hc hr) := by
  by_cases g : nofl hc
  · obtain ⟨D, l1, l2, l3⟩ := l g
    obtain ⟨⟨u1, a⟩, ⟨u2, b⟩, e1, e2, y1, y2, y3, y4⟩ := x_member hT x g l1
    dsimp only at y1 y2 y3 y4
    have lc : lpH l_X3_readSet_33 FU 0 hc = lpH l_X3_readSet_33 (10000 - 1) (zi ((1 : Nat) : Int)) a := by
      have cb : l_X3_readSet_33 0 hc = some (.inl (zi ((1 : Nat) : Int)), a) := by
        unfold l_X3_readSet_33 j_X3_readSet_51_33
        rw [if_neg (by decide), if_pos rfl, e1, bd_v]
        rfl
      exact lp_in 9999 cb
    rw [lc, e2, bd_v]
    by_cases g2 : nofl a
    · obtain ⟨v, v1, v2, v3⟩ := y4 g2
      exact x_setLoop hT 16 1 (setMk D v) a b FU (by omega) (by omega) (by decide) y1 y2 y3 g2 v3 (by rw [mkd_mk v1 v2, l2]; rfl) l3
    · obtain ⟨⟨u3, c⟩, e3, f3⟩ := b_setLoop hT y1 g2 (i := 1) (by omega)
      dsimp only at f3
      refine ⟨(u3, c), ((), b), e3, ?_, y1.ln hT f3 (Fr.refl lR b), y2.trans (f3.mono (fun a k z => Or.inr z)), y3, fun z => absurd ((nofl_ln hT f3).symm.trans z) g2⟩
      refine lp_out _ ?_
      unfold l_X10_line_237
      rw [y1.bad g2, bd_v, if_pos rfl]
  · obtain ⟨⟨u3, c⟩, e3, f3⟩ := b_setLoop hT x g (i := 0) (by omega)
    dsimp only at f3
    have mb : s_X10_member hr = some ((), hr) := by
      unfold s_X10_member
      rw [x.bad g, bd_v, if_pos rfl]
    rw [mb, bd_v]
    refine ⟨(u3, c), ((), hr), e3, ?_, x.ln hT f3 (Fr.refl lR hr), f3.mono (fun a k z => Or.inr z), Fr.refl _ hr, fun z => absurd ((nofl_ln hT f3).symm.trans z) g⟩
    refine lp_out 9999 ?_
    unfold l_X10_line_237
    rw [x.bad g, bd_v, if_pos rfl]
theorem LSet.done (x : LSet D T f hc hr) (m : 1 ≤ mkd D) : LD D T f hc hr := by
  obtain ⟨x1, x2, ⟨w1, w2, w3, w4, w5, w6, w7⟩, x4, x5, x6, x7⟩ := x
  refine ⟨x1, x2, ⟨w1, w2, w3, w4, w5, w6, w7, fun _ => ?_⟩, x4, x5, x6, fun z => absurd (x7.symm.trans z) (by decide)⟩
  exact zs_pos D.N (fun e he => (w2 e he).2.2.2) m
theorem x_set (hT : TL T) (x : RS n B T q hc hr) (g : nofl hc) (d : LD D T f hc hr) : z2 (bd (s_X3_readSet hc) fun q16 => j_X3_readLine_258 q16.2) (j_X10_line_15 7 hr) (PLn n B T (q + 1) hc hr) := by
  have bT := hT.b
  obtain ⟨d1, d2, d3, d4, d5, d6, d7⟩ := id d
  obtain ⟨t1, t2, t3, t4⟩ := tell_7 f
  unfold s_X3_readSet
  rw [bd_bd]
  unfold j_X10_line_15
  refine z2_r (x.good g) (z2_rf one_ne (z2_rf (by decide) (z2_rf (by decide) (z2_rf (by decide) ?_))))
  rw [d6.2]
  by_cases qf : f 7 = true
  · refine z2_rt (t3.mpr qf) ?_
    refine x_told hT x g (by rw [d6.1]; exact fun z => absurd (t1.mp z) (by rw [qf]; decide)) ?_
    intro h' hr' x' g'
    dsimp only
    rw [x'.2.1, bd_v, if_pos hT.l0]
    obtain ⟨v, e1⟩ := b_take x' g' 0 9999
    rw [e1, bd_v]
    simp only [bd_bd]
    refine zw_bd (b_row hT (X := T + 7) (m := 5) (by omega) hT.l7 rfl _ _) ?_
    rintro ⟨u1, g1⟩ f1
    dsimp only at f1 ⊢
    have x1 := x'.ln hT f1 (Fr.refl lR hr')
    have n1 : ¬ nofl g1 := fun z => g' ((nofl_ln hT f1).symm.trans z)
    rw [b_need x1 n1 (by decide), bd_v]
    refine zw_bd (b_setLoop hT x1 n1 (i := 0) (by omega)) ?_
    rintro ⟨u2, g2⟩ f2
    dsimp only at f2 ⊢
    rw [bd_v]
    unfold j_X3_readLine_258
    dsimp only
    rw [b_stop (fun z => n1 ((nofl_ln hT f2).symm.trans z)), bd_v]
    exact zw_some (f1.trans f2)
  · have qf' := Bool.eq_false_iff.mpr qf
    refine z2_rf (fun z => qf (t3.mp z)) ?_
    refine x_new hT x g (by rw [d6.1]; exact t1.mpr qf') ?_
    rw [d6.1, d6.2, t2, t4]
    have f1 : Fr (lC T) hc (sI hc 1 7 (zi (cn6 (f 0) (f 1) (f 5) (f 6) true (f 8)))) := (Fr.refl _ hc).sI (by unfold lC; omega)
    have f2 : Fr lR hr (sI hr 240 29 (zi (rn6 (f 0) (f 1) (f 5) (f 6) true (f 8)))) := (Fr.refl _ hr).sI (by unfold lR; omega)
    have l7 : LD D T (fset f 7) (sI hc 1 7 (zi (cn6 (f 0) (f 1) (f 5) (f 6) true (f 8)))) (sI hr 240 29 (zi (rn6 (f 0) (f 1) (f 5) (f 6) true (f 8)))) := ⟨d1.fr (S := fun a k => a = 1 ∧ k = 7) ((Fr.refl _ hc).sI ⟨rfl, rfl⟩) (fun a k h1 h2 => by omega), d2.fr (S := fun a k => a = 240 ∧ k = 29) ((Fr.refl _ hr).sI ⟨rfl, rfl⟩) (by intro a k; omega), d3, d4, fun e h1 h2 => by rw [gI_sI, if_neg (by omega)]; exact d5 e h1 h2, ⟨by rw [gI_sI, if_pos ⟨rfl, rfl⟩]; rfl, by rw [gI_sI, if_pos ⟨rfl, rfl⟩]; rfl⟩, fun _ => d7 qf'⟩
    intro a b ra ga fa fb
    have la := l7.op hT fa fb
    have fs7 : fset f 7 7 = true := rfl
    have fca : Fr (lnC T) hc a := (f1.mono (fun a k z => Or.inr z)).trans (fa.mono (fun a k z => Or.inl z))
    have frb : Fr lnR hr b := (f2.mono (fun a k z => Or.inr z)).trans (fb.mono (fun a k z => Or.inl z))
    generalize fset f 7 = fs at la fs7
    dsimp only
    rw [ra.2.1, bd_v, if_pos hT.l0]
    refine z2_rf (by decide) ?_
    unfold j_X10_line_116
    refine z2_rf (by decide) ?_
    unfold j_X10_line_133
    refine z2_rf (by decide) ?_
    unfold j_X10_line_152
    refine z2_rf (by decide) ?_
    unfold j_X10_line_172
    refine z2_rf (by decide) ?_
    unfold j_X10_line_203
    refine z2_rt rfl ?_
    simp only [bd_bd]
    refine z2_bd (x_take (l := 0) (m := 9999) ra (by decide) (by decide) (by decide) rfl rfl rfl rfl) ?_
    rintro ⟨w0, a2⟩ ⟨z0, b2⟩ ⟨r2, f2', h2, v2⟩
    dsimp only at r2 f2' h2 v2 ⊢
    refine z2_l (put_ok 3 (n := 5) hT.l7 rfl (by decide)) (z2_r (stI_ok 3 (n := 5) rfl rfl (by decide)) ?_)
    have fc3 : Fr (lC T) a2 (sI a2 (T + 7) 3 w0) := (Fr.refl _ a2).sI (by unfold lC; omega)
    have fr3 : Fr lR b2 (sI b2 250 3 z0) := (Fr.refl _ b2).sI (by unfold lR; omega)
    have r3 := r2.ln hT fc3 fr3
    have fc4 : Fr (lnC T) hc (sI a2 (T + 7) 3 w0) := (fca.trans (f2'.mono (fun a k z => Or.inl z))).trans (fc3.mono (fun a k z => Or.inr z))
    have fr4 : Fr lnR hr (sI b2 250 3 z0) := (frb.trans (h2.mono (fun a k z => Or.inl z))).trans (fr3.mono (fun a k z => Or.inr z))
    have l3 : nofl (sI a2 (T + 7) 3 w0) → ∃ D, LSet D T fs (sI a2 (T + 7) 3 w0) (sI b2 250 3 z0) ∧ mkd D = 0 ∧ D.P 3 ≠ -1 := by
      intro z
      obtain ⟨-, v, rfl, rfl, v5, v6⟩ := v2 ((nofl_ln hT fc3).symm.trans z)
      have lb := la.op hT f2' h2
      have sp := setPr_p d3 (t := 3) (by decide) ⟨v5, v6⟩
      refine ⟨setPr D 3 v, ⟨lb.1.pr hT (by decide), lb.2.1.pr (by decide), ⟨d3.c, d3.e, d3.q, d3.s, sp.1, sp.2, d3.p.2.2.1⟩, d4, fun e h1 h2 => ?_, ⟨?_, ?_⟩, fs7⟩, zs_zero (fun e he => d7 qf' e he), ?_⟩
      · show gI (sI a2 _ _ _) (T + 2) e = 0
        rw [gI_sI, if_neg (by omega)]
        exact lb.2.2.2.2.1 e h1 h2
      · show gI (sI a2 _ _ _) 1 7 = _
        rw [gI_sI, if_neg (by omega)]
        exact lb.2.2.2.2.2.1.1
      · show gI (sI b2 _ _ _) 240 29 = _
        rw [gI_sI, if_neg (by omega)]
        exact lb.2.2.2.2.2.1.2
      · show (if 3 = 3 then v else D.P 3) ≠ -1
        rw [if_pos rfl]
        omega
    dsimp only
    generalize sI a2 (T + 7) 3 w0 = a3 at fc3 r3 fc4 l3 ⊢
    generalize sI b2 250 3 z0 = b3 at fr3 r3 fr4 l3 ⊢
    refine x_need r3 (c := 17) (by decide) rfl ?_
    rintro ⟨u5, a5⟩ ⟨u6, b5⟩ r5 f5 h5 g5
    dsimp only at r5 f5 h5 g5 ⊢
    have l5 : nofl a5 → ∃ D, LSet D T fs a5 b5 ∧ mkd D = 0 ∧ D.P 3 ≠ -1 := fun z => by
      obtain ⟨D', w1, w2, w3⟩ := l3 (g5 z)
      exact ⟨D', w1.op hT f5 h5, w2, w3⟩
    have all := x_setAll hT r5 l5
    have key : z2 (bd (lpH l_X3_readSet_33 FU 0 a5) fun y7 => some ((), y7.2)) (bd (s_X10_member b5) fun q10 => lpH l_X10_line_237 FU () q10.2) (fun a b => RS n B T (q + 1) a.2 b.2 ∧ Fr (lnC T) hc a.2 ∧ Fr lnR hr b.2 ∧ (nofl a.2 → ∃ D f, LD D T f a.2 b.2)) := by
      obtain ⟨⟨u7, a7⟩, ⟨u8, b7⟩, e1, e2, y1, y2, y3, y4⟩ := all
      dsimp only at y1 y2 y3 y4
      rw [e1, bd_v, e2]
      refine z2_some ⟨y1.le (by omega), (fc4.trans (f5.mono (fun a k z => Or.inl z))).trans y2, (fr4.trans (h5.mono (fun a k z => Or.inl z))).trans y3, fun z => ?_⟩
      obtain ⟨D', w1, w2, -⟩ := y4 z
      exact ⟨D', fs, w1.done w2⟩
    have fin := x_lineE hT key
    simp only [bd_bd] at fin
    exact z2_mono fin (fun a b z => ⟨z.1.le (by omega), z.2⟩)
end
