/-! 99b.ten: the line of a ten; of a set -/
section
variable {D : HD} {h hc hr : AH} {n T q : Nat} {B : Nat → Nat} {f : Nat → Bool}
theorem x_ten (hT : TL T) (x : RS n B T q hc hr) (g : nofl hc) (d : LD D T f hc hr) : z2 (bd (s_X3_tellOnce 4 hc) fun q => bd (gR q.2 1 2) fun t => if LAY t = (0, 8) then bd (s_X3_takeNumber 1 12 q.2) fun r => bd (gR (sI r.2 t 5 r.1) 1 2) fun t20 => if LAY t20 = (0, 8) then bd (s_X3_takeNumber 0 9999 (sI r.2 t 5 r.1)) fun q21 => bd (s_X9_put (some (t20 + 7)) 2 q21.1 q21.2) fun s => j_X3_readLine_258 s.2 else none else none) (j_X10_line_15 6 hr) (PLn n B T (q + 1) hc hr) := by
  have bT := hT.b
  obtain ⟨d1, d2, d3, d4, d5, d6, d7⟩ := id d
  obtain ⟨t1, t2, t3, t4⟩ := tell_6 f
  unfold j_X10_line_15
  refine z2_r (x.good g) (z2_rf one_ne (z2_rf (by decide) (z2_rf (by decide) (z2_rf (by decide) ?_))))
  rw [d6.2]
  by_cases qf : f 6 = true
  · refine z2_rt (t3.mpr qf) ?_
    refine x_told hT x g (by rw [d6.1]; exact fun z => absurd (t1.mp z) (by rw [qf]; decide)) ?_
    intro h' hr' x' g'
    have into := x'.2.1
    dsimp only
    rw [into, bd_v, if_pos hT.l0]
    obtain ⟨v, e1⟩ := b_take x' g' 1 12
    rw [e1, bd_v]
    have f1 : Fr (lC T) h' (sI h' T 5 v) := (Fr.refl _ h').sI (by unfold lC; omega)
    have x1 := x'.ln hT f1 (Fr.refl lR hr')
    have g1 : ¬ nofl (sI h' T 5 v) := fun z => g' ((nofl_ln hT f1).symm.trans z)
    dsimp only
    rw [x1.2.1, bd_v, if_pos hT.l0]
    obtain ⟨v2, e2⟩ := b_take x1 g1 0 9999
    rw [e2, bd_v]
    refine zw_bd (b_row hT (X := T + 7) (m := 5) (by omega) hT.l7 rfl _ _) ?_
    rintro ⟨u1, g2⟩ f2
    dsimp only at f2 ⊢
    unfold j_X3_readLine_258
    rw [b_stop (fun z => g1 ((nofl_ln hT f2).symm.trans z)), bd_v]
    exact zw_some (f1.trans f2)
  · refine z2_rf (fun z => qf (t3.mp z)) ?_
    refine x_new hT x g (by rw [d6.1]; exact t1.mpr (Bool.eq_false_iff.mpr qf)) ?_
    rw [d6.1, d6.2, t2, t4]
    have f1 : Fr (lC T) hc (sI hc 1 7 (zi (cn6 (f 0) (f 1) (f 5) true (f 7) (f 8)))) := (Fr.refl _ hc).sI (by unfold lC; omega)
    have f2 : Fr lR hr (sI hr 240 29 (zi (rn6 (f 0) (f 1) (f 5) true (f 7) (f 8)))) := (Fr.refl _ hr).sI (by unfold lR; omega)
    have l7 : LD D T (fset f 6) (sI hc 1 7 (zi (cn6 (f 0) (f 1) (f 5) true (f 7) (f 8)))) (sI hr 240 29 (zi (rn6 (f 0) (f 1) (f 5) true (f 7) (f 8)))) := ⟨d1.fr (S := fun a k => a = 1 ∧ k = 7) ((Fr.refl _ hc).sI ⟨rfl, rfl⟩) (fun a k h1 h2 => by omega), d2.fr (S := fun a k => a = 240 ∧ k = 29) ((Fr.refl _ hr).sI ⟨rfl, rfl⟩) (by intro a k; omega), d3, d4, fun e h1 h2 => by rw [gI_sI, if_neg (by omega)]; exact d5 e h1 h2, ⟨by rw [gI_sI, if_pos ⟨rfl, rfl⟩]; rfl, by rw [gI_sI, if_pos ⟨rfl, rfl⟩]; rfl⟩, d7⟩
    intro a b ra ga fa fb
    have la := l7.op hT fa fb
    have fca : Fr (lnC T) hc a := (f1.mono (fun a k z => Or.inr z)).trans (fa.mono (fun a k z => Or.inl z))
    have frb : Fr lnR hr b := (f2.mono (fun a k z => Or.inr z)).trans (fb.mono (fun a k z => Or.inl z))
    generalize fset f 6 = fs at la
    dsimp only
    rw [ra.2.1, bd_v, if_pos hT.l0]
    refine z2_rf (by decide) ?_
    unfold j_X10_line_116
    refine z2_rf (by decide) ?_
    unfold j_X10_line_133
    refine z2_rf (by decide) ?_
    unfold j_X10_line_152
    refine z2_rf (by decide) ?_
    unfold j_X10_line_172
    refine z2_rt rfl ?_
    refine z2_bd (x_take (l := 1) (m := 12) ra (by decide) (by decide) (by decide) rfl rfl rfl rfl) ?_
    rintro ⟨w0, a2⟩ ⟨z0, b2⟩ ⟨r2, f2', h2, v2⟩
    dsimp only at r2 f2' h2 v2 ⊢
    have fc3 : Fr (lC T) a2 (sI a2 T 5 w0) := (Fr.refl _ a2).sI (by unfold lC; omega)
    have fr3 : Fr lR b2 (sI b2 240 28 z0) := (Fr.refl _ b2).sI (by unfold lR; omega)
    have r3 := r2.ln hT fc3 fr3
    rw [r3.2.1, bd_v, if_pos hT.l0]
    refine z2_bd (x_take (l := 0) (m := 9999) r3 (by decide) (by decide) (by decide) rfl rfl rfl rfl) ?_
    rintro ⟨w1, a4⟩ ⟨z1, b4⟩ ⟨r4, f4', h4, v4⟩
    dsimp only at r4 f4' h4 v4 ⊢
    refine z2_l (put_ok 2 (n := 5) hT.l7 rfl (by decide)) (z2_r (stI_ok 2 (n := 5) rfl rfl (by decide)) ?_)
    have fc5 : Fr (lC T) a4 (sI a4 (T + 7) 2 w1) := (Fr.refl _ a4).sI (by unfold lC; omega)
    have fr5 : Fr lR b4 (sI b4 250 2 z1) := (Fr.refl _ b4).sI (by unfold lR; omega)
    have key : z2 (some ((), sI a4 (T + 7) 2 w1)) (some ((), sI b4 250 2 z1)) (fun a b => RS n B T (q + 1) a.2 b.2 ∧ Fr (lnC T) hc a.2 ∧ Fr lnR hr b.2 ∧ (nofl a.2 → ∃ D f, LD D T f a.2 b.2)) := by
      refine z2_some ⟨(r4.ln hT fc5 fr5).le (by omega), (((fca.trans (f2'.mono (fun a k z => Or.inl z))).trans (fc3.mono (fun a k z => Or.inr z))).trans (f4'.mono (fun a k z => Or.inl z))).trans (fc5.mono (fun a k z => Or.inr z)), (((frb.trans (h2.mono (fun a k z => Or.inl z))).trans (fr3.mono (fun a k z => Or.inr z))).trans (h4.mono (fun a k z => Or.inl z))).trans (fr5.mono (fun a k z => Or.inr z)), fun z => ?_⟩
      obtain ⟨g3, v, rfl, rfl, v5, v6⟩ := v4 ((nofl_ln hT fc5).symm.trans z)
      obtain ⟨-, u, rfl, rfl, v3, v4'⟩ := v2 ((nofl_ln hT fc3).symm.trans g3)
      have lb := la.op hT f2' h2
      have c5 : CH (setTn D u) T (sI a2 T 5 (zi u)) := lb.1.s5 hT
      have n5 : NWh (setTn D u) (sI b2 240 28 (zi u)) := lb.2.1.s5
      have c6 := c5.fr f4' (fun a k h1 h2 => by unfold opC; omega)
      have n6 := n5.fr h4 (by intro a k; unfold opR; omega)
      have sp := setPr_p d3 (t := 2) (by decide) ⟨v5, v6⟩
      refine ⟨setPr (setTn D u) 2 v, fs, c6.pr hT (by decide), n6.pr (by decide), ⟨⟨d3.c.1, d3.c.2.1, d3.c.2.2.1, d3.c.2.2.2.1, d3.c.2.2.2.2.1, by show 0 ≤ u; omega, v4'⟩, d3.e, d3.q, d3.s, sp.1, sp.2, fun _ => v3, d3.p.2.2.2⟩, d4, fun e h1 h2 => ?_, ⟨?_, ?_⟩, lb.2.2.2.2.2.2⟩
      · show gI (sI a4 _ _ _) (T + 2) e = 0
        rw [gI_sI, if_neg (by omega), f4'.i (by unfold opC; omega), gI_sI, if_neg (by omega)]
        exact lb.2.2.2.2.1 e h1 h2
      · show gI (sI a4 _ _ _) 1 7 = _
        rw [gI_sI, if_neg (by omega), f4'.i (by unfold opC; omega), gI_sI, if_neg (by omega)]
        exact lb.2.2.2.2.2.1.1
      · show gI (sI b4 _ _ _) 240 29 = _
        rw [gI_sI, if_neg (by omega), h4.i (by unfold opR; omega), gI_sI, if_neg (by omega)]
        exact lb.2.2.2.2.2.1.2
    have fin := x_lineE hT key
    rw [bd_v, bd_v] at fin
    dsimp only at fin ⊢
    unfold j_X10_line_203
    refine z2_rf (by decide) ?_
    exact z2_mono fin (fun a b z => ⟨z.1.le (by omega), z.2⟩)
/-! the evenings of a set -/
theorem b_number (x : RS n B T q h hr) : ∃ v, s_X3_number h = some v := by
  obtain ⟨x1, x2, x3, ⟨p, e, x4, x5⟩, x6⟩ := x
  rcases c_number x1 x4 with ⟨-, -, -, ⟨-, v, -, z, -⟩ | ⟨-, z, -⟩⟩ | ⟨-, -, z⟩
  · exact ⟨_, z⟩
  · exact ⟨_, z⟩
  · exact ⟨_, z⟩
theorem b_setEv (hT : TL T) (x : RS n B T q h hr) (g : ¬ nofl h) : zw (s_X3_takeSetEvening h) (fun r => Fr (lC T) h r.2) := by
  have bT := hT.b
  obtain ⟨v, hv⟩ := b_number x
  unfold s_X3_takeSetEvening
  rw [hv, bd_v, b_ref g, b_ref g, b_ref g, b_ref g, x.2.1, bd_v, bd_v, bd_v, if_pos hT.l0, if_pos hT.l0]
  have same : zw (some ((), h)) (fun r : Unit × AH => Fr (lC T) h r.2) := zw_some (Fr.refl _ h)
  refine zw_if (fun _ => ?_) (fun _ => same)
  refine zw_if (fun _ => same) (fun _ => ?_)
  refine zw_if (fun _ => ?_) (fun _ => same)
  obtain ⟨w, hw⟩ := at_any (h := h) hT.l2 v
  rw [hw, bd_v]
  refine zw_if (fun _ => same) (fun _ => ?_)
  rw [bd_v, if_pos hT.l0]
  refine zw_bd (b_row hT (X := T + 2) (m := 16) (by omega) hT.l2 rfl _ _) ?_
  rintro ⟨u1, g1⟩ f1
  dsimp only at f1 ⊢
  rw [b_adv (fun z => g ((nofl_ln hT f1).symm.trans z)), bd_v]
  exact zw_some f1
/-- the class's turns behind a fault, from the turn i -/
theorem b_setLoop (hT : TL T) (x : RS n B T q h hr) (g : ¬ nofl h) {i : Nat} (hi : i ≤ 17) : zw (lpH l_X3_readSet_33 (10000 - i) (zi (i : Int)) h) (fun r => Fr (lC T) h r.2) := by
  refine zw_loop 17 (fun i s h' => s = zi (i : Int) ∧ Fr (lC T) h h') ?_ (17 - i) i (10000 - i) _ _ (by omega) (by omega) ⟨rfl, Fr.refl _ h⟩
  rintro j s h' hj ⟨rfl, hf⟩
  have x' := x.ln hT hf (Fr.refl lR hr)
  have g' : ¬ nofl h' := fun z => g ((nofl_ln hT hf).symm.trans z)
  unfold l_X3_readSet_33
  by_cases q : j = 17
  · exact zw_t (by rw [q]; decide) (zw_some (Or.inr ⟨_, rfl, hf⟩))
  · refine zw_f (by rw [(show (16 : Int32) = zi 16 from zi_lit 16), zi_lt (by omega) (by omega) (by omega) (by omega)]; show ¬ (16 : Int) < j; omega) ?_
    have turn : zw (j_X3_readSet_51_33 (zi (j : Int)) h') (fun r : (Int32 ⊕ Unit) × AH => (∃ s', r.1 = .inl s' ∧ j < 17 ∧ s' = zi ((j + 1 : Nat) : Int) ∧ Fr (lC T) h r.2) ∨ (∃ e, r.1 = .inr e ∧ Fr (lC T) h r.2)) := by
      unfold j_X3_readSet_51_33
      refine zw_bd (b_setEv hT x' g') ?_
      rintro ⟨u1, g1⟩ f1
      exact zw_some (Or.inl ⟨_, rfl, by omega, (by first | (simp only [zi_lit, zi_neg, zi_add, zi_sub, zi_mul, zl_lit, zl_neg, zl_add, zl_sub, zl_mul, zl_i]; exact congrArg zi (by omega)) | (simp only [zi_lit, zi_neg, zi_add, zi_sub, zi_mul, zl_lit, zl_neg, zl_add, zl_sub, zl_mul, zl_i]; done) | exact congrArg zi (by omega)), hf.trans f1⟩)
    refine zw_if (fun _ => turn) (fun _ => zw_if (fun _ => turn) (fun _ => zw_some (Or.inr ⟨_, rfl, hf⟩)))
def setMk (D : HD) (v : Nat) : HD := (D.ch, D.co, D.N, D.K, D.R, D.ten, fun e w => if e = v ∧ w = 3 then 1 else D.E e w, D.Q, D.S, D.P)
/-- what is told ahead of a set's end: its price is told, its evenings not yet all -/
def LSet (D : HD) (T : Nat) (f : Nat → Bool) (hc hr : AH) : Prop := CH D T hc ∧ NWh D hr ∧ (WC D ∧ WE D ∧ WQ D ∧ WS D ∧ D.P 0 = -1 ∧ (∀ t, t < 5 → -1 ≤ D.P t ∧ D.P t ≤ 9999) ∧ (D.P 2 ≠ -1 → 1 ≤ D.ten)) ∧ W60 D ∧ (∀ e, D.N ≤ e → e < 16 → gI hc (T + 2) e = 0) ∧ FLg f hc hr ∧ f 7 = true
theorem LSet.op {gc gr : AH} (hT : TL T) (x : LSet D T f hc hr) (fc : Fr opC hc gc) (fr : Fr opR hr gr) : LSet D T f gc gr := by
  have bT := hT.b
  obtain ⟨x1, x2, x3, x4, x5, x6, x7⟩ := x
  exact ⟨x1.fr fc (fun a k h1 h2 => by unfold opC; omega), x2.fr fr (by intro a k; unfold opR; omega), x3, x4, fun e h1 h2 => (fc.i (by unfold opC; omega)).trans (x5 e h1 h2), ⟨(fc.i (by unfold opC; omega)).trans x6.1, (fr.i (by unfold opR; omega)).trans x6.2⟩, x7⟩
/-- one more evening of the set -/
theorem LSet.mk {v : Nat} (hT : TL T) (x : LSet D T f hc hr) (hv : v < D.N) : LSet (setMk D v) T f (sI hc (T + 2) v 1) (sI hr 247 (4 * v + 3) 1) := by
  have bT := hT.b
  obtain ⟨⟨⟨a0, a1, a2, a3, a4, a5⟩, b1, b2, b3, b4, b5, b6⟩, ⟨⟨c0, c1, c2, c3, c4, c5⟩, e1, e2, e3, e4⟩, ⟨w1, w2, w3⟩, x4, x5, x6, x7⟩ := x
  have o : ∀ a k, ¬ (a = T + 2 ∧ k = v) → gI (sI hc (T + 2) v 1) a k = gI hc a k := fun a k z => by rw [gI_sI, if_neg z]
  have p : ∀ a k, ¬ (a = 247 ∧ k = 4 * v + 3) → gI (sI hr 247 (4 * v + 3) 1) a k = gI hr a k := fun a k z => by rw [gI_sI, if_neg z]
  refine ⟨⟨⟨(o _ _ (by omega)).trans a0, (o _ _ (by omega)).trans a1, (o _ _ (by omega)).trans a2, (o _ _ (by omega)).trans a3, (o _ _ (by omega)).trans a4, (o _ _ (by omega)).trans a5⟩, fun e w he hw => ?_, fun e he => ?_, fun k w hk hw => (o _ _ (by omega)).trans (b3 k w hk hw), fun k hk => (o _ _ (by omega)).trans (b4 k hk), fun r hr => ⟨(o _ _ (by omega)).trans (b5 r hr).1, (o _ _ (by omega)).trans (b5 r hr).2⟩, fun j hj => (o _ _ (by omega)).trans (b6 j hj)⟩, ⟨⟨(p _ _ (by omega)).trans c0, (p _ _ (by omega)).trans c1, (p _ _ (by omega)).trans c2, (p _ _ (by omega)).trans c3, (p _ _ (by omega)).trans c4, (p _ _ (by omega)).trans c5⟩, fun e w he hw => ?_, fun k w hk hw => (p _ _ (by omega)).trans (e2 k w hk hw), fun r w hr hw => (p _ _ (by omega)).trans (e3 r w hr hw), fun j hj => (p _ _ (by omega)).trans (e4 j hj)⟩, ⟨w1, fun e he => ?_, w3⟩, x4, fun e h1 h2 => (o _ _ (by have h1' : D.N ≤ e := h1; omega)).trans (x5 e h1 h2), ⟨(o _ _ (by omega)).trans x6.1, (p _ _ (by omega)).trans x6.2⟩, x7⟩
  · show gI (sI hc (T + 2) v 1) (T + 1) (3 * e + w) = zi (if e = v ∧ w = 3 then 1 else D.E e w)
    rw [if_neg (by omega), o _ _ (by omega)]
    exact b1 e w he hw
  · show gI (sI hc (T + 2) v 1) (T + 2) e = zi (if e = v ∧ 3 = 3 then 1 else D.E e 3)
    by_cases q : e = v
    · rw [if_pos ⟨q, rfl⟩, gI_sI, if_pos ⟨rfl, q⟩]; rfl
    · rw [if_neg (fun z => q z.1), o _ _ (by omega)]
      exact b2 e he
  · show gI (sI hr 247 (4 * v + 3) 1) 247 (4 * e + w) = zi (if e = v ∧ w = 3 then 1 else D.E e w)
    by_cases q : e = v ∧ w = 3
    · rw [if_pos q, gI_sI, if_pos ⟨rfl, by omega⟩]; rfl
    · rw [if_neg q, p _ _ (by omega)]
      exact e1 e w he hw
  · have z := w2 e he
    show (0 ≤ (if e = v ∧ 0 = 3 then 1 else D.E e 0) ∧ (if e = v ∧ 0 = 3 then 1 else D.E e 0) ≤ 3) ∧ (0 ≤ (if e = v ∧ 1 = 3 then 1 else D.E e 1) ∧ (if e = v ∧ 1 = 3 then 1 else D.E e 1) ≤ 999) ∧ (0 ≤ (if e = v ∧ 2 = 3 then 1 else D.E e 2) ∧ (if e = v ∧ 2 = 3 then 1 else D.E e 2) ≤ 1000) ∧ ((if e = v ∧ 3 = 3 then 1 else D.E e 3) = 0 ∨ (if e = v ∧ 3 = 3 then 1 else D.E e 3) = 1)
    rw [if_neg (by omega), if_neg (by omega), if_neg (by omega)]
    refine ⟨z.1, z.2.1, z.2.2.1, ?_⟩
    by_cases q : e = v ∧ 3 = 3
    · rw [if_pos q]; exact Or.inr rfl
    · rw [if_neg q]; exact z.2.2.2
/-- how many are marked -/
def mkd (D : HD) : Int := zs (fun e => D.E e 3) D.N
theorem zs_upd (F : Nat → Int) (v : Nat) : ∀ m, v < m → F v = 0 → zs (fun e => if e = v then 1 else F e) m = zs F m + 1 := by
  intro m
  induction m with
  | zero => intro h; omega
  | succ m ih =>
    intro h h0
    rw [zs_s, zs_s]
    by_cases q : m = v
    · subst q
      rw [if_pos rfl, h0, zs_congr (f := fun e => if e = m then 1 else F e) (g := F) (fun i hi => if_neg (by omega))]
      omega
    · rw [if_neg q, ih (by omega) h0]
      omega
/-- an evening of a set, or a fault -/
theorem x_member (hT : TL T) (x : RS n B T q hc hr) (g : nofl hc) (d : LSet D T f hc hr) : z2 (s_X3_takeSetEvening hc) (s_X10_member hr) (fun a b => RS n B T q a.2 b.2 ∧ Fr (lnC T) hc a.2 ∧ Fr lnR hr b.2 ∧ (nofl a.2 → ∃ v, v < D.N ∧ D.E v 3 = 0 ∧ LSet (setMk D v) T f a.2 b.2)) := by
  have bT := hT.b
  have hgood := x.good g
  obtain ⟨x1, x2, x3, ⟨p, e, x4, x5⟩, x6⟩ := id x
  have hN : D.N ≤ 16 := d.2.2.1.1.2.2.1
  unfold s_X10_member
  refine z2_r hgood (z2_rf one_ne ?_)
  unfold s_X3_takeSetEvening
  have no : ∀ F : Int32, F ≠ 0 → z2 (bd (s_X3_refuse F hc) fun q10 => some ((), q10.2)) (bd (s_X10_wrong F hr) fun q8 => j_X10_member_81 q8.2) (fun a b => RS n B T q a.2 b.2 ∧ Fr (lnC T) hc a.2 ∧ Fr lnR hr b.2 ∧ (nofl a.2 → ∃ v, v < D.N ∧ D.E v 3 = 0 ∧ LSet (setMk D v) T f a.2 b.2)) := by
    intro F hF
    refine z2_bd (x_ref (q' := q) x hF g) ?_
    rintro ⟨u1, a⟩ ⟨u2, b⟩ ⟨y1, y2, y3, y4, -, -⟩
    dsimp only at y1 y2 y3 y4 ⊢
    unfold j_X10_member_81
    exact z2_r (y1.bad y2) (z2_rt rfl (z2_some ⟨y1, y3.mono (fun a k z => Or.inl z), y4.mono (fun a k z => Or.inl z), fun z => absurd z y2⟩))
  rcases c_number x1 x4 with ⟨s1, s2, s3, ⟨s4, v, s5, s6, s7, s8⟩ | ⟨s4, s6, s8⟩⟩ | ⟨s1, s2, s6⟩
  · refine z2_l s6 (z2_lt s1 (z2_rt s2 ?_))
    rw [s8, s7]
    refine z2_lf (by rw [show (-1 : Int32) = zi (-1) from rfl, zi_eq (by omega) (by omega) (by omega) (by omega)]; omega) ?_
    refine z2_rt (by rw [(show (4 : Int32) = zi 4 from zi_lit 4), zi_le (by omega) (by omega) (by omega) (by omega)]; show ((e - p : Nat) : Int) ≤ 4; omega) ?_
    rw [x2, bd_v, if_pos hT.l0, d.1.1.2.2.1, d.2.1.1.2.2.1]
    by_cases c1 : v < D.N
    · refine z2_lt (by rw [zi_lt (by omega) (by omega) (by omega) (by omega)]; omega) (z2_rt (by rw [zi_lt (by omega) (by omega) (by omega) (by omega)]; omega) ?_)
      rw [bd_v, if_pos hT.l0]
      refine z2_l (at_ok v (n := 16) hT.l2 rfl (by omega)) ?_
      have ev : (4 : Int32) * zi (v : Int) + 3 = zi ((4 * v + 3 : Nat) : Int) := (by first | (simp only [zi_lit, zi_neg, zi_add, zi_sub, zi_mul, zl_lit, zl_neg, zl_add, zl_sub, zl_mul, zl_i]; exact congrArg zi (by omega)) | (simp only [zi_lit, zi_neg, zi_add, zi_sub, zi_mul, zl_lit, zl_neg, zl_add, zl_sub, zl_mul, zl_i]; done) | exact congrArg zi (by omega))
      rw [ev]
      refine z2_r (ldI_ok (4 * v + 3) (n := 64) rfl rfl (by omega)) ?_
      rw [show gI hc (T + 2) v = zi (D.E v 3) from d.1.2.2.1 v c1, show gI hr 247 (4 * v + 3) = zi (D.E v 3) from d.2.1.2.1 v 3 c1 (by decide)]
      rcases (d.2.2.1.2.1 v c1).2.2.2 with c2 | c2
      · rw [c2]
        refine z2_lf (by decide) (z2_rf (by decide) ?_)
        rw [bd_v, if_pos hT.l0]
        refine z2_l (put_ok v (n := 16) hT.l2 rfl (by omega)) ?_
        unfold j_X10_member_81
        refine z2_r hgood (z2_rf one_ne ?_)
        rw [s7, ev]
        refine z2_r (stI_ok (4 * v + 3) (n := 64) rfl rfl (by omega)) ?_
        have f1 : Fr (lC T) hc (sI hc (T + 2) v 1) := (Fr.refl _ hc).sI (by unfold lC; omega)
        have f2 : Fr lR hr (sI hr 247 (4 * v + 3) 1) := (Fr.refl _ hr).sI (by unfold lR; omega)
        have y := x.ln hT f1 f2
        have g1 : nofl (sI hc (T + 2) v 1) := (nofl_ln hT f1).trans g
        have ls := d.mk hT c1
        obtain ⟨-, -, -, ⟨p', e', y4, y5⟩, -⟩ := id y
        have hq : q ≤ e' := Nat.le_trans (y5 g1) y4.1
        dsimp only
        refine z2_bd (x_next y g1 y4) ?_
        rintro ⟨u1, a⟩ ⟨u2, b⟩ ⟨w1, w2, w3, w4⟩
        exact z2_some ⟨w1.le hq, (f1.mono (fun a k z => Or.inr z)).trans (w3.mono (fun a k z => Or.inl z)), (f2.mono (fun a k z => Or.inr z)).trans (w4.mono (fun a k z => Or.inl z)), fun _ => ⟨v, c1, c2, ls.op hT w3 w4⟩⟩
      · rw [c2]
        refine z2_lt rfl (z2_rt rfl ?_)
        exact no 4 (by decide)
    · refine z2_lf (by rw [zi_lt (by omega) (by omega) (by omega) (by omega)]; omega) (z2_rf (by rw [zi_lt (by omega) (by omega) (by omega) (by omega)]; omega) ?_)
      exact no 3 (by decide)
  · have el := x4.2.1
    have n7 := x1.1
    refine z2_l s6 (z2_lt s1 (z2_rt s2 ?_))
    rw [s8]
    refine z2_lt rfl (z2_rf (by rw [(show (4 : Int32) = zi 4 from zi_lit 4), zi_le (by omega) (by omega) (by omega) (by omega)]; show ¬ ((e - p : Nat) : Int) ≤ 4; omega) ?_)
    exact no 2 (by decide)
  · refine z2_l s6 (z2_lf s1 (z2_rf s2 ?_))
    exact no 1 (by decide)
end
