/-! 98.lines: the told numbers of both; the lines of an evening and of seats -/
def NWs (D : HD) (h : AH) : Prop := gI h 240 23 = zi D.ch ∧ gI h 240 24 = zi D.co ∧ gI h 240 25 = zi D.N ∧ gI h 240 26 = zi D.K ∧ gI h 240 27 = zi D.R ∧ gI h 240 28 = zi D.ten
def NWr (D : HD) (h : AH) : Prop := (∀ e w, e < D.N → w < 4 → gI h 247 (4 * e + w) = zi (D.E e w)) ∧ (∀ k w, k < D.K → w < 11 → gI h 248 (11 * k + w) = zi (D.Q k w)) ∧ (∀ r w, r < D.R → w < 2 → gI h 249 (2 * r + w) = zi (D.S r w)) ∧ (∀ t, t < 5 → gI h 250 t = zi (D.P t))
/-- the reference's new numbers -/
def NWh (D : HD) (h : AH) : Prop := NWs D h ∧ NWr D h
theorem NWh.fr {D : HD} {h h' : AH} {S : Nat → Nat → Prop} (x : NWh D h) (f : Fr S h h') (n : ∀ a k, (a = 240 ∧ 23 ≤ k ∧ k ≤ 28) ∨ (247 ≤ a ∧ a ≤ 250) → ¬ S a k) : NWh D h' := by
  obtain ⟨⟨a0, a1, a2, a3, a4, a5⟩, b1, b2, b3, b4⟩ := x
  exact ⟨⟨(f.i (n _ _ (by omega))).trans a0, (f.i (n _ _ (by omega))).trans a1, (f.i (n _ _ (by omega))).trans a2, (f.i (n _ _ (by omega))).trans a3, (f.i (n _ _ (by omega))).trans a4, (f.i (n _ _ (by omega))).trans a5⟩, fun e w he hw => (f.i (n _ _ (by omega))).trans (b1 e w he hw), fun k w hk hw => (f.i (n _ _ (by omega))).trans (b2 k w hk hw), fun r w hr hw => (f.i (n _ _ (by omega))).trans (b3 r w hr hw), fun t ht => (f.i (n _ _ (by omega))).trans (b4 t ht)⟩
/-- which lines were told: chairs, costs, year, ten, set, cheap -/
def cn6 (a b c d e g : Bool) : Nat := (if a then 32 else 0) + (if b then 64 else 0) + (if c then 2 else 0) + (if d then 4 else 0) + (if e then 8 else 0) + (if g then 16 else 0)
def rn6 (a b c d e g : Bool) : Nat := (if a then 1 else 0) + (if b then 2 else 0) + (if c then 32 else 0) + (if d then 64 else 0) + (if e then 128 else 0) + (if g then 256 else 0)
def FLg (f : Nat → Bool) (hc hr : AH) : Prop := gI hc 1 7 = zi (cn6 (f 0) (f 1) (f 5) (f 6) (f 7) (f 8)) ∧ gI hr 240 29 = zi (rn6 (f 0) (f 1) (f 5) (f 6) (f 7) (f 8))
/-- what is told -/
def LD (D : HD) (T : Nat) (f : Nat → Bool) (hc hr : AH) : Prop := CH D T hc ∧ NWh D hr ∧ WFD D ∧ W60 D ∧ (∀ e, D.N ≤ e → e < 16 → gI hc (T + 2) e = 0) ∧ FLg f hc hr ∧ (f 7 = false → ∀ e, e < D.N → D.E e 3 = 0)
def lnC (T a k : Nat) : Prop := opC a k ∨ lC T a k
def lnR (a k : Nat) : Prop := opR a k ∨ lR a k
section
variable {D : HD} {h hc hr : AH} {n T q : Nat} {B : Nat → Nat} {f : Nat → Bool}
theorem LD.fr {gc gr : AH} {S R : Nat → Nat → Prop} (x : LD D T f hc hr) (fc : Fr S hc gc) (fr : Fr R hr gr) (n1 : ∀ a k, (T ≤ a ∧ a ≤ T + 7) ∨ (a = 1 ∧ k = 7) → ¬ S a k) (n2 : ∀ a k, (a = 240 ∧ 23 ≤ k ∧ k ≤ 29) ∨ (247 ≤ a ∧ a ≤ 250) → ¬ R a k) : LD D T f gc gr := by
  obtain ⟨x1, x2, x3, x4, x5, x6, x7⟩ := x
  exact ⟨x1.fr fc (fun a k h1 h2 => n1 a k (Or.inl ⟨h1, h2⟩)), x2.fr fr (fun a k z => n2 a k (by omega)), x3, x4, fun e h1 h2 => (fc.i (n1 _ _ (by omega))).trans (x5 e h1 h2), ⟨(fc.i (n1 _ _ (by omega))).trans x6.1, (fr.i (n2 _ _ (by omega))).trans x6.2⟩, x7⟩
theorem LD.op {gc gr : AH} (hT : TL T) (x : LD D T f hc hr) (fc : Fr opC hc gc) (fr : Fr opR hr gr) : LD D T f gc gr := by
  have bT := hT.b
  exact x.fr fc fr (by unfold opC; omega) (by unfold opR; omega)
theorem RS.ln {gc gr : AH} (hT : TL T) (x : RS n B T q hc hr) (fc : Fr (lC T) hc gc) (fr : Fr lR hr gr) : RS n B T q gc gr := by
  have bT := hT.b
  exact x.fr fc fr (by unfold lC; omega) (by unfold lR; omega)
theorem nofl_ln {gc : AH} (hT : TL T) (fc : Fr (lC T) hc gc) : gI gc 1 8 = gI hc 1 8 := by
  have bT := hT.b
  exact fc.i (by unfold lC; omega)
theorem into_ln {gc : AH} (hT : TL T) (fc : Fr (lC T) hc gc) : gR gc 1 2 = gR hc 1 2 := by
  have bT := hT.b
  exact fc.r (by unfold lC; omega)
/-- a line's content, and its sign -/
theorem x_lineE {c : Option (Unit × AH)} {r : Option (Unit × AH)} (hT : TL T) (h : z2 c r (fun a b => RS n B T q a.2 b.2 ∧ Fr (lnC T) hc a.2 ∧ Fr lnR hr b.2 ∧ (nofl a.2 → ∃ D f, LD D T f a.2 b.2))) : z2 (bd c fun x => j_X3_readLine_258 x.2) (bd r fun y => j_X10_line_259 y.2) (fun a b => RS n B T (q + 1) a.2 b.2 ∧ Fr (lnC T) hc a.2 ∧ Fr lnR hr b.2 ∧ (nofl a.2 → ∃ D f, LD D T f a.2 b.2)) := by
  refine z2_bd h ?_
  rintro ⟨u1, a⟩ ⟨u2, b⟩ ⟨x1, x2, x3, x4⟩
  dsimp only at x1 x2 x3 x4 ⊢
  unfold j_X3_readLine_258
  obtain ⟨⟨v1, a1⟩, ⟨v2, b1'⟩, e1, e2, y1, y2, y3, y4⟩ := x_stop x1
  dsimp only at y1 y2 y3 y4
  rw [e1, e2, bd_v]
  refine z2_some ⟨y1, x2.trans (y2.mono (fun a k z => Or.inl z)), x3.trans (y3.mono (fun a k z => Or.inl z)), fun z => ?_⟩
  obtain ⟨D, f, w⟩ := x4 (y4 z)
  exact ⟨D, f, w.op hT y2 y3⟩
/-! behind a fault -/
theorem b_next (g : ¬ nofl h) (a b : Int32) : s_X3_tellNext a b h = some ((), h) := by
  unfold s_X3_tellNext j_X3_tellNext_10
  rw [b_adv g, b_ref g]
  split
  · rfl
  · rw [bd_v]
    dsimp only
    rw [b_adv g, bd_v]
theorem b_once (hT : TL T) (g : ¬ nofl h) (a : Int32) : s_X3_tellOnce a h = some ((), sI h 1 7 (gI h 1 7 ||| a)) := by
  have g2 : ¬ nofl (sI h 1 7 (gI h 1 7 ||| a)) := fun z => g (by
    have z' : gI (sI h 1 7 (gI h 1 7 ||| a)) 1 8 = 0 := z
    rw [gI_sI, if_neg (by omega)] at z'
    exact z')
  unfold s_X3_tellOnce j_X3_tellOnce_14
  rw [b_ref g, b_adv g2]
  split
  · rfl
  · rw [bd_v]
    dsimp only
    rw [b_adv g2, bd_v]
/-- the class's row of a number, written behind a fault -/
theorem b_row {X : Nat} {m : Nat} (hT : TL T) (hX : T ≤ X ∧ X ≤ T + 7) (hL : LAY X = (1, m)) (hn : Nat.ble m 100000 = true) (i v : Int32) : zw (s_X9_put (some X) i v h) (fun r => Fr (lC T) h r.2) := zw_mono (put_any hL hn) (fun r f => f.mono (by unfold lC; omega))
theorem b_evening (hT : TL T) (x : RS n B T q h hr) (g : ¬ nofl h) : zw (s_X3_readEvening h) (fun r => Fr (lC T) h r.2) := by
  have bT := hT.b
  have into := x.2.1
  have keep : ∀ h', Fr (lC T) h h' → RS n B T q h' hr ∧ ¬ nofl h' ∧ gR h' 1 2 = some T := fun h' f => ⟨x.ln hT f (Fr.refl lR hr), fun z => g ((nofl_ln hT f).symm.trans z), (into_ln hT f).trans into⟩
  unfold s_X3_readEvening
  rw [into, bd_v, if_pos hT.l0, b_next g, bd_v]
  dsimp only
  rw [into, bd_v, if_pos hT.l0, bd_v, if_pos hT.l0]
  obtain ⟨v1, e1⟩ := b_take x g 0 3
  rw [e1, bd_v]
  refine zw_bd (b_row hT (X := T + 1) (m := 48) (by omega) hT.l1 rfl _ _) ?_
  rintro ⟨u1, g1⟩ f1
  dsimp only at f1 ⊢
  obtain ⟨x1, n1, i1⟩ := keep g1 f1
  rw [i1, bd_v, if_pos hT.l0]
  obtain ⟨v2, e2⟩ := b_take x1 n1 0 999
  rw [e2, bd_v]
  refine zw_bd (b_row hT (X := T + 1) (m := 48) (by omega) hT.l1 rfl _ _) ?_
  rintro ⟨u2, g2⟩ f2
  dsimp only at f2 ⊢
  have f12 := f1.trans f2
  obtain ⟨x2, n2, i2⟩ := keep g2 f12
  rw [i2, bd_v, if_pos hT.l0]
  obtain ⟨w, e3⟩ := b_takes x2 n2 (c := 3) (by decide)
  rw [e3, bd_v]
  have fin : ∀ k0 : Int32, zw (j_X3_readEvening_94 k0 (gI h T 2 * 3 + 2) (T + 1) g2) (fun r => Fr (lC T) h r.2) := by
    intro k0
    unfold j_X3_readEvening_94
    refine zw_bd (b_row hT (X := T + 1) (m := 48) (by omega) hT.l1 rfl _ _) ?_
    rintro ⟨u3, g3⟩ f3
    dsimp only at f3 ⊢
    obtain ⟨x3, n3, i3⟩ := keep g3 (f12.trans f3)
    rw [i3, bd_v, if_pos hT.l0]
    exact zw_some ((f12.trans f3).sI (by unfold lC; omega))
  dsimp only
  refine zw_if (fun _ => fin _) (fun _ => ?_)
  obtain ⟨v4, e4⟩ := b_take x2 n2 0 1000
  rw [e4, bd_v]
  exact fin _
theorem b_seats (hT : TL T) (x : RS n B T q h hr) (g : ¬ nofl h) : zw (s_X3_readSeats h) (fun r => Fr (lC T) h r.2) := by
  have bT := hT.b
  have into := x.2.1
  have keep : ∀ h', Fr (lC T) h h' → RS n B T q h' hr ∧ ¬ nofl h' ∧ gR h' 1 2 = some T := fun h' f => ⟨x.ln hT f (Fr.refl lR hr), fun z => g ((nofl_ln hT f).symm.trans z), (into_ln hT f).trans into⟩
  unfold s_X3_readSeats
  rw [into, bd_v, if_pos hT.l0, b_next g, bd_v]
  dsimp only
  rw [into, bd_v, if_pos hT.l0, bd_v, if_pos hT.l0]
  obtain ⟨v1, e1⟩ := b_take x g 1 400
  rw [e1, bd_v]
  refine zw_bd (b_row hT (X := T + 5) (m := 4) (by omega) hT.l5 rfl _ _) ?_
  rintro ⟨u1, g1⟩ f1
  dsimp only at f1 ⊢
  obtain ⟨x1, n1, i1⟩ := keep g1 f1
  rw [b_need x1 n1 (by decide), bd_v]
  dsimp only
  rw [i1, bd_v, if_pos hT.l0, bd_v, if_pos hT.l0]
  obtain ⟨v2, e2⟩ := b_take x1 n1 0 99
  rw [e2, bd_v]
  refine zw_bd (b_row hT (X := T + 6) (m := 4) (by omega) hT.l6 rfl _ _) ?_
  rintro ⟨u2, g2⟩ f2
  dsimp only at f2 ⊢
  obtain ⟨x2, n2, i2⟩ := keep g2 (f1.trans f2)
  rw [i2, bd_v, if_pos hT.l0]
  exact zw_some ((f1.trans f2).sI (by unfold lC; omega))
/-! the line of an evening -/
def addE (D : HD) (v : Nat → Int) : HD := (D.ch, D.co, D.N + 1, D.K, D.R, D.ten, fun e w => if e = D.N then v w else D.E e w, D.Q, D.S, D.P)
theorem addE_wf (hD : WFD D) (hN : D.N < 16) {v : Nat → Int} (h0 : 0 ≤ v 0 ∧ v 0 ≤ 3) (h1 : 0 ≤ v 1 ∧ v 1 ≤ 999) (h2 : 0 ≤ v 2 ∧ v 2 ≤ 1000) (h3 : v 3 = 0) : WFD (addE D v) := by
  obtain ⟨c1, c2, c3, c4, c5, c6⟩ := hD.c
  refine ⟨⟨c1, c2, by show D.N + 1 ≤ 16; omega, c4, c5, c6⟩, fun e he => ?_, hD.q, hD.s, hD.p.1, hD.p.2.1, hD.p.2.2.1, fun z => ?_⟩
  · show (0 ≤ (if e = D.N then v 0 else D.E e 0) ∧ (if e = D.N then v 0 else D.E e 0) ≤ 3) ∧ (0 ≤ (if e = D.N then v 1 else D.E e 1) ∧ (if e = D.N then v 1 else D.E e 1) ≤ 999) ∧ (0 ≤ (if e = D.N then v 2 else D.E e 2) ∧ (if e = D.N then v 2 else D.E e 2) ≤ 1000) ∧ ((if e = D.N then v 3 else D.E e 3) = 0 ∨ (if e = D.N then v 3 else D.E e 3) = 1)
    by_cases q : e = D.N
    · rw [if_pos q, if_pos q, if_pos q, if_pos q]
      exact ⟨h0, h1, h2, Or.inl h3⟩
    · rw [if_neg q, if_neg q, if_neg q, if_neg q]
      exact hD.e e (by have he' : e < D.N + 1 := he; omega)
  · obtain ⟨e, e1, e2⟩ := hD.p.2.2.2 z
    refine ⟨e, by show e < D.N + 1; omega, ?_⟩
    show (if e = D.N then v 3 else D.E e 3) = 1
    rw [if_neg (by omega)]
    exact e2
theorem x_evLine (hT : TL T) (x : RS n B T q hc hr) (g : nofl hc) (d : LD D T f hc hr) : z2 (s_X3_readEvening hc) (s_X10_readsEvening hr) (fun a b => RS n B T q a.2 b.2 ∧ Fr (lnC T) hc a.2 ∧ Fr lnR hr b.2 ∧ (nofl a.2 → ∃ D f, LD D T f a.2 b.2)) := by
  have bT := hT.b
  obtain ⟨d1, d2, d3, d4, d5, d6, d7⟩ := id d
  have hN := d3.N16
  have into := x.2.1
  unfold s_X10_readsEvening
  rw [d2.1.2.2.1]
  by_cases q0 : D.N = 16
  · refine z2_rt (by rw [q0]; rfl) ?_
    obtain ⟨⟨u1, a⟩, ⟨u2, b⟩, e1, e2, y1, y2, y3, y4, y5, -⟩ := x_ref (q' := q) x (F := 2) (by decide) g
    dsimp only at y1 y2 y3 y4 y5
    have eq : s_X3_readEvening hc = s_X3_readEvening a := by
      have t2 : s_X3_tellNext (gI hc T 2) 16 hc = some ((), a) := by
        unfold s_X3_tellNext j_X3_tellNext_10
        rw [d1.1.2.2.1, if_neg (by rw [(show (16 : Int32) = zi 16 from zi_lit 16), zi_lt (by omega) (by omega) (by omega) (by omega)]; show ¬ ((D.N : Nat) : Int) < 16; omega), e1, bd_v, b_adv y2]
        rfl
      unfold s_X3_readEvening
      rw [into, y1.2.1, bd_v, bd_v, if_pos hT.l0, if_pos hT.l0, t2, b_next y2]
    rw [eq]
    obtain ⟨r, e3, f3⟩ := b_evening hT y1 y2
    refine ⟨r, ((), b), e3, ?_, y1.ln hT f3 (Fr.refl lR b), (y3.mono (fun a k z => Or.inl z)).trans (f3.mono (fun a k z => Or.inr z)), y4.mono (fun a k z => Or.inl z), fun z => absurd ((nofl_ln hT f3).symm.trans z) y2⟩
    rw [e2, bd_v]
    unfold j_X10_readsEvening_14
    rw [y1.bad y2, bd_v, if_pos rfl]
  · have hlt : D.N < 16 := by omega
    refine z2_rf (by rw [(show (16 : Int32) = zi 16 from zi_lit 16), zi_eq (by omega) (by omega) (by omega) (by omega)]; show ¬ ((D.N : Nat) : Int) = 16; omega) ?_
    unfold j_X10_readsEvening_14
    refine z2_r (x.good g) (z2_rf one_ne ?_)
    obtain ⟨-, -, -, ⟨p, e, x4, x5⟩, -⟩ := id x
    have hq : q ≤ e := Nat.le_trans (x5 g) x4.1
    obtain ⟨⟨u1, a1⟩, ⟨u2, b1'⟩, e1, e2, y1, y2, y3, y4⟩ := x_next x g x4
    dsimp only at y1 y2 y3 y4
    have t2 : s_X3_tellNext (gI hc T 2) 16 hc = some ((), a1) := by
      unfold s_X3_tellNext j_X3_tellNext_10
      rw [d1.1.2.2.1, if_pos (by rw [(show (16 : Int32) = zi 16 from zi_lit 16), zi_lt (by omega) (by omega) (by omega) (by omega)]; show ((D.N : Nat) : Int) < 16; omega), e1, bd_v]
    have dd := d.op hT y3 y4
    have n1 : gI a1 T 2 = zi D.N := dd.1.1.2.2.1
    have m1 : gI b1' 240 25 = zi D.N := dd.2.1.1.2.2.1
    unfold s_X3_readEvening
    rw [into, bd_v, if_pos hT.l0, t2, bd_v]
    dsimp only
    rw [y1.2.1, bd_v, if_pos hT.l0, bd_v, if_pos hT.l0, n1]
    refine z2_r e2 ?_
    dsimp only
    rw [m1]
    -- the sort
    refine z2_bd (x_take (l := 0) (m := 3) y1 (by decide) (by decide) (by decide) rfl rfl rfl rfl) ?_
    rintro ⟨w0, a2⟩ ⟨z0, b2⟩ ⟨r2, f2, h2, v2⟩
    dsimp only at r2 f2 h2 v2 ⊢
    have i0 : zi (D.N : Int) * 3 + 0 = zi ((3 * D.N : Nat) : Int) := (by first | (simp only [zi_lit, zi_neg, zi_add, zi_sub, zi_mul, zl_lit, zl_neg, zl_add, zl_sub, zl_mul, zl_i]; exact congrArg zi (by omega)) | (simp only [zi_lit, zi_neg, zi_add, zi_sub, zi_mul, zl_lit, zl_neg, zl_add, zl_sub, zl_mul, zl_i]; done) | exact congrArg zi (by omega))
    have i1 : zi (D.N : Int) * 3 + 1 = zi ((3 * D.N + 1 : Nat) : Int) := (by first | (simp only [zi_lit, zi_neg, zi_add, zi_sub, zi_mul, zl_lit, zl_neg, zl_add, zl_sub, zl_mul, zl_i]; exact congrArg zi (by omega)) | (simp only [zi_lit, zi_neg, zi_add, zi_sub, zi_mul, zl_lit, zl_neg, zl_add, zl_sub, zl_mul, zl_i]; done) | exact congrArg zi (by omega))
    have i2 : zi (D.N : Int) * 3 + 2 = zi ((3 * D.N + 2 : Nat) : Int) := (by first | (simp only [zi_lit, zi_neg, zi_add, zi_sub, zi_mul, zl_lit, zl_neg, zl_add, zl_sub, zl_mul, zl_i]; exact congrArg zi (by omega)) | (simp only [zi_lit, zi_neg, zi_add, zi_sub, zi_mul, zl_lit, zl_neg, zl_add, zl_sub, zl_mul, zl_i]; done) | exact congrArg zi (by omega))
    have j0 : (4 : Int32) * zi (D.N : Int) = zi ((4 * D.N : Nat) : Int) := (by first | (simp only [zi_lit, zi_neg, zi_add, zi_sub, zi_mul, zl_lit, zl_neg, zl_add, zl_sub, zl_mul, zl_i]; exact congrArg zi (by omega)) | (simp only [zi_lit, zi_neg, zi_add, zi_sub, zi_mul, zl_lit, zl_neg, zl_add, zl_sub, zl_mul, zl_i]; done) | exact congrArg zi (by omega))
    have j1 : (4 : Int32) * zi (D.N : Int) + 1 = zi ((4 * D.N + 1 : Nat) : Int) := (by first | (simp only [zi_lit, zi_neg, zi_add, zi_sub, zi_mul, zl_lit, zl_neg, zl_add, zl_sub, zl_mul, zl_i]; exact congrArg zi (by omega)) | (simp only [zi_lit, zi_neg, zi_add, zi_sub, zi_mul, zl_lit, zl_neg, zl_add, zl_sub, zl_mul, zl_i]; done) | exact congrArg zi (by omega))
    have j2 : (4 : Int32) * zi (D.N : Int) + 2 = zi ((4 * D.N + 2 : Nat) : Int) := (by first | (simp only [zi_lit, zi_neg, zi_add, zi_sub, zi_mul, zl_lit, zl_neg, zl_add, zl_sub, zl_mul, zl_i]; exact congrArg zi (by omega)) | (simp only [zi_lit, zi_neg, zi_add, zi_sub, zi_mul, zl_lit, zl_neg, zl_add, zl_sub, zl_mul, zl_i]; done) | exact congrArg zi (by omega))
    have j3 : (4 : Int32) * zi (D.N : Int) + 3 = zi ((4 * D.N + 3 : Nat) : Int) := (by first | (simp only [zi_lit, zi_neg, zi_add, zi_sub, zi_mul, zl_lit, zl_neg, zl_add, zl_sub, zl_mul, zl_i]; exact congrArg zi (by omega)) | (simp only [zi_lit, zi_neg, zi_add, zi_sub, zi_mul, zl_lit, zl_neg, zl_add, zl_sub, zl_mul, zl_i]; done) | exact congrArg zi (by omega))
    rw [i0, i1, i2, j1, j2, j3, j0]
    refine z2_l (put_ok (3 * D.N) (n := 48) hT.l1 rfl (by omega)) (z2_r (stI_ok (4 * D.N) (n := 64) rfl rfl (by omega)) ?_)
    have fc3 : Fr (lC T) a2 (sI a2 (T + 1) (3 * D.N) w0) := (Fr.refl _ a2).sI (by unfold lC; omega)
    have fr3 : Fr lR b2 (sI b2 247 (4 * D.N) z0) := (Fr.refl _ b2).sI (by unfold lR; omega)
    have r3 := r2.ln hT fc3 fr3
    have c3 : gI (sI a2 (T + 1) (3 * D.N) w0) (T + 1) (3 * D.N) = w0 := by rw [gI_sI, if_pos ⟨rfl, rfl⟩]
    have k3 : gI (sI b2 247 (4 * D.N) z0) 247 (4 * D.N) = z0 := by rw [gI_sI, if_pos ⟨rfl, rfl⟩]
    have F3 : Fr (fun a k => opC a k ∨ (a = T + 1 ∧ 3 * D.N ≤ k ∧ k ≤ 3 * D.N + 2)) a1 (sI a2 (T + 1) (3 * D.N) w0) := (f2.mono (fun a k z => Or.inl z) : Fr (fun a k => opC a k ∨ (a = T + 1 ∧ 3 * D.N ≤ k ∧ k ≤ 3 * D.N + 2)) a1 a2).sI (by omega)
    have G3 : Fr (fun a k => opR a k ∨ (a = 247 ∧ 4 * D.N ≤ k ∧ k ≤ 4 * D.N + 3)) b1' (sI b2 247 (4 * D.N) z0) := (h2.mono (fun a k z => Or.inl z) : Fr (fun a k => opR a k ∨ (a = 247 ∧ 4 * D.N ≤ k ∧ k ≤ 4 * D.N + 3)) b1' b2).sI (by omega)
    have nf3 : nofl (sI a2 (T + 1) (3 * D.N) w0) → nofl a2 := fun z => (nofl_ln hT fc3).symm.trans z
    dsimp only
    generalize sI a2 (T + 1) (3 * D.N) w0 = a3 at fc3 r3 c3 F3 nf3 ⊢
    generalize sI b2 247 (4 * D.N) z0 = b3 at fr3 r3 k3 G3 ⊢
    -- the price
    rw [r3.2.1, bd_v, if_pos hT.l0]
    refine z2_bd (x_take (l := 0) (m := 999) r3 (by decide) (by decide) (by decide) rfl rfl rfl rfl) ?_
    rintro ⟨w1, a4⟩ ⟨z1, b4⟩ ⟨r4, f4, h4, v4⟩
    dsimp only at r4 f4 h4 v4 ⊢
    refine z2_l (put_ok (3 * D.N + 1) (n := 48) hT.l1 rfl (by omega)) (z2_r (stI_ok (4 * D.N + 1) (n := 64) rfl rfl (by omega)) ?_)
    have fc5 : Fr (lC T) a4 (sI a4 (T + 1) (3 * D.N + 1) w1) := (Fr.refl _ a4).sI (by unfold lC; omega)
    have fr5 : Fr lR b4 (sI b4 247 (4 * D.N + 1) z1) := (Fr.refl _ b4).sI (by unfold lR; omega)
    have r5 := r4.ln hT fc5 fr5
    have c5 : gI (sI a4 (T + 1) (3 * D.N + 1) w1) (T + 1) (3 * D.N) = w0 ∧ gI (sI a4 (T + 1) (3 * D.N + 1) w1) (T + 1) (3 * D.N + 1) = w1 := ⟨by rw [gI_sI, if_neg (by omega), f4.i (by unfold opC; omega)]; exact c3, by rw [gI_sI, if_pos ⟨rfl, rfl⟩]⟩
    have k5 : gI (sI b4 247 (4 * D.N + 1) z1) 247 (4 * D.N) = z0 ∧ gI (sI b4 247 (4 * D.N + 1) z1) 247 (4 * D.N + 1) = z1 := ⟨by rw [gI_sI, if_neg (by omega), h4.i (by unfold opR; omega)]; exact k3, by rw [gI_sI, if_pos ⟨rfl, rfl⟩]⟩
    have F5 : Fr (fun a k => opC a k ∨ (a = T + 1 ∧ 3 * D.N ≤ k ∧ k ≤ 3 * D.N + 2)) a1 (sI a4 (T + 1) (3 * D.N + 1) w1) := (F3.trans (f4.mono (fun a k z => Or.inl z))).sI (by omega)
    have G5 : Fr (fun a k => opR a k ∨ (a = 247 ∧ 4 * D.N ≤ k ∧ k ≤ 4 * D.N + 3)) b1' (sI b4 247 (4 * D.N + 1) z1) := (G3.trans (h4.mono (fun a k z => Or.inl z))).sI (by omega)
    have nf5 : nofl (sI a4 (T + 1) (3 * D.N + 1) w1) → nofl a4 := fun z => (nofl_ln hT fc5).symm.trans z
    dsimp only
    generalize sI a4 (T + 1) (3 * D.N + 1) w1 = a5 at fc5 r5 c5 F5 nf5 ⊢
    generalize sI b4 247 (4 * D.N + 1) z1 = b5 at fr5 r5 k5 G5 ⊢
    -- the rain
    rw [r5.2.1, bd_v, if_pos hT.l0]
    refine x_perh (K := fun v h => j_X3_readEvening_94 v (zi ((3 * D.N + 2 : Nat) : Int)) (T + 1) h) (l := 0) (m := 1000) r5 (c := 3) (by decide) rfl (by decide) (by decide) (by decide) rfl rfl rfl rfl (fun _ => ⟨0, rfl, rfl, by decide, by decide⟩) ?_
    rintro w2 z2' a6 b6 r6 f6 h6 v6
    dsimp only
    unfold j_X3_readEvening_94
    refine z2_l (put_ok (3 * D.N + 2) (n := 48) hT.l1 rfl (by omega)) (z2_r (stI_ok (4 * D.N + 2) (n := 64) rfl rfl (by omega)) (z2_r (stI_ok (4 * D.N + 3) (n := 64) rfl rfl (by omega)) ?_))
    have fc7 : Fr (lC T) a6 (sI a6 (T + 1) (3 * D.N + 2) w2) := (Fr.refl _ a6).sI (by unfold lC; omega)
    have fr7 : Fr lR b6 (sI (sI b6 247 (4 * D.N + 2) z2') 247 (4 * D.N + 3) 0) := ((Fr.refl lR b6).sI (by unfold lR; omega)).sI (by unfold lR; omega)
    have r7 := r6.ln hT fc7 fr7
    have c7 : gI (sI a6 (T + 1) (3 * D.N + 2) w2) (T + 1) (3 * D.N) = w0 ∧ gI (sI a6 (T + 1) (3 * D.N + 2) w2) (T + 1) (3 * D.N + 1) = w1 ∧ gI (sI a6 (T + 1) (3 * D.N + 2) w2) (T + 1) (3 * D.N + 2) = w2 := ⟨by rw [gI_sI, if_neg (by omega), f6.i (by unfold opC; omega)]; exact c5.1, by rw [gI_sI, if_neg (by omega), f6.i (by unfold opC; omega)]; exact c5.2, by rw [gI_sI, if_pos ⟨rfl, rfl⟩]⟩
    have k7 : gI (sI (sI b6 247 (4 * D.N + 2) z2') 247 (4 * D.N + 3) 0) 247 (4 * D.N) = z0 ∧ gI (sI (sI b6 247 (4 * D.N + 2) z2') 247 (4 * D.N + 3) 0) 247 (4 * D.N + 1) = z1 ∧ gI (sI (sI b6 247 (4 * D.N + 2) z2') 247 (4 * D.N + 3) 0) 247 (4 * D.N + 2) = z2' ∧ gI (sI (sI b6 247 (4 * D.N + 2) z2') 247 (4 * D.N + 3) 0) 247 (4 * D.N + 3) = 0 := ⟨by rw [gI_sI, if_neg (by omega), gI_sI, if_neg (by omega), h6.i (by unfold opR; omega)]; exact k5.1, by rw [gI_sI, if_neg (by omega), gI_sI, if_neg (by omega), h6.i (by unfold opR; omega)]; exact k5.2, by rw [gI_sI, if_neg (by omega), gI_sI, if_pos ⟨rfl, rfl⟩], by rw [gI_sI, if_pos ⟨rfl, rfl⟩]⟩
    have F7 : Fr (fun a k => opC a k ∨ (a = T + 1 ∧ 3 * D.N ≤ k ∧ k ≤ 3 * D.N + 2)) a1 (sI a6 (T + 1) (3 * D.N + 2) w2) := (F5.trans (f6.mono (fun a k z => Or.inl z))).sI (by omega)
    have G7 : Fr (fun a k => opR a k ∨ (a = 247 ∧ 4 * D.N ≤ k ∧ k ≤ 4 * D.N + 3)) b1' (sI (sI b6 247 (4 * D.N + 2) z2') 247 (4 * D.N + 3) 0) := ((G5.trans (h6.mono (fun a k z => Or.inl z))).sI (by omega)).sI (by omega)
    have nf7 : nofl (sI a6 (T + 1) (3 * D.N + 2) w2) → nofl a6 := fun z => (nofl_ln hT fc7).symm.trans z
    dsimp only
    generalize sI a6 (T + 1) (3 * D.N + 2) w2 = a7 at fc7 r7 c7 F7 nf7 ⊢
    generalize sI (sI b6 247 (4 * D.N + 2) z2') 247 (4 * D.N + 3) 0 = b7 at fr7 r7 k7 G7 ⊢
    rw [r7.2.1, bd_v, if_pos hT.l0, show gI a7 T 2 = zi D.N from (F7.i (by unfold opC; omega)).trans n1]
    have ec : Fr (lnC T) hc a7 := (y3.mono (fun a k z => Or.inl z)).trans (F7.mono (by unfold lC; intro a k z; rcases z with z | z; exact Or.inl z; exact Or.inr (by omega)))
    have er : Fr lnR hr b7 := (y4.mono (fun a k z => Or.inl z)).trans (G7.mono (by unfold lR; intro a k z; rcases z with z | z; exact Or.inl z; exact Or.inr (by omega)))
    have fc8 : Fr (lC T) a7 (sI a7 T 2 (zi (D.N : Int) + 1)) := (Fr.refl _ a7).sI (by unfold lC; omega)
    by_cases g7 : nofl a7
    · refine z2_r (r7.good g7) (z2_rf one_ne ?_)
      rw [show gI b7 240 25 = zi D.N from (G7.i (by unfold opR; omega)).trans m1]
      have fr8 : Fr lR b7 (sI b7 240 25 (zi (D.N : Int) + 1)) := (Fr.refl _ b7).sI (by unfold lR; omega)
      obtain ⟨g5, s2, s2a, s2b, s2c, s2d⟩ := v6 (nf7 g7)
      obtain ⟨g3, s1, s1a, s1b, s1c, s1d⟩ := v4 (nf5 g5)
      obtain ⟨-, s0, s0a, s0b, s0c, s0d⟩ := v2 (nf3 g3)
      have eN : zi (D.N : Int) + 1 = zi ((D.N + 1 : Nat) : Int) := (by first | (simp only [zi_lit, zi_neg, zi_add, zi_sub, zi_mul, zl_lit, zl_neg, zl_add, zl_sub, zl_mul, zl_i]; exact congrArg zi (by omega)) | (simp only [zi_lit, zi_neg, zi_add, zi_sub, zi_mul, zl_lit, zl_neg, zl_add, zl_sub, zl_mul, zl_i]; done) | exact congrArg zi (by omega))
      refine z2_some ⟨(r7.ln hT fc8 fr8).le (by omega), ec.trans (fc8.mono (fun a k z => Or.inr z)), er.trans (fr8.mono (fun a k z => Or.inr z)), fun _ => ⟨addE D (fun w => if w = 0 then s0 else if w = 1 then s1 else if w = 2 then s2 else 0), f, ?_, ?_, addE_wf d3 hlt ⟨s0c, s0d⟩ ⟨s1c, s1d⟩ ⟨s2c, s2d⟩ rfl, d4, ?_, ?_, ?_⟩⟩
      · obtain ⟨⟨o0, o1, o2, o3, o4, o5⟩, p1, p2, p3, p4, p5, p6⟩ := dd.1
        have oc : ∀ a k, ¬ (a = T ∧ k = 2) → ¬ opC a k → ¬ (a = T + 1 ∧ 3 * D.N ≤ k ∧ k ≤ 3 * D.N + 2) → gI (sI a7 T 2 (zi (D.N : Int) + 1)) a k = gI a1 a k := fun a k z1 z2 z3 => by
          rw [gI_sI, if_neg z1, F7.i (fun z => z.elim z2 z3)]
        have nop : ∀ a k, T ≤ a → ¬ opC a k := fun a k z1 z2 => by unfold opC at z2; omega
        refine ⟨⟨(oc _ _ (by omega) (nop _ _ (by omega)) (by omega)).trans o0, (oc _ _ (by omega) (nop _ _ (by omega)) (by omega)).trans o1, ?_, (oc _ _ (by omega) (nop _ _ (by omega)) (by omega)).trans o3, (oc _ _ (by omega) (nop _ _ (by omega)) (by omega)).trans o4, (oc _ _ (by omega) (nop _ _ (by omega)) (by omega)).trans o5⟩, fun e w he hw => ?_, fun e he => ?_, fun k w hk hw => (oc _ _ (by omega) (nop _ _ (by omega)) (by omega)).trans (p3 k w hk hw), fun k hk => (oc _ _ (by omega) (nop _ _ (by omega)) (by omega)).trans (p4 k hk), fun r hr => ⟨(oc _ _ (by omega) (nop _ _ (by omega)) (by omega)).trans (p5 r hr).1, (oc _ _ (by omega) (nop _ _ (by omega)) (by omega)).trans (p5 r hr).2⟩, fun t ht => (oc _ _ (by omega) (nop _ _ (by omega)) (by omega)).trans (p6 t ht)⟩
        · show gI (sI a7 T 2 (zi (D.N : Int) + 1)) T 2 = zi ((D.N + 1 : Nat) : Int)
          rw [gI_sI, if_pos ⟨rfl, rfl⟩, eN]
        · show gI (sI a7 T 2 (zi (D.N : Int) + 1)) (T + 1) (3 * e + w) = zi (if e = D.N then (if w = 0 then s0 else if w = 1 then s1 else if w = 2 then s2 else 0) else D.E e w)
          have he' : e < D.N + 1 := he
          by_cases q1 : e = D.N
          · rw [if_pos q1, gI_sI, if_neg (by omega), q1]
            have cw : w = 0 ∨ w = 1 ∨ w = 2 := by omega
            rcases cw with rfl | rfl | rfl
            · exact c7.1.trans s0a
            · exact c7.2.1.trans s1a
            · exact c7.2.2.trans s2a
          · rw [if_neg q1, oc _ _ (by omega) (nop _ _ (by omega)) (by omega)]
            exact p1 e w (by omega) hw
        · show gI (sI a7 T 2 (zi (D.N : Int) + 1)) (T + 2) e = zi (if e = D.N then 0 else D.E e 3)
          have he' : e < D.N + 1 := he
          rw [oc _ _ (by omega) (nop _ _ (by omega)) (by omega)]
          by_cases q1 : e = D.N
          · rw [if_pos q1]
            exact dd.2.2.2.2.1 e (by omega) (by omega)
          · rw [if_neg q1]
            exact p2 e (by omega)
      · obtain ⟨⟨o0, o1, o2, o3, o4, o5⟩, p1, p2, p3, p4⟩ := dd.2.1
        have oc : ∀ a k, ¬ (a = 240 ∧ k = 25) → ¬ opR a k → ¬ (a = 247 ∧ 4 * D.N ≤ k ∧ k ≤ 4 * D.N + 3) → gI (sI b7 240 25 (zi (D.N : Int) + 1)) a k = gI b1' a k := fun a k z1 z2 z3 => by
          rw [gI_sI, if_neg z1, G7.i (fun z => z.elim z2 z3)]
        refine ⟨⟨(oc _ _ (by omega) (by unfold opR; omega) (by omega)).trans o0, (oc _ _ (by omega) (by unfold opR; omega) (by omega)).trans o1, ?_, (oc _ _ (by omega) (by unfold opR; omega) (by omega)).trans o3, (oc _ _ (by omega) (by unfold opR; omega) (by omega)).trans o4, (oc _ _ (by omega) (by unfold opR; omega) (by omega)).trans o5⟩, fun e w he hw => ?_, fun k w hk hw => (oc _ _ (by omega) (by unfold opR; omega) (by omega)).trans (p2 k w hk hw), fun r w hr hw => (oc _ _ (by omega) (by unfold opR; omega) (by omega)).trans (p3 r w hr hw), fun t ht => (oc _ _ (by omega) (by unfold opR; omega) (by omega)).trans (p4 t ht)⟩
        · show gI (sI b7 240 25 (zi (D.N : Int) + 1)) 240 25 = zi ((D.N + 1 : Nat) : Int)
          rw [gI_sI, if_pos ⟨rfl, rfl⟩, eN]
        · show gI (sI b7 240 25 (zi (D.N : Int) + 1)) 247 (4 * e + w) = zi (if e = D.N then (if w = 0 then s0 else if w = 1 then s1 else if w = 2 then s2 else 0) else D.E e w)
          have he' : e < D.N + 1 := he
          by_cases q1 : e = D.N
          · rw [if_pos q1, gI_sI, if_neg (by omega), q1]
            have cw : w = 0 ∨ w = 1 ∨ w = 2 ∨ w = 3 := by omega
            rcases cw with rfl | rfl | rfl | rfl
            · exact k7.1.trans s0b
            · exact k7.2.1.trans s1b
            · exact k7.2.2.1.trans s2b
            · exact k7.2.2.2
          · rw [if_neg q1, oc _ _ (by omega) (by unfold opR; omega) (by omega)]
            exact p1 e w (by omega) hw
      · intro e he1 he2
        have he' : D.N + 1 ≤ e := he1
        show gI (sI a7 T 2 _) (T + 2) e = 0
        rw [gI_sI, if_neg (by omega), F7.i (by unfold opC; omega)]
        exact dd.2.2.2.2.1 e (by omega) he2
      · refine ⟨?_, ?_⟩
        · show gI (sI a7 T 2 _) 1 7 = _
          rw [gI_sI, if_neg (by omega), F7.i (by unfold opC; omega)]
          exact dd.2.2.2.2.2.1.1
        · show gI (sI b7 240 25 _) 240 29 = _
          rw [gI_sI, if_neg (by omega), G7.i (by unfold opR; omega)]
          exact dd.2.2.2.2.2.1.2
      · intro z e he
        have he' : e < D.N + 1 := he
        show (if e = D.N then (0 : Int) else D.E e 3) = 0
        by_cases q1 : e = D.N
        · rw [if_pos q1]
        · rw [if_neg q1]
          exact d7 z e (by omega)
    · refine z2_r (r7.bad g7) (z2_rt rfl ?_)
      exact z2_some ⟨(r7.ln hT fc8 (Fr.refl lR b7)).up (fun z => g7 ((nofl_ln hT fc8).symm.trans z)), ec.trans (fc8.mono (fun a k z => Or.inr z)), er, fun z => absurd ((nofl_ln hT fc8).symm.trans z) g7⟩
end
