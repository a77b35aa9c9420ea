/-! 99d.people: the lines of people and of seats -/
def hiP (m : Nat) : Int := if m = 0 then 60 else if m < 5 then 1000 else if m = 5 then 500 else if m < 10 then 999 else 1
def cpP (D : HD) (T a k : Nat) : Prop := opC a k ∨ (a = T + 3 ∧ 11 * D.K ≤ k ∧ k ≤ 11 * D.K + 10) ∨ (a = T + 4 ∧ k = D.K)
def rpP (D : HD) (a k : Nat) : Prop := opR a k ∨ (a = 248 ∧ 11 * D.K ≤ k ∧ k ≤ 11 * D.K + 10)
/-- m numbers of a kind are read -/
def SP (n : Nat) (B : Nat → Nat) (T q : Nat) (D : HD) (a1 b1 : AH) (m : Nat) (a b : AH) : Prop := RS n B T q a b ∧ Fr (cpP D T) a1 a ∧ Fr (rpP D) b1 b ∧ (nofl a → (∀ i, i < m → ∃ v : Int, gI a (T + 3) (11 * D.K + i) = zi v ∧ gI b 248 (11 * D.K + i) = zi v ∧ 0 ≤ v ∧ v ≤ hiP i) ∧ (1 ≤ m → gI a (T + 4) D.K = gI a (T + 3) (11 * D.K)))
def addQ (D : HD) (v : Nat → Int) : HD := (D.ch, D.co, D.N, D.K + 1, D.R, D.ten, D.E, fun k w => if k = D.K then v w else D.Q k w, D.S, D.P)
def addS (D : HD) (v : Nat → Int) : HD := (D.ch, D.co, D.N, D.K, D.R + 1, D.ten, D.E, D.Q, fun r w => if r = D.R then v w else D.S r w, D.P)
section
variable {D : HD} {h hc hr : AH} {n T q : Nat} {B : Nat → Nat} {f : Nat → Bool}
theorem SP.op {a1 b1 a b a' b' : AH} {m q' : Nat} (hT : TL T) (x : SP n B T q D a1 b1 m a b) (r : RS n B T q' a' b') (hq : q ≤ q') (fc : Fr opC a a') (fr : Fr opR b b') (g : nofl a' → nofl a) : SP n B T q D a1 b1 m a' b' := by
  have bT := hT.b
  obtain ⟨x1, x2, x3, x4⟩ := x
  refine ⟨r.le hq, x2.trans (fc.mono (fun a k z => Or.inl z)), x3.trans (fr.mono (fun a k z => Or.inl z)), fun z => ?_⟩
  obtain ⟨y1, y2⟩ := x4 (g z)
  refine ⟨fun i hi => ?_, fun hm => ?_⟩
  · obtain ⟨v, v1, v2, v3⟩ := y1 i hi
    exact ⟨v, (fc.i (by unfold opC; omega)).trans v1, (fr.i (by unfold opR; omega)).trans v2, v3⟩
  · rw [fc.i (by unfold opC; omega), fc.i (by unfold opC; omega)]
    exact y2 hm
/-- a number written, in both -/
theorem SP.put {a1 b1 a b : AH} {m : Nat} {w z : Int32} (hT : TL T) (hK : D.K < 6) (hm : m < 11) (hm1 : 1 ≤ m) (x : SP n B T q D a1 b1 m a b) (hv : nofl a → ∃ v : Int, w = zi v ∧ z = zi v ∧ 0 ≤ v ∧ v ≤ hiP m) : SP n B T q D a1 b1 (m + 1) (sI a (T + 3) (11 * D.K + m) w) (sI b 248 (11 * D.K + m) z) := by
  have bT := hT.b
  obtain ⟨x1, x2, x3, x4⟩ := x
  have f1 : Fr (lC T) a (sI a (T + 3) (11 * D.K + m) w) := (Fr.refl _ a).sI (by unfold lC; omega)
  have f2 : Fr lR b (sI b 248 (11 * D.K + m) z) := (Fr.refl _ b).sI (by unfold lR; omega)
  refine ⟨x1.ln hT f1 f2, x2.sI (by unfold cpP; omega), x3.sI (by unfold rpP; omega), fun g => ?_⟩
  have g' : nofl a := (nofl_ln hT f1).symm.trans g
  obtain ⟨y1, y2⟩ := x4 g'
  refine ⟨fun i hi => ?_, fun _ => ?_⟩
  · rw [gI_sI, gI_sI]
    by_cases c : i = m
    · obtain ⟨v, v1, v2, v3⟩ := hv g'
      subst c
      rw [if_pos ⟨rfl, rfl⟩, if_pos ⟨rfl, rfl⟩]
      exact ⟨v, v1, v2, v3⟩
    · rw [if_neg (by omega), if_neg (by omega)]
      exact y1 i (by omega)
  · rw [gI_sI, if_neg (by omega), gI_sI, if_neg (by omega)]
    exact y2 hm1
theorem b_people (hT : TL T) (x : RS n B T q h hr) (g : ¬ nofl h) : zw (s_X3_readPeople h) (fun r => Fr (lC T) h r.2) := by
  have bT := hT.b
  have into := x.2.1
  have keep : ∀ h', Fr (lC T) h h' → RS n B T q h' hr ∧ ¬ nofl h' ∧ gR h' 1 2 = some T := fun h' f => ⟨x.ln hT f (Fr.refl lR hr), fun z => g ((nofl_ln hT f).symm.trans z), (into_ln hT f).trans into⟩
  have row := fun (h' : AH) (i v : Int32) => b_row (h := h') hT (X := T + 3) (m := 66) (by omega) hT.l3 rfl i v
  have s300 : ∀ (h' : AH) (k0 k1 : Int32), Fr (lC T) h h' → zw (j_X3_readPeople_300 k0 k1 (T + 3) h') (fun r => Fr (lC T) h r.2) := by
    intro h' k0 k1 f
    unfold j_X3_readPeople_300
    refine zw_bd (row h' k1 k0) ?_
    rintro ⟨u1, g1⟩ f1
    dsimp only at f1 ⊢
    rw [(keep g1 (f.trans f1)).2.2, bd_v, if_pos hT.l0]
    exact zw_some ((f.trans f1).sI (by unfold lC; omega))
  have s226 : ∀ (h' : AH) (v1 k0 k1 : Int32), Fr (lC T) h h' → zw (j_X3_readPeople_226 v1 k0 k1 (T + 3) h') (fun r => Fr (lC T) h r.2) := by
    intro h' v1 k0 k1 f
    unfold j_X3_readPeople_226
    refine zw_bd (row h' k1 k0) ?_
    rintro ⟨u1, g1⟩ f1
    dsimp only at f1 ⊢
    obtain ⟨x1, n1, i1⟩ := keep g1 (f.trans f1)
    rw [b_need x1 n1 (by decide), bd_v]
    refine zw_bd (P := fun r => Fr (lC T) h r.2) ?_ ?_
    · refine zw_for 4 (fun i => zi (i : Int)) () (fun i h2 => Fr (lC T) h h2) (by decide) rfl (f.trans f1) ?_ ?_
      · intro i h2 hi f2
        obtain ⟨x2, n2, i2⟩ := keep h2 f2
        unfold l_X3_readPeople_238
        refine zw_f (by rw [(show (4 : Int32) = zi 4 from zi_lit 4), zi_le (by omega) (by omega) (by omega) (by omega)]; show ¬ (4 : Int) ≤ i; omega) ?_
        rw [i2, bd_v, if_pos hT.l0]
        obtain ⟨v, e1⟩ := b_take x2 n2 0 999
        rw [e1, bd_v]
        refine zw_bd (row h2 _ _) ?_
        rintro ⟨u3, g3⟩ f3
        exact zw_some ⟨congrArg Sum.inl (by first | (simp only [zi_lit, zi_neg, zi_add, zi_sub, zi_mul, zl_lit, zl_neg, zl_add, zl_sub, zl_mul, zl_i]; exact congrArg zi (by omega)) | (simp only [zi_lit, zi_neg, zi_add, zi_sub, zi_mul, zl_lit, zl_neg, zl_add, zl_sub, zl_mul, zl_i]; done) | exact congrArg zi (by omega)), f2.trans f3⟩
      · intro h2 f2
        unfold l_X3_readPeople_238
        exact zw_t (by decide) (zw_some ⟨rfl, f2⟩)
    · rintro ⟨u2, g2⟩ f2
      dsimp only at f2 ⊢
      obtain ⟨x2, n2, i2⟩ := keep g2 f2
      rw [i2, bd_v, if_pos hT.l0]
      obtain ⟨w, e3⟩ := b_takes x2 n2 (c := 11) (by decide)
      rw [e3, bd_v]
      exact zw_if (fun _ => s300 _ _ _ f2) (fun _ => s300 _ _ _ f2)
  have s192 : ∀ (h' : AH) (v1 k0 k1 : Int32), Fr (lC T) h h' → zw (j_X3_readPeople_192 v1 k0 k1 (T + 3) h') (fun r => Fr (lC T) h r.2) := by
    intro h' v1 k0 k1 f
    unfold j_X3_readPeople_192
    refine zw_bd (row h' k1 k0) ?_
    rintro ⟨u1, g1⟩ f1
    dsimp only at f1 ⊢
    have ff := f.trans f1
    obtain ⟨x1, n1, i1⟩ := keep g1 ff
    rw [i1, bd_v, if_pos hT.l0]
    obtain ⟨w, e3⟩ := b_takes x1 n1 (c := 9) (by decide)
    obtain ⟨v, e4⟩ := b_take x1 n1 0 500
    rw [e3, bd_v]
    refine zw_if (fun _ => s226 _ _ _ _ ff) (fun _ => ?_)
    dsimp only
    rw [e4, bd_v]
    exact s226 _ _ _ _ ff
  have s158 : ∀ (h' : AH) (v1 k0 k1 : Int32), Fr (lC T) h h' → zw (j_X3_readPeople_158 v1 k0 k1 (T + 3) h') (fun r => Fr (lC T) h r.2) := by
    intro h' v1 k0 k1 f
    unfold j_X3_readPeople_158
    refine zw_bd (row h' k1 k0) ?_
    rintro ⟨u1, g1⟩ f1
    dsimp only at f1 ⊢
    have ff := f.trans f1
    obtain ⟨x1, n1, i1⟩ := keep g1 ff
    rw [i1, bd_v, if_pos hT.l0]
    obtain ⟨w, e3⟩ := b_takes x1 n1 (c := 8) (by decide)
    obtain ⟨v, e4⟩ := b_take x1 n1 0 1000
    rw [e3, bd_v]
    refine zw_if (fun _ => s192 _ _ _ _ ff) (fun _ => ?_)
    dsimp only
    rw [e4, bd_v]
    exact s192 _ _ _ _ ff
  have s124 : ∀ (h' : AH) (v1 k0 k1 : Int32), Fr (lC T) h h' → zw (j_X3_readPeople_124 v1 k0 k1 (T + 3) h') (fun r => Fr (lC T) h r.2) := by
    intro h' v1 k0 k1 f
    unfold j_X3_readPeople_124
    refine zw_bd (row h' k1 k0) ?_
    rintro ⟨u1, g1⟩ f1
    dsimp only at f1 ⊢
    have ff := f.trans f1
    obtain ⟨x1, n1, i1⟩ := keep g1 ff
    rw [i1, bd_v, if_pos hT.l0]
    obtain ⟨w, e3⟩ := b_takes x1 n1 (c := 7) (by decide)
    obtain ⟨v, e4⟩ := b_take x1 n1 0 1000
    rw [e3, bd_v]
    refine zw_if (fun _ => s158 _ _ _ _ ff) (fun _ => ?_)
    dsimp only
    rw [e4, bd_v]
    exact s158 _ _ _ _ ff
  unfold s_X3_readPeople
  rw [into, bd_v, if_pos hT.l0, b_next g, bd_v]
  dsimp only
  rw [into, bd_v, if_pos hT.l0]
  obtain ⟨v1, e1⟩ := b_take x g 0 60
  rw [e1, bd_v]
  dsimp only
  rw [into, bd_v, if_pos hT.l0, bd_v, if_pos hT.l0]
  refine zw_bd (b_row hT (X := T + 4) (m := 6) (by omega) hT.l4 rfl _ _) ?_
  rintro ⟨u1, g1⟩ f1
  dsimp only at f1 ⊢
  rw [(keep g1 f1).2.2, bd_v, if_pos hT.l0]
  refine zw_bd (row g1 _ _) ?_
  rintro ⟨u2, g2⟩ f2
  dsimp only at f2 ⊢
  have f12 := f1.trans f2
  obtain ⟨x2, n2, i2⟩ := keep g2 f12
  rw [b_need x2 n2 (by decide), bd_v]
  obtain ⟨v2, e2⟩ := b_take x2 n2 0 1000
  dsimp only
  rw [e2, bd_v]
  dsimp only
  rw [i2, bd_v, if_pos hT.l0]
  refine zw_bd (row g2 _ _) ?_
  rintro ⟨u3, g3⟩ f3
  dsimp only at f3 ⊢
  have f13 := f12.trans f3
  obtain ⟨x3, n3, i3⟩ := keep g3 f13
  rw [i3, bd_v, if_pos hT.l0]
  obtain ⟨w, e5⟩ := b_takes x3 n3 (c := 6) (by decide)
  obtain ⟨v4, e4⟩ := b_take x3 n3 0 1000
  rw [e5, bd_v]
  refine zw_if (fun _ => s124 _ _ _ _ f13) (fun _ => ?_)
  dsimp only
  rw [e4, bd_v]
  exact s124 _ _ _ _ f13
theorem addQ_wf (hD : WFD D) (hK : D.K < 6) {v : Nat → Int} (hv : ∀ i, i < 11 → 0 ≤ v i ∧ v i ≤ hiP i) : WFD (addQ D v) := by
  obtain ⟨c1, c2, c3, c4, c5, c6⟩ := hD.c
  have z0 := hv 0 (by decide)
  have z1 := hv 1 (by decide)
  have z2' := hv 2 (by decide)
  have z3 := hv 3 (by decide)
  have z4 := hv 4 (by decide)
  have z5 := hv 5 (by decide)
  have zz := hv 10 (by decide)
  have h0 : hiP 0 = 60 := rfl
  have h1 : hiP 1 = 1000 := rfl
  have h2 : hiP 2 = 1000 := rfl
  have h3 : hiP 3 = 1000 := rfl
  have h4 : hiP 4 = 1000 := rfl
  have h5 : hiP 5 = 500 := rfl
  have h10 : hiP 10 = 1 := rfl
  refine ⟨⟨c1, c2, c3, by show D.K + 1 ≤ 6; omega, c5, c6⟩, hD.e, fun k hk => ?_, hD.s, hD.p⟩
  have hk' : k < D.K + 1 := hk
  by_cases c : k = D.K
  · have e : ∀ w, (addQ D v).Q k w = v w := fun w => by
      show (if k = D.K then v w else D.Q k w) = v w
      rw [if_pos c]
    rw [e, e, e, e, e, e, e]
    refine ⟨⟨z0.1, by omega⟩, ⟨z1.1, by omega⟩, ⟨z2'.1, by omega⟩, ⟨z3.1, by omega⟩, ⟨z4.1, by omega⟩, ⟨z5.1, by omega⟩, fun w w1 w2 => ?_, by omega⟩
    rw [e]
    have zw' := hv w (by omega)
    have hw : hiP w = 999 := by
      unfold hiP
      rw [if_neg (by omega), if_neg (by omega), if_neg (by omega), if_pos (by omega)]
    exact ⟨zw'.1, by omega⟩
  · have e : ∀ w, (addQ D v).Q k w = D.Q k w := fun w => by
      show (if k = D.K then v w else D.Q k w) = D.Q k w
      rw [if_neg c]
    have z := hD.q k (by omega)
    rw [e, e, e, e, e, e, e]
    refine ⟨z.1, z.2.1, z.2.2.1, z.2.2.2.1, z.2.2.2.2.1, z.2.2.2.2.2.1, fun w w1 w2 => ?_, z.2.2.2.2.2.2.2⟩
    rw [e]
    exact z.2.2.2.2.2.2.1 w w1 w2
/-- all eleven are read -/
theorem x_pplEnd {a1 b1 a b : AH} (hT : TL T) (hK : D.K < 6) (d : LD D T f a1 b1) (x : SP n B T q D a1 b1 11 a b) : z2 (bd (gR a 1 2) fun t35 => if LAY t35 = (0, 8) then some ((), sI a t35 3 ((gI a t35 3) + 1)) else none) (bd (s_X10_isGood b) fun x24 => if x24 = 0 then some ((), b) else some ((), sI b 240 26 ((gI b 240 26) + 1))) (fun u v => RS n B T q u.2 v.2 ∧ Fr (fun a k => cpP D T a k ∨ lC T a k) a1 u.2 ∧ Fr (fun a k => rpP D a k ∨ lR a k) b1 v.2 ∧ (nofl u.2 → ∃ D f, LD D T f u.2 v.2)) := by
  have bT := hT.b
  obtain ⟨x1, x2, x3, x4⟩ := x
  obtain ⟨d1, d2, d3, d4, d5, d6, d7⟩ := d
  rw [x1.2.1, bd_v, if_pos hT.l0]
  have k1 : gI a T 3 = zi D.K := (x2.i (by unfold cpP opC; omega)).trans d1.1.2.2.2.1
  have k2 : gI b 240 26 = zi D.K := (x3.i (by unfold rpP opR; omega)).trans d2.1.2.2.2.1
  rw [k1, k2]
  have eK : zi (D.K : Int) + 1 = zi ((D.K + 1 : Nat) : Int) := (by first | (simp only [zi_lit, zi_neg, zi_add, zi_sub, zi_mul, zl_lit, zl_neg, zl_add, zl_sub, zl_mul, zl_i]; exact congrArg zi (by omega)) | (simp only [zi_lit, zi_neg, zi_add, zi_sub, zi_mul, zl_lit, zl_neg, zl_add, zl_sub, zl_mul, zl_i]; done) | exact congrArg zi (by omega))
  have f1 : Fr (lC T) a (sI a T 3 (zi (D.K : Int) + 1)) := (Fr.refl _ a).sI (by unfold lC; omega)
  have f2 : Fr lR b (sI b 240 26 (zi (D.K : Int) + 1)) := (Fr.refl _ b).sI (by unfold lR; omega)
  by_cases g : nofl a
  · refine z2_r (x1.good g) (z2_rf one_ne ?_)
    obtain ⟨y1, y2⟩ := x4 g
    obtain ⟨v, hv⟩ : ∃ v : Nat → Int, ∀ i, i < 11 → gI a (T + 3) (11 * D.K + i) = zi (v i) ∧ gI b 248 (11 * D.K + i) = zi (v i) ∧ 0 ≤ v i ∧ v i ≤ hiP i := by
      refine ⟨fun i => if hi : i < 11 then Classical.choose (y1 i hi) else 0, fun i hi => ?_⟩
      have z := Classical.choose_spec (y1 i hi)
      dsimp only
      rw [dif_pos hi]
      exact z
    have oc : ∀ a' k, ¬ (a' = T ∧ k = 3) → ¬ cpP D T a' k → gI (sI a T 3 (zi (D.K : Int) + 1)) a' k = gI a1 a' k := fun a' k z1 z2 => by rw [gI_sI, if_neg z1, x2.i z2]
    have orr : ∀ a' k, ¬ (a' = 240 ∧ k = 26) → ¬ rpP D a' k → gI (sI b 240 26 (zi (D.K : Int) + 1)) a' k = gI b1 a' k := fun a' k z1 z2 => by rw [gI_sI, if_neg z1, x3.i z2]
    have nc : ∀ a' k, T ≤ a' → ¬ (a' = T + 3 ∧ 11 * D.K ≤ k ∧ k ≤ 11 * D.K + 10) → ¬ (a' = T + 4 ∧ k = D.K) → ¬ cpP D T a' k := fun a' k z1 z2 z3 => by unfold cpP opC; omega
    refine z2_some ⟨x1.ln hT f1 f2, (x2.mono (fun a k z => Or.inl z)).trans (f1.mono (fun a k z => Or.inr z)), (x3.mono (fun a k z => Or.inl z)).trans (f2.mono (fun a k z => Or.inr z)), fun _ => ⟨addQ D v, f, ?_, ?_, addQ_wf d3 hK (fun i hi => (hv i hi).2.2), ?_, ?_, ?_, d7⟩⟩
    · obtain ⟨⟨o0, o1, o2, o3, o4, o5⟩, p1, p2, p3, p4, p5, p6⟩ := d1
      refine ⟨⟨(oc _ _ (by omega) (nc _ _ (by omega) (by omega) (by omega))).trans o0, (oc _ _ (by omega) (nc _ _ (by omega) (by omega) (by omega))).trans o1, (oc _ _ (by omega) (nc _ _ (by omega) (by omega) (by omega))).trans o2, ?_, (oc _ _ (by omega) (nc _ _ (by omega) (by omega) (by omega))).trans o4, (oc _ _ (by omega) (nc _ _ (by omega) (by omega) (by omega))).trans o5⟩, fun e w he hw => (oc _ _ (by omega) (nc _ _ (by omega) (by omega) (by omega))).trans (p1 e w he hw), fun e he => (oc _ _ (by omega) (nc _ _ (by omega) (by omega) (by omega))).trans (p2 e he), fun k w hk hw => ?_, fun k hk => ?_, fun r hr => ⟨(oc _ _ (by omega) (nc _ _ (by omega) (by omega) (by omega))).trans (p5 r hr).1, (oc _ _ (by omega) (nc _ _ (by omega) (by omega) (by omega))).trans (p5 r hr).2⟩, fun t ht => (oc _ _ (by omega) (nc _ _ (by omega) (by omega) (by omega))).trans (p6 t ht)⟩
      · show gI (sI a T 3 (zi (D.K : Int) + 1)) T 3 = zi ((D.K + 1 : Nat) : Int)
        rw [gI_sI, if_pos ⟨rfl, rfl⟩, eK]
      · show gI (sI a T 3 (zi (D.K : Int) + 1)) (T + 3) (11 * k + w) = zi (if k = D.K then v w else D.Q k w)
        have hk' : k < D.K + 1 := hk
        by_cases c : k = D.K
        · rw [if_pos c, gI_sI, if_neg (by omega), c]
          exact (hv w hw).1
        · rw [if_neg c, oc _ _ (by omega) (nc _ _ (by omega) (by omega) (by omega))]
          exact p3 k w (by omega) hw
      · show gI (sI a T 3 (zi (D.K : Int) + 1)) (T + 4) k = zi (if k = D.K then v 0 else D.Q k 0)
        have hk' : k < D.K + 1 := hk
        by_cases c : k = D.K
        · rw [if_pos c, gI_sI, if_neg (by omega), c, y2 (by decide)]
          exact (hv 0 (by decide)).1
        · rw [if_neg c, oc _ _ (by omega) (nc _ _ (by omega) (by omega) (by omega))]
          exact p4 k (by omega)
    · obtain ⟨⟨o0, o1, o2, o3, o4, o5⟩, p1, p2, p3, p4⟩ := d2
      refine ⟨⟨(orr _ _ (by omega) (by unfold rpP opR; omega)).trans o0, (orr _ _ (by omega) (by unfold rpP opR; omega)).trans o1, (orr _ _ (by omega) (by unfold rpP opR; omega)).trans o2, ?_, (orr _ _ (by omega) (by unfold rpP opR; omega)).trans o4, (orr _ _ (by omega) (by unfold rpP opR; omega)).trans o5⟩, fun e w he hw => (orr _ _ (by omega) (by unfold rpP opR; omega)).trans (p1 e w he hw), fun k w hk hw => ?_, fun r w hr hw => (orr _ _ (by omega) (by unfold rpP opR; omega)).trans (p3 r w hr hw), fun t ht => (orr _ _ (by omega) (by unfold rpP opR; omega)).trans (p4 t ht)⟩
      · show gI (sI b 240 26 (zi (D.K : Int) + 1)) 240 26 = zi ((D.K + 1 : Nat) : Int)
        rw [gI_sI, if_pos ⟨rfl, rfl⟩, eK]
      · show gI (sI b 240 26 (zi (D.K : Int) + 1)) 248 (11 * k + w) = zi (if k = D.K then v w else D.Q k w)
        have hk' : k < D.K + 1 := hk
        by_cases c : k = D.K
        · rw [if_pos c, gI_sI, if_neg (by omega), c]
          exact (hv w hw).2.1
        · rw [if_neg c, orr _ _ (by omega) (by unfold rpP opR; omega)]
          exact p2 k w (by omega) hw
    · intro k hk
      have hk' : k < D.K + 1 := hk
      show (if k = D.K then v 0 else D.Q k 0) ≤ 60
      by_cases c : k = D.K
      · rw [if_pos c]; exact (hv 0 (by decide)).2.2.2
      · rw [if_neg c]; exact d4 k (by omega)
    · intro e h1 h2
      exact (oc _ _ (by omega) (nc _ _ (by omega) (by omega) (by omega))).trans (d5 e h1 h2)
    · exact ⟨(oc _ _ (by omega) (by unfold cpP opC; omega)).trans d6.1, (orr _ _ (by omega) (by unfold rpP opR; omega)).trans d6.2⟩
  · refine z2_r (x1.bad g) (z2_rt rfl ?_)
    refine z2_some ⟨(x1.ln hT f1 (Fr.refl lR b)).up (fun z => g ((nofl_ln hT f1).symm.trans z)), (x2.mono (fun a k z => Or.inl z)).trans (f1.mono (fun a k z => Or.inr z)), x3.mono (fun a k z => Or.inl z), fun z => absurd ((nofl_ln hT f1).symm.trans z) g⟩
/-- a number that is read and written -/
theorem x_pplTake {γ δ : Type} {Q : γ → δ → Prop} {K : Unit × AH → Option γ} {G : AH → Option δ} {a1 b1 a b : AH} {m : Nat} {hi : Int} {ix iy : Int32} (hT : TL T) (hK : D.K < 6) (hm : m < 11) (hm1 : 1 ≤ m) (x : SP n B T q D a1 b1 m a b) (hh : hi = hiP m) (hb : 0 ≤ hi ∧ hi ≤ 9999) (ex : ix = zi ((11 * D.K + m : Nat) : Int)) (ey : iy = zi ((11 * D.K + m : Nat) : Int)) {m0 m1 : Int32} (e0 : m0 = zi hi) (e1 : m1 = zi hi) (h : ∀ a b, SP n B T q D a1 b1 (m + 1) a b → z2 (K ((), a)) (G b) Q) : z2 (bd (s_X3_takeNumber 0 m0 a) fun q11 => bd (s_X9_put (some (T + 3)) ix q11.1 q11.2) K) (bd (s_X10_number 0 m1 b) fun q3 => bd (stI q3.2 248 iy q3.1) G) Q := by
  subst ex ey
  refine z2_bd (x_take (l := 0) (m := hi) x.1 (by decide) hb.2 hb.1 rfl e0 rfl e1) ?_
  rintro ⟨w0, a2⟩ ⟨z0, b2⟩ ⟨r2, f2, h2, v2⟩
  dsimp only at r2 f2 h2 v2 ⊢
  refine z2_l (put_ok (11 * D.K + m) (n := 66) hT.l3 rfl (by omega)) (z2_r (stI_ok (11 * D.K + m) (n := 66) rfl rfl (by omega)) ?_)
  refine h _ _ ((x.op hT r2 (by omega) f2 h2 (fun z => (v2 z).1)).put hT hK hm hm1 (fun z => ?_))
  obtain ⟨-, v, v3, v4, v5, v6⟩ := v2 z
  exact ⟨v, v3, v4, v5, by rw [← hh]; exact v6⟩
/-- one that may stand there -/
theorem x_pplPerh {γ δ : Type} {Q : γ → δ → Prop} {K : Int32 → AH → Option γ} {G : AH → Option δ} {K2 : Unit × AH → Option γ} {a1 b1 a b : AH} {m c : Nat} {hi : Int} {d w0 k0 ix iy : Int32} (hT : TL T) (hK : D.K < 6) (hm : m < 11) (hm1 : 1 ≤ m) (x : SP n B T q D a1 b1 m a b) (hcc : c < 19) (hk : k0 = zi (kw c)) (hh : hi = hiP m) (hb : 0 ≤ hi ∧ hi ≤ 9999) (ex : ix = zi ((11 * D.K + m : Nat) : Int)) (ey : iy = zi ((11 * D.K + m : Nat) : Int)) {m0 m1 : Int32} (e0 : m0 = zi hi) (e1 : m1 = zi hi) (hd : nofl a → ∃ v : Int, d = zi v ∧ w0 = zi v ∧ 0 ≤ v ∧ v ≤ hi) (eK : ∀ v h, K v h = bd (s_X9_put (some (T + 3)) ix v h) K2) (h : ∀ a b, SP n B T q D a1 b1 (m + 1) a b → z2 (K2 ((), a)) (G b) Q) : z2 (bd (s_X3_takesWord c a) fun y => if y.1 = 0 then K d y.2 else bd (s_X3_takeNumber 0 m0 y.2) fun z => K z.1 z.2) (bd (s_X10_perhaps k0 0 m1 w0 b) fun q3 => bd (stI q3.2 248 iy q3.1) G) Q := by
  subst ex ey
  refine x_perh (K := K) (l := 0) (m := hi) x.1 hcc hk (by decide) hb.2 hb.1 rfl e0 rfl e1 hd ?_
  intro v w a2 b2 r2 f2 h2 v2
  rw [eK]
  dsimp only
  refine z2_l (put_ok (11 * D.K + m) (n := 66) hT.l3 rfl (by omega)) (z2_r (stI_ok (11 * D.K + m) (n := 66) rfl rfl (by omega)) ?_)
  refine h _ _ ((x.op hT r2 (Nat.le_refl _) f2 h2 (fun z => (v2 z).1)).put hT hK hm hm1 (fun z => ?_))
  obtain ⟨-, u, v3, v4, v5, v6⟩ := v2 z
  exact ⟨u, v3, v4, v5, by rw [← hh]; exact v6⟩
end
