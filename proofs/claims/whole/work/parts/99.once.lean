/-! 99.once: the lines that are told once: chairs, costs, year, ten, cheap -/
theorem bd_bd {α β γ : Type} (x : Option α) (f : α → Option β) (g : β → Option γ) : bd (bd x f) g = bd x (fun a => bd (f a) g) := by cases x <;> rfl
theorem tell_0 (f : Nat → Bool) : (zi (cn6 (f 0) (f 1) (f 5) (f 6) (f 7) (f 8)) &&& (32 : Int32) = 0 ↔ f 0 = false) ∧ (zi (cn6 (f 0) (f 1) (f 5) (f 6) (f 7) (f 8)) ||| (32 : Int32)) = zi (cn6 true (f 1) (f 5) (f 6) (f 7) (f 8)) ∧ (((zi (rn6 (f 0) (f 1) (f 5) (f 6) (f 7) (f 8)) >>> ((0 : Int32) &&& 31)) &&& 1) = 1 ↔ f 0 = true) ∧ (zi (rn6 (f 0) (f 1) (f 5) (f 6) (f 7) (f 8)) ||| ((1 : Int32) <<< ((0 : Int32) &&& 31))) = zi (rn6 true (f 1) (f 5) (f 6) (f 7) (f 8)) := by
  generalize f 0 = a
  generalize f 1 = b
  generalize f 5 = c
  generalize f 6 = d
  generalize f 7 = e
  generalize f 8 = g
  cases a <;> cases b <;> cases c <;> cases d <;> cases e <;> cases g <;> decide +kernel
theorem tell_1 (f : Nat → Bool) : (zi (cn6 (f 0) (f 1) (f 5) (f 6) (f 7) (f 8)) &&& (64 : Int32) = 0 ↔ f 1 = false) ∧ (zi (cn6 (f 0) (f 1) (f 5) (f 6) (f 7) (f 8)) ||| (64 : Int32)) = zi (cn6 (f 0) true (f 5) (f 6) (f 7) (f 8)) ∧ (((zi (rn6 (f 0) (f 1) (f 5) (f 6) (f 7) (f 8)) >>> ((1 : Int32) &&& 31)) &&& 1) = 1 ↔ f 1 = true) ∧ (zi (rn6 (f 0) (f 1) (f 5) (f 6) (f 7) (f 8)) ||| ((1 : Int32) <<< ((1 : Int32) &&& 31))) = zi (rn6 (f 0) true (f 5) (f 6) (f 7) (f 8)) := by
  generalize f 0 = a
  generalize f 1 = b
  generalize f 5 = c
  generalize f 6 = d
  generalize f 7 = e
  generalize f 8 = g
  cases a <;> cases b <;> cases c <;> cases d <;> cases e <;> cases g <;> decide +kernel
theorem tell_5 (f : Nat → Bool) : (zi (cn6 (f 0) (f 1) (f 5) (f 6) (f 7) (f 8)) &&& (2 : Int32) = 0 ↔ f 5 = false) ∧ (zi (cn6 (f 0) (f 1) (f 5) (f 6) (f 7) (f 8)) ||| (2 : Int32)) = zi (cn6 (f 0) (f 1) true (f 6) (f 7) (f 8)) ∧ (((zi (rn6 (f 0) (f 1) (f 5) (f 6) (f 7) (f 8)) >>> ((5 : Int32) &&& 31)) &&& 1) = 1 ↔ f 5 = true) ∧ (zi (rn6 (f 0) (f 1) (f 5) (f 6) (f 7) (f 8)) ||| ((1 : Int32) <<< ((5 : Int32) &&& 31))) = zi (rn6 (f 0) (f 1) true (f 6) (f 7) (f 8)) := by
  generalize f 0 = a
  generalize f 1 = b
  generalize f 5 = c
  generalize f 6 = d
  generalize f 7 = e
  generalize f 8 = g
  cases a <;> cases b <;> cases c <;> cases d <;> cases e <;> cases g <;> decide +kernel
theorem tell_6 (f : Nat → Bool) : (zi (cn6 (f 0) (f 1) (f 5) (f 6) (f 7) (f 8)) &&& (4 : Int32) = 0 ↔ f 6 = false) ∧ (zi (cn6 (f 0) (f 1) (f 5) (f 6) (f 7) (f 8)) ||| (4 : Int32)) = zi (cn6 (f 0) (f 1) (f 5) true (f 7) (f 8)) ∧ (((zi (rn6 (f 0) (f 1) (f 5) (f 6) (f 7) (f 8)) >>> ((6 : Int32) &&& 31)) &&& 1) = 1 ↔ f 6 = true) ∧ (zi (rn6 (f 0) (f 1) (f 5) (f 6) (f 7) (f 8)) ||| ((1 : Int32) <<< ((6 : Int32) &&& 31))) = zi (rn6 (f 0) (f 1) (f 5) true (f 7) (f 8)) := by
  generalize f 0 = a
  generalize f 1 = b
  generalize f 5 = c
  generalize f 6 = d
  generalize f 7 = e
  generalize f 8 = g
  cases a <;> cases b <;> cases c <;> cases d <;> cases e <;> cases g <;> decide +kernel
theorem tell_7 (f : Nat → Bool) : (zi (cn6 (f 0) (f 1) (f 5) (f 6) (f 7) (f 8)) &&& (8 : Int32) = 0 ↔ f 7 = false) ∧ (zi (cn6 (f 0) (f 1) (f 5) (f 6) (f 7) (f 8)) ||| (8 : Int32)) = zi (cn6 (f 0) (f 1) (f 5) (f 6) true (f 8)) ∧ (((zi (rn6 (f 0) (f 1) (f 5) (f 6) (f 7) (f 8)) >>> ((7 : Int32) &&& 31)) &&& 1) = 1 ↔ f 7 = true) ∧ (zi (rn6 (f 0) (f 1) (f 5) (f 6) (f 7) (f 8)) ||| ((1 : Int32) <<< ((7 : Int32) &&& 31))) = zi (rn6 (f 0) (f 1) (f 5) (f 6) true (f 8)) := by
  generalize f 0 = a
  generalize f 1 = b
  generalize f 5 = c
  generalize f 6 = d
  generalize f 7 = e
  generalize f 8 = g
  cases a <;> cases b <;> cases c <;> cases d <;> cases e <;> cases g <;> decide +kernel
theorem tell_8 (f : Nat → Bool) : (zi (cn6 (f 0) (f 1) (f 5) (f 6) (f 7) (f 8)) &&& (16 : Int32) = 0 ↔ f 8 = false) ∧ (zi (cn6 (f 0) (f 1) (f 5) (f 6) (f 7) (f 8)) ||| (16 : Int32)) = zi (cn6 (f 0) (f 1) (f 5) (f 6) (f 7) true) ∧ (((zi (rn6 (f 0) (f 1) (f 5) (f 6) (f 7) (f 8)) >>> ((8 : Int32) &&& 31)) &&& 1) = 1 ↔ f 8 = true) ∧ (zi (rn6 (f 0) (f 1) (f 5) (f 6) (f 7) (f 8)) ||| ((1 : Int32) <<< ((8 : Int32) &&& 31))) = zi (rn6 (f 0) (f 1) (f 5) (f 6) (f 7) true) := by
  generalize f 0 = a
  generalize f 1 = b
  generalize f 5 = c
  generalize f 6 = d
  generalize f 7 = e
  generalize f 8 = g
  cases a <;> cases b <;> cases c <;> cases d <;> cases e <;> cases g <;> decide +kernel
def fset (f : Nat → Bool) (i : Nat) : Nat → Bool := fun j => if j = i then true else f j
def setCh (D : HD) (v : Int) : HD := (v, D.co, D.N, D.K, D.R, D.ten, D.E, D.Q, D.S, D.P)
def setCo (D : HD) (v : Int) : HD := (D.ch, v, D.N, D.K, D.R, D.ten, D.E, D.Q, D.S, D.P)
def setTn (D : HD) (v : Int) : HD := (D.ch, D.co, D.N, D.K, D.R, v, D.E, D.Q, D.S, D.P)
def setPr (D : HD) (t : Nat) (v : Int) : HD := (D.ch, D.co, D.N, D.K, D.R, D.ten, D.E, D.Q, D.S, fun j => if j = t then v else D.P j)
theorem setPr_p {D : HD} (hD : WFD D) {t : Nat} {v : Int} (ht : 1 ≤ t ∧ t < 5) (hv : 0 ≤ v ∧ v ≤ 9999) : (setPr D t v).P 0 = -1 ∧ ∀ j, j < 5 → -1 ≤ (setPr D t v).P j ∧ (setPr D t v).P j ≤ 9999 := by
  refine ⟨?_, fun j hj => ?_⟩
  · show (if 0 = t then v else D.P 0) = -1
    rw [if_neg (by omega)]
    exact hD.p.1
  · show -1 ≤ (if j = t then v else D.P j) ∧ (if j = t then v else D.P j) ≤ 9999
    by_cases q : j = t
    · rw [if_pos q]; omega
    · rw [if_neg q]; exact hD.p.2.1 j hj
section
variable {D : HD} {h hc hr : AH} {n T q : Nat} {B : Nat → Nat} {f : Nat → Bool}
/-- a price put at its place, in both -/
theorem CH.pr {t : Nat} {v : Int} (hT : TL T) (x : CH D T h) (ht : t < 5) : CH (setPr D t v) T (sI h (T + 7) t (zi v)) := by
  obtain ⟨⟨a0, a1, a2, a3, a4, a5⟩, b1, b2, b3, b4, b5, b6⟩ := x
  have o : ∀ a k, ¬ (a = T + 7 ∧ k = t) → gI (sI h (T + 7) t (zi v)) a k = gI h a k := fun a k z => by rw [gI_sI, if_neg z]
  refine ⟨⟨(o _ _ (by omega)).trans a0, (o _ _ (by omega)).trans a1, (o _ _ (by omega)).trans a2, (o _ _ (by omega)).trans a3, (o _ _ (by omega)).trans a4, (o _ _ (by omega)).trans a5⟩, fun e w he hw => (o _ _ (by omega)).trans (b1 e w he hw), fun e he => (o _ _ (by omega)).trans (b2 e he), fun k w hk hw => (o _ _ (by omega)).trans (b3 k w hk hw), fun k hk => (o _ _ (by omega)).trans (b4 k hk), fun r hr => ⟨(o _ _ (by omega)).trans (b5 r hr).1, (o _ _ (by omega)).trans (b5 r hr).2⟩, fun j hj => ?_⟩
  show gI (sI h (T + 7) t (zi v)) (T + 7) j = zi (if j = t then v else D.P j)
  by_cases q : j = t
  · rw [if_pos q, gI_sI, if_pos ⟨rfl, q⟩]
  · rw [if_neg q, o _ _ (by omega)]
    exact b6 j hj
theorem NWh.pr {t : Nat} {v : Int} (x : NWh D h) (ht : t < 5) : NWh (setPr D t v) (sI h 250 t (zi v)) := by
  obtain ⟨⟨a0, a1, a2, a3, a4, a5⟩, b1, b2, b3, b4⟩ := x
  have o : ∀ a k, ¬ (a = 250 ∧ k = t) → gI (sI h 250 t (zi v)) a k = gI h a k := fun a k z => by rw [gI_sI, if_neg z]
  refine ⟨⟨(o _ _ (by omega)).trans a0, (o _ _ (by omega)).trans a1, (o _ _ (by omega)).trans a2, (o _ _ (by omega)).trans a3, (o _ _ (by omega)).trans a4, (o _ _ (by omega)).trans a5⟩, fun e w he hw => (o _ _ (by omega)).trans (b1 e w he hw), fun k w hk hw => (o _ _ (by omega)).trans (b2 k w hk hw), fun r w hr hw => (o _ _ (by omega)).trans (b3 r w hr hw), fun j hj => ?_⟩
  show gI (sI h 250 t (zi v)) 250 j = zi (if j = t then v else D.P j)
  by_cases q : j = t
  · rw [if_pos q, gI_sI, if_pos ⟨rfl, q⟩]
  · rw [if_neg q, o _ _ (by omega)]
    exact b4 j hj
/-- a number of the hall put at its place -/
theorem CH.s0 {v : Int} (hT : TL T) (x : CH D T h) : CH (setCh D v) T (sI h T 0 (zi v)) := by
  obtain ⟨⟨a0, a1, a2, a3, a4, a5⟩, b1, b2, b3, b4, b5, b6⟩ := x
  have o : ∀ a k, ¬ (a = T ∧ k = 0) → gI (sI h T 0 (zi v)) a k = gI h a k := fun a k z => by rw [gI_sI, if_neg z]
  exact ⟨⟨by rw [gI_sI, if_pos ⟨rfl, rfl⟩]; rfl, (o _ _ (by omega)).trans a1, (o _ _ (by omega)).trans a2, (o _ _ (by omega)).trans a3, (o _ _ (by omega)).trans a4, (o _ _ (by omega)).trans a5⟩, fun e w he hw => (o _ _ (by omega)).trans (b1 e w he hw), fun e he => (o _ _ (by omega)).trans (b2 e he), fun k w hk hw => (o _ _ (by omega)).trans (b3 k w hk hw), fun k hk => (o _ _ (by omega)).trans (b4 k hk), fun r hr => ⟨(o _ _ (by omega)).trans (b5 r hr).1, (o _ _ (by omega)).trans (b5 r hr).2⟩, fun j hj => (o _ _ (by omega)).trans (b6 j hj)⟩
theorem CH.s1 {v : Int} (hT : TL T) (x : CH D T h) : CH (setCo D v) T (sI h T 1 (zi v)) := by
  obtain ⟨⟨a0, a1, a2, a3, a4, a5⟩, b1, b2, b3, b4, b5, b6⟩ := x
  have o : ∀ a k, ¬ (a = T ∧ k = 1) → gI (sI h T 1 (zi v)) a k = gI h a k := fun a k z => by rw [gI_sI, if_neg z]
  exact ⟨⟨(o _ _ (by omega)).trans a0, by rw [gI_sI, if_pos ⟨rfl, rfl⟩]; rfl, (o _ _ (by omega)).trans a2, (o _ _ (by omega)).trans a3, (o _ _ (by omega)).trans a4, (o _ _ (by omega)).trans a5⟩, fun e w he hw => (o _ _ (by omega)).trans (b1 e w he hw), fun e he => (o _ _ (by omega)).trans (b2 e he), fun k w hk hw => (o _ _ (by omega)).trans (b3 k w hk hw), fun k hk => (o _ _ (by omega)).trans (b4 k hk), fun r hr => ⟨(o _ _ (by omega)).trans (b5 r hr).1, (o _ _ (by omega)).trans (b5 r hr).2⟩, fun j hj => (o _ _ (by omega)).trans (b6 j hj)⟩
theorem CH.s5 {v : Int} (hT : TL T) (x : CH D T h) : CH (setTn D v) T (sI h T 5 (zi v)) := by
  obtain ⟨⟨a0, a1, a2, a3, a4, a5⟩, b1, b2, b3, b4, b5, b6⟩ := x
  have o : ∀ a k, ¬ (a = T ∧ k = 5) → gI (sI h T 5 (zi v)) a k = gI h a k := fun a k z => by rw [gI_sI, if_neg z]
  exact ⟨⟨(o _ _ (by omega)).trans a0, (o _ _ (by omega)).trans a1, (o _ _ (by omega)).trans a2, (o _ _ (by omega)).trans a3, (o _ _ (by omega)).trans a4, by rw [gI_sI, if_pos ⟨rfl, rfl⟩]; rfl⟩, fun e w he hw => (o _ _ (by omega)).trans (b1 e w he hw), fun e he => (o _ _ (by omega)).trans (b2 e he), fun k w hk hw => (o _ _ (by omega)).trans (b3 k w hk hw), fun k hk => (o _ _ (by omega)).trans (b4 k hk), fun r hr => ⟨(o _ _ (by omega)).trans (b5 r hr).1, (o _ _ (by omega)).trans (b5 r hr).2⟩, fun j hj => (o _ _ (by omega)).trans (b6 j hj)⟩
theorem NWh.s0 {v : Int} (x : NWh D h) : NWh (setCh D v) (sI h 240 23 (zi v)) := by
  obtain ⟨⟨a0, a1, a2, a3, a4, a5⟩, b1, b2, b3, b4⟩ := x
  have o : ∀ a k, ¬ (a = 240 ∧ k = 23) → gI (sI h 240 23 (zi v)) a k = gI h a k := fun a k z => by rw [gI_sI, if_neg z]
  exact ⟨⟨by rw [gI_sI, if_pos ⟨rfl, rfl⟩]; rfl, (o _ _ (by omega)).trans a1, (o _ _ (by omega)).trans a2, (o _ _ (by omega)).trans a3, (o _ _ (by omega)).trans a4, (o _ _ (by omega)).trans a5⟩, fun e w he hw => (o _ _ (by omega)).trans (b1 e w he hw), fun k w hk hw => (o _ _ (by omega)).trans (b2 k w hk hw), fun r w hr hw => (o _ _ (by omega)).trans (b3 r w hr hw), fun j hj => (o _ _ (by omega)).trans (b4 j hj)⟩
theorem NWh.s1 {v : Int} (x : NWh D h) : NWh (setCo D v) (sI h 240 24 (zi v)) := by
  obtain ⟨⟨a0, a1, a2, a3, a4, a5⟩, b1, b2, b3, b4⟩ := x
  have o : ∀ a k, ¬ (a = 240 ∧ k = 24) → gI (sI h 240 24 (zi v)) a k = gI h a k := fun a k z => by rw [gI_sI, if_neg z]
  exact ⟨⟨(o _ _ (by omega)).trans a0, by rw [gI_sI, if_pos ⟨rfl, rfl⟩]; rfl, (o _ _ (by omega)).trans a2, (o _ _ (by omega)).trans a3, (o _ _ (by omega)).trans a4, (o _ _ (by omega)).trans a5⟩, fun e w he hw => (o _ _ (by omega)).trans (b1 e w he hw), fun k w hk hw => (o _ _ (by omega)).trans (b2 k w hk hw), fun r w hr hw => (o _ _ (by omega)).trans (b3 r w hr hw), fun j hj => (o _ _ (by omega)).trans (b4 j hj)⟩
theorem NWh.s5 {v : Int} (x : NWh D h) : NWh (setTn D v) (sI h 240 28 (zi v)) := by
  obtain ⟨⟨a0, a1, a2, a3, a4, a5⟩, b1, b2, b3, b4⟩ := x
  have o : ∀ a k, ¬ (a = 240 ∧ k = 28) → gI (sI h 240 28 (zi v)) a k = gI h a k := fun a k z => by rw [gI_sI, if_neg z]
  exact ⟨⟨(o _ _ (by omega)).trans a0, (o _ _ (by omega)).trans a1, (o _ _ (by omega)).trans a2, (o _ _ (by omega)).trans a3, (o _ _ (by omega)).trans a4, by rw [gI_sI, if_pos ⟨rfl, rfl⟩]; rfl⟩, fun e w he hw => (o _ _ (by omega)).trans (b1 e w he hw), fun k w hk hw => (o _ _ (by omega)).trans (b2 k w hk hw), fun r w hr hw => (o _ _ (by omega)).trans (b3 r w hr hw), fun j hj => (o _ _ (by omega)).trans (b4 j hj)⟩
/-- what a line leaves -/
abbrev PLn (n : Nat) (B : Nat → Nat) (T q : Nat) (hc hr : AH) : Unit × AH → Unit × AH → Prop := fun a b => RS n B T q a.2 b.2 ∧ Fr (lnC T) hc a.2 ∧ Fr lnR hr b.2 ∧ (nofl a.2 → ∃ D f, LD D T f a.2 b.2)
/-- a line that was told already -/
theorem x_told {K : Unit × AH → Option (Unit × AH)} {cb v1 : Int32} (hT : TL T) (x : RS n B T q hc hr) (g : nofl hc) (hb : gI hc 1 7 &&& cb ≠ 0) (hK : ∀ h' hr', RS n B T q h' hr' → ¬ nofl h' → zw (K ((), h')) (fun r => Fr (lC T) h' r.2)) : z2 (bd (s_X3_tellOnce cb hc) K) (bd (s_X10_wrong 5 hr) fun q24 => j_X10_line_76 v1 q24.2) (PLn n B T (q + 1) hc hr) := by
  obtain ⟨⟨u1, a⟩, ⟨u2, b⟩, e1, e2, y1, y2, y3, y4, -, -⟩ := x_ref (q' := q) x (F := 5) (by decide) g
  dsimp only at y1 y2 y3 y4
  have t : s_X3_tellOnce cb hc = some ((), sI a 1 7 (gI a 1 7 ||| cb)) := by
    have := b_once hT y2 cb
    unfold s_X3_tellOnce at this ⊢
    rw [if_neg hb, e1, bd_v]
    rw [b_ref y2, bd_v] at this
    dsimp only at this ⊢
    split at this
    · exact this
    · exact this
  have f1 : Fr (lC T) a (sI a 1 7 (gI a 1 7 ||| cb)) := (Fr.refl _ a).sI (by unfold lC; omega)
  have g1 : ¬ nofl (sI a 1 7 (gI a 1 7 ||| cb)) := fun z => y2 ((nofl_ln hT f1).symm.trans z)
  have x1 := y1.ln hT f1 (Fr.refl lR b)
  obtain ⟨⟨u3, c⟩, e3, f3⟩ := hK _ _ x1 g1
  dsimp only at f3
  have f2 : Fr lR b (sI b 240 29 (gI b 240 29 ||| (1 <<< (v1 &&& 31)))) := (Fr.refl _ b).sI (by unfold lR; omega)
  have x2 := y1.ln hT (f1.trans f3) f2
  have g2 : ¬ nofl c := fun z => g1 ((nofl_ln hT f3).symm.trans z)
  rw [t, bd_v, e2, bd_v]
  unfold j_X10_line_76
  refine ⟨((), c), ((), sI b 240 29 (gI b 240 29 ||| (1 <<< (v1 &&& 31)))), e3, ?_, x2.up g2, (y3.mono (fun a k z => Or.inl z)).trans ((f1.trans f3).mono (fun a k z => Or.inr z)), (y4.mono (fun a k z => Or.inl z)).trans (f2.mono (fun a k z => Or.inr z)), fun z => absurd z g2⟩
  have xb := (y1.ln hT (Fr.refl (lC T) a) f2).bad y2
  dsimp only
  rw [xb, bd_v, if_pos rfl]
/-- a line that is told for the first time -/
theorem x_new {K : Unit × AH → Option (Unit × AH)} {cb v1 : Int32} {Q : Unit × AH → Unit × AH → Prop} (hT : TL T) (x : RS n B T q hc hr) (g : nofl hc) (hb : gI hc 1 7 &&& cb = 0) (h : ∀ a b : AH, RS n B T q a b → nofl a → Fr opC (sI hc 1 7 (gI hc 1 7 ||| cb)) a → Fr opR (sI hr 240 29 (gI hr 240 29 ||| (1 <<< (v1 &&& 31)))) b → z2 (K ((), a)) (if v1 = 0 then bd (s_X10_number 1 400 b) fun q23 => j_X10_line_116 v1 (sI q23.2 240 23 q23.1) else j_X10_line_116 v1 b) Q) : z2 (bd (s_X3_tellOnce cb hc) K) (j_X10_line_76 v1 hr) Q := by
  have f1 : Fr (lC T) hc (sI hc 1 7 (gI hc 1 7 ||| cb)) := (Fr.refl _ hc).sI (by unfold lC; omega)
  have f2 : Fr lR hr (sI hr 240 29 (gI hr 240 29 ||| (1 <<< (v1 &&& 31)))) := (Fr.refl _ hr).sI (by unfold lR; omega)
  have x1 := x.ln hT f1 f2
  have g1 : nofl (sI hc 1 7 (gI hc 1 7 ||| cb)) := (nofl_ln hT f1).trans g
  obtain ⟨-, -, -, ⟨p, e, x4, x5⟩, -⟩ := id x1
  have hq : q ≤ e := Nat.le_trans (x5 g1) x4.1
  obtain ⟨⟨u1, a⟩, ⟨u2, b⟩, e1, e2, y1, y2, y3, y4⟩ := x_next x1 g1 x4
  dsimp only at y1 y2 y3 y4
  unfold s_X3_tellOnce j_X3_tellOnce_14 j_X10_line_76
  rw [if_pos hb, e1, bd_v, bd_v]
  refine z2_r (x1.good g1) (z2_rf one_ne (z2_r e2 ?_))
  exact h a b (y1.le hq) y2 y3 y4
theorem x_chairs (hT : TL T) (x : RS n B T q hc hr) (g : nofl hc) (d : LD D T f hc hr) : z2 (bd (s_X3_tellOnce 32 hc) fun q => bd (gR q.2 1 2) fun t => if LAY t = (0, 8) then bd (s_X3_takeNumber 1 400 q.2) fun r => j_X3_readLine_258 (sI r.2 t 0 r.1) else none) (j_X10_line_15 0 hr) (PLn n B T (q + 1) hc hr) := by
  have bT := hT.b
  obtain ⟨d1, d2, d3, d4, d5, d6, d7⟩ := id d
  obtain ⟨t1, t2, t3, t4⟩ := tell_0 f
  unfold j_X10_line_15
  refine z2_r (x.good g) (z2_rf one_ne (z2_rf (by decide) (z2_rf (by decide) (z2_rf (by decide) ?_))))
  rw [d6.2]
  by_cases qf : f 0 = true
  · refine z2_rt (t3.mpr qf) ?_
    refine x_told hT x g (by rw [d6.1]; exact fun z => absurd (t1.mp z) (by rw [qf]; decide)) ?_
    intro h' hr' x' g'
    have into := x'.2.1
    dsimp only
    rw [into, bd_v, if_pos hT.l0]
    obtain ⟨v, e1⟩ := b_take x' g' 1 400
    rw [e1, bd_v]
    have f1 : Fr (lC T) h' (sI h' T 0 v) := (Fr.refl _ h').sI (by unfold lC; omega)
    unfold j_X3_readLine_258
    dsimp only
    rw [b_stop (fun z => g' ((nofl_ln hT f1).symm.trans z)), bd_v]
    exact zw_some f1
  · refine z2_rf (fun z => qf (t3.mp z)) ?_
    refine x_new hT x g (by rw [d6.1]; exact t1.mpr (Bool.eq_false_iff.mpr qf)) ?_
    rw [d6.1, d6.2, t2, t4]
    have f1 : Fr (lC T) hc (sI hc 1 7 (zi (cn6 true (f 1) (f 5) (f 6) (f 7) (f 8)))) := (Fr.refl _ hc).sI (by unfold lC; omega)
    have f2 : Fr lR hr (sI hr 240 29 (zi (rn6 true (f 1) (f 5) (f 6) (f 7) (f 8)))) := (Fr.refl _ hr).sI (by unfold lR; omega)
    have l7 : LD D T (fset f 0) (sI hc 1 7 (zi (cn6 true (f 1) (f 5) (f 6) (f 7) (f 8)))) (sI hr 240 29 (zi (rn6 true (f 1) (f 5) (f 6) (f 7) (f 8)))) := ⟨d1.fr (S := fun a k => a = 1 ∧ k = 7) ((Fr.refl _ hc).sI ⟨rfl, rfl⟩) (fun a k h1 h2 => by omega), d2.fr (S := fun a k => a = 240 ∧ k = 29) ((Fr.refl _ hr).sI ⟨rfl, rfl⟩) (by intro a k; omega), d3, d4, fun e h1 h2 => by rw [gI_sI, if_neg (by omega)]; exact d5 e h1 h2, ⟨by rw [gI_sI, if_pos ⟨rfl, rfl⟩]; rfl, by rw [gI_sI, if_pos ⟨rfl, rfl⟩]; rfl⟩, d7⟩
    intro a b ra ga fa fb
    have la := l7.op hT fa fb
    have fca : Fr (lnC T) hc a := (f1.mono (fun a k z => Or.inr z)).trans (fa.mono (fun a k z => Or.inl z))
    have frb : Fr lnR hr b := (f2.mono (fun a k z => Or.inr z)).trans (fb.mono (fun a k z => Or.inl z))
    generalize fset f 0 = fs at la
    dsimp only
    rw [ra.2.1, bd_v, if_pos hT.l0]
    refine z2_rt rfl ?_
    refine z2_bd (x_take (l := 1) (m := 400) ra (by decide) (by decide) (by decide) rfl rfl rfl rfl) ?_
    rintro ⟨w0, a2⟩ ⟨z0, b2⟩ ⟨r2, f2', h2, v2⟩
    dsimp only at r2 f2' h2 v2 ⊢
    have fc3 : Fr (lC T) a2 (sI a2 T 0 w0) := (Fr.refl _ a2).sI (by unfold lC; omega)
    have fr3 : Fr lR b2 (sI b2 240 23 z0) := (Fr.refl _ b2).sI (by unfold lR; omega)
    have key : z2 (some ((), (sI a2 T 0 w0))) (some ((), (sI b2 240 23 z0))) (fun a b => RS n B T (q + 1) a.2 b.2 ∧ Fr (lnC T) hc a.2 ∧ Fr lnR hr b.2 ∧ (nofl a.2 → ∃ D f, LD D T f a.2 b.2)) := by
      refine z2_some ⟨r2.ln hT fc3 fr3, (fca.trans (f2'.mono (fun a k z => Or.inl z))).trans (fc3.mono (fun a k z => Or.inr z)), (frb.trans (h2.mono (fun a k z => Or.inl z))).trans (fr3.mono (fun a k z => Or.inr z)), fun z => ?_⟩
      obtain ⟨-, v, rfl, rfl, v3, v4⟩ := v2 ((nofl_ln hT fc3).symm.trans z)
      have lb := la.op hT f2' h2
      refine ⟨setCh D v, fs, (lb.1.s0 hT), lb.2.1.s0, ⟨⟨⟨v3, v4⟩, d3.c.2⟩, d3.e, d3.q, d3.s, d3.p⟩, d4, fun e h1 h2 => ?_, ⟨?_, ?_⟩, lb.2.2.2.2.2.2⟩
      · show gI (sI a2 _ _ _) (T + 2) e = 0
        rw [gI_sI, if_neg (by omega)]
        exact lb.2.2.2.2.1 e h1 h2
      · show gI (sI a2 _ _ _) 1 7 = _
        rw [gI_sI, if_neg (by omega)]
        exact lb.2.2.2.2.2.1.1
      · show gI (sI b2 _ _ _) 240 29 = _
        rw [gI_sI, if_neg (by omega)]
        exact lb.2.2.2.2.2.1.2
    have fin := x_lineE hT key
    rw [bd_v, bd_v] at fin
    dsimp only at fin ⊢
    have fin2 : z2 (j_X3_readLine_258 (sI a2 T 0 w0)) (j_X10_line_259 (sI b2 240 23 z0)) (PLn n B T (q + 1) hc hr) := z2_mono fin (fun a b z => ⟨z.1.le (by omega), z.2⟩)
    · skip
      unfold j_X10_line_116
      refine z2_rf (by decide) ?_
      unfold j_X10_line_133
      refine z2_rf (by decide) ?_
      unfold j_X10_line_152
      refine z2_rf (by decide) ?_
      unfold j_X10_line_172
      refine z2_rf (by decide) ?_
      unfold j_X10_line_203
      refine z2_rf (by decide) ?_
      exact fin2
theorem x_costs (hT : TL T) (x : RS n B T q hc hr) (g : nofl hc) (d : LD D T f hc hr) : z2 (bd (s_X3_tellOnce 64 hc) fun q => bd (gR q.2 1 2) fun t => if LAY t = (0, 8) then bd (s_X3_takeNumber 0 9999 q.2) fun r => j_X3_readLine_258 (sI r.2 t 1 r.1) else none) (j_X10_line_15 1 hr) (PLn n B T (q + 1) hc hr) := by
  have bT := hT.b
  obtain ⟨d1, d2, d3, d4, d5, d6, d7⟩ := id d
  obtain ⟨t1, t2, t3, t4⟩ := tell_1 f
  unfold j_X10_line_15
  refine z2_r (x.good g) (z2_rf one_ne (z2_rf (by decide) (z2_rf (by decide) (z2_rf (by decide) ?_))))
  rw [d6.2]
  by_cases qf : f 1 = true
  · refine z2_rt (t3.mpr qf) ?_
    refine x_told hT x g (by rw [d6.1]; exact fun z => absurd (t1.mp z) (by rw [qf]; decide)) ?_
    intro h' hr' x' g'
    have into := x'.2.1
    dsimp only
    rw [into, bd_v, if_pos hT.l0]
    obtain ⟨v, e1⟩ := b_take x' g' 0 9999
    rw [e1, bd_v]
    have f1 : Fr (lC T) h' (sI h' T 1 v) := (Fr.refl _ h').sI (by unfold lC; omega)
    unfold j_X3_readLine_258
    dsimp only
    rw [b_stop (fun z => g' ((nofl_ln hT f1).symm.trans z)), bd_v]
    exact zw_some f1
  · refine z2_rf (fun z => qf (t3.mp z)) ?_
    refine x_new hT x g (by rw [d6.1]; exact t1.mpr (Bool.eq_false_iff.mpr qf)) ?_
    rw [d6.1, d6.2, t2, t4]
    have f1 : Fr (lC T) hc (sI hc 1 7 (zi (cn6 (f 0) true (f 5) (f 6) (f 7) (f 8)))) := (Fr.refl _ hc).sI (by unfold lC; omega)
    have f2 : Fr lR hr (sI hr 240 29 (zi (rn6 (f 0) true (f 5) (f 6) (f 7) (f 8)))) := (Fr.refl _ hr).sI (by unfold lR; omega)
    have l7 : LD D T (fset f 1) (sI hc 1 7 (zi (cn6 (f 0) true (f 5) (f 6) (f 7) (f 8)))) (sI hr 240 29 (zi (rn6 (f 0) true (f 5) (f 6) (f 7) (f 8)))) := ⟨d1.fr (S := fun a k => a = 1 ∧ k = 7) ((Fr.refl _ hc).sI ⟨rfl, rfl⟩) (fun a k h1 h2 => by omega), d2.fr (S := fun a k => a = 240 ∧ k = 29) ((Fr.refl _ hr).sI ⟨rfl, rfl⟩) (by intro a k; omega), d3, d4, fun e h1 h2 => by rw [gI_sI, if_neg (by omega)]; exact d5 e h1 h2, ⟨by rw [gI_sI, if_pos ⟨rfl, rfl⟩]; rfl, by rw [gI_sI, if_pos ⟨rfl, rfl⟩]; rfl⟩, d7⟩
    intro a b ra ga fa fb
    have la := l7.op hT fa fb
    have fca : Fr (lnC T) hc a := (f1.mono (fun a k z => Or.inr z)).trans (fa.mono (fun a k z => Or.inl z))
    have frb : Fr lnR hr b := (f2.mono (fun a k z => Or.inr z)).trans (fb.mono (fun a k z => Or.inl z))
    generalize fset f 1 = fs at la
    dsimp only
    rw [ra.2.1, bd_v, if_pos hT.l0]
    refine z2_rf (by decide) ?_
    unfold j_X10_line_116
    refine z2_rt rfl ?_
    refine z2_bd (x_take (l := 0) (m := 9999) ra (by decide) (by decide) (by decide) rfl rfl rfl rfl) ?_
    rintro ⟨w0, a2⟩ ⟨z0, b2⟩ ⟨r2, f2', h2, v2⟩
    dsimp only at r2 f2' h2 v2 ⊢
    have fc3 : Fr (lC T) a2 (sI a2 T 1 w0) := (Fr.refl _ a2).sI (by unfold lC; omega)
    have fr3 : Fr lR b2 (sI b2 240 24 z0) := (Fr.refl _ b2).sI (by unfold lR; omega)
    have key : z2 (some ((), (sI a2 T 1 w0))) (some ((), (sI b2 240 24 z0))) (fun a b => RS n B T (q + 1) a.2 b.2 ∧ Fr (lnC T) hc a.2 ∧ Fr lnR hr b.2 ∧ (nofl a.2 → ∃ D f, LD D T f a.2 b.2)) := by
      refine z2_some ⟨r2.ln hT fc3 fr3, (fca.trans (f2'.mono (fun a k z => Or.inl z))).trans (fc3.mono (fun a k z => Or.inr z)), (frb.trans (h2.mono (fun a k z => Or.inl z))).trans (fr3.mono (fun a k z => Or.inr z)), fun z => ?_⟩
      obtain ⟨-, v, rfl, rfl, v3, v4⟩ := v2 ((nofl_ln hT fc3).symm.trans z)
      have lb := la.op hT f2' h2
      refine ⟨setCo D v, fs, (lb.1.s1 hT), lb.2.1.s1, ⟨⟨d3.c.1, ⟨v3, v4⟩, d3.c.2.2⟩, d3.e, d3.q, d3.s, d3.p⟩, d4, fun e h1 h2 => ?_, ⟨?_, ?_⟩, lb.2.2.2.2.2.2⟩
      · show gI (sI a2 _ _ _) (T + 2) e = 0
        rw [gI_sI, if_neg (by omega)]
        exact lb.2.2.2.2.1 e h1 h2
      · show gI (sI a2 _ _ _) 1 7 = _
        rw [gI_sI, if_neg (by omega)]
        exact lb.2.2.2.2.2.1.1
      · show gI (sI b2 _ _ _) 240 29 = _
        rw [gI_sI, if_neg (by omega)]
        exact lb.2.2.2.2.2.1.2
    have fin := x_lineE hT key
    rw [bd_v, bd_v] at fin
    dsimp only at fin ⊢
    have fin2 : z2 (j_X3_readLine_258 (sI a2 T 1 w0)) (j_X10_line_259 (sI b2 240 24 z0)) (PLn n B T (q + 1) hc hr) := z2_mono fin (fun a b z => ⟨z.1.le (by omega), z.2⟩)
    · skip
      unfold j_X10_line_133
      refine z2_rf (by decide) ?_
      unfold j_X10_line_152
      refine z2_rf (by decide) ?_
      unfold j_X10_line_172
      refine z2_rf (by decide) ?_
      unfold j_X10_line_203
      refine z2_rf (by decide) ?_
      exact fin2
theorem x_year (hT : TL T) (x : RS n B T q hc hr) (g : nofl hc) (d : LD D T f hc hr) : z2 (bd (s_X3_tellOnce 2 hc) fun q => bd (gR q.2 1 2) fun t => if LAY t = (0, 8) then bd (s_X3_takeNumber 0 9999 q.2) fun r => bd (s_X9_put (some (t + 7)) 1 r.1 r.2) fun s => j_X3_readLine_258 s.2 else none) (j_X10_line_15 5 hr) (PLn n B T (q + 1) hc hr) := by
  have bT := hT.b
  obtain ⟨d1, d2, d3, d4, d5, d6, d7⟩ := id d
  obtain ⟨t1, t2, t3, t4⟩ := tell_5 f
  unfold j_X10_line_15
  refine z2_r (x.good g) (z2_rf one_ne (z2_rf (by decide) (z2_rf (by decide) (z2_rf (by decide) ?_))))
  rw [d6.2]
  by_cases qf : f 5 = true
  · refine z2_rt (t3.mpr qf) ?_
    refine x_told hT x g (by rw [d6.1]; exact fun z => absurd (t1.mp z) (by rw [qf]; decide)) ?_
    intro h' hr' x' g'
    have into := x'.2.1
    dsimp only
    rw [into, bd_v, if_pos hT.l0]
    obtain ⟨v, e1⟩ := b_take x' g' 0 9999
    rw [e1, bd_v]
    refine zw_bd (b_row hT (X := T + 7) (m := 5) (by omega) hT.l7 rfl _ _) ?_
    rintro ⟨u1, g1⟩ f1
    dsimp only at f1 ⊢
    unfold j_X3_readLine_258
    rw [b_stop (fun z => g' ((nofl_ln hT f1).symm.trans z)), bd_v]
    exact zw_some f1
  · refine z2_rf (fun z => qf (t3.mp z)) ?_
    refine x_new hT x g (by rw [d6.1]; exact t1.mpr (Bool.eq_false_iff.mpr qf)) ?_
    rw [d6.1, d6.2, t2, t4]
    have f1 : Fr (lC T) hc (sI hc 1 7 (zi (cn6 (f 0) (f 1) true (f 6) (f 7) (f 8)))) := (Fr.refl _ hc).sI (by unfold lC; omega)
    have f2 : Fr lR hr (sI hr 240 29 (zi (rn6 (f 0) (f 1) true (f 6) (f 7) (f 8)))) := (Fr.refl _ hr).sI (by unfold lR; omega)
    have l7 : LD D T (fset f 5) (sI hc 1 7 (zi (cn6 (f 0) (f 1) true (f 6) (f 7) (f 8)))) (sI hr 240 29 (zi (rn6 (f 0) (f 1) true (f 6) (f 7) (f 8)))) := ⟨d1.fr (S := fun a k => a = 1 ∧ k = 7) ((Fr.refl _ hc).sI ⟨rfl, rfl⟩) (fun a k h1 h2 => by omega), d2.fr (S := fun a k => a = 240 ∧ k = 29) ((Fr.refl _ hr).sI ⟨rfl, rfl⟩) (by intro a k; omega), d3, d4, fun e h1 h2 => by rw [gI_sI, if_neg (by omega)]; exact d5 e h1 h2, ⟨by rw [gI_sI, if_pos ⟨rfl, rfl⟩]; rfl, by rw [gI_sI, if_pos ⟨rfl, rfl⟩]; rfl⟩, d7⟩
    intro a b ra ga fa fb
    have la := l7.op hT fa fb
    have fca : Fr (lnC T) hc a := (f1.mono (fun a k z => Or.inr z)).trans (fa.mono (fun a k z => Or.inl z))
    have frb : Fr lnR hr b := (f2.mono (fun a k z => Or.inr z)).trans (fb.mono (fun a k z => Or.inl z))
    generalize fset f 5 = fs at la
    dsimp only
    rw [ra.2.1, bd_v, if_pos hT.l0]
    refine z2_rf (by decide) ?_
    unfold j_X10_line_116
    refine z2_rf (by decide) ?_
    unfold j_X10_line_133
    refine z2_rt rfl ?_
    refine z2_bd (x_take (l := 0) (m := 9999) ra (by decide) (by decide) (by decide) rfl rfl rfl rfl) ?_
    rintro ⟨w0, a2⟩ ⟨z0, b2⟩ ⟨r2, f2', h2, v2⟩
    dsimp only at r2 f2' h2 v2 ⊢
    refine z2_l (put_ok 1 (n := 5) hT.l7 rfl (by decide)) (z2_r (stI_ok 1 (n := 5) rfl rfl (by decide)) ?_)
    have fc3 : Fr (lC T) a2 (sI a2 (T + 7) 1 w0) := (Fr.refl _ a2).sI (by unfold lC; omega)
    have fr3 : Fr lR b2 (sI b2 250 1 z0) := (Fr.refl _ b2).sI (by unfold lR; omega)
    have key : z2 (some ((), (sI a2 (T + 7) 1 w0))) (some ((), (sI b2 250 1 z0))) (fun a b => RS n B T (q + 1) a.2 b.2 ∧ Fr (lnC T) hc a.2 ∧ Fr lnR hr b.2 ∧ (nofl a.2 → ∃ D f, LD D T f a.2 b.2)) := by
      refine z2_some ⟨r2.ln hT fc3 fr3, (fca.trans (f2'.mono (fun a k z => Or.inl z))).trans (fc3.mono (fun a k z => Or.inr z)), (frb.trans (h2.mono (fun a k z => Or.inl z))).trans (fr3.mono (fun a k z => Or.inr z)), fun z => ?_⟩
      obtain ⟨-, v, rfl, rfl, v3, v4⟩ := v2 ((nofl_ln hT fc3).symm.trans z)
      have lb := la.op hT f2' h2
      refine ⟨setPr D 1 v, fs, (lb.1.pr hT (by decide)), (lb.2.1.pr (by decide)), ⟨d3.c, d3.e, d3.q, d3.s, (setPr_p d3 (by decide) ⟨v3, v4⟩).1, (setPr_p d3 (by decide) ⟨v3, v4⟩).2, d3.p.2.2.1, d3.p.2.2.2⟩, d4, fun e h1 h2 => ?_, ⟨?_, ?_⟩, lb.2.2.2.2.2.2⟩
      · show gI (sI a2 _ _ _) (T + 2) e = 0
        rw [gI_sI, if_neg (by omega)]
        exact lb.2.2.2.2.1 e h1 h2
      · show gI (sI a2 _ _ _) 1 7 = _
        rw [gI_sI, if_neg (by omega)]
        exact lb.2.2.2.2.2.1.1
      · show gI (sI b2 _ _ _) 240 29 = _
        rw [gI_sI, if_neg (by omega)]
        exact lb.2.2.2.2.2.1.2
    have fin := x_lineE hT key
    rw [bd_v, bd_v] at fin
    dsimp only at fin ⊢
    have fin2 : z2 (j_X3_readLine_258 (sI a2 (T + 7) 1 w0)) (j_X10_line_259 (sI b2 250 1 z0)) (PLn n B T (q + 1) hc hr) := z2_mono fin (fun a b z => ⟨z.1.le (by omega), z.2⟩)
    · skip
      unfold j_X10_line_152
      refine z2_rf (by decide) ?_
      unfold j_X10_line_172
      refine z2_rf (by decide) ?_
      unfold j_X10_line_203
      refine z2_rf (by decide) ?_
      exact fin2
theorem x_cheap (hT : TL T) (x : RS n B T q hc hr) (g : nofl hc) (d : LD D T f hc hr) : z2 (bd (s_X3_tellOnce 16 hc) fun q => bd (gR q.2 1 2) fun t => if LAY t = (0, 8) then bd (s_X3_takeNumber 0 9999 q.2) fun r => bd (s_X9_put (some (t + 7)) 4 r.1 r.2) fun s => j_X3_readLine_258 s.2 else none) (j_X10_line_15 8 hr) (PLn n B T (q + 1) hc hr) := by
  have bT := hT.b
  obtain ⟨d1, d2, d3, d4, d5, d6, d7⟩ := id d
  obtain ⟨t1, t2, t3, t4⟩ := tell_8 f
  unfold j_X10_line_15
  refine z2_r (x.good g) (z2_rf one_ne (z2_rf (by decide) (z2_rf (by decide) (z2_rf (by decide) ?_))))
  rw [d6.2]
  by_cases qf : f 8 = true
  · refine z2_rt (t3.mpr qf) ?_
    refine x_told hT x g (by rw [d6.1]; exact fun z => absurd (t1.mp z) (by rw [qf]; decide)) ?_
    intro h' hr' x' g'
    have into := x'.2.1
    dsimp only
    rw [into, bd_v, if_pos hT.l0]
    obtain ⟨v, e1⟩ := b_take x' g' 0 9999
    rw [e1, bd_v]
    refine zw_bd (b_row hT (X := T + 7) (m := 5) (by omega) hT.l7 rfl _ _) ?_
    rintro ⟨u1, g1⟩ f1
    dsimp only at f1 ⊢
    unfold j_X3_readLine_258
    rw [b_stop (fun z => g' ((nofl_ln hT f1).symm.trans z)), bd_v]
    exact zw_some f1
  · refine z2_rf (fun z => qf (t3.mp z)) ?_
    refine x_new hT x g (by rw [d6.1]; exact t1.mpr (Bool.eq_false_iff.mpr qf)) ?_
    rw [d6.1, d6.2, t2, t4]
    have f1 : Fr (lC T) hc (sI hc 1 7 (zi (cn6 (f 0) (f 1) (f 5) (f 6) (f 7) true))) := (Fr.refl _ hc).sI (by unfold lC; omega)
    have f2 : Fr lR hr (sI hr 240 29 (zi (rn6 (f 0) (f 1) (f 5) (f 6) (f 7) true))) := (Fr.refl _ hr).sI (by unfold lR; omega)
    have l7 : LD D T (fset f 8) (sI hc 1 7 (zi (cn6 (f 0) (f 1) (f 5) (f 6) (f 7) true))) (sI hr 240 29 (zi (rn6 (f 0) (f 1) (f 5) (f 6) (f 7) true))) := ⟨d1.fr (S := fun a k => a = 1 ∧ k = 7) ((Fr.refl _ hc).sI ⟨rfl, rfl⟩) (fun a k h1 h2 => by omega), d2.fr (S := fun a k => a = 240 ∧ k = 29) ((Fr.refl _ hr).sI ⟨rfl, rfl⟩) (by intro a k; omega), d3, d4, fun e h1 h2 => by rw [gI_sI, if_neg (by omega)]; exact d5 e h1 h2, ⟨by rw [gI_sI, if_pos ⟨rfl, rfl⟩]; rfl, by rw [gI_sI, if_pos ⟨rfl, rfl⟩]; rfl⟩, d7⟩
    intro a b ra ga fa fb
    have la := l7.op hT fa fb
    have fca : Fr (lnC T) hc a := (f1.mono (fun a k z => Or.inr z)).trans (fa.mono (fun a k z => Or.inl z))
    have frb : Fr lnR hr b := (f2.mono (fun a k z => Or.inr z)).trans (fb.mono (fun a k z => Or.inl z))
    generalize fset f 8 = fs at la
    dsimp only
    rw [ra.2.1, bd_v, if_pos hT.l0]
    refine z2_rf (by decide) ?_
    unfold j_X10_line_116
    refine z2_rf (by decide) ?_
    unfold j_X10_line_133
    refine z2_rf (by decide) ?_
    unfold j_X10_line_152
    refine z2_rt rfl ?_
    refine z2_bd (x_take (l := 0) (m := 9999) ra (by decide) (by decide) (by decide) rfl rfl rfl rfl) ?_
    rintro ⟨w0, a2⟩ ⟨z0, b2⟩ ⟨r2, f2', h2, v2⟩
    dsimp only at r2 f2' h2 v2 ⊢
    refine z2_l (put_ok 4 (n := 5) hT.l7 rfl (by decide)) (z2_r (stI_ok 4 (n := 5) rfl rfl (by decide)) ?_)
    have fc3 : Fr (lC T) a2 (sI a2 (T + 7) 4 w0) := (Fr.refl _ a2).sI (by unfold lC; omega)
    have fr3 : Fr lR b2 (sI b2 250 4 z0) := (Fr.refl _ b2).sI (by unfold lR; omega)
    have key : z2 (some ((), (sI a2 (T + 7) 4 w0))) (some ((), (sI b2 250 4 z0))) (fun a b => RS n B T (q + 1) a.2 b.2 ∧ Fr (lnC T) hc a.2 ∧ Fr lnR hr b.2 ∧ (nofl a.2 → ∃ D f, LD D T f a.2 b.2)) := by
      refine z2_some ⟨r2.ln hT fc3 fr3, (fca.trans (f2'.mono (fun a k z => Or.inl z))).trans (fc3.mono (fun a k z => Or.inr z)), (frb.trans (h2.mono (fun a k z => Or.inl z))).trans (fr3.mono (fun a k z => Or.inr z)), fun z => ?_⟩
      obtain ⟨-, v, rfl, rfl, v3, v4⟩ := v2 ((nofl_ln hT fc3).symm.trans z)
      have lb := la.op hT f2' h2
      refine ⟨setPr D 4 v, fs, (lb.1.pr hT (by decide)), (lb.2.1.pr (by decide)), ⟨d3.c, d3.e, d3.q, d3.s, (setPr_p d3 (by decide) ⟨v3, v4⟩).1, (setPr_p d3 (by decide) ⟨v3, v4⟩).2, d3.p.2.2.1, d3.p.2.2.2⟩, d4, fun e h1 h2 => ?_, ⟨?_, ?_⟩, lb.2.2.2.2.2.2⟩
      · show gI (sI a2 _ _ _) (T + 2) e = 0
        rw [gI_sI, if_neg (by omega)]
        exact lb.2.2.2.2.1 e h1 h2
      · show gI (sI a2 _ _ _) 1 7 = _
        rw [gI_sI, if_neg (by omega)]
        exact lb.2.2.2.2.2.1.1
      · show gI (sI b2 _ _ _) 240 29 = _
        rw [gI_sI, if_neg (by omega)]
        exact lb.2.2.2.2.2.1.2
    have fin := x_lineE hT key
    rw [bd_v, bd_v] at fin
    dsimp only at fin ⊢
    have fin2 : z2 (j_X3_readLine_258 (sI a2 (T + 7) 4 w0)) (j_X10_line_259 (sI b2 250 4 z0)) (PLn n B T (q + 1) hc hr) := z2_mono fin (fun a b z => ⟨z.1.le (by omega), z.2⟩)
    · skip
      unfold j_X10_line_172
      refine z2_rf (by decide) ?_
      unfold j_X10_line_203
      refine z2_rf (by decide) ?_
      exact fin2
end
