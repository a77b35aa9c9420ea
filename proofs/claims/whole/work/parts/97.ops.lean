/-! 97.ops: what both readers do with a token, side by side; behind a fault nothing is read -/
abbrev nofl (h : AH) : Prop := gI h 1 8 = 0
def RS (n : Nat) (B : Nat → Nat) (T q : Nat) (hc hr : AH) : Prop := TX n B hc hr ∧ gR hc 1 2 = some T ∧ gI hc 1 8 = gI hr 240 13 ∧ (∃ p e, TK n B p e hc hr ∧ (nofl hc → q ≤ p)) ∧ (¬ nofl hc → gI hc 1 9 = gI hr 240 14) ∧ (nofl hc → gI hr 240 14 = -1)
def opC (a k : Nat) : Prop := a = 1 ∧ (k = 4 ∨ k = 5 ∨ k = 6 ∨ k = 8 ∨ k = 9)
def opR (a k : Nat) : Prop := a = 240 ∧ (k = 13 ∨ k = 14 ∨ (17 ≤ k ∧ k ≤ 22))
/-- what a line may write besides -/
def lC (T a k : Nat) : Prop := (a = 1 ∧ k = 7) ∨ (T ≤ a ∧ a ≤ T + 7)
def lR (a k : Nat) : Prop := (a = 240 ∧ 23 ≤ k ∧ k ≤ 29) ∨ (247 ≤ a ∧ a ≤ 250)
theorem TK.fr {n : Nat} {B : Nat → Nat} {p e : Nat} {hc hr gc gr : AH} {S R : Nat → Nat → Prop} (t : TK n B p e hc hr) (fc : Fr S hc gc) (fr : Fr R hr gr) (n1 : ∀ k, 4 ≤ k → k ≤ 6 → ¬ S 1 k) (n2 : ∀ k, 17 ≤ k → k ≤ 22 → ¬ R 240 k) : TK n B p e gc gr := by
  obtain ⟨t1, t2, t3, t4, t5, t6, t7, t8⟩ := t
  refine ⟨t1, t2, (fc.i (n1 _ (by omega) (by omega))).trans t3, (fc.i (n1 _ (by omega) (by omega))).trans t4, (fr.i (n2 _ (by omega) (by omega))).trans t5, (fr.i (n2 _ (by omega) (by omega))).trans t6, (fr.i (n2 _ (by omega) (by omega))).trans t7, ?_⟩
  rcases t8 with ⟨q1, q2, q3⟩ | ⟨q1, q2, q3, q4, q5, q6⟩
  · exact Or.inl ⟨q1, (fc.i (n1 _ (by omega) (by omega))).trans q2, (fr.i (n2 _ (by omega) (by omega))).trans q3⟩
  · exact Or.inr ⟨q1, q2, (fc.i (n1 _ (by omega) (by omega))).trans q3, (fr.i (n2 _ (by omega) (by omega))).trans q4, fun z => ⟨(q5 z).1, (fr.l (n2 _ (by omega) (by omega))).trans (q5 z).2⟩, fun z => ⟨(q6 z).1, (fr.i (n2 _ (by omega) (by omega))).trans (q6 z).2⟩⟩
section
variable {h hc hr gc gr : AH} {n T q : Nat} {B : Nat → Nat}
/-- writes of told numbers leave the reading alone -/
theorem RS.fr {S R : Nat → Nat → Prop} (x : RS n B T q hc hr) (fc : Fr S hc gc) (fr : Fr R hr gr) (n1 : ∀ a k, (a = 1 ∧ k ≠ 7) ∨ a = 3 ∨ a = 4 → ¬ S a k) (n2 : ∀ a k, (a = 240 ∧ k ≤ 22) ∨ a = 245 → ¬ R a k) : RS n B T q gc gr := by
  obtain ⟨x1, x2, x3, ⟨p, e, x4, x5⟩, x6⟩ := x
  have g8 : gI gc 1 8 = gI hc 1 8 := fc.i (n1 _ _ (by omega))
  refine ⟨x1.fr fc fr (n1 _ _ (by omega)) (fun k => n1 _ _ (by omega)) (fun k => n1 _ _ (by omega)) (n2 _ _ (by omega)) (fun k => n2 _ _ (by omega)), (fc.r (n1 _ _ (by omega))).trans x2, ?_, ⟨p, e, x4.fr fc fr (fun k h1 h2 => n1 _ _ (by omega)) (fun k h1 h2 => n2 _ _ (by omega)), fun z => x5 (g8.symm.trans z)⟩, fun z => ?_, fun z => (fr.i (n2 _ _ (by omega))).trans (x6.2 (g8.symm.trans z))⟩
  · rw [g8, fr.i (n2 _ _ (by omega))]; exact x3
  · rw [fc.i (n1 _ _ (by omega)), fr.i (n2 _ _ (by omega))]
    exact x6.1 (fun y => z (g8.trans y))
theorem RS.le {q' : Nat} (x : RS n B T q hc hr) (h : q' ≤ q) : RS n B T q' hc hr := by
  obtain ⟨x1, x2, x3, ⟨p, e, x4, x5⟩, x6⟩ := x
  exact ⟨x1, x2, x3, ⟨p, e, x4, fun z => Nat.le_trans h (x5 z)⟩, x6⟩
theorem RS.up {q' : Nat} (x : RS n B T q hc hr) (h : ¬ nofl hc) : RS n B T q' hc hr := by
  obtain ⟨x1, x2, x3, ⟨p, e, x4, x5⟩, x6⟩ := x
  exact ⟨x1, x2, x3, ⟨p, e, x4, fun z => absurd z h⟩, x6⟩
theorem RS.good (x : RS n B T q hc hr) (g : nofl hc) : s_X10_isGood hr = some 1 := by
  unfold s_X10_isGood
  rw [← x.2.2.1, if_pos g]
theorem RS.bad (x : RS n B T q hc hr) (g : ¬ nofl hc) : s_X10_isGood hr = some 0 := by
  unfold s_X10_isGood
  rw [← x.2.2.1, if_neg g]
/-- the class behind a fault -/
theorem b_adv (g : ¬ nofl h) : s_X3_advance h = some ((), h) := by
  unfold s_X3_advance
  rw [if_neg g]
theorem b_ref (g : ¬ nofl h) (F : Int32) : s_X3_refuse F h = some ((), h) := by
  unfold s_X3_refuse
  rw [if_neg g]
theorem b_take (x : RS n B T q h hr) (g : ¬ nofl h) (l m : Int32) : ∃ v, s_X3_takeNumber l m h = some (v, h) := by
  obtain ⟨x1, x2, x3, ⟨p, e, x4, x5⟩, x6⟩ := x
  have hn : ∃ v, s_X3_number h = some v := by
    rcases c_number x1 x4 with ⟨-, -, -, ⟨-, v, -, z, -⟩ | ⟨-, z, -⟩⟩ | ⟨-, -, z⟩
    · exact ⟨_, z⟩
    · exact ⟨_, z⟩
    · exact ⟨_, z⟩
  obtain ⟨v, hv⟩ := hn
  refine ⟨v, ?_⟩
  unfold s_X3_takeNumber j_X3_takeNumber_31
  rw [hv, bd_v, b_ref g, b_ref g, b_adv g]
  split
  · split
    · rfl
    · split <;> rfl
  · rfl
theorem b_is (x : RS n B T q h hr) {c : Nat} (hc : c < 19) : ∃ w : Bool, s_X3_isWord c h = some (b1 w) := by
  obtain ⟨x1, x2, x3, ⟨p, e, x4, x5⟩, x6⟩ := x
  obtain ⟨w, -, z⟩ := c_isWord x1 x4 hc
  exact ⟨w, z⟩
theorem b_takes (x : RS n B T q h hr) (g : ¬ nofl h) {c : Nat} (hc : c < 19) : ∃ w : Bool, s_X3_takesWord c h = some (b1 w, h) := by
  obtain ⟨w, z⟩ := b_is x hc
  refine ⟨w, ?_⟩
  unfold s_X3_takesWord
  rw [z, bd_v, b_adv g]
  cases w
  · rw [if_pos (show b1 false = 0 from rfl), if_pos (show b1 false = 0 ∨ b1 false = 1 from Or.inl rfl)]
  · rw [if_neg (show ¬ b1 true = 0 by decide), bd_v, if_pos (show b1 true = 0 ∨ b1 true = 1 from Or.inr rfl)]
theorem b_need (x : RS n B T q h hr) (g : ¬ nofl h) {c : Nat} (hc : c < 19) : s_X3_needWord c h = some ((), h) := by
  obtain ⟨w, z⟩ := b_is x hc
  unfold s_X3_needWord
  rw [z, bd_v, b_adv g, b_ref g]
  cases w
  · rw [if_pos (show b1 false = 0 from rfl), bd_v]
  · rw [if_neg (show ¬ b1 true = 0 by decide), bd_v]
theorem b_stop (g : ¬ nofl h) : s_X3_needStop h = some ((), h) := by
  unfold s_X3_needStop
  rw [b_adv g, b_ref g]
  split <;> rfl
/-- a write, whatever the index -/
theorem put_z {a m i : Nat} {v : Int32} (hL : LAY a = (1, m)) (hi : i < 2147483648) (hn : Nat.ble m 100000 = true := by rfl) : zw (s_X9_put (some a) (zi i) v h) (fun r => Fr (fun b k => b = a ∧ k = i) h r.2 ∧ (i < m → gI r.2 a i = v)) := by
  have hn' := Nat.le_of_ble_eq_true hn
  by_cases c : i < m
  · refine zw_eq (put_ok i hL rfl c hn) ⟨(Fr.refl _ h).sI ⟨rfl, rfl⟩, fun _ => ?_⟩
    show gI (sI h a i v) a i = v
    rw [gI_sI, if_pos ⟨rfl, rfl⟩]
  · exact zw_eq (put_out (i : Int) hL rfl (by omega) (by omega) (Or.inr (by omega)) hn) ⟨Fr.refl _ h, fun z => absurd z c⟩
theorem put_any {a m : Nat} {x v : Int32} (hL : LAY a = (1, m)) (hn : Nat.ble m 100000 = true := by rfl) : zw (s_X9_put (some a) x v h) (fun r => Fr (fun b _ => b = a) h r.2) := by
  have hn' := Nat.le_of_ble_eq_true hn
  obtain ⟨i, rfl, h1, h2⟩ := zi_of x
  by_cases c : 0 ≤ i ∧ i < m
  · refine zw_eq (put_ok i.toNat hL (congrArg zi (by omega)) (by omega) hn) ((Fr.refl (fun b _ => b = a) h).sI rfl)
  · exact zw_eq (put_out i hL rfl h1 h2 (by omega) hn) (Fr.refl _ h)
/-- one token further -/
theorem x_next {p e : Nat} (x : RS n B T q hc hr) (g : nofl hc) (t : TK n B p e hc hr) : z2 (s_X3_advance hc) (s_X10_steps hr) (fun a b => RS n B T e a.2 b.2 ∧ nofl a.2 ∧ Fr opC hc a.2 ∧ Fr opR hr b.2) := by
  obtain ⟨x1, x2, x3, -, x6⟩ := x
  refine z2_mono (x_adv x1 g t.2.1 t.2.2.2.1 t.2.2.2.2.1) ?_
  rintro ⟨u, a⟩ ⟨v, b⟩ ⟨p', e', h1, h2, fc, fr⟩
  dsimp only at h2 fc fr ⊢
  have g8 : gI a 1 8 = 0 := (fc.i (by unfold aC; omega)).trans g
  refine ⟨⟨x1.fr fc fr (by unfold aC; omega) (by intro k; unfold aC; omega) (by intro k; unfold aC; omega) (by unfold aR; omega) (by intro k; unfold aR; omega), (fc.r (by unfold aC; omega)).trans x2, ?_, ⟨p', e', h2, fun _ => h1⟩, fun z => absurd g8 z, fun _ => (fr.i (by unfold aR; omega)).trans (x6.2 g)⟩, g8, fc.mono (by unfold aC opC; omega), fr.mono (by unfold aR opR; omega)⟩
  rw [fc.i (by unfold aC; omega), fr.i (by unfold aR; omega)]
  exact x3
/-- a fault told -/
theorem x_ref {q' : Nat} (x : RS n B T q hc hr) {F : Int32} (hF : F ≠ 0) (g : nofl hc) : z2 (s_X3_refuse F hc) (s_X10_wrong F hr) (fun a b => RS n B T q' a.2 b.2 ∧ ¬ nofl a.2 ∧ Fr opC hc a.2 ∧ Fr opR hr b.2 ∧ Fr (fun a k => a = 1 ∧ (k = 8 ∨ k = 9)) hc a.2 ∧ Fr (fun a k => a = 240 ∧ (k = 13 ∨ k = 14)) hr b.2) := by
  obtain ⟨x1, x2, x3, ⟨p, e, x4, x5⟩, x6⟩ := x
  unfold s_X3_refuse s_X10_wrong
  refine z2_lt g (z2_rt (x3.symm.trans g) ?_)
  have e5 : gI (sI hc 1 8 F) 1 5 = zi p := by rw [gI_sI, if_neg (by omega)]; exact x4.2.2.1
  have e19 : gI (sI hr 240 13 F) 240 19 = zi p := by rw [gI_sI, if_neg (by omega)]; exact x4.2.2.2.2.2.1
  rw [e5, e19]
  have fc : Fr (fun a k => a = 1 ∧ (k = 8 ∨ k = 9)) hc (sI (sI hc 1 8 F) 1 9 (zi p)) := ((Fr.refl (fun a k => a = 1 ∧ (k = 8 ∨ k = 9)) hc).sI (by omega)).sI (by omega)
  have fr : Fr (fun a k => a = 240 ∧ (k = 13 ∨ k = 14)) hr (sI (sI hr 240 13 F) 240 14 (zi p)) := ((Fr.refl (fun a k => a = 240 ∧ (k = 13 ∨ k = 14)) hr).sI (by omega)).sI (by omega)
  have v8 : gI (sI (sI hc 1 8 F) 1 9 (zi p)) 1 8 = F := by rw [gI_sI, if_neg (by omega), gI_sI, if_pos ⟨rfl, rfl⟩]
  have v13 : gI (sI (sI hr 240 13 F) 240 14 (zi p)) 240 13 = F := by rw [gI_sI, if_neg (by omega), gI_sI, if_pos ⟨rfl, rfl⟩]
  have ng : ¬ nofl (sI (sI hc 1 8 F) 1 9 (zi p)) := fun z => hF (v8.symm.trans z)
  refine z2_some ⟨⟨x1.fr fc fr (by omega) (by intro k; omega) (by intro k; omega) (by omega) (by intro k; omega), (fc.r (by omega)).trans x2, v8.trans v13.symm, ⟨p, e, x4.fr fc fr (by intro k; omega) (by intro k; omega), fun z => absurd z ng⟩, fun _ => ?_, fun z => absurd z ng⟩, ng, fc.mono (by unfold opC; omega), fr.mono (by unfold opR; omega), fc, fr⟩
  show gI (sI (sI hc 1 8 F) 1 9 (zi p)) 1 9 = gI (sI (sI hr 240 13 F) 240 14 (zi p)) 240 14
  rw [gI_sI, if_pos ⟨rfl, rfl⟩, gI_sI, if_pos ⟨rfl, rfl⟩]
/-- a number -/
theorem x_take {l m : Int} (x : RS n B T q hc hr) (hl : 0 ≤ l) (hm : m ≤ 9999) (hlm : l ≤ m) {l0 m0 l1 m1 : Int32} (a0 : l0 = zi l) (b0 : m0 = zi m) (a1 : l1 = zi l) (b1 : m1 = zi m) : z2 (s_X3_takeNumber l0 m0 hc) (s_X10_number l1 m1 hr) (fun a b => RS n B T (q + 1) a.2 b.2 ∧ Fr opC hc a.2 ∧ Fr opR hr b.2 ∧ (nofl a.2 → nofl hc ∧ ∃ v : Int, a.1 = zi v ∧ b.1 = zi v ∧ l ≤ v ∧ v ≤ m)) := by
  subst a0 b0 a1 b1
  by_cases g : nofl hc
  · have hgood := x.good g
    obtain ⟨x1, x2, x3, ⟨p, e, x4, x5⟩, x6⟩ := id x
    unfold s_X10_number
    refine z2_r hgood (z2_rf one_ne ?_)
    unfold s_X3_takeNumber
    have over : ∀ v : Int32, z2 (j_X3_takeNumber_31 v hc) (j_X10_number_49 hr) (fun a b => RS n B T (q + 1) a.2 b.2 ∧ Fr opC hc a.2 ∧ Fr opR hr b.2 ∧ (nofl a.2 → nofl hc ∧ ∃ v : Int, a.1 = zi v ∧ b.1 = zi v ∧ l ≤ v ∧ v ≤ m)) := by
      intro v
      unfold j_X3_takeNumber_31 j_X10_number_49
      refine z2_bd (x_ref (q' := q + 1) x (F := 2) (by decide) g) ?_
      rintro ⟨u1, a⟩ ⟨u2, b⟩ ⟨y1, y2, y3, y4, -, -⟩
      dsimp only at y1 y2 y3 y4 ⊢
      unfold j_X10_number_54
      refine z2_r (y1.bad y2) (z2_rt rfl (z2_some ⟨y1, y3, y4, fun z => absurd z y2⟩))
    rcases c_number x1 x4 with ⟨s1, s2, s3, ⟨s4, v, s5, s6, s7, s8⟩ | ⟨s4, s6, s8⟩⟩ | ⟨s1, s2, s6⟩
    · refine z2_l s6 (z2_lt s1 (z2_rt s2 ?_))
      rw [s8, s7]
      refine z2_rf (by rw [(show (4 : Int32) = zi 4 from zi_lit 4), zi_lt (by omega) (by omega) (by omega) (by omega)]; show ¬ (4 : Int) < ((e - p : Nat) : Int); omega) ?_
      by_cases c1 : (v : Int) < l
      · refine z2_lt (by rw [zi_lt (by omega) (by omega) (by omega) (by omega)]; exact c1) (z2_rt (by rw [zi_lt (by omega) (by omega) (by omega) (by omega)]; exact c1) ?_)
        exact over _
      · refine z2_lf (by rw [zi_lt (by omega) (by omega) (by omega) (by omega)]; exact c1) (z2_rf (by rw [zi_lt (by omega) (by omega) (by omega) (by omega)]; exact c1) ?_)
        by_cases c2 : (v : Int) ≤ m
        · refine z2_lt (by rw [zi_le (by omega) (by omega) (by omega) (by omega)]; exact c2) (z2_rt (by rw [zi_le (by omega) (by omega) (by omega) (by omega)]; exact c2) ?_)
          unfold j_X10_number_54
          refine z2_r hgood (z2_rf one_ne ?_)
          refine z2_bd (x_next x g x4) ?_
          rintro ⟨u1, a⟩ ⟨u2, b⟩ ⟨y1, y2, y3, y4⟩
          dsimp only at y1 y2 y3 y4 ⊢
          have := x5 g
          exact z2_some ⟨y1.le (by omega), y3, y4, fun _ => ⟨g, v, rfl, s7, by omega, c2⟩⟩
        · refine z2_lf (by rw [zi_le (by omega) (by omega) (by omega) (by omega)]; exact c2) (z2_rf (by rw [zi_le (by omega) (by omega) (by omega) (by omega)]; exact c2) ?_)
          exact over _
    · have el := x4.2.1
      have n7 := x1.1
      refine z2_l s6 (z2_lt s1 (z2_rt s2 ?_))
      rw [s8]
      refine z2_rt (by rw [(show (4 : Int32) = zi 4 from zi_lit 4), zi_lt (by omega) (by omega) (by omega) (by omega)]; show (4 : Int) < ((e - p : Nat) : Int); omega) ?_
      refine z2_lt (by rw [show (-1 : Int32) = zi (-1) from rfl, zi_lt (by omega) (by omega) (by omega) (by omega)]; omega) ?_
      exact over _
    · refine z2_l s6 (z2_lf s1 (z2_rf s2 ?_))
      refine z2_bd (x_ref (q' := q + 1) x (F := 1) (by decide) g) ?_
      rintro ⟨u1, a⟩ ⟨u2, b⟩ ⟨y1, y2, y3, y4, -, -⟩
      dsimp only at y1 y2 y3 y4 ⊢
      unfold j_X10_number_54
      exact z2_r (y1.bad y2) (z2_rt rfl (z2_some ⟨y1, y3, y4, fun z => absurd z y2⟩))
  · obtain ⟨v, hv⟩ := b_take x g (zi l) (zi m)
    rw [hv]
    unfold s_X10_number
    exact z2_r (x.bad g) (z2_rt rfl (z2_some ⟨x.up g, Fr.refl _ hc, Fr.refl _ hr, fun z => absurd z g⟩))
theorem r_isT {c : Nat} (hcc : c < 19) : ∃ v, s_X10_is (zi (kw c)) hr = some v := by
  unfold s_X10_is
  by_cases q1 : gI hr 240 18 = 1
  · rw [if_pos q1]
    by_cases q2 : (8 : Int32) ≤ gI hr 240 20
    · rw [if_pos q2]; exact ⟨_, rfl⟩
    · rw [if_neg q2, r_let hr c hcc, bd_v]
      split <;> exact ⟨_, rfl⟩
  · rw [if_neg q1]; exact ⟨_, rfl⟩
/-- a word that must stand there -/
theorem x_need {γ δ : Type} {Q : γ → δ → Prop} {K : Unit × AH → Option γ} {G : Unit × AH → Option δ} {c : Nat} {k0 : Int32} (x : RS n B T q hc hr) (hcc : c < 19) (hk : k0 = zi (kw c)) (h : ∀ a b : Unit × AH, RS n B T (q + 1) a.2 b.2 → Fr opC hc a.2 → Fr opR hr b.2 → (nofl a.2 → nofl hc) → z2 (K a) (G b) Q) : z2 (bd (s_X3_needWord c hc) K) (bd (s_X10_is k0 hr) fun y => bd (s_X10_need y hr) G) Q := by
  subst hk
  by_cases g : nofl hc
  · have hgood := x.good g
    obtain ⟨x1, x2, x3, ⟨p, e, x4, x5⟩, x6⟩ := id x
    obtain ⟨w, w1, w2, w3⟩ := x_is x1 x4 hcc
    refine z2_r w3 ?_
    have hm : z2 (s_X3_needWord c hc) (s_X10_need (b1 w) hr) (fun a b => RS n B T (q + 1) a.2 b.2 ∧ Fr opC hc a.2 ∧ Fr opR hr b.2 ∧ (nofl a.2 → nofl hc)) := by
      unfold s_X3_needWord s_X10_need
      refine z2_l w2 (z2_r hgood (z2_rf one_ne ?_))
      cases w
      · refine z2_lt rfl (z2_rt rfl ?_)
        refine z2_bd (x_ref (q' := q + 1) x (F := 1) (by decide) g) ?_
        rintro ⟨u1, a⟩ ⟨u2, b⟩ ⟨y1, y2, y3, y4, -, -⟩
        exact z2_some ⟨y1, y3, y4, fun z => absurd z y2⟩
      · refine z2_lf (by decide) (z2_rf (by decide) ?_)
        refine z2_bd (x_next x g x4) ?_
        rintro ⟨u1, a⟩ ⟨u2, b⟩ ⟨y1, y2, y3, y4⟩
        have := x5 g
        have pe : p < e := by
          rcases x4.2.2.2.2.2.2.2 with z | z
          · have := w1 rfl
            omega
          · exact z.1
        exact z2_some ⟨y1.le (by omega), y3, y4, fun _ => g⟩
    exact z2_bd hm (fun a b z => h a b z.1 z.2.1 z.2.2.1 z.2.2.2)
  · obtain ⟨v, hv⟩ := r_isT (hr := hr) hcc
    refine z2_l (b_need x g hcc) (z2_r hv ?_)
    unfold s_X10_need
    refine z2_r (b := ((), hr)) ?_ ?_
    · rw [x.bad g, bd_v, if_pos rfl]
    · exact h _ _ (x.up g) (Fr.refl _ hc) (Fr.refl _ hr) (fun z => z)
/-- a word that may stand there, and its number -/
theorem x_perh {γ δ : Type} {Q : γ → δ → Prop} {K : Int32 → AH → Option γ} {G : Int32 × AH → Option δ} {c : Nat} {l m : Int} {d w0 k0 l0 m0 l1 m1 : Int32} (x : RS n B T q hc hr) (hcc : c < 19) (hk : k0 = zi (kw c)) (hl : 0 ≤ l) (hm : m ≤ 9999) (hlm : l ≤ m) (a0 : l0 = zi l) (b0 : m0 = zi m) (a1 : l1 = zi l) (b1' : m1 = zi m) (hd : nofl hc → ∃ v : Int, d = zi v ∧ w0 = zi v ∧ l ≤ v ∧ v ≤ m) (h : ∀ (v w : Int32) (a b : AH), RS n B T q a b → Fr opC hc a → Fr opR hr b → (nofl a → nofl hc ∧ ∃ u : Int, v = zi u ∧ w = zi u ∧ l ≤ u ∧ u ≤ m) → z2 (K v a) (G (w, b)) Q) : z2 (bd (s_X3_takesWord c hc) fun y => if y.1 = 0 then K d y.2 else bd (s_X3_takeNumber l0 m0 y.2) fun z => K z.1 z.2) (bd (s_X10_perhaps k0 l1 m1 w0 hr) G) Q := by
  subst hk
  by_cases g : nofl hc
  · have hgood := x.good g
    obtain ⟨x1, x2, x3, ⟨p, e, x4, x5⟩, x6⟩ := id x
    obtain ⟨w, w1, w2, w3⟩ := x_is x1 x4 hcc
    unfold s_X3_takesWord s_X10_perhaps
    rw [w2, bd_v, hgood, bd_v, if_neg one_ne, w3, bd_v]
    cases w
    · rw [if_pos (show b1 false = 0 from rfl), if_pos (show b1 false = 0 ∨ b1 false = 1 from Or.inl rfl), bd_v, if_pos (show b1 false = 0 from rfl)]
      refine z2_r (b := (w0, hr)) (if_pos (show b1 false = 0 from rfl)) ?_
      obtain ⟨v, v1, v2, v3, v4⟩ := hd g
      exact h d w0 hc hr x (Fr.refl _ hc) (Fr.refl _ hr) (fun _ => ⟨g, v, v1, v2, v3, v4⟩)
    · rw [if_neg (show ¬ b1 true = 0 by decide), if_neg (show ¬ b1 true = 0 by decide)]
      unfold s_X10_named
      rw [w3, bd_v]
      unfold s_X10_need
      rw [hgood, bd_v, if_neg one_ne, if_neg (show ¬ b1 true = 0 by decide)]
      obtain ⟨⟨u1, a⟩, ⟨u2, b⟩, e1, e2, y1, y2, y3, y4⟩ := x_next x g x4
      dsimp only at y1 y2 y3 y4
      rw [e1, e2, bd_v, bd_v, bd_v, if_pos (show b1 true = 0 ∨ b1 true = 1 from Or.inr rfl), bd_v]
      refine z2_lf (show ¬ b1 true = 0 by decide) ?_
      obtain ⟨⟨v, a'⟩, ⟨v', b'⟩, e3, e4, z1, z2', z3, z4⟩ := x_take y1 hl hm hlm a0 b0 a1 b1'
      dsimp only at z1 z2' z3 z4
      dsimp only
      rw [e3, e4, bd_v, bd_v, bd_v]
      have := x5 g
      have pe := x4.1
      exact h v v' a' b' (z1.le (by omega)) (y3.trans z2') (y4.trans z3) (fun z => ⟨g, (z4 z).2⟩)
  · obtain ⟨w, hw⟩ := b_takes x g hcc
    unfold s_X10_perhaps
    rw [hw, bd_v, x.bad g, bd_v, if_pos rfl, bd_v]
    cases w
    · refine z2_lt rfl ?_
      exact h _ _ _ _ x (Fr.refl _ hc) (Fr.refl _ hr) (fun z => absurd z g)
    · refine z2_lf (show ¬ b1 true = 0 by decide) ?_
      obtain ⟨v, hv⟩ := b_take x g l0 m0
      dsimp only
      rw [hv, bd_v]
      exact h _ _ _ _ x (Fr.refl _ hc) (Fr.refl _ hr) (fun z => absurd z g)
/-- the line's end -/
theorem x_stop (x : RS n B T q hc hr) : z2 (s_X3_needStop hc) (j_X10_line_259 hr) (fun a b => RS n B T (q + 1) a.2 b.2 ∧ Fr opC hc a.2 ∧ Fr opR hr b.2 ∧ (nofl a.2 → nofl hc)) := by
  unfold j_X10_line_259 j_X10_line_273
  by_cases g : nofl hc
  · have hgood := x.good g
    obtain ⟨x1, x2, x3, ⟨p, e, x4, x5⟩, x6⟩ := id x
    have no : z2 (bd (s_X3_refuse 1 hc) fun q1 => some ((), q1.2)) (bd (s_X10_need 0 hr) fun q5 => some ((), q5.2)) (fun a b => RS n B T (q + 1) a.2 b.2 ∧ Fr opC hc a.2 ∧ Fr opR hr b.2 ∧ (nofl a.2 → nofl hc)) := by
      unfold s_X10_need
      rw [hgood, bd_v, if_neg one_ne, if_pos rfl]
      obtain ⟨⟨u1, a⟩, ⟨u2, b⟩, e1, e2, y1, y2, y3, y4, -, -⟩ := x_ref (q' := q + 1) x (F := 1) (by decide) g
      dsimp only at y1 y2 y3 y4
      rw [e1, e2, bd_v, bd_v, bd_v]
      exact z2_some ⟨y1, y3, y4, fun z => absurd z y2⟩
    unfold s_X3_needStop
    rcases x4.2.2.2.2.2.2.2 with ⟨z1, z2', z3⟩ | ⟨z1, z2', z3, z4, -⟩
    · rw [z2', z3]
      refine z2_lf (by decide) (z2_rf (by decide) ?_)
      exact no
    · have tb := ty_b (B p)
      rw [z3, z4]
      by_cases t3 : ty (B p) = 3
      · refine z2_lt (by rw [t3]; rfl) (z2_rt (by rw [t3]; rfl) ?_)
        unfold s_X10_need
        rw [hgood, bd_v, if_neg one_ne, if_neg one_ne]
        obtain ⟨⟨u1, a⟩, ⟨u2, b⟩, e1, e2, y1, y2, y3, y4⟩ := x_next x g x4
        dsimp only at y1 y2 y3 y4
        rw [e1, e2, bd_v, bd_v, bd_v]
        have := x5 g
        exact z2_some ⟨y1.le (by omega), y3, y4, fun _ => g⟩
      · have sb : sof (ty (B p)) ≠ 3 ∧ sof (ty (B p)) ≤ 5 := by
          unfold sof
          split <;> omega
        refine z2_lf (zi_nk ((show (3 : Int32) = zi 3 from zi_lit 3)) (by omega) (by omega) (by omega)) (z2_rf (zi_nk ((show (3 : Int32) = zi 3 from zi_lit 3)) (by omega) (by omega) (by omega)) ?_)
        exact no
  · rw [b_stop g]
    unfold s_X10_need
    rw [x.bad g, bd_v, bd_v, if_pos rfl, bd_v, if_pos rfl, bd_v]
    split <;> exact z2_some ⟨x.up g, Fr.refl _ hc, Fr.refl _ hr, fun z => z⟩
end
