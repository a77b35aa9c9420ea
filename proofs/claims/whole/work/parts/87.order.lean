/-! 87.order: who sits first: alike -/
/-- does somebody buy the ticket t, of the kinds below k -/
def wn (D : HD) (t : Nat) : Nat → Bool
  | 0 => false
  | k + 1 => wn D t k || decide (dB D k = t ∧ 0 < D.Q k 0)
theorem wn_s (D : HD) (t k : Nat) : wn D t (k + 1) = (wn D t k || decide (dB D k = t ∧ 0 < D.Q k 0)) := rfl
abbrev wnn (D : HD) : Nat → Bool := fun t => wn D t D.K
def b1 (b : Bool) : Int32 := if b = true then 1 else 0
theorem b1_or (a b : Bool) : b1 a ||| b1 b = b1 (a || b) := by cases a <;> cases b <;> decide
/-- the best of the row l and of those behind it -/
def bsl (D : HD) (m : Nat) : Nat → List Nat → Int × List Nat → Int × List Nat
  | 0, _, s => s
  | f + 1, l, s => match nxl m l with
    | none => if s.1 < (gLs D (fun i => l.getD i 0) m).1 then ((gLs D (fun i => l.getD i 0) m).1, l) else s
    | some y => bsl D m f y (if s.1 < (gLs D (fun i => l.getD i 0) m).1 then ((gLs D (fun i => l.getD i 0) m).1, l) else s)
theorem bsl_s (D : HD) (m f : Nat) (l : List Nat) (s : Int × List Nat) : bsl D m (f + 1) l s = match nxl m l with
    | none => if s.1 < (gLs D (fun i => l.getD i 0) m).1 then ((gLs D (fun i => l.getD i 0) m).1, l) else s
    | some y => bsl D m f y (if s.1 < (gLs D (fun i => l.getD i 0) m).1 then ((gLs D (fun i => l.getD i 0) m).1, l) else s) := rfl
/-- the best so far -/
def bsB (s : Int × List Nat) : Prop := -1 ≤ s.1 ∧ s.1 ≤ 76032000000
section
variable {D : HD} {T : Nat} {h : AH}
theorem c_wn (hD : WFD D) (x : YC D T h) {t : Nat} (ht : t < 5) : lpH (l_X6_collect_18 T (zi t)) FU (0, 0) h = some (b1 (wnn D t), h) := by
  have hK := hD.K6
  refine lpH_for D.K (fun k => (b1 (wn D t k), zi (k : Int))) (by omega) rfl ?_ ?_
  · intro k hk
    have bq := (hD.q k hk).1
    have hb := dB_lt D k
    have ek : zi (k : Int) + 1 = zi ((k + 1 : Nat) : Int) := (by first | (simp only [zi_lit, zi_neg, zi_add, zi_sub, zi_mul, zl_lit, zl_neg, zl_add, zl_sub, zl_mul, zl_i]; exact congrArg zi (by omega)) | (simp only [zi_lit, zi_neg, zi_add, zi_sub, zi_mul, zl_lit, zl_neg, zl_add, zl_sub, zl_mul, zl_i]; done) | exact congrArg zi (by omega))
    unfold l_X6_collect_18 j_X6_collect_61_18 j_X6_collect_57_18 j_X6_collect_62_18
    dsimp only
    rw [x.1.2.2.1.1.2.2.2.1, if_neg (by rw [zi_le (by omega) (by omega) (by omega) (by omega)]; omega), ek, wn_s]
    cases wn D t k
    · rw [if_pos (show b1 false = 0 from rfl), at_ok k (n := 6) rfl rfl (by omega), bd_v, x.2.2 k hk]
      by_cases q1 : dB D k = t
      · rw [if_pos (congrArg (fun n : Nat => zi n) q1), c_many hD x.1.1 x.1.2.2.1 rfl hk, bd_v]
        by_cases q2 : D.Q k 0 ≤ 0
        · rw [if_pos (by rw [(show (0 : Int32) = zi 0 from zi_lit 0), zi_le (by omega) (by omega) (by omega) (by omega)]; exact q2), decide_eq_false (by omega)]
          rfl
        · rw [if_neg (by rw [(show (0 : Int32) = zi 0 from zi_lit 0), zi_le (by omega) (by omega) (by omega) (by omega)]; exact q2), decide_eq_true (by omega)]
          rfl
      · rw [if_neg (by show ¬ zi ((dB D k : Nat) : Int) = zi (t : Int); rw [zi_eq (by omega) (by omega) (by omega) (by omega)]; omega), decide_eq_false (fun z => q1 z.1)]
        rfl
    · rw [if_neg (show ¬ b1 true = 0 by decide)]
      rfl
  · unfold l_X6_collect_18
    dsimp only
    rw [x.1.2.2.1.1.2.2.2.1, if_pos (by rw [zi_le (by omega) (by omega) (by omega) (by omega)]; omega)]
theorem r_wn (hD : WFD D) (x : YR D h) {p1 : Int32} {t : Nat} (ht : t < 5) : lpH (l_X10_order_98 p1 (zi t)) FU (0, 0) h = some (b1 (wnn D t), h) := by
  have hK := hD.K6
  refine lpH_for D.K (fun k => (b1 (wn D t k), zi (k : Int))) (by omega) rfl ?_ ?_
  · intro k hk
    have bq := (hD.q k hk).1
    have hb := dB_lt D k
    have ek : zi (k : Int) + 1 = zi ((k + 1 : Nat) : Int) := (by first | (simp only [zi_lit, zi_neg, zi_add, zi_sub, zi_mul, zl_lit, zl_neg, zl_add, zl_sub, zl_mul, zl_i]; exact congrArg zi (by omega)) | (simp only [zi_lit, zi_neg, zi_add, zi_sub, zi_mul, zl_lit, zl_neg, zl_add, zl_sub, zl_mul, zl_i]; done) | exact congrArg zi (by omega))
    unfold l_X10_order_98 j_X10_order_135_98 j_X10_order_131_98 j_X10_order_136_98
    dsimp only
    rw [x.1.1.2.2.2.1, if_neg (by rw [zi_le (by omega) (by omega) (by omega) (by omega)]; omega), ek, wn_s]
    cases wn D t k
    · rw [if_pos (show b1 false = 0 from rfl), r_of hD x.1 (w := 0) rfl ((show (0 : Int32) = zi 0 from zi_lit 0)) hk (by decide), bd_v]
      by_cases q2 : D.Q k 0 ≤ 0
      · rw [if_pos (by rw [(show (0 : Int32) = zi 0 from zi_lit 0), zi_le (by omega) (by omega) (by omega) (by omega)]; exact q2), decide_eq_false (by omega)]
        rfl
      · rw [if_neg (by rw [(show (0 : Int32) = zi 0 from zi_lit 0), zi_le (by omega) (by omega) (by omega) (by omega)]; exact q2), r_buysG hD x.1 x.g (dG_ok hD) rfl hk, bd_v]
        by_cases q1 : dB D k = t
        · rw [if_pos (congrArg (fun n : Nat => zi n) q1), decide_eq_true (by omega)]
          rfl
        · rw [if_neg (by show ¬ zi ((dB D k : Nat) : Int) = zi (t : Int); rw [zi_eq (by omega) (by omega) (by omega) (by omega)]; omega), decide_eq_false (fun z => q1 z.1)]
          rfl
    · rw [if_neg (show ¬ b1 true = 0 by decide)]
      rfl
  · unfold l_X10_order_98
    dsimp only
    rw [x.1.1.2.2.2.1, if_pos (by rw [zi_le (by omega) (by omega) (by omega) (by omega)]; omega)]
/-- the tickets that somebody buys -/
abbrev dLn (D : HD) : List Nat := cl (wnn D) 5
theorem c_collect (hD : WFD D) (x : YC D T h) : zw (s_X6_collect (some 13) (some T) h) (fun y => Fr (fun a k => (a = 220 ∧ k = 1) ∨ a = 222) h y.2 ∧ gI y.2 220 1 = zi ((dLn D).length : Nat) ∧ RW 222 (dLn D) y.2) := by
  unfold s_X6_collect
  rw [if_pos rfl, bd_v, if_pos x.1.1.l0]
  refine zw_bd (P := fun y => Fr (fun a k => (a = 220 ∧ k = 1) ∨ a = 222) h y.2 ∧ gI y.2 220 1 = zi ((dLn D).length : Nat) ∧ RW 222 (dLn D) y.2) ?_ (fun y hy => zw_some hy)
  refine zw_for 5 (fun t => zi t) () (fun t h' => Fr (fun a k => (a = 220 ∧ k = 1) ∨ a = 222) h h' ∧ gI h' 220 1 = zi ((cl (wnn D) t).length : Nat) ∧ RW 222 (cl (wnn D) t) h') (by decide) rfl ⟨(Fr.refl (fun a k => (a = 220 ∧ k = 1) ∨ a = 222) h).sI (Or.inl ⟨rfl, rfl⟩), by rw [gI_sI, if_pos ⟨rfl, rfl⟩]; rfl, fun i hi => absurd hi (Nat.not_lt_zero _)⟩ ?_ ?_
  · rintro t h' ht ⟨hf, hz, hr⟩
    have x' := x.fr hD hf (fun a k => by unfold YCa; omega)
    have ll := clw_len (wnn D) t
    unfold l_X6_collect_7 j_X6_collect_97_7
    refine zw_f (by rw [(show (5 : Int32) = zi 5 from zi_lit 5), zi_le (by omega) (by omega) (by omega) (by omega)]; show ¬ (5 : Int) ≤ t; omega) ?_
    refine zw_bd1 (c_wn hD x' ht) ?_
    rw [cl_s]
    dsimp only
    by_cases q : wnn D t = true
    · rw [if_pos q]
      refine zw_f (by rw [q]; decide) ?_
      refine zw_bd1 (put_ok (cl (wnn D) t).length (n := 5) rfl hz (by omega)) ?_
      refine zw_some ⟨congrArg Sum.inl (by first | (simp only [zi_lit, zi_neg, zi_add, zi_sub, zi_mul, zl_lit, zl_neg, zl_add, zl_sub, zl_mul, zl_i]; exact congrArg zi (by omega)) | (simp only [zi_lit, zi_neg, zi_add, zi_sub, zi_mul, zl_lit, zl_neg, zl_add, zl_sub, zl_mul, zl_i]; done) | exact congrArg zi (by omega)), (hf.sI (Or.inr rfl)).sI (Or.inl ⟨rfl, rfl⟩), ?_, fun i hi => ?_⟩
      · show gI (sI (sI h' 222 _ _) 220 1 _) 220 1 = _
        rw [gI_sI, if_pos ⟨rfl, rfl⟩, gI_sI, if_neg (by omega), hz, List.length_append]
        show zi (((cl (wnn D) t).length : Nat) : Int) + 1 = zi (((cl (wnn D) t).length + 1 : Nat) : Int)
        exact (by first | (simp only [zi_lit, zi_neg, zi_add, zi_sub, zi_mul, zl_lit, zl_neg, zl_add, zl_sub, zl_mul, zl_i]; exact congrArg zi (by omega)) | (simp only [zi_lit, zi_neg, zi_add, zi_sub, zi_mul, zl_lit, zl_neg, zl_add, zl_sub, zl_mul, zl_i]; done) | exact congrArg zi (by omega))
      · show gI (sI (sI h' 222 _ _) 220 1 _) 222 i = _
        rw [List.length_append] at hi
        have hi' : i < (cl (wnn D) t).length + 1 := hi
        rw [gI_sI, if_neg (by omega), gI_sI, gdA _ hi']
        by_cases q2 : i = (cl (wnn D) t).length
        · rw [if_pos ⟨rfl, q2⟩, if_pos q2]
        · rw [if_neg (fun z => q2 z.2), if_neg q2]
          exact hr i (by omega)
    · rw [if_neg q]
      refine zw_t (by rw [Bool.eq_false_iff.mpr q]; rfl) ?_
      exact zw_some ⟨congrArg Sum.inl (by first | (simp only [zi_lit, zi_neg, zi_add, zi_sub, zi_mul, zl_lit, zl_neg, zl_add, zl_sub, zl_mul, zl_i]; exact congrArg zi (by omega)) | (simp only [zi_lit, zi_neg, zi_add, zi_sub, zi_mul, zl_lit, zl_neg, zl_add, zl_sub, zl_mul, zl_i]; done) | exact congrArg zi (by omega)), hf, hz, hr⟩
  · rintro h' ⟨hf, hz, hr⟩
    unfold l_X6_collect_7
    exact zw_t (by decide) (zw_some ⟨rfl, hf, hz, hr⟩)
theorem r_collect (hD : WFD D) (x : YR D h) : zw (lpH l_X10_order_88 FU (0, 0) h) (fun y => y.1 = zi ((dLn D).length : Nat) ∧ Fr (fun a _ => a = 266) h y.2 ∧ RW 266 (dLn D) y.2) := by
  refine zw_for 5 (fun t => (zi ((cl (wnn D) t).length : Nat), zi (t : Int))) (zi ((dLn D).length : Nat)) (fun t h' => Fr (fun a _ => a = 266) h h' ∧ RW 266 (cl (wnn D) t) h') (by decide) rfl ⟨Fr.refl _ h, fun i hi => absurd hi (Nat.not_lt_zero _)⟩ ?_ ?_
  · rintro t h' ht ⟨hf, hr⟩
    have x' := x.fr hf (fun a k => by unfold YRa; omega)
    have ll := clw_len (wnn D) t
    unfold l_X10_order_88 j_X10_order_160_88
    dsimp only
    refine zw_f (by rw [(show (5 : Int32) = zi 5 from zi_lit 5), zi_le (by omega) (by omega) (by omega) (by omega)]; show ¬ (5 : Int) ≤ t; omega) ?_
    refine zw_bd1 (r_wn hD x' ht) ?_
    rw [cl_s]
    dsimp only
    by_cases q : wnn D t = true
    · rw [if_pos q]
      refine zw_f (by rw [q]; decide) ?_
      refine zw_bd1 (stI_ok (cl (wnn D) t).length (n := 5) rfl rfl (by omega)) ?_
      refine zw_some ⟨congrArg Sum.inl (Prod.ext ?_ (by first | (simp only [zi_lit, zi_neg, zi_add, zi_sub, zi_mul, zl_lit, zl_neg, zl_add, zl_sub, zl_mul, zl_i]; exact congrArg zi (by omega)) | (simp only [zi_lit, zi_neg, zi_add, zi_sub, zi_mul, zl_lit, zl_neg, zl_add, zl_sub, zl_mul, zl_i]; done) | exact congrArg zi (by omega))), hf.sI rfl, fun i hi => ?_⟩
      · show zi ((cl (wnn D) t).length : Nat) + 1 = zi ((cl (wnn D) t ++ [t]).length : Nat)
        rw [List.length_append]
        show zi (((cl (wnn D) t).length : Nat) : Int) + 1 = zi (((cl (wnn D) t).length + 1 : Nat) : Int)
        exact (by first | (simp only [zi_lit, zi_neg, zi_add, zi_sub, zi_mul, zl_lit, zl_neg, zl_add, zl_sub, zl_mul, zl_i]; exact congrArg zi (by omega)) | (simp only [zi_lit, zi_neg, zi_add, zi_sub, zi_mul, zl_lit, zl_neg, zl_add, zl_sub, zl_mul, zl_i]; done) | exact congrArg zi (by omega))
      · show gI (sI h' 266 _ _) 266 i = _
        rw [List.length_append] at hi
        have hi' : i < (cl (wnn D) t).length + 1 := hi
        rw [gI_sI, gdA _ hi']
        by_cases q2 : i = (cl (wnn D) t).length
        · rw [if_pos ⟨rfl, q2⟩, if_pos q2]
        · rw [if_neg (fun z => q2 z.2), if_neg q2]
          exact hr i (by omega)
    · rw [if_neg q]
      refine zw_t (by rw [Bool.eq_false_iff.mpr q]; rfl) ?_
      exact zw_some ⟨congrArg Sum.inl (Prod.ext rfl (by first | (simp only [zi_lit, zi_neg, zi_add, zi_sub, zi_mul, zl_lit, zl_neg, zl_add, zl_sub, zl_mul, zl_i]; exact congrArg zi (by omega)) | (simp only [zi_lit, zi_neg, zi_add, zi_sub, zi_mul, zl_lit, zl_neg, zl_add, zl_sub, zl_mul, zl_i]; done) | exact congrArg zi (by omega))), hf, hr⟩
  · rintro h' ⟨hf, hr⟩
    unfold l_X10_order_88
    dsimp only
    exact zw_t (by decide) (zw_some ⟨rfl, rfl, hf, hr⟩)
theorem gLs_r {hD : WFD D} (l : Nat → Nat) {m : Nat} (hm : m ≤ 5) : 0 ≤ (gLs D l m).1 ∧ (gLs D l m).1 ≤ 76032000000 := by
  have b := (gLs_b hD l m).1
  refine ⟨b.1, ?_⟩
  have := b.2
  omega
/-- cells of the class that order() changes; of the reference -/
def oC (a k : Nat) : Prop := (a = 220 ∧ (k = 0 ∨ k = 1 ∨ k = 5 ∨ k = 6)) ∨ a = 221 ∨ a = 222 ∨ a = 223
def oR (a k : Nat) : Prop := (265 ≤ a ∧ a ≤ 268) ∨ (a = 240 ∧ (k = 0 ∨ k = 53))
theorem c_arr (hD : WFD D) (x : YC D T h) {m : Nat} (k : CRk D h) (hm : m ≤ 5) (hz : gI h 220 1 = zi m) {l : List Nat} (hl : chk m 120 l = true) (hr : RW 222 l h) : zw (lpH (l_X6_arrange_21 T) FU (-1, 1, 0) h) (fun y => y.1 = zl (bsl D m 120 l (-1, [])).1 ∧ Fr (fun a k => (a = 220 ∧ (k = 5 ∨ k = 6)) ∨ a = 221 ∨ a = 222) h y.2 ∧ bsB (bsl D m 120 l (-1, [])) ∧ (bsl D m 120 l (-1, [])).2.length = m ∧ RW 221 (bsl D m 120 l (-1, [])).2 y.2) := by
  refine zw_lp 120 (fun i s h' => ∃ b : Int × List Nat, s.1 = zl b.1 ∧ s.2.2 = zi (i : Int) ∧ bsB b ∧ Fr (fun a k => (a = 220 ∧ (k = 5 ∨ k = 6)) ∨ a = 221 ∨ a = 222) h h' ∧ (0 ≤ b.1 → b.2.length = m ∧ RW 221 b.2 h') ∧ ((s.2.1 = 1 ∧ ∃ w, chk m (120 - i) w = true ∧ RW 222 w h' ∧ bsl D m (120 - i) w b = bsl D m 120 l (-1, [])) ∨ (s.2.1 = 0 ∧ 0 ≤ b.1 ∧ b = bsl D m 120 l (-1, [])))) (by decide) ⟨(-1, []), rfl, rfl, ⟨by decide, by decide⟩, Fr.refl _ h, fun z => absurd z (by decide), Or.inl ⟨rfl, l, hl, hr, rfl⟩⟩ ?_
  rintro i ⟨s1, s2, s3⟩ h' hi ⟨b, h1, h2, bb, hf, hb, hc⟩
  dsimp only at h1 h2 hc
  subst h1 h2
  unfold l_X6_arrange_21
  dsimp only
  rcases hc with ⟨rfl, w, hw, hrw, hbs⟩ | ⟨rfl, hb0, hbs⟩
  · have hlt : i < 120 := by
      rcases Nat.lt_or_ge i 120 with z | z
      · exact z
      · rw [show 120 - i = 0 by omega] at hw
        exact absurd hw (by unfold chk; decide)
    obtain ⟨f, hf1⟩ : ∃ f, 120 - i = f + 1 := ⟨120 - i - 1, by omega⟩
    rw [hf1] at hw hbs
    obtain ⟨ow, nw⟩ := chk_s hw
    obtain ⟨o1, o2, o3⟩ := okl_t ow
    have x' := x.fr hD hf (fun a k => by unfold YCa; omega)
    have k' : CRk D h' := fun j hj => (hf.i (by omega)).trans (k j hj)
    have gb := gLs_r (hD := hD) (fun i => w.getD i 0) hm
    obtain ⟨bb1, bb2⟩ := id bb
    refine zw_f (by rw [(show (120 : Int32) = zi 120 from zi_lit 120), zi_le (by omega) (by omega) (by omega) (by omega)]; show ¬ (120 : Int) ≤ i; omega) (zw_f one_ne ?_)
    refine zw_bd (c_gain hD x' k' (l := fun i => w.getD i 0) hm ((hf.i (by omega)).trans hz) (fun j hj => ⟨hrw j (by omega), (o3 j hj).1⟩)) ?_
    rintro ⟨v, g⟩ ⟨hv, f1⟩
    dsimp only at hv f1 ⊢
    subst hv
    have tail : ∀ (c : Int × List Nat) (G : AH), bsB c → 0 ≤ c.1 → Fr (fun a k => (a = 220 ∧ (k = 5 ∨ k = 6)) ∨ a = 221 ∨ a = 222) h G → (c.2.length = m ∧ RW 221 c.2 G) → RW 222 w G → (match nxl m w with
        | none => c
        | some y => bsl D m f y c) = bsl D m 120 l (-1, []) → zw (j_X6_arrange_62_21 T (zl c.1) (zi (i : Int)) G) (fun r : ((Int64 × Int32 × Int32) ⊕ Int64) × AH => (∃ s', r.1 = .inl s' ∧ i < 120 ∧ ∃ b : Int × List Nat, s'.1 = zl b.1 ∧ s'.2.2 = zi ((i + 1 : Nat) : Int) ∧ bsB b ∧ Fr (fun a k => (a = 220 ∧ (k = 5 ∨ k = 6)) ∨ a = 221 ∨ a = 222) h r.2 ∧ (0 ≤ b.1 → b.2.length = m ∧ RW 221 b.2 r.2) ∧ ((s'.2.1 = 1 ∧ ∃ w, chk m (120 - (i + 1)) w = true ∧ RW 222 w r.2 ∧ bsl D m (120 - (i + 1)) w b = bsl D m 120 l (-1, [])) ∨ (s'.2.1 = 0 ∧ 0 ≤ b.1 ∧ b = bsl D m 120 l (-1, [])))) ∨ (∃ e, r.1 = .inr e ∧ (e = zl (bsl D m 120 l (-1, [])).1 ∧ Fr (fun a k => (a = 220 ∧ (k = 5 ∨ k = 6)) ∨ a = 221 ∨ a = 222) h r.2 ∧ bsB (bsl D m 120 l (-1, [])) ∧ (bsl D m 120 l (-1, [])).2.length = m ∧ RW 221 (bsl D m 120 l (-1, [])).2 r.2))) := by
      intro c G cb c0 fG cr rG he
      unfold j_X6_arrange_62_21
      refine zw_bd (c_next ow rG ((fG.i (by omega)).trans hz)) ?_
      rintro ⟨u, g2⟩ ⟨f2, hn⟩
      dsimp only at f2 hn ⊢
      have f3 : Fr (fun a k => (a = 220 ∧ (k = 5 ∨ k = 6)) ∨ a = 221 ∨ a = 222) h g2 := fG.trans (f2.mono (by omega))
      have r3 : 0 ≤ c.1 → c.2.length = m ∧ RW 221 c.2 g2 := fun _ => ⟨cr.1, cr.2.fr f2 (by intro i; omega)⟩
      refine zw_some (Or.inl ⟨_, rfl, hlt, c, rfl, (by first | (simp only [zi_lit, zi_neg, zi_add, zi_sub, zi_mul, zl_lit, zl_neg, zl_add, zl_sub, zl_mul, zl_i]; exact congrArg zi (by omega)) | (simp only [zi_lit, zi_neg, zi_add, zi_sub, zi_mul, zl_lit, zl_neg, zl_add, zl_sub, zl_mul, zl_i]; done) | exact congrArg zi (by omega)), cb, f3, r3, ?_⟩)
      rcases hn with ⟨n1, rfl⟩ | ⟨y, n1, rfl, ry⟩
      · rw [n1] at he
        exact Or.inr ⟨rfl, c0, he⟩
      · rw [n1] at he
        rw [show 120 - (i + 1) = f by omega]
        exact Or.inl ⟨rfl, y, nw y n1, ry, he⟩
    rw [bsl_s] at hbs
    by_cases q : b.1 < (gLs D (fun i => w.getD i 0) m).1
    · rw [if_pos q] at hbs
      refine zw_f (by rw [zl_le (by omega) (by omega) (by omega) (by omega)]; omega) ?_
      refine zw_bd (copy_ok (n := 5) (by decide) rfl rfl) ?_
      rintro ⟨u, g2⟩ ⟨f2, c2⟩
      dsimp only at f2 c2 ⊢
      have rw1 : RW 222 w g := hrw.fr f1 (by intro i; omega)
      refine tail ((gLs D (fun i => w.getD i 0) m).1, w) g2 ⟨by show -1 ≤ (gLs D (fun i => w.getD i 0) m).1; omega, gb.2⟩ gb.1 ((hf.trans (f1.mono (by omega))).trans (f2.mono (by omega))) ⟨o1, fun j hj => ?_⟩ (rw1.fr f2 (by intro i; omega)) hbs
      have hj' : j < w.length := hj
      rw [c2 j (by omega)]
      exact rw1 j hj'
    · rw [if_neg q] at hbs
      refine zw_t (by rw [zl_le (by omega) (by omega) (by omega) (by omega)]; omega) ?_
      have b0 : 0 ≤ b.1 := by omega
      exact tail b g bb b0 (hf.trans (f1.mono (by omega))) ⟨(hb b0).1, (hb b0).2.fr f1 (by intro i; omega)⟩ (hrw.fr f1 (by intro i; omega)) hbs
  · have out : zw (some (Sum.inr (zl b.1), h')) (fun r : ((Int64 × Int32 × Int32) ⊕ Int64) × AH => (∃ s', r.1 = .inl s' ∧ i < 120 ∧ ∃ b : Int × List Nat, s'.1 = zl b.1 ∧ s'.2.2 = zi ((i + 1 : Nat) : Int) ∧ bsB b ∧ Fr (fun a k => (a = 220 ∧ (k = 5 ∨ k = 6)) ∨ a = 221 ∨ a = 222) h r.2 ∧ (0 ≤ b.1 → b.2.length = m ∧ RW 221 b.2 r.2) ∧ ((s'.2.1 = 1 ∧ ∃ w, chk m (120 - (i + 1)) w = true ∧ RW 222 w r.2 ∧ bsl D m (120 - (i + 1)) w b = bsl D m 120 l (-1, [])) ∨ (s'.2.1 = 0 ∧ 0 ≤ b.1 ∧ b = bsl D m 120 l (-1, [])))) ∨ (∃ e, r.1 = .inr e ∧ (e = zl (bsl D m 120 l (-1, [])).1 ∧ Fr (fun a k => (a = 220 ∧ (k = 5 ∨ k = 6)) ∨ a = 221 ∨ a = 222) h r.2 ∧ bsB (bsl D m 120 l (-1, [])) ∧ (bsl D m 120 l (-1, [])).2.length = m ∧ RW 221 (bsl D m 120 l (-1, [])).2 r.2))) := by
      refine zw_some (Or.inr ⟨_, rfl, ?_⟩)
      rw [← hbs]
      exact ⟨rfl, hf, bb, hb hb0⟩
    exact zw_if (fun _ => out) (fun _ => zw_t rfl out)
theorem r_arr (hD : WFD D) (x : YR D h) {m : Nat} (k : RRk D h) (hm : m ≤ 5) {l : List Nat} (hl : chk m 120 l = true) (hr : RW 266 l h) : zw (lpH (l_X10_order_173 (zi m)) FU (-1, 1) h) (fun y => y.1 = zl (bsl D m 120 l (-1, [])).1 ∧ Fr (fun a _ => a = 265 ∨ a = 266 ∨ a = 268) h y.2 ∧ RW 265 (bsl D m 120 l (-1, [])).2 y.2) := by
  refine zw_lp 120 (fun i s h' => ∃ b : Int × List Nat, s.1 = zl b.1 ∧ bsB b ∧ Fr (fun a _ => a = 265 ∨ a = 266 ∨ a = 268) h h' ∧ (0 ≤ b.1 → RW 265 b.2 h') ∧ ((s.2 = 1 ∧ ∃ w, chk m (120 - i) w = true ∧ RW 266 w h' ∧ bsl D m (120 - i) w b = bsl D m 120 l (-1, [])) ∨ (s.2 = 0 ∧ 0 ≤ b.1 ∧ b = bsl D m 120 l (-1, [])))) (by decide) ⟨(-1, []), rfl, ⟨by decide, by decide⟩, Fr.refl _ h, fun z => absurd z (by decide), Or.inl ⟨rfl, l, hl, hr, rfl⟩⟩ ?_
  rintro i ⟨s1, s2⟩ h' hi ⟨b, h1, bb, hf, hb, hc⟩
  dsimp only at h1 hc
  subst h1
  unfold l_X10_order_173
  dsimp only
  rcases hc with ⟨rfl, w, hw, hrw, hbs⟩ | ⟨rfl, hb0, hbs⟩
  · have hlt : i < 120 := by
      rcases Nat.lt_or_ge i 120 with z | z
      · exact z
      · rw [show 120 - i = 0 by omega] at hw
        exact absurd hw (by unfold chk; decide)
    obtain ⟨f, hf1⟩ : ∃ f, 120 - i = f + 1 := ⟨120 - i - 1, by omega⟩
    rw [hf1] at hw hbs
    obtain ⟨ow, nw⟩ := chk_s hw
    obtain ⟨o1, o2, o3⟩ := okl_t ow
    have x' := x.fr hf (fun a k => by unfold YRa; omega)
    have k' : RRk D h' := fun j hj => (hf.i (by omega)).trans (k j hj)
    have gb := gLs_r (hD := hD) (fun i => w.getD i 0) hm
    obtain ⟨bb1, bb2⟩ := id bb
    refine zw_f one_ne ?_
    refine zw_bd (r_gain hD x' k' (l := fun i => w.getD i 0) hm (fun j hj => ⟨hrw j (by omega), (o3 j hj).1⟩)) ?_
    rintro ⟨v, g⟩ ⟨hv, f1⟩
    dsimp only at hv f1 ⊢
    subst hv
    have tail : ∀ (c : Int × List Nat) (G : AH), bsB c → 0 ≤ c.1 → Fr (fun a _ => a = 265 ∨ a = 266 ∨ a = 268) h G → RW 265 c.2 G → RW 266 w G → (match nxl m w with
        | none => c
        | some y => bsl D m f y c) = bsl D m 120 l (-1, []) → zw (j_X10_order_224_173 (zi m) (zl c.1) G) (fun r : ((Int64 × Int32) ⊕ Int64) × AH => (∃ s', r.1 = .inl s' ∧ i < 120 ∧ ∃ b : Int × List Nat, s'.1 = zl b.1 ∧ bsB b ∧ Fr (fun a _ => a = 265 ∨ a = 266 ∨ a = 268) h r.2 ∧ (0 ≤ b.1 → RW 265 b.2 r.2) ∧ ((s'.2 = 1 ∧ ∃ w, chk m (120 - (i + 1)) w = true ∧ RW 266 w r.2 ∧ bsl D m (120 - (i + 1)) w b = bsl D m 120 l (-1, [])) ∨ (s'.2 = 0 ∧ 0 ≤ b.1 ∧ b = bsl D m 120 l (-1, [])))) ∨ (∃ e, r.1 = .inr e ∧ (e = zl (bsl D m 120 l (-1, [])).1 ∧ Fr (fun a _ => a = 265 ∨ a = 266 ∨ a = 268) h r.2 ∧ RW 265 (bsl D m 120 l (-1, [])).2 r.2))) := by
      intro c G cb c0 fG cr rG he
      unfold j_X10_order_224_173
      refine zw_bd (r_next ow rG) ?_
      rintro ⟨u, g2⟩ ⟨f2, hn⟩
      dsimp only at f2 hn ⊢
      have f3 : Fr (fun a _ => a = 265 ∨ a = 266 ∨ a = 268) h g2 := fG.trans (f2.mono (by omega))
      have r3 : 0 ≤ c.1 → RW 265 c.2 g2 := fun _ => cr.fr f2 (by intro i; omega)
      refine zw_some (Or.inl ⟨_, rfl, hlt, c, rfl, cb, f3, r3, ?_⟩)
      rcases hn with ⟨n1, rfl⟩ | ⟨y, n1, rfl, ry⟩
      · rw [n1] at he
        exact Or.inr ⟨rfl, c0, he⟩
      · rw [n1] at he
        rw [show 120 - (i + 1) = f by omega]
        exact Or.inl ⟨rfl, y, nw y n1, ry, he⟩
    rw [bsl_s] at hbs
    by_cases q : b.1 < (gLs D (fun i => w.getD i 0) m).1
    · rw [if_pos q] at hbs
      refine zw_f (by rw [zl_le (by omega) (by omega) (by omega) (by omega)]; omega) ?_
      have rw1 : RW 266 w g := hrw.fr f1 (by intro i; omega)
      refine zw_bd (P := fun y : Unit × AH => Fr (fun a _ => a = 265) g y.2 ∧ ∀ j, j < m → gI y.2 265 j = zi (w.getD j 0)) ?_ ?_
      · refine zw_for m (fun j => zi j) () (fun j h' => Fr (fun a _ => a = 265) g h' ∧ ∀ u, u < j → gI h' 265 u = zi (w.getD u 0)) (by omega) rfl ⟨Fr.refl _ g, fun u hu => by omega⟩ ?_ ?_
        · rintro j h2 hj ⟨f2, v2⟩
          unfold l_X10_order_198
          refine zw_f (by rw [zi_le (by omega) (by omega) (by omega) (by omega)]; omega) ?_
          refine zw_bd1 (ldI_ok j (n := 5) rfl rfl (by omega)) ?_
          rw [f2.i (by decide), rw1 j (by omega)]
          refine zw_bd1 (stI_ok j (n := 5) rfl rfl (by omega)) ?_
          refine zw_some ⟨congrArg Sum.inl (by first | (simp only [zi_lit, zi_neg, zi_add, zi_sub, zi_mul, zl_lit, zl_neg, zl_add, zl_sub, zl_mul, zl_i]; exact congrArg zi (by omega)) | (simp only [zi_lit, zi_neg, zi_add, zi_sub, zi_mul, zl_lit, zl_neg, zl_add, zl_sub, zl_mul, zl_i]; done) | exact congrArg zi (by omega)), f2.sI rfl, fun u hu => ?_⟩
          show gI (sI h2 265 j _) 265 u = _
          rw [gI_sI]
          by_cases q2 : u = j
          · rw [if_pos ⟨rfl, q2⟩, q2]
          · rw [if_neg (fun z => q2 z.2)]
            exact v2 u (by omega)
        · rintro h2 ⟨f2, v2⟩
          unfold l_X10_order_198
          exact zw_t (by rw [zi_le (by omega) (by omega) (by omega) (by omega)]; omega) (zw_some ⟨rfl, f2, v2⟩)
      · rintro ⟨u, g2⟩ ⟨f2, c2⟩
        dsimp only at f2 c2 ⊢
        exact tail ((gLs D (fun i => w.getD i 0) m).1, w) g2 ⟨by show -1 ≤ (gLs D (fun i => w.getD i 0) m).1; omega, gb.2⟩ gb.1 ((hf.trans (f1.mono (by omega))).trans (f2.mono (by omega))) (fun j hj => c2 j (by have : j < w.length := hj; omega)) (rw1.fr f2 (by intro i; omega)) hbs
    · rw [if_neg q] at hbs
      refine zw_t (by rw [zl_le (by omega) (by omega) (by omega) (by omega)]; omega) ?_
      have b0 : 0 ≤ b.1 := by omega
      exact tail b g bb b0 (hf.trans (f1.mono (by omega))) ((hb b0).fr f1 (by intro i; omega)) (hrw.fr f1 (by intro i; omega)) hbs
  · refine zw_t rfl (zw_some (Or.inr ⟨_, rfl, ?_⟩))
    rw [← hbs]
    exact ⟨rfl, hf, hb hb0⟩
theorem IVd.frO {h' : AH} (x : IVd D T h) (f : Fr (fun a k => oC a k ∨ oR a k) h h') (z : IVo h') : IVd D T h' := by
  obtain ⟨h1, h2, h3, h4, h5, h6, h7, h8, h9, h10, h11, h12, h13⟩ := x
  exact ⟨h1, h2, (f.r (by unfold oC oR; omega)).trans h3, h4.fr h1 f (by intro a k; unfold YCa oC oR; omega), h5.fr f (by intro a k; unfold YRa oC oR; omega), h6.fr f (by intro a k; unfold oC oR; omega), h7.fr f (by intro a k; unfold oC oR; omega), h8.fr f (by intro a k; unfold oC oR; omega), h9.fr f (by intro a k; unfold oC oR; omega), z, h11.fr f (by intro a k; unfold oC oR; omega), h12.fr f h1.K6 (by intro a k; unfold oC oR; omega), h13.fr f h1.K6 (by intro a k; unfold oC oR; omega)⟩
theorem g_order (x : IVd D T h) : ∃ v h1 h2, s_X9_order h = some (v, h1) ∧ s_X10_order h1 = some (v, h2) ∧ IV h2 := by
  have hD := x.wf
  have ch := chk_w (wnn D)
  have l5 := clw_len (wnn D) 5
  have cls : zw (s_X9_order h) (fun y => y.1 = zl (bsl D (dLn D).length 120 (dLn D) (-1, [])).1 ∧ Fr oC h y.2 ∧ gI y.2 220 0 = 1 ∧ gI y.2 220 1 = zi ((dLn D).length : Nat) ∧ (bsl D (dLn D).length 120 (dLn D) (-1, [])).2.length = (dLn D).length ∧ RW 221 (bsl D (dLn D).length 120 (dLn D) (-1, [])).2 y.2) := by
    unfold s_X9_order
    rw [x.t8, bd_v, if_pos x.tl.l0]
    refine zw_bd (P := fun y => y.1 = zl (bsl D (dLn D).length 120 (dLn D) (-1, [])).1 ∧ Fr oC h y.2 ∧ gI y.2 220 0 = 1 ∧ gI y.2 220 1 = zi ((dLn D).length : Nat) ∧ (bsl D (dLn D).length 120 (dLn D) (-1, [])).2.length = (dLn D).length ∧ RW 221 (bsl D (dLn D).length 120 (dLn D) (-1, [])).2 y.2) ?_ (fun y hy => zw_some hy)
    unfold s_X6_arrange j_X6_arrange_74
    rw [if_pos rfl, bd_v, if_pos x.tl.l0]
    refine zw_bd (c_collect hD x.c) ?_
    rintro ⟨u1, g1⟩ ⟨f1, z1, r1⟩
    dsimp only at f1 z1 r1 ⊢
    have c1 := x.c.fr hD f1 (fun a k => by unfold YCa; omega)
    refine zw_bd (c_rank hD c1.1.1 c1.1.2.2.1) ?_
    rintro ⟨u2, g2⟩ ⟨f2, k2⟩
    dsimp only at f2 k2 ⊢
    have c2 := c1.fr hD f2 (fun a k => by unfold YCa; omega)
    refine zw_bd (c_arr hD c2 k2 l5 ((f2.i (by decide)).trans z1) ch (r1.fr f2 (by intro i; omega))) ?_
    rintro ⟨v, g3⟩ ⟨rfl, f3, b3, n3, r3⟩
    dsimp only at f3 b3 n3 r3 ⊢
    have f4 : Fr oC h g3 := ((f1.mono (by unfold oC; omega)).trans (f2.mono (by unfold oC; omega))).trans (f3.mono (by unfold oC; omega))
    refine zw_some ⟨rfl, f4.sI (Or.inl ⟨rfl, Or.inl rfl⟩), ?_, ?_, n3, fun j hj => ?_⟩
    · show gI (sI g3 220 0 1) 220 0 = 1
      rw [gI_sI, if_pos ⟨rfl, rfl⟩]
    · show gI (sI g3 220 0 1) 220 1 = _
      rw [gI_sI, if_neg (by omega), f3.i (by omega), f2.i (by omega)]
      exact z1
    · show gI (sI g3 220 0 1) 221 j = _
      rw [gI_sI, if_neg (by omega)]
      exact r3 j hj
  obtain ⟨⟨v, h1⟩, e1, rfl, f1, t1, z1, n1, r1⟩ := cls
  dsimp only at f1 t1 z1 n1 r1
  have yr : YR D (sI h1 240 0 0) := x.r.fr ((f1.mono (fun a k q => Or.inl q) : Fr (fun a k => oC a k ∨ (a = 240 ∧ k = 0)) h h1).sI (Or.inr ⟨rfl, rfl⟩)) (by intro a k; unfold YRa oC; omega)
  have ref : zw (s_X10_order h1) (fun y => y.1 = zl (bsl D (dLn D).length 120 (dLn D) (-1, [])).1 ∧ Fr oR h1 y.2 ∧ gI y.2 240 53 = zi ((dLn D).length : Nat) ∧ RW 265 (bsl D (dLn D).length 120 (dLn D) (-1, [])).2 y.2) := by
    unfold s_X10_order
    have f0 : Fr oR h1 (sI h1 240 0 0) := (Fr.refl _ h1).sI (Or.inr ⟨rfl, Or.inl rfl⟩)
    generalize sI h1 240 0 0 = H at yr f0 ⊢
    refine zw_bd (r_rank hD yr.1) ?_
    rintro ⟨u2, g2⟩ ⟨f2, k2⟩
    dsimp only at f2 k2 ⊢
    have c2 := yr.fr f2 (fun a k => by unfold YRa; omega)
    refine zw_bd (r_collect hD c2) ?_
    rintro ⟨u3, g3⟩ ⟨rfl, f3, r3⟩
    dsimp only at f3 r3 ⊢
    have c3 := c2.fr f3 (fun a k => by unfold YRa; omega)
    have k3 : RRk D g3 := fun j hj => (f3.i (by decide)).trans (k2 j hj)
    refine zw_bd (r_arr hD c3 k3 l5 ch r3) ?_
    rintro ⟨v, g4⟩ ⟨rfl, f4, r4⟩
    dsimp only at f4 r4 ⊢
    have f5 : Fr oR h1 g4 := ((f0.trans (f2.mono (by unfold oR; omega))).trans (f3.mono (by unfold oR; omega))).trans (f4.mono (by unfold oR; omega))
    refine zw_some ⟨rfl, f5.sI (Or.inr ⟨rfl, Or.inr rfl⟩), ?_, fun j hj => ?_⟩
    · show gI (sI g4 240 53 _) 240 53 = _
      rw [gI_sI, if_pos ⟨rfl, rfl⟩]
    · show gI (sI g4 240 53 _) 265 j = _
      rw [gI_sI, if_neg (by omega)]
      exact r4 j hj
  obtain ⟨⟨v2, h2⟩, e2, rfl, f2, z2, r2⟩ := ref
  dsimp only at f2 z2 r2
  have f12 : Fr (fun a k => oC a k ∨ oR a k) h h2 := (f1.mono (fun a k q => Or.inl q)).trans (f2.mono (fun a k q => Or.inr q))
  refine ⟨_, h1, h2, e1, e2, D, T, x.frO f12 (Or.inr ⟨(f2.i (by unfold oR; omega)).trans t1, (dLn D).length, l5, (f2.i (by unfold oR; omega)).trans z1, z2, fun i hi => ?_⟩)⟩
  rw [f2.i (by unfold oR; omega), r1 i (by omega), r2 i (by omega)]
end
