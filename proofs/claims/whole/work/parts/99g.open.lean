/-! 99g.open: a hall that was read is opened: the class's books, the reference's works -/
def opF (a k : Nat) : Prop := (a = 13 ∧ k = 1) ∨ a = 14 ∨ (31 ≤ a ∧ a ≤ 210 ∧ ((a - 31) % 6 = 0 → 2 ≤ k))
section
variable {D : HD} {T : Nat} {h : AH}
theorem PK.op {t p : Nat} {h' : AH} (hp : PL t p) (x : PK t p h) (f : Fr opF h h') : PK t p h' := by
  rcases hp with ⟨rfl, rfl⟩ | ⟨k, hk, ht, rfl⟩
  · exact x.fr f (by unfold opF; omega) (by unfold opF; omega)
  · exact x.fr f (by unfold opF; omega) (by unfold opF; omega)
theorem CH.opn {h' : AH} (hT : TL T) (hne : T ≠ 5) (x : CH D T h) (f : Fr opF h h') : CH D T h' := by
  have bT := hT.b
  exact x.fr f (fun a k h1 h2 => by unfold opF; omega)
theorem c_openK (hD : WFD D) (hT : TL T) (hne : T ≠ 5) (x : CH D T h) (cb : CB h) (h13 : gR h 13 1 = some T) (pk : ∀ t p, PL t p → PK t p h) {k : Nat} (hk : k < D.K) : zw (lpH (l_X0_open_20 (zi k)) FU 0 h) (fun r => Fr (fun a j => 31 + 30 * k ≤ a ∧ a ≤ 31 + 30 * k + 29 ∧ ((a - 31) % 6 = 0 → 2 ≤ j)) h r.2 ∧ ∀ t, t < 5 → POk D (rSet D) k t (31 + 6 * (5 * k + t)) r.2) := by
  have hK := hD.K6
  have bT := hT.b
  refine zw_for 5 (fun t => zi (t : Int)) () (fun t h' => Fr (fun a j => 31 + 30 * k ≤ a ∧ a ≤ 31 + 30 * k + 29 ∧ ((a - 31) % 6 = 0 → 2 ≤ j)) h h' ∧ ∀ u, u < t → POk D (rSet D) k u (31 + 6 * (5 * k + u)) h') (by decide) rfl ⟨Fr.refl _ h, fun u hu => by omega⟩ ?_ ?_
  · rintro t h' ht ⟨hf, hv⟩
    have ff : Fr opF h h' := hf.mono (by unfold opF; omega)
    have hp := PL.of (k := k) (t := t) (by omega) ht
    have x' := x.opn hT hne ff
    have cb' : CB h' := cb.fr ff (by intro j; unfold opF; omega)
    have g13 : gR h' 13 1 = some T := (hf.r (by omega)).trans h13
    unfold l_X0_open_20
    refine zw_f (by rw [(show (5 : Int32) = zi 5 from zi_lit 5), zi_le (by omega) (by omega) (by omega) (by omega)]; show ¬ (5 : Int) ≤ t; omega) ?_
    refine zw_bd1 (c_planOf cb' rfl rfl (by omega) ht) ?_
    rw [g13, bd_v, if_pos hT.l0, bd_v, if_pos hT.l0, bd_v, if_pos hp.l0]
    refine zw_bd (c_make (th := 2) (set := rSet D) hD hT hp x' ((pk t _ hp).op hp ff) hk rfl (Or.inr ⟨rfl, rfl⟩) hT.l2 (by omega) (fun e he => x'.2.2.1 e he) (fun e he => (hD.e e he).2.2.2)) ?_
    rintro ⟨u1, g1⟩ ⟨f1, m1⟩
    dsimp only at f1 m1 ⊢
    have f1' : Fr (fun a j => 31 + 30 * k ≤ a ∧ a ≤ 31 + 30 * k + 29 ∧ ((a - 31) % 6 = 0 → 2 ≤ j)) h g1 := hf.trans (f1.mono (by omega))
    have ff1 : Fr opF h g1 := f1'.mono (by unfold opF; omega)
    rw [show gR g1 13 1 = some T from (f1'.r (by omega)).trans h13, bd_v, if_pos hT.l0]
    refine zw_bd (c_use (set := rSet D) hD hT hp (x.opn hT hne ff1) ((pk t _ hp).op hp ff1) m1 hk rfl) ?_
    rintro ⟨u2, g2⟩ ⟨f2, m2⟩
    dsimp only at f2 m2 ⊢
    refine zw_some ⟨congrArg Sum.inl (by first | (simp only [zi_lit, zi_neg, zi_add, zi_sub, zi_mul, zl_lit, zl_neg, zl_add, zl_sub, zl_mul, zl_i]; exact congrArg zi (by omega)) | (simp only [zi_lit, zi_neg, zi_add, zi_sub, zi_mul, zl_lit, zl_neg, zl_add, zl_sub, zl_mul, zl_i]; done) | exact congrArg zi (by omega)), f1'.trans (f2.mono (by omega)), fun u hu => ?_⟩
    by_cases q : u = t
    · rw [q]; exact m2
    · exact ((hv u (by omega)).fr f1 (fun a j h1 h2 => by omega)).fr f2 (fun a j h1 h2 => by omega)
  · rintro h' ⟨hf, hv⟩
    unfold l_X0_open_20
    exact zw_t (by decide) (zw_some ⟨rfl, hf, hv⟩)
theorem c_open (hD : WFD D) (hT : TL T) (hne : T ≠ 5) (x : CH D T h) (cb : CB h) (pk : ∀ t p, PL t p → PK t p h) : zw (s_X0_open (some T) h) (fun r => Fr opF h r.2 ∧ gR r.2 13 1 = some T ∧ YC2 D r.2) := by
  have hK := hD.K6
  have bT := hT.b
  unfold s_X0_open
  rw [bd_v, if_pos hT.l0]
  have f0 : Fr opF h (sR h 13 1 (some T)) := (Fr.refl _ h).sR (by unfold opF; omega)
  have g0 : gR (sR h 13 1 (some T)) 13 1 = some T := by rw [gR_sR, if_pos ⟨rfl, rfl⟩]
  generalize sR h 13 1 (some T) = h0 at f0 g0 ⊢
  refine zw_bd (P := fun r => Fr opF h r.2 ∧ gR r.2 13 1 = some T ∧ YC2 D r.2) ?_ (fun r z => zw_some z)
  refine zw_for D.K (fun k => zi (k : Int)) () (fun k h' => Fr opF h h' ∧ gR h' 13 1 = some T ∧ ∀ u, u < k → (∀ t, t < 5 → POk D (rSet D) u t (31 + 6 * (5 * u + t)) h') ∧ gI h' 14 u = zi (dB D u)) (by omega) rfl ⟨f0, g0, fun u hu => by omega⟩ ?_ ?_
  · rintro k h' hk ⟨hf, g13, hv⟩
    have x' := x.opn hT hne hf
    have cb' : CB h' := cb.fr hf (by intro j; unfold opF; omega)
    have pk' : ∀ t p, PL t p → PK t p h' := fun t p hp => (pk t p hp).op hp hf
    unfold l_X0_open_7
    rw [g13, bd_v, if_pos hT.l0, x'.1.2.2.2.1]
    refine zw_f (by rw [zi_le (by omega) (by omega) (by omega) (by omega)]; omega) ?_
    refine zw_bd (c_openK hD hT hne x' cb' g13 pk' hk) ?_
    rintro ⟨u1, g1⟩ ⟨f1, m1⟩
    dsimp only at f1 m1 ⊢
    have ff : Fr opF h g1 := hf.trans (f1.mono (by unfold opF; omega))
    have x1 := x.opn hT hne ff
    have cb1 : CB g1 := cb.fr ff (by intro j; unfold opF; omega)
    have g131 : gR g1 13 1 = some T := (f1.r (by omega)).trans g13
    have hp3 := PL.of (k := k) (t := 3) (by omega) (by decide)
    rw [g131, bd_v, if_pos hT.l0]
    refine zw_bd1 (c_planOf cb1 (t := 3) rfl ((show (3 : Int32) = zi 3 from zi_lit 3)) (by omega) (by decide)) ?_
    rw [bd_v, if_pos hp3.l0]
    refine zw_bd1 (z := zl (dW D k 3)) ?_ ?_
    · unfold s_X2_value
      rw [if_pos hp3.l0, (m1 3 (by decide)).1.2.1]
    refine zw_bd1 (c_choose hD hT x1 cb1 g131 (W := dW D k) (P := D.P) hk hT.l7 (fun t ht => x1.2.2.2.2.2.2 t ht) (fun t ht _ => (m1 t ht).1.2.1) (dW_b hD hk) rfl rfl) ?_
    refine zw_bd1 (put_ok k (n := 6) rfl rfl (by omega)) ?_
    have f2 : Fr (fun a j => a = 14 ∧ j = k) g1 (sI g1 14 k (zi (bst (dW D k) D.P (D.Q k 10) 4))) := (Fr.refl _ g1).sI ⟨rfl, rfl⟩
    refine zw_some ⟨congrArg Sum.inl (by first | (simp only [zi_lit, zi_neg, zi_add, zi_sub, zi_mul, zl_lit, zl_neg, zl_add, zl_sub, zl_mul, zl_i]; exact congrArg zi (by omega)) | (simp only [zi_lit, zi_neg, zi_add, zi_sub, zi_mul, zl_lit, zl_neg, zl_add, zl_sub, zl_mul, zl_i]; done) | exact congrArg zi (by omega)), ff.trans (f2.mono (by unfold opF; omega)), (f2.r (by omega)).trans g131, fun u hu => ?_⟩
    by_cases q : u = k
    · subst q
      refine ⟨fun t ht => (m1 t ht).fr f2 (fun a j h1 h2 => by omega), ?_⟩
      show gI (sI g1 14 u _) 14 u = _
      rw [gI_sI, if_pos ⟨rfl, rfl⟩]
    · obtain ⟨w1, w2⟩ := hv u (by omega)
      refine ⟨fun t ht => ((w1 t ht).fr f1 (fun a j h1 h2 => by omega)).fr f2 (fun a j h1 h2 => by omega), ?_⟩
      show gI (sI g1 14 k _) 14 u = _
      rw [gI_sI, if_neg (fun z => q z.2), f1.i (by omega)]
      exact w2
  · rintro h' ⟨hf, g13, hv⟩
    have x' := x.opn hT hne hf
    unfold l_X0_open_7
    rw [g13, bd_v, if_pos hT.l0, x'.1.2.2.2.1]
    exact zw_t (by rw [zi_le (by omega) (by omega) (by omega) (by omega)]; omega) (zw_some ⟨rfl, hf, g13, fun k t hk ht => (hv k hk).1 t ht, fun k hk => (hv k hk).2⟩)
def wkA (a j : Nat) : Prop := (251 ≤ a ∧ a ≤ 258) ∨ (a = 240 ∧ (j = 38 ∨ j = 39))
theorem RWorks.fr3 {k t : Nat} {h' : AH} {S : Nat → Nat → Prop} (x : RWorks D (rSet D) k t h) (f : Fr S h h') (n : ∀ a j, (a = 255 ∧ j = 5 * k + t) ∨ (a = 256 ∧ 16 * (5 * k + t) ≤ j ∧ j < 16 * (5 * k + t) + 16) ∨ (a = 257 ∧ j = 5 * k + t) ∨ (a = 258 ∧ j = 5 * k + t) → ¬ S a j) (hN : D.N ≤ 16) : RWorks D (rSet D) k t h' := ⟨(f.i (n _ _ (by omega))).trans x.1, fun e he => (f.l (n _ _ (by omega))).trans (x.2.1 e he), (f.l (n _ _ (by omega))).trans x.2.2.1, (f.l (n _ _ (by omega))).trans x.2.2.2⟩
theorem r_worksA (hD : WFD D) (x : RH D h) : zw (lpH l_X10_hall_282 FU 0 h) (fun r => Fr wkA h r.2 ∧ YR D r.2) := by
  have hK := hD.K6
  have hN := hD.N16
  refine zw_mono (P := fun r => Fr wkA h r.2 ∧ ∀ k t, k < D.K → t < 5 → RWorks D (rSet D) k t r.2) ?_ (fun r z => ⟨z.1, x.fr z.1 (by intro a k; unfold wkA; omega), z.2⟩)
  refine zw_for D.K (fun k => zi (k : Int)) () (fun k h' => Fr wkA h h' ∧ ∀ u t, u < k → t < 5 → RWorks D (rSet D) u t h') (by omega) rfl ⟨Fr.refl _ h, fun u t hu => by omega⟩ ?_ ?_
  · rintro k h' hk ⟨hf, hv⟩
    have x' : RH D h' := x.fr hf (by intro a k; unfold wkA; omega)
    unfold l_X10_hall_282
    refine zw_f (by rw [x'.1.2.2.2.1, zi_le (by omega) (by omega) (by omega) (by omega)]; omega) ?_
    refine zw_bd (P := fun r => Fr wkA h r.2 ∧ (∀ u t, u < k → t < 5 → RWorks D (rSet D) u t r.2) ∧ ∀ t, t < 5 → RWorks D (rSet D) k t r.2) ?_ ?_
    · refine zw_for 5 (fun t => zi (t : Int)) () (fun t h2 => Fr wkA h h2 ∧ (∀ u t, u < k → t < 5 → RWorks D (rSet D) u t h2) ∧ ∀ u, u < t → RWorks D (rSet D) k u h2) (by decide) rfl ⟨hf, hv, fun u hu => by omega⟩ ?_ ?_
      · rintro t h2 ht ⟨hf2, hv2, hw2⟩
        have x2 : RH D h2 := x.fr hf2 (by intro a k; unfold wkA; omega)
        unfold l_X10_hall_292
        refine zw_f (by rw [(show (5 : Int32) = zi 5 from zi_lit 5), zi_le (by omega) (by omega) (by omega) (by omega)]; show ¬ (5 : Int) ≤ t; omega) ?_
        refine zw_bd (r_works hD x2 hk ht rfl rfl) ?_
        rintro ⟨u1, g1⟩ ⟨f1, m1⟩
        dsimp only at f1 m1 ⊢
        refine zw_some ⟨congrArg Sum.inl (by first | (simp only [zi_lit, zi_neg, zi_add, zi_sub, zi_mul, zl_lit, zl_neg, zl_add, zl_sub, zl_mul, zl_i]; exact congrArg zi (by omega)) | (simp only [zi_lit, zi_neg, zi_add, zi_sub, zi_mul, zl_lit, zl_neg, zl_add, zl_sub, zl_mul, zl_i]; done) | exact congrArg zi (by omega)), hf2.trans (f1.mono (by unfold WS1 wkA; omega)), fun u s hu hs => (hv2 u s hu hs).fr3 f1 (by intro a j; unfold WS1; omega) hN, fun u hu => ?_⟩
        by_cases q : u = t
        · rw [q]; exact m1
        · exact (hw2 u (by omega)).fr3 f1 (by intro a j; unfold WS1; omega) hN
      · rintro h2 ⟨hf2, hv2, hw2⟩
        unfold l_X10_hall_292
        exact zw_t (by decide) (zw_some ⟨rfl, hf2, hv2, hw2⟩)
    · rintro ⟨u1, g1⟩ ⟨f1, w1, w2⟩
      dsimp only at f1 w1 w2 ⊢
      refine zw_some ⟨congrArg Sum.inl (by first | (simp only [zi_lit, zi_neg, zi_add, zi_sub, zi_mul, zl_lit, zl_neg, zl_add, zl_sub, zl_mul, zl_i]; exact congrArg zi (by omega)) | (simp only [zi_lit, zi_neg, zi_add, zi_sub, zi_mul, zl_lit, zl_neg, zl_add, zl_sub, zl_mul, zl_i]; done) | exact congrArg zi (by omega)), f1, fun u t hu ht => ?_⟩
      by_cases q : u = k
      · rw [q]; exact w2 t ht
      · exact w1 u t (by omega) ht
  · rintro h' ⟨hf, hv⟩
    have x' : RH D h' := x.fr hf (by intro a k; unfold wkA; omega)
    unfold l_X10_hall_282
    exact zw_t (by rw [x'.1.2.2.2.1, zi_le (by omega) (by omega) (by omega) (by omega)]; omega) (zw_some ⟨rfl, hf, hv⟩)
theorem YC.fr2 {h' : AH} {S : Nat → Nat → Prop} (hD : WFD D) (x : YC D T h) (f : Fr S h h') (n : ∀ a k, (a = 0 ∧ k = 8) ∨ a = 13 ∨ a = 14 ∨ (T ≤ a ∧ a ≤ T + 7) ∨ (a = 23 ∧ k ≤ 1) ∨ a = 29 ∨ (31 ≤ a ∧ a ≤ 210) → ¬ S a k) : YC D T h' := by
  have hK := hD.K6
  obtain ⟨⟨x1, x2, x3, x4, x5, x6, x7⟩, x8, x9⟩ := x
  refine ⟨⟨x1, x2, x3.fr f (fun a k h1 h2 => n a k (by omega)), x4.fr f (fun j => n _ _ (by omega)), (f.r (n _ _ (by omega))).trans x5, (f.r (n _ _ (by omega))).trans x6, fun t p hp => ?_⟩, fun k t hk ht => (x8 k t hk ht).fr f (fun a j h1 h2 => n a j (by omega)), fun k hk => (f.i (n _ _ (by omega))).trans (x9 k hk)⟩
  have bp := hp.b
  exact (x7 t p hp).fr f (n _ _ (by omega)) (n _ _ (by omega))
end
