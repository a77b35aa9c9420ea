/-! 90.evening: evenings of a run, side by side -/
/-- what an evening changes -/
def kvC (D : HD) (e : Nat) (a j : Nat) : Prop := (a = 224 ∧ j = 2) ∨ a = 225 ∨ (a = 226 ∧ 6 * e ≤ j ∧ j < 6 * e + D.K)
def eC (D : HD) (e : Nat) (a j : Nat) : Prop := (a = 224 ∧ j = 2) ∨ a = 225 ∨ (a = 226 ∧ 6 * e ≤ j ∧ j < 6 * e + D.K) ∨ (a = 227 ∧ j = e)
def eR (e : Nat) (a j : Nat) : Prop := (a = 269 ∧ j = 1) ∨ a = 271 ∨ a = 272 ∨ (a = 275 ∧ 10 * e ≤ j ∧ j < 10 * e + 10) ∨ a = 251 ∨ a = 252
/-- behind the kinds below k -/
def JX (D : HD) (e k : Nat) (cv : Nat → Nat) (hc hr : AH) : Prop := gI hc 224 2 = gI hr 269 1 ∧ PX D (fun p => if p < dOff D k then e + 1 else e) hc hr ∧ (∀ j, j < k → gI hc 226 (6 * e + j) = zi (cv j) ∧ gI hr 275 (10 * e + 4 + j) = zi (cv j) ∧ cv j ≤ 60) ∧ (∀ j, k ≤ j → j < 6 → gI hr 275 (10 * e + 4 + j) = zi ((0 : Nat) : Int)) ∧ gI hr 275 (10 * e) = zi (zs (fun j => (cv j : Int)) k) ∧ gI hr 275 (10 * e + 2) = zi (zs (fun j => if dB D j = 0 then (cv j : Int) else 0) k * D.E e 1)
/-- an evening that was gone through -/
def RE2 (D : HD) (e : Nat) (hc hr : AH) : Prop := ∃ cv : Nat → Int, (∀ k, k < 6 → gI hc 226 (6 * e + k) = zi (cv k) ∧ 0 ≤ cv k ∧ cv k ≤ 60 ∧ (D.K ≤ k → cv k = 0)) ∧ (∀ k, k < D.K → gI hr 275 (10 * e + 4 + k) = zi (cv k)) ∧ gI hr 275 (10 * e) = zi (zs cv 6) ∧ gI hr 275 (10 * e + 1) = zi (mz (zs cv 6 - D.ch)) ∧ gI hr 275 (10 * e + 2) = zi (zs (fun k => if dB D k = 0 then cv k else 0) D.K * D.E e 1) ∧ gI hr 275 (10 * e + 3) = gI hc 227 e
/-- a run ahead of the evening nx -/
def RR2 (D : HD) (nx : Nat) (hc hr : AH) : Prop := gI hc 224 1 = zi nx ∧ gI hr 269 0 = zi nx ∧ gI hc 224 2 = gI hr 269 1 ∧ PX D (fun _ => nx) hc hr ∧ (∀ e, e < nx → RE2 D e hc hr) ∧ (∀ e k, e < 16 → D.K ≤ k → k < 6 → gI hc 226 (6 * e + k) = 0)
section
variable {D : HD} {T : Nat} {hc hr : AH}
theorem x_kind {S0 z0 : Int} {e k : Nat} {p2 : Int32} {wet : Bool} (hD : WFD D) (h6 : W60 D) (x : YC D T hc) (y : YR D hr) (rp : RPlan D k (dB D k) 2 hr) (hk : k < D.K) (he : e < D.N) (ix : IX D e k S0 z0 0 0 hc hr) : z2 (lpH (l_X4_play_78 224 T (zi e) (b1 wet) (zi k) (some (31 + 6 * (5 * k + dB D k))) (zi (D.Q k 0))) FU (zi (dOff D k : Nat), 0, 0) hc) (lpH (l_X10_oneEvening_125 (zi e) p2 (zi k) (zi (dB D k)) (zi (dMay D k wet))) FU (zi (dOff D k : Nat), 0) hr) (fun a b => ∃ v : Nat, a.1 = (zi (dOff D (k + 1) : Nat), zi (v : Int)) ∧ b.1 = zi (dOff D (k + 1) : Nat) ∧ IX D e k S0 z0 (D.Q k 0).toNat v a.2 b.2 ∧ Fr pC hc a.2 ∧ Fr (pR e k) hr b.2) := by
  have hq := h6 k hk
  have bq := (hD.q k hk).1
  refine z2_for (D.Q k 0).toNat (fun i s h t j => ∃ c : Nat, s = (zi ((dOff D k + i : Nat) : Int), zi (c : Int), zi (i : Int)) ∧ t = (zi ((dOff D k + i : Nat) : Int), zi (i : Int)) ∧ IX D e k S0 z0 i c h j ∧ Fr pC hc h ∧ Fr (pR e k) hr j) (by omega) ⟨0, rfl, rfl, ix, Fr.refl _ hc, Fr.refl _ hr⟩ ?_ ?_
  · rintro i s h t j hi ⟨c, rfl, rfl, ii, fc, fr⟩
    have x' := x.fr hD fc (fun a k => by unfold YCa pC; omega)
    have y' := y.fr fr (fun a k => by unfold YRa pR; omega)
    have rp' := rp.fr fr (by intro j; unfold pR; omega) (by intro j; unfold pR; omega)
    refine z2_mono (x_person (wet := wet) (p2 := p2) hD h6 x' y' rp' hk he hi ii) ?_
    rintro a b ⟨v, e1, e2, e3, e4, e5⟩
    exact ⟨_, _, e1, e2, v, rfl, rfl, e3, fc.trans e4, fr.trans e5⟩
  · rintro s h t j ⟨c, rfl, rfl, ii, fc, fr⟩
    have y' := y.fr fr (fun a k => by unfold YRa pR; omega)
    unfold l_X4_play_78 l_X10_oneEvening_125
    dsimp only
    refine z2_lt (by rw [zi_le (by omega) (by omega) (by omega) (by omega)]; omega) ?_
    refine z2_r (r_of hD y'.1 (w := 0) rfl ((show (0 : Int32) = zi 0 from zi_lit 0)) hk (by decide)) ?_
    refine z2_rt (by rw [zi_le (by omega) (by omega) (by omega) (by omega)]; omega) ?_
    exact z2_some ⟨_, _, rfl, rfl, c, by rw [dOff_s], by rw [dOff_s], ii, fc, fr⟩
theorem x_kinds {e : Nat} {wet : Bool} (hD : WFD D) (h6 : W60 D) (x : YC D T hc) (y : YR D hr) (he : e < D.N) {cv0 : Nat → Nat} (jx : JX D e 0 cv0 hc hr) : z2 (lpH (l_X4_play_44 224 T (zi e) (b1 wet)) FU (0, 0) hc) (lpH (l_X10_oneEvening_57 (zi e) (b1 wet)) FU (0, 0) hr) (fun a b => ∃ cv, JX D e D.K cv a.2 b.2 ∧ Fr (kvC D e) hc a.2 ∧ Fr (eR e) hr b.2) := by
  have hK := hD.K6
  have hN := hD.N16
  refine z2_for D.K (fun k s h t j => s = (zi (dOff D k : Nat), zi (k : Int)) ∧ t = (zi (dOff D k : Nat), zi (k : Int)) ∧ ∃ cv, JX D e k cv h j ∧ Fr (kvC D e) hc h ∧ Fr (eR e) hr j) (by omega) ⟨rfl, rfl, cv0, jx, Fr.refl _ hc, Fr.refl _ hr⟩ ?_ ?_
  · rintro k s h t j hk ⟨rfl, rfl, cv, ⟨i1, i2, i3, i4, i5, i6⟩, fc, fr⟩
    have x' := x.fr hD fc (fun a k => by unfold YCa kvC; omega)
    have y' := y.fr fr (fun a k => by unfold YRa eR; omega)
    have hb := dB_lt D k
    have hp := PL.of (k := k) (t := dB D k) (by omega) hb
    have hq := h6 k hk
    have bq := (hD.q k hk).1
    have ek : zi (k : Int) + 1 = zi ((k + 1 : Nat) : Int) := (by first | (simp only [zi_lit, zi_neg, zi_add, zi_sub, zi_mul, zl_lit, zl_neg, zl_add, zl_sub, zl_mul, zl_i]; exact congrArg zi (by omega)) | (simp only [zi_lit, zi_neg, zi_add, zi_sub, zi_mul, zl_lit, zl_neg, zl_add, zl_sub, zl_mul, zl_i]; done) | exact congrArg zi (by omega))
    unfold l_X4_play_44 l_X10_oneEvening_57
    dsimp only
    refine z2_lf (by rw [x'.1.2.2.1.1.2.2.2.1, zi_le (by omega) (by omega) (by omega) (by omega)]; omega) ?_
    refine z2_rf (by rw [y'.1.1.2.2.2.1, zi_le (by omega) (by omega) (by omega) (by omega)]; omega) ?_
    refine z2_l (c_boughtBy hD x' rfl hk) ?_
    refine z2_l (c_many hD x'.1.1 x'.1.2.2.1 rfl hk) ?_
    refine z2_r (r_buysG hD y'.1 y'.g (dG_ok hD) rfl hk) ?_
    refine z2_rz (r_plans (t := dB D k) (th := 2) hD y'.1 hk hb rfl rfl (Or.inr ⟨rfl, rfl⟩)) ?_
    rintro ⟨u1, j1⟩ ⟨f1, rp⟩
    dsimp only at f1 rp ⊢
    have y1 := y'.fr f1 (fun a k => by unfold YRa; omega)
    have fr1 : Fr (eR e) hr j1 := fr.trans (f1.mono (by unfold eR; omega))
    have ix : IX D e k (zs (fun j => (cv j : Int)) k) (zs (fun j => if dB D j = 0 then (cv j : Int) else 0) k) 0 0 h j1 := by
      refine ⟨?_, ?_, Nat.le_refl _, ?_, ?_, ?_⟩
      · rw [f1.i (by omega)]; exact i1
      · intro k2 j2 hk2 hj2
        obtain ⟨d2, w1, w2, w3, w4, w5⟩ := i2 k2 j2 hk2 hj2
        exact ⟨d2, w1, w2, w3, (f1.i (by omega)).trans w4, (f1.i (by omega)).trans w5⟩
      · rw [f1.i (by omega), i5]
        exact congrArg zi (Int.add_zero _).symm
      · rw [f1.i (by omega), i6]
        refine congrArg zi ?_
        rw [show (if dB D k = 0 then ((0 : Nat) : Int) else 0) = 0 by split <;> rfl, Int.add_zero]
      · rw [f1.i (by omega)]
        exact i4 k (Nat.le_refl _) (by omega)
    have inner : ∀ may : Int32, may = zi (dMay D k wet) → z2 (bd (lpH (l_X4_play_78 224 T (zi e) (b1 wet) (zi k) (some (31 + 6 * (5 * k + dB D k))) (zi (D.Q k 0))) FU (zi (dOff D k : Nat), 0, 0) h) fun y11 => bd (s_X9_put (some (224 + 2)) ((zi e * 6) + zi k) y11.1.2 y11.2) fun q13 => some (.inl (y11.1.1, zi (k : Int) + 1), q13.2)) (j_X10_oneEvening_120_57 (zi e) (b1 wet) (zi (dOff D k : Nat)) (zi k) (zi (dB D k)) may j1) (fun (a : ((Int32 × Int32) ⊕ Unit) × AH) (b : ((Int32 × Int32) ⊕ Unit) × AH) => ∃ s' t', a.1 = .inl s' ∧ b.1 = .inl t' ∧ s' = (zi (dOff D (k + 1) : Nat), zi ((k + 1 : Nat) : Int)) ∧ t' = (zi (dOff D (k + 1) : Nat), zi ((k + 1 : Nat) : Int)) ∧ ∃ cv, JX D e (k + 1) cv a.2 b.2 ∧ Fr (kvC D e) hc a.2 ∧ Fr (eR e) hr b.2) := by
      rintro may rfl
      unfold j_X10_oneEvening_120_57
      refine z2_bd (x_kind (wet := wet) (p2 := b1 wet) hD h6 x' y1 rp hk he ix) ?_
      rintro ⟨⟨s1, s2⟩, g⟩ ⟨t1, r⟩ ⟨v, es, rfl, ⟨w1, w2, w3, w4, w5, w6⟩, f2, r2⟩
      dsimp only at es w1 w2 w3 w4 w5 w6 f2 r2 ⊢
      obtain ⟨rfl, rfl⟩ := Prod.mk.inj es
      refine z2_l (put_ok (6 * e + k) (n := 96) (by decide +kernel) (by first | (simp only [zi_lit, zi_neg, zi_add, zi_sub, zi_mul, zl_lit, zl_neg, zl_add, zl_sub, zl_mul, zl_i]; exact congrArg zi (by omega)) | (simp only [zi_lit, zi_neg, zi_add, zi_sub, zi_mul, zl_lit, zl_neg, zl_add, zl_sub, zl_mul, zl_i]; done) | exact congrArg zi (by omega)) (by omega)) ?_
      rw [ek]
      have fc2 : Fr (kvC D e) hc (sI g (224 + 2) (6 * e + k) (zi v)) := (fc.trans (f2.mono (by unfold pC kvC; omega))).sI (by unfold kvC; omega)
      have fr2 : Fr (eR e) hr r := fr1.trans (r2.mono (by unfold pR eR; omega))
      obtain ⟨cw, cw1, cw2⟩ : ∃ cw : Nat → Nat, cw k = v ∧ ∀ j, j < k → cw j = cv j := ⟨fun j => if j = k then v else cv j, if_pos rfl, fun j hj => if_neg (by omega)⟩
      refine z2_some ⟨_, _, rfl, rfl, rfl, rfl, cw, ⟨?_, ?_, fun j hj => ?_, fun j hj1 hj2 => ?_, ?_, ?_⟩, fc2, fr2⟩
      · show gI (sI g (224 + 2) _ _) 224 2 = _
        rw [gI_sI, if_neg (by omega)]; exact w1
      · intro k2 j2 hk2 hj2
        obtain ⟨d2, p1, p2, p3, p4, p5⟩ := w2 k2 j2 hk2 hj2
        refine ⟨d2, ?_, p2, ?_, p4, p5⟩
        · rw [dOff_s]; exact p1
        · show gI (sI g (224 + 2) _ _) 225 _ = _
          rw [gI_sI, if_neg (by omega)]; exact p3
      · show gI (sI g (224 + 2) _ _) 226 (6 * e + j) = _ ∧ _
        rw [gI_sI]
        by_cases q : j = k
        · rw [if_pos ⟨rfl, by omega⟩, q, cw1]
          exact ⟨rfl, w6, by omega⟩
        · rw [if_neg (by omega), cw2 j (by omega)]
          have z := i3 j (by omega)
          refine ⟨(f2.i (by unfold pC; omega)).trans z.1, ?_, z.2.2⟩
          rw [r2.i (by unfold pR; omega), f1.i (by omega)]
          exact z.2.1
      · rw [r2.i (by unfold pR; omega), f1.i (by omega)]
        exact i4 j (by omega) hj2
      · show gI r 275 (10 * e) = _
        rw [w4, zs_s, cw1]
        refine congrArg zi (congrArg (· + (v : Int)) (zs_congr fun i hi => ?_))
        rw [cw2 i hi]
      · show gI r 275 (10 * e + 2) = _
        rw [w5, zs_s, cw1]
        refine congrArg zi (congrArg (· * D.E e 1) (congrArg (· + (if dB D k = 0 then (v : Int) else 0)) (zs_congr fun i hi => ?_)))
        rw [cw2 i hi]
    cases wet
    · refine z2_rt rfl ?_
      refine z2_r (r_of hD y1.1 (w := 1) rfl ((show (1 : Int32) = zi 1 from zi_lit 1)) hk (by decide)) ?_
      exact inner _ rfl
    · have m := may_m hD hk
      refine z2_rf (show ¬ b1 true = 0 by decide) ?_
      refine z2_r (r_of hD y1.1 (w := 1) rfl ((show (1 : Int32) = zi 1 from zi_lit 1)) hk (by decide)) ?_
      refine z2_r (r_of hD y1.1 (w := 3) rfl ((show (3 : Int32) = zi 3 from zi_lit 3)) hk (by decide)) ?_
      refine z2_r (idivF_ok (a := D.Q k 1 * (1000 - D.Q k 3)) (b := 1000) (by rw [show (1000 : Int32) - zi (D.Q k 3) = zi (1000 - D.Q k 3) from zi_sub 1000 _, zi_mul]) ((show (1000 : Int32) = zi 1000 from zi_lit 1000)) m.1 (by omega) (by decide) (by decide)) ?_
      exact inner _ rfl
  · rintro s h t j ⟨rfl, rfl, cv, jj, fc, fr⟩
    have x' := x.fr hD fc (fun a k => by unfold YCa kvC; omega)
    have y' := y.fr fr (fun a k => by unfold YRa eR; omega)
    unfold l_X4_play_44 l_X10_oneEvening_57
    dsimp only
    refine z2_lt (by rw [x'.1.2.2.1.1.2.2.2.1, zi_le (by omega) (by omega) (by omega) (by omega)]; omega) ?_
    refine z2_rt (by rw [y'.1.1.2.2.2.1, zi_le (by omega) (by omega) (by omega) (by omega)]; omega) ?_
    exact z2_some ⟨_, _, rfl, rfl, cv, jj, fc, fr⟩
theorem RE2.fr {e : Nat} {gc gr : AH} {S R : Nat → Nat → Prop} (hK : D.K ≤ 6) (x : RE2 D e hc hr) (fc : Fr S hc gc) (fr : Fr R hr gr) (n1 : ∀ k, k < 6 → ¬ S 226 (6 * e + k)) (n2 : ¬ S 227 e) (n3 : ∀ k, k < 10 → ¬ R 275 (10 * e + k)) : RE2 D e gc gr := by
  obtain ⟨cv, h1, h2, h3, h4, h5, h6⟩ := x
  refine ⟨cv, fun k hk => ⟨(fc.i (n1 k hk)).trans (h1 k hk).1, (h1 k hk).2⟩, fun k hk => ?_, (fr.i (n3 0 (by decide))).trans h3, (fr.i (n3 1 (by decide))).trans h4, (fr.i (n3 2 (by decide))).trans h5, ?_⟩
  · have z := n3 (4 + k) (by omega)
    rw [← Nat.add_assoc] at z
    exact (fr.i z).trans (h2 k hk)
  · rw [fr.i (n3 3 (by decide)), fc.i n2]
    exact h6
theorem x_evening {nx : Nat} (hD : WFD D) (h6 : W60 D) (x : YC D T hc) (y : YR D hr) (he : nx < D.N) (r : RR2 D nx hc hr) : z2 (s_X4_play 224 (some 13) (some T) (zi nx) hc) (s_X10_oneEvening (zi nx) hr) (fun a b => RR2 D nx hc hr ∧ gI a.2 224 2 = gI b.2 269 1 ∧ PX D (fun _ => nx + 1) a.2 b.2 ∧ RE2 D nx a.2 b.2 ∧ Fr (eC D nx) hc a.2 ∧ Fr (eR nx) hr b.2) := by
  have hK := hD.K6
  have hN := hD.N16
  obtain ⟨r1, r2, r3, r4, r5, r6⟩ := id r
  have be := hD.e nx he
  have bch := hD.c.1
  unfold s_X4_play s_X10_oneEvening
  refine z2_lt (by decide +kernel) (z2_lt rfl (z2_l rfl (z2_lt x.1.1.l0 ?_)))
  -- the reference clears
  refine z2_rz (P := fun b => Fr (fun a j => a = 275 ∧ 10 * nx ≤ j ∧ j < 10 * nx + 10) hr b.2 ∧ ∀ j, j < 10 → gI b.2 275 (10 * nx + j) = 0) ?_ ?_
  · refine zw_for 10 (fun i => zi i) () (fun i h' => Fr (fun a j => a = 275 ∧ 10 * nx ≤ j ∧ j < 10 * nx + 10) hr h' ∧ ∀ j, j < i → gI h' 275 (10 * nx + j) = 0) (by decide) rfl ⟨Fr.refl _ hr, fun j hj => by omega⟩ ?_ ?_
    · rintro i h' hi ⟨hf, hv⟩
      unfold l_X10_oneEvening_2
      refine zw_f (by rw [(show (10 : Int32) = zi 10 from zi_lit 10), zi_le (by omega) (by omega) (by omega) (by omega)]; show ¬ (10 : Int) ≤ i; omega) ?_
      refine zw_bd1 (stI_ok (10 * nx + i) (n := 160) rfl (by first | (simp only [zi_lit, zi_neg, zi_add, zi_sub, zi_mul, zl_lit, zl_neg, zl_add, zl_sub, zl_mul, zl_i]; exact congrArg zi (by omega)) | (simp only [zi_lit, zi_neg, zi_add, zi_sub, zi_mul, zl_lit, zl_neg, zl_add, zl_sub, zl_mul, zl_i]; done) | exact congrArg zi (by omega)) (by omega)) ?_
      refine zw_some ⟨congrArg Sum.inl (by first | (simp only [zi_lit, zi_neg, zi_add, zi_sub, zi_mul, zl_lit, zl_neg, zl_add, zl_sub, zl_mul, zl_i]; exact congrArg zi (by omega)) | (simp only [zi_lit, zi_neg, zi_add, zi_sub, zi_mul, zl_lit, zl_neg, zl_add, zl_sub, zl_mul, zl_i]; done) | exact congrArg zi (by omega)), hf.sI (by omega), fun j hj => ?_⟩
      show gI (sI h' 275 _ _) 275 _ = _
      rw [gI_sI]
      by_cases q : j = i
      · rw [if_pos ⟨rfl, by omega⟩]
      · rw [if_neg (by omega)]
        exact hv j (by omega)
    · rintro h' ⟨hf, hv⟩
      unfold l_X10_oneEvening_2
      exact zw_t (by decide) (zw_some ⟨rfl, hf, hv⟩)
  rintro ⟨u0, j0⟩ ⟨f0, v0⟩
  dsimp only at f0 v0 ⊢
  have s0 : gI j0 269 1 = gI hc 224 2 := (f0.i (by omega)).trans r3.symm
  refine z2_l (c_draw (by decide +kernel)) (z2_r r_draw ?_)
  rw [s0]
  have d1 := dw_b (gI hc 224 2)
  have fc1 : Fr (eC D nx) hc (sI hc 224 2 (dwN (gI hc 224 2))) := (Fr.refl _ hc).sI (by unfold eC; omega)
  have fr1 : Fr (eR nx) hr (sI j0 269 1 (dwN (gI hc 224 2))) := (f0.mono (by unfold eR; omega) : Fr (eR nx) hr j0).sI (by unfold eR; omega)
  have sc1 : gI (sI hc 224 2 (dwN (gI hc 224 2))) 224 2 = dwN (gI hc 224 2) := by rw [gI_sI, if_pos ⟨rfl, rfl⟩]
  have sr1 : gI (sI j0 269 1 (dwN (gI hc 224 2))) 269 1 = dwN (gI hc 224 2) := by rw [gI_sI, if_pos ⟨rfl, rfl⟩]
  have pc1 : ∀ j, gI (sI hc 224 2 (dwN (gI hc 224 2))) 225 j = gI hc 225 j := fun j => by rw [gI_sI, if_neg (by omega)]
  have pr1 : ∀ a j, a = 271 ∨ a = 272 → gI (sI j0 269 1 (dwN (gI hc 224 2))) a j = gI hr a j := fun a j ha => by rw [gI_sI, if_neg (by omega), f0.i (by omega)]
  have vr1 : ∀ j, j < 10 → gI (sI j0 269 1 (dwN (gI hc 224 2))) 275 (10 * nx + j) = 0 := fun j hj => by rw [gI_sI, if_neg (by omega)]; exact v0 j hj
  have cr1 : ∀ k, k < 96 → gI (sI hc 224 2 (dwN (gI hc 224 2))) 226 k = gI hc 226 k := fun k hk => by rw [gI_sI, if_neg (by omega)]
  dsimp only
  generalize dwV (gI hc 224 2) = V at d1 ⊢
  generalize sI hc 224 2 (dwN (gI hc 224 2)) = gc at fc1 sc1 pc1 cr1 ⊢
  generalize sI j0 269 1 (dwN (gI hc 224 2)) = gr at fr1 sr1 pr1 vr1 ⊢
  have x1 := x.fr hD fc1 (fun a k => by unfold YCa eC; omega)
  have y1 := y.fr fr1 (fun a k => by unfold YRa eR; omega)
  refine z2_l (c_ofE hD x1.1.1 x1.1.2.2.1 (w := 2) rfl ((show (2 : Int32) = zi 2 from zi_lit 2)) he (by decide)) ?_
  refine z2_r (r_E hD y1.1 nx 2 (by first | (simp only [zi_lit, zi_neg, zi_add, zi_sub, zi_mul, zl_lit, zl_neg, zl_add, zl_sub, zl_mul, zl_i]; exact congrArg zi (by omega)) | (simp only [zi_lit, zi_neg, zi_add, zi_sub, zi_mul, zl_lit, zl_neg, zl_add, zl_sub, zl_mul, zl_i]; done) | exact congrArg zi (by omega)) he (by decide)) ?_
  have rest : ∀ wet : Bool, z2 (j_X4_play_18 224 T (zi nx) (b1 wet) gc) (j_X10_oneEvening_51 (zi nx) (b1 wet) gr) (fun a b => RR2 D nx hc hr ∧ gI a.2 224 2 = gI b.2 269 1 ∧ PX D (fun _ => nx + 1) a.2 b.2 ∧ RE2 D nx a.2 b.2 ∧ Fr (eC D nx) hc a.2 ∧ Fr (eR nx) hr b.2) := by
    intro wet
    have e18 : j_X4_play_18 224 T (zi nx) (b1 wet) gc = j_X4_play_35 224 T (zi nx) (b1 wet) (b1 wet) (zi nx) (224 + 3) gc := by
      unfold j_X4_play_18
      cases wet
      · rw [if_pos (show b1 false = 0 from rfl)]; rfl
      · rw [if_neg (show ¬ b1 true = 0 by decide)]; rfl
    rw [e18]
    unfold j_X4_play_35 j_X10_oneEvening_51
    refine z2_l (put_ok nx (n := 16) (by decide +kernel) rfl (by omega)) ?_
    have fc2 : Fr (eC D nx) hc (sI gc (224 + 3) nx (b1 wet)) := fc1.sI (by unfold eC; omega)
    have wc2 : gI (sI gc (224 + 3) nx (b1 wet)) 227 nx = b1 wet := by rw [gI_sI, if_pos ⟨rfl, rfl⟩]
    have oc2 : ∀ a j, a ≠ 227 → gI (sI gc (224 + 3) nx (b1 wet)) a j = gI gc a j := fun a j ha => by rw [gI_sI, if_neg (by omega)]
    dsimp only
    generalize sI gc (224 + 3) nx (b1 wet) = gc2 at fc2 wc2 oc2 ⊢
    have x2 := x.fr hD fc2 (fun a k => by unfold YCa eC; omega)
    have jx : JX D nx 0 (fun _ => 0) gc2 gr := by
      refine ⟨?_, ?_, fun j hj => by omega, fun j _ hj => ?_, ?_, ?_⟩
      · rw [oc2 _ _ (by decide), sc1, sr1]
      · intro k2 j2 hk2 hj2
        obtain ⟨d2, w1, w2, w3, w4, w5⟩ := r4 k2 j2 hk2 hj2
        refine ⟨d2, ?_, w2, ?_, ?_, ?_⟩
        · show d2 ≤ if dOff D k2 + j2 < dOff D 0 then nx + 1 else nx
          rw [if_neg (show ¬ dOff D k2 + j2 < dOff D 0 by show ¬ dOff D k2 + j2 < 0; omega)]
          exact w1
        · rw [oc2 _ _ (by decide), pc1]; exact w3
        · rw [pr1 _ _ (by decide)]; exact w4
        · rw [pr1 _ _ (by decide)]; exact w5
      · have := vr1 (4 + j) (by omega)
        rw [← Nat.add_assoc] at this
        exact this
      · exact vr1 0 (by decide)
      · rw [zs_0, Int.zero_mul]
        exact vr1 2 (by decide)
    refine z2_bd (x_kinds (wet := wet) hD h6 x2 y1 he jx) ?_
    rintro ⟨u1, gc3⟩ ⟨u2, gr3⟩ ⟨cv, ⟨w1, w2, w3, w4, w5, w6⟩, f3, q3⟩
    dsimp only at w1 w2 w3 w4 w5 w6 f3 q3 ⊢
    have fc3 : Fr (eC D nx) hc gc3 := fc2.trans (f3.mono (by unfold kvC eC; omega))
    have fr3 : Fr (eR nx) hr gr3 := fr1.trans q3
    have y3 := y.fr fr3 (fun a k => by unfold YRa eR; omega)
    have e10 : (10 : Int32) * zi nx = zi ((10 * nx : Nat) : Int) := (by first | (simp only [zi_lit, zi_neg, zi_add, zi_sub, zi_mul, zl_lit, zl_neg, zl_add, zl_sub, zl_mul, zl_i]; exact congrArg zi (by omega)) | (simp only [zi_lit, zi_neg, zi_add, zi_sub, zi_mul, zl_lit, zl_neg, zl_add, zl_sub, zl_mul, zl_i]; done) | exact congrArg zi (by omega))
    have e11 : (10 : Int32) * zi nx + 1 = zi ((10 * nx + 1 : Nat) : Int) := (by first | (simp only [zi_lit, zi_neg, zi_add, zi_sub, zi_mul, zl_lit, zl_neg, zl_add, zl_sub, zl_mul, zl_i]; exact congrArg zi (by omega)) | (simp only [zi_lit, zi_neg, zi_add, zi_sub, zi_mul, zl_lit, zl_neg, zl_add, zl_sub, zl_mul, zl_i]; done) | exact congrArg zi (by omega))
    have e13 : (10 : Int32) * zi nx + 3 = zi ((10 * nx + 3 : Nat) : Int) := (by first | (simp only [zi_lit, zi_neg, zi_add, zi_sub, zi_mul, zl_lit, zl_neg, zl_add, zl_sub, zl_mul, zl_i]; exact congrArg zi (by omega)) | (simp only [zi_lit, zi_neg, zi_add, zi_sub, zi_mul, zl_lit, zl_neg, zl_add, zl_sub, zl_mul, zl_i]; done) | exact congrArg zi (by omega))
    have sb1 := zs_nn (f := fun j => (cv j : Int)) (n := D.K) (fun i _ => by omega)
    have sb2 := zs_le (f := fun j => (cv j : Int)) (n := D.K) (B := 60) (fun i hi => by have := (w3 i hi).2.2; omega)
    have fin : ∀ v : Int, v = mz (zs (fun j => (cv j : Int)) D.K - D.ch) → gI gc3 227 nx = b1 wet → z2 (some ((), gc3)) (j_X10_oneEvening_388 (zi nx) (b1 wet) (zi v) (zi ((10 * nx + 1 : Nat) : Int)) gr3) (fun a b => RR2 D nx hc hr ∧ gI a.2 224 2 = gI b.2 269 1 ∧ PX D (fun _ => nx + 1) a.2 b.2 ∧ RE2 D nx a.2 b.2 ∧ Fr (eC D nx) hc a.2 ∧ Fr (eR nx) hr b.2) := by
      intro v hv h227
      unfold j_X10_oneEvening_388
      refine z2_r (stI_ok (10 * nx + 1) (n := 160) rfl rfl (by omega)) ?_
      have e408 : ∀ H : AH, (if b1 wet = 0 then j_X10_oneEvening_408 0 ((10 * zi nx) + 3) H else j_X10_oneEvening_408 1 ((10 * zi nx) + 3) H) = some ((), sI H 275 (10 * nx + 3) (b1 wet)) := by
        intro H
        unfold j_X10_oneEvening_408
        rw [e13, stI_ok (10 * nx + 3) (n := 160) rfl rfl (by omega), stI_ok (10 * nx + 3) (n := 160) rfl rfl (by omega)]
        cases wet
        · rw [if_pos (show b1 false = 0 from rfl)]; rfl
        · rw [if_neg (show ¬ b1 true = 0 by decide)]; rfl
      rw [e408]
      have fr4 : Fr (eR nx) hr (sI (sI gr3 275 (10 * nx + 1) (zi v)) 275 (10 * nx + 3) (b1 wet)) := (fr3.sI (by unfold eR; omega)).sI (by unfold eR; omega)
      have o4 : ∀ a j, (a = 275 → j ≠ 10 * nx + 1 ∧ j ≠ 10 * nx + 3) → gI (sI (sI gr3 275 (10 * nx + 1) (zi v)) 275 (10 * nx + 3) (b1 wet)) a j = gI gr3 a j := fun a j ha => by rw [gI_sI, if_neg (by omega), gI_sI, if_neg (by omega)]
      have z1 : gI (sI (sI gr3 275 (10 * nx + 1) (zi v)) 275 (10 * nx + 3) (b1 wet)) 275 (10 * nx + 1) = zi v := by rw [gI_sI, if_neg (by omega), gI_sI, if_pos ⟨rfl, rfl⟩]
      have z3 : gI (sI (sI gr3 275 (10 * nx + 1) (zi v)) 275 (10 * nx + 3) (b1 wet)) 275 (10 * nx + 3) = b1 wet := by rw [gI_sI, if_pos ⟨rfl, rfl⟩]
      generalize sI (sI gr3 275 (10 * nx + 1) (zi v)) 275 (10 * nx + 3) (b1 wet) = gr4 at fr4 o4 z1 z3 ⊢
      have t6 : zs (fun j => if j < D.K then (cv j : Int) else 0) 6 = zs (fun j => (cv j : Int)) D.K := by
        rw [zs_tail (f := fun j => if j < D.K then (cv j : Int) else 0) hK (fun i h1 _ => if_neg (by omega))]
        exact zs_congr (fun i hi => if_pos hi)
      refine z2_some ⟨r, ?_, ?_, ⟨fun j => if j < D.K then (cv j : Int) else 0, fun k hk => ?_, fun k hk => ?_, ?_, ?_, ?_, ?_⟩, fc3, fr4⟩
      · rw [o4 _ _ (by omega)]; exact w1
      · intro k2 j2 hk2 hj2
        obtain ⟨d2, p1, p2, p3, p4, p5⟩ := w2 k2 j2 hk2 hj2
        refine ⟨d2, ?_, p2, p3, ?_, ?_⟩
        · have p1' : d2 ≤ if dOff D k2 + j2 < dOff D D.K then nx + 1 else nx := p1
          show d2 ≤ nx + 1
          split at p1' <;> omega
        · rw [o4 _ _ (by omega)]; exact p4
        · rw [o4 _ _ (by omega)]; exact p5
      · dsimp only
        by_cases q : k < D.K
        · rw [if_pos q]
          have z := w3 k q
          exact ⟨z.1, by omega, by omega, fun z => by omega⟩
        · rw [if_neg q]
          refine ⟨?_, by decide, by decide, fun _ => rfl⟩
          rw [fc3.i (by unfold eC; omega)]
          exact r6 nx k (by omega) (by omega) hk
      · dsimp only
        rw [if_pos hk, o4 _ _ (by omega)]
        exact (w3 k hk).2.1
      · rw [o4 _ _ (by omega), t6]; exact w5
      · rw [z1, t6, hv]
      · rw [o4 _ _ (by omega), w6]
        refine congrArg zi (congrArg (· * D.E nx 1) (zs_congr fun i hi => ?_))
        show _ = if dB D i = 0 then (if i < D.K then (cv i : Int) else 0) else 0
        rw [if_pos hi]
      · rw [z3, h227]
    have h227 : gI gc3 227 nx = b1 wet := by
      rw [f3.i (by unfold kvC; omega)]
      exact wc2
    rw [e11, e10]
    refine z2_r (ldI_ok (10 * nx) (n := 160) rfl rfl (by omega)) ?_
    rw [w5, show gI gr3 240 1 = zi D.ch from y3.1.1.1]
    by_cases q : zs (fun j => (cv j : Int)) D.K ≤ D.ch
    · refine z2_rt (by rw [zi_le (by omega) (by omega) (by omega) (by omega)]; exact q) ?_
      exact fin 0 (by unfold mz; rw [if_neg (by omega)]) h227
    · refine z2_rf (by rw [zi_le (by omega) (by omega) (by omega) (by omega)]; exact q) ?_
      refine z2_r (ldI_ok (10 * nx) (n := 160) rfl rfl (by omega)) ?_
      rw [w5, zi_sub]
      exact fin _ (by unfold mz; rw [if_pos (by omega)]) h227
  by_cases q : D.E nx 2 ≤ V
  · refine z2_lt (by rw [zi_le (by omega) (by omega) (by omega) (by omega)]; exact q) (z2_rt (by rw [zi_le (by omega) (by omega) (by omega) (by omega)]; exact q) ?_)
    exact rest false
  · refine z2_lf (by rw [zi_le (by omega) (by omega) (by omega) (by omega)]; exact q) (z2_rf (by rw [zi_le (by omega) (by omega) (by omega) (by omega)]; exact q) ?_)
    exact rest true
end
