/-! 78.pricesg: prices alike -/
def rBs (D : HD) (t : Nat) (a s : Int) (i : Nat) (h : AH) : Prop := i ≠ 0 → gL h 260 0 = zl (x0 D t a s i) ∧ gL h 260 1 = zl (x1 D t a s i) ∧ gL h 260 2 = zl (x2 D t a s i) ∧ gL h 260 3 = zl (x3 D t a s i) ∧ gL h 260 4 = zl (x4 D t a s i)
section
variable {D : HD} {T : Nat} {h : AH}
theorem r_with (x : YR D h) {t : Nat} {p : Int} {h' : AH} (f : Fr (fun a k => (a = 244 ∧ k = t) ∨ a = 260) h h') (hp : gI h' 244 t = zi p) : RH (wP D t p) h' ∧ RG D.N D.K (dW D) (cf D) h' := by
  obtain ⟨⟨r1, r2, r3, r4, r5, r6⟩, q1, q2, q3, q4⟩ := x.1
  refine ⟨⟨⟨(f.i (by omega)).trans r1, (f.i (by omega)).trans r2, (f.i (by omega)).trans r3, (f.i (by omega)).trans r4, (f.i (by omega)).trans r5, (f.i (by omega)).trans r6⟩, fun e w he hw => (f.i (by omega)).trans (q1 e w he hw), fun k w hk hw => (f.i (by omega)).trans (q2 k w hk hw), fun r w hr hw => (f.i (by omega)).trans (q3 r w hr hw), fun j hj => ?_⟩, fun k t hk ht => ⟨(f.i (by omega)).trans (x.g k t hk ht).1, fun e he => (f.l (by omega)).trans ((x.g k t hk ht).2 e he)⟩⟩
  show gI h' 244 j = zi (uz D.P t p j)
  unfold uz
  by_cases q : j = t
  · rw [if_pos q, q]; exact hp
  · rw [if_neg q, f.i (by omega)]
    exact q4 j hj
theorem r_turnP (hD : WFD D) (x : YR D h) {t n i : Nat} {a b s : Int} (p : pAll a b s n) (ht : 1 ≤ t ∧ t < 5) (htold : D.P t ≠ -1) (hi : i < n) {h' : AH} (f : Fr (fun a k => (a = 244 ∧ k = t) ∨ a = 260) h h') (hb : rBs D t a (stp s) i h') {v5 : Int32} : zw (l_X10_prices_131 (zi t) (zi a) (zi s) (zi n) v5 (zi i) h') (fun r => r.1 = .inl (zi ((i + 1 : Nat) : Int)) ∧ Fr (fun a k => (a = 244 ∧ k = t) ∨ a = 260) h r.2 ∧ rBs D t a (stp s) (i + 1) r.2) := by
  have hN := hD.N16
  have hco := hD.c.2.1
  obtain ⟨p1, p2, p3, p4, p5, p6, p7, p8, p9⟩ := id p
  have b8 := p8 i hi
  have bp := pAll_ok p i hi
  have bE := pE_b hD (t := t) bp
  have bF := pF_b hD (t := t) (p := a + i * stp s)
  have bx := x_b hD (t := t) (pAll_ok p) i (by omega)
  unfold l_X10_prices_131
  refine zw_f (by rw [zi_le (by omega) (by omega) (by omega) (by omega)]; omega) ?_
  refine zw_bd1 (stI_ok t (n := 5) rfl rfl ht.2) ?_
  rw [show zi a + zi (i : Int) * zi s = zi (a + i * stp s) from by rw [zi_mul, zi_add, b8.2]]
  have f1 : Fr (fun a k => (a = 244 ∧ k = t) ∨ a = 260) h (sI h' 244 t (zi (a + i * stp s))) := f.sI (Or.inl ⟨rfl, rfl⟩)
  have hp : gI (sI h' 244 t (zi (a + i * stp s))) 244 t = zi (a + i * stp s) := by rw [gI_sI, if_pos ⟨rfl, rfl⟩]
  have hb1 : rBs D t a (stp s) i (sI h' 244 t (zi (a + i * stp s))) := fun q => by
    rw [gL_sI, gL_sI, gL_sI, gL_sI, gL_sI]
    exact hb q
  obtain ⟨y, g⟩ := r_with x f1 hp
  generalize sI h' 244 t (zi (a + i * stp s)) = G at f1 hp hb1 y g ⊢
  have hw := wP_wf hD bp ht.1 htold
  have bg : bG (wP D t (a + i * stp s)) (dW D) (cf D) := ⟨fun k hk => pW_b hD bp hk, (dG_ok hD).2⟩
  refine zw_bd1 (z := zl (pE D t (a + i * stp s))) (r_earns (W := dW D) (c := cf D) hw y g bg) ?_
  have L : lpH (l_X10_prices_163 (zi t) (zi a) (zi s) (zi n) v5 (zi i) (zl (pE D t (a + i * stp s)))) FU (0, 0) G = some (zl (pF D t (a + i * stp s)), G) := by
    refine lpH_for D.N (fun e => (zl (zs (fun e => eFull D.K (pB D t (a + i * stp s)) (fun k => D.Q k 0) (cf D) e) e), zi e)) (by omega) rfl ?_ ?_
    · intro e he
      unfold l_X10_prices_163
      dsimp only
      rw [show gI G 240 3 = zi (D.N : Int) from y.1.2.2.1, if_neg (by rw [zi_le (by omega) (by omega) (by omega) (by omega)]; omega), r_fullAll (W := dW D) (c := cf D) hw y g bg rfl he, bd_v, zl_add, show zi (e : Int) + 1 = zi ((e + 1 : Nat) : Int) from (by first | (simp only [zi_lit, zi_neg, zi_add, zi_sub, zi_mul, zl_lit, zl_neg, zl_add, zl_sub, zl_mul, zl_i]; exact congrArg zi (by omega)) | (simp only [zi_lit, zi_neg, zi_add, zi_sub, zi_mul, zl_lit, zl_neg, zl_add, zl_sub, zl_mul, zl_i]; done) | exact congrArg zi (by omega)), zs_s]
      rfl
    · unfold l_X10_prices_163
      dsimp only
      rw [show gI G 240 3 = zi (D.N : Int) from y.1.2.2.1, if_pos (by rw [zi_le (by omega) (by omega) (by omega) (by omega)]; omega)]
      rfl
  refine zw_bd1 L ?_
  have yx : pxR t i (a + i * stp s) D.co (pE D t (a + i * stp s)) (pF D t (a + i * stp s)) (x1 D t a (stp s) i) (x3 D t a (stp s) i) (x4 D t a (stp s) i) G := by
    refine ⟨ht.2, by omega, hp, y.1.2.1, bp, by omega, bE, by omega, by omega, by omega, by omega, ?_⟩
    rintro rfl
    exact ⟨rfl, rfl, rfl⟩
  refine zw_mono (r_pTail (o0 := x0 D t a (stp s) i) (o2 := x2 D t a (stp s) i) yx hb1) ?_
  rintro r ⟨h1, h2, h3⟩
  exact ⟨h1, f1.trans (h2.mono (by omega)), fun _ => h3⟩
theorem r_through (hD : WFD D) (x : YR D h) {t n : Nat} {a b s : Int} (p : pAll a b s n) (ht : 1 ≤ t ∧ t < 5) (htold : D.P t ≠ -1) (h0 : gI h 240 0 = 0) : zw (j_X10_prices_111 (zi t) (zi a) (zi s) (zi n) 1 h) (fun r => r.1 = zi n ∧ Fr (fun a k => a = 260 ∨ a = 244 ∨ (a = 240 ∧ k = 45)) h r.2 ∧ YR D r.2 ∧ gI r.2 240 45 = 1 ∧ rBs D t a (stp s) n r.2) := by
  obtain ⟨p1, p2, p3, p4, p5, p6, p7, p8, p9⟩ := id p
  unfold j_X10_prices_111
  refine zw_bd1 (r_right (b := true) rfl h0 (by decide)) ?_
  rw [if_pos rfl]
  refine zw_f one_ne ?_
  refine zw_bd1 (r_P x.1 rfl ht.2) ?_
  refine zw_bd (P := fun r => Fr (fun a k => (a = 244 ∧ k = t) ∨ a = 260) h r.2 ∧ rBs D t a (stp s) n r.2) ?_ ?_
  · refine zw_for n (fun i => zi i) () (fun i h' => Fr (fun a k => (a = 244 ∧ k = t) ∨ a = 260) h h' ∧ rBs D t a (stp s) i h') (by omega) rfl ⟨Fr.refl (fun a k => (a = 244 ∧ k = t) ∨ a = 260) h, fun q => absurd rfl q⟩ ?_ ?_
    · rintro i h' hi ⟨f, hb⟩
      exact r_turnP hD x p ht htold hi f hb
    · rintro h' ⟨f, hb⟩
      unfold l_X10_prices_131
      exact zw_t (by rw [zi_le (by omega) (by omega) (by omega) (by omega)]; omega) (zw_some ⟨rfl, f, hb⟩)
  · rintro ⟨u, G⟩ ⟨f, hb⟩
    dsimp only at f hb
    refine zw_bd1 (stI_ok t (n := 5) rfl rfl ht.2) ?_
    have ff : Fr (fun a k => a = 260 ∨ (a = 244 ∧ k = t) ∨ (a = 240 ∧ k = 45)) h (sI (sI G 244 t (zi (D.P t))) 240 45 1) := ((f.mono (by omega)).sI (Or.inr (Or.inl ⟨rfl, rfl⟩))).sI (Or.inr (Or.inr ⟨rfl, rfl⟩))
    refine zw_some ⟨rfl, ff.mono (by omega), ⟨?_, x.fr' ff (by intro a k; omega)⟩, ?_, fun q => ?_⟩
    · obtain ⟨⟨r1, r2, r3, r4, r5, r6⟩, q1, q2, q3, q4⟩ := x.1
      refine ⟨⟨(ff.i (by omega)).trans r1, (ff.i (by omega)).trans r2, (ff.i (by omega)).trans r3, (ff.i (by omega)).trans r4, (ff.i (by omega)).trans r5, (ff.i (by omega)).trans r6⟩, fun e w he hw => (ff.i (by omega)).trans (q1 e w he hw), fun k w hk hw => (ff.i (by omega)).trans (q2 k w hk hw), fun r w hr hw => (ff.i (by omega)).trans (q3 r w hr hw), fun j hj => ?_⟩
      by_cases q : j = t
      · show gI (sI (sI G 244 t (zi (D.P t))) 240 45 1) 244 j = _
        rw [gI_sI, if_neg (by omega), gI_sI, if_pos ⟨rfl, q⟩, q]
      · exact (ff.i (by omega)).trans (q4 j hj)
    · show gI (sI (sI G 244 t (zi (D.P t))) 240 45 1) 240 45 = 1
      rw [gI_sI, if_pos ⟨rfl, rfl⟩]
    · show gL (sI (sI G 244 t (zi (D.P t))) 240 45 1) 260 0 = _ ∧ gL (sI (sI G 244 t (zi (D.P t))) 240 45 1) 260 1 = _ ∧ gL (sI (sI G 244 t (zi (D.P t))) 240 45 1) 260 2 = _ ∧ gL (sI (sI G 244 t (zi (D.P t))) 240 45 1) 260 3 = _ ∧ gL (sI (sI G 244 t (zi (D.P t))) 240 45 1) 260 4 = _
      rw [gL_sI, gL_sI, gL_sI, gL_sI, gL_sI, gL_sI, gL_sI, gL_sI, gL_sI, gL_sI]
      exact hb q
theorem IVd.frP {h' : AH} (x : IVd D T h) (f : Fr (fun a k => SC a k ∨ a = 244 ∨ a = 219 ∨ a = 260 ∨ (a = 215 ∧ k = 4) ∨ (a = 240 ∧ k = 45)) h h') (y : YR D h') (z : IVf1 h') : IVd D T h' := by
  obtain ⟨h1, h2, h3, h4, h5, h6, h7, h8, h9, h10, h11, h12, h13⟩ := x
  exact ⟨h1, h2, (f.r (by unfold SC; omega)).trans h3, h4.fr h1 f (by intro a k; unfold YCa SC; omega), y, h6.fr f (by intro a k; unfold SC; omega), h7.fr f (by intro a k; unfold SC; omega), z, h9.fr f (by intro a k; unfold SC; omega), h10.fr f (by intro a k; unfold SC; omega), h11.fr f (by intro a k; unfold SC; omega), h12.fr f h1.K6 (by intro a k; unfold SC; omega), h13.fr f h1.K6 (by intro a k; unfold SC; omega)⟩
theorem g_prices (x : IVd D T h) (a0 a1 a2 a3 : Int32) : ag Int32.toInt64 (s_L_prices (some 0) a0 a1 a2 a3 (some 277) h) (s_X10_prices a0 a1 a2 a3) := by
  obtain ⟨t, rfl, ht1, ht2⟩ := zi_of a0
  obtain ⟨a, rfl, ha1, ha2⟩ := zi_of a1
  obtain ⟨b, rfl, hb1, hb2⟩ := zi_of a2
  obtain ⟨s, rfl, hs1, hs2⟩ := zi_of a3
  have em1 : (-1 : Int32) = zi (-1) := rfl
  have thr1 : ∀ H : AH, zw (j_X10_prices_29 (zi t) (zi a) (zi b) (zi s) (sI H 240 0 0)) (fun r => r = (0, sI (sI H 240 0 0) 240 0 1)) := by
    intro H
    unfold j_X10_prices_29 j_X10_prices_30
    refine zw_bd1 (r_right (b := false) rfl g0_z (by decide)) ?_
    rw [if_neg ff]
    exact zw_t rfl (zw_some rfl)
  by_cases q1 : (1 ≤ t ∧ t < 5) ∧ D.P t.toNat ≠ -1
  · have ea : zi t = zi (t.toNat : Nat) := congrArg zi (by omega)
    have bP := x.wf.p.2.1 t.toNat (by omega)
    have head : ∀ H : AH, RH D (sI H 240 0 0) → ∀ Q : Int32 × AH → Prop, zw (bd (s_X10_within (zi a) 0 9999 (sI H 240 0 0)) fun x3 => if x3 = 0 then j_X10_prices_71 (zi t) (zi a) (zi b) (zi s) (sI H 240 0 0) else bd (s_X10_within (zi b) (zi a) 9999 (sI H 240 0 0)) fun x27 => if x27 = 0 then j_X10_prices_71 (zi t) (zi a) (zi b) (zi s) (sI H 240 0 0) else if zi s < 1 then j_X10_prices_71 (zi t) (zi a) (zi b) (zi s) (sI H 240 0 0) else j_X10_prices_72 (zi t) (zi a) (zi b) (zi s) 1 (sI H 240 0 0)) Q → zw (s_X10_prices (zi t) (zi a) (zi b) (zi s) H) Q := by
      intro H y Q hh
      unfold s_X10_prices
      refine zw_bd1 (r_within rfl ((show (1 : Int32) = zi 1 from zi_lit 1)) ((show (4 : Int32) = zi 4 from zi_lit 4)) ht1 ht2 (by decide) (by decide) (by decide) (by decide)) ?_
      rw [if_pos (decide_eq_true (show 1 ≤ t ∧ t ≤ 4 by omega))]
      refine zw_f one_ne ?_
      refine zw_bd1 (r_P y ea (by omega)) ?_
      refine zw_f (by rw [em1, zi_eq (by omega) (by omega) (by omega) (by omega)]; exact q1.2) ?_
      unfold j_X10_prices_30
      refine zw_bd1 (r_right (b := true) rfl g0_z (by decide)) ?_
      rw [if_pos rfl]
      exact zw_f one_ne hh
    have cls : s_X9_prices (zi t) (zi a) (zi b) (zi s) h = if a < 0 then j_X9_prices_61 h else if 9999 < b then j_X9_prices_61 h else if b < a then j_X9_prices_61 h else if s < 1 then j_X9_prices_61 h else bd (idivF (zi b - zi a) (zi s)) fun x5 => if x5 < 60 then bd (s_X5_throughPrices (some 13) (zi t) (zi a) (zi b) (zi s) h) fun q6 => some (.inl q6.1, q6.2) else j_X9_prices_61 h := by
      unfold s_X9_prices
      rw [c_needT rfl ht1 ht2, if_pos (by omega), bd_v, sm_l, x.t8, bd_v, if_pos x.tl.l0, c_price x.tl x.ch ea (by omega), bd_v, if_neg (by rw [em1, zi_eq (by omega) (by omega) (by omega) (by omega)]; exact q1.2)]
      simp only [(show (0 : Int32) = zi 0 from zi_lit 0), (show (9999 : Int32) = zi 9999 from zi_lit 9999), (show (1 : Int32) = zi 1 from zi_lit 1), zi_lt ha1 ha2 (show -2147483648 ≤ (0 : Int) by decide) (by decide), zi_lt (show -2147483648 ≤ (9999 : Int) by decide) (by decide) hb1 hb2, zi_lt hb1 hb2 ha1 ha2, zi_lt hs1 hs2 (show -2147483648 ≤ (1 : Int) by decide) (by decide)]
    have thr2 : ∀ H : AH, zw (j_X10_prices_71 (zi t) (zi a) (zi b) (zi s) (sI H 240 0 0)) (fun r => r = (0, sI (sI H 240 0 0) 240 0 2)) := by
      intro H
      unfold j_X10_prices_71 j_X10_prices_72
      refine zw_t rfl ?_
      unfold j_X10_prices_91
      refine zw_t rfl ?_
      unfold j_X10_prices_110 j_X10_prices_111
      refine zw_bd1 (r_right (b := false) rfl g0_z (by decide)) ?_
      rw [if_neg ff]
      exact zw_t rfl (zw_some rfl)
    by_cases q2 : (0 ≤ a ∧ a ≤ b ∧ b ≤ 9999) ∧ 1 ≤ s
    · have hd := Int.ediv_nonneg (show 0 ≤ b - a by omega) (show 0 ≤ s by omega)
      have hdl : (b - a) / s ≤ b - a := Int.ediv_le_self _ (by omega)
      have edv : ∀ {α : Type} (F : Int32 → Option α), bd (idivF (zi b - zi a) (zi s)) F = F (zi ((b - a) / s)) := fun F => by
        rw [idivF_ok (a := b - a) (b := s) (zi_sub _ _) rfl (by omega) (by omega) (by omega) (by omega), bd_v]
      have head2 : ∀ H : AH, RH D (sI H 240 0 0) → ∀ Q : Int32 × AH → Prop, zw (j_X10_prices_91 (zi t) (zi a) (zi s) 1 (zi ((b - a) / s) + 1) (sI H 240 0 0)) Q → zw (s_X10_prices (zi t) (zi a) (zi b) (zi s) H) Q := by
        intro H y Q hh
        refine head H y Q ?_
        refine zw_bd1 (r_within rfl ((show (0 : Int32) = zi 0 from zi_lit 0)) ((show (9999 : Int32) = zi 9999 from zi_lit 9999)) ha1 ha2 (by decide) (by decide) (by decide) (by decide)) ?_
        rw [if_pos (decide_eq_true (show 0 ≤ a ∧ a ≤ 9999 by omega))]
        refine zw_f one_ne ?_
        refine zw_bd1 (r_within rfl rfl ((show (9999 : Int32) = zi 9999 from zi_lit 9999)) hb1 hb2 ha1 ha2 (by decide) (by decide)) ?_
        rw [if_pos (decide_eq_true (show a ≤ b ∧ b ≤ 9999 by omega))]
        refine zw_f one_ne ?_
        refine zw_f (by rw [(show (1 : Int32) = zi 1 from zi_lit 1), zi_lt (by omega) (by omega) (by omega) (by omega)]; omega) ?_
        unfold j_X10_prices_72
        refine zw_f one_ne ?_
        rw [edv]
        exact hh
      by_cases q3 : (b - a) / s < 60
      · have p := pAll_of q2.1.1 q2.1.2.1 q2.1.2.2 q2.2 hs2 q3
        generalize hn : ((b - a) / s + 1).toNat = n at p
        have en : zi ((b - a) / s) + 1 = zi (n : Int) := by rw [show zi ((b - a) / s) + 1 = zi ((b - a) / s + 1) from zi_add _ 1]; exact congrArg zi (by omega)
        obtain ⟨⟨v, h1⟩, e1, hv, f1, g1, b1⟩ := c_through x p (t := t.toNat) (by omega) ea rfl rfl rfl
        dsimp only at hv f1 g1 b1
        subst hv
        have fa : Fr (fun a k => SC a k ∨ a = 219 ∨ (a = 215 ∧ k = 4)) h (sI (sL h1 277 0 (zi n).toInt64) 240 0 0) := (((f1.mono (by unfold SC; omega)).sL (Or.inl (by unfold SC; omega))).sI (Or.inl (by unfold SC; omega)))
        have yr : YR D (sI (sL h1 277 0 (zi n).toInt64) 240 0 0) := x.r.fr fa (by intro a k; unfold YRa SC; omega)
        obtain ⟨⟨v2, h2⟩, e2, hv2, f2, y2, g2, b2⟩ := r_through x.wf yr p (t := t.toNat) (by omega) q1.2 g0_z
        dsimp only at hv2 f2 y2 g2 b2
        subst hv2
        have bn := p.2.2.2.2.2.1
        have bn2 := p.2.2.2.2.2.2.1
        obtain ⟨c1, c3, c4, c02⟩ := b1
        obtain ⟨d0, d1, d2, d3, d4⟩ := b2 (by omega)
        have cell : ∀ i, i < 5 → gL h2 219 i = gL h1 219 i := fun i hi => by rw [f2.l (by omega), gL_sI, gL_sL, if_neg (by omega)]
        have zf : IVf1 h2 := by
          refine Or.inr ⟨?_, g2, fun i hi => ?_⟩
          · rw [f2.i (by omega), gI_sI, if_neg (by omega), gI_sL]
            exact g1
          · rw [cell i hi]
            have hc : i = 0 ∨ i = 1 ∨ i = 2 ∨ i = 3 ∨ i = 4 := by omega
            rcases hc with rfl | rfl | rfl | rfl | rfl
            · rw [(c02 bn).1, d0]
            · rw [c1, d1]
            · rw [(c02 bn).2, d2]
            · rw [c3, d3]
            · rw [c4, d4]
        have x2 : IVd D T h2 := x.frP (fa.trans2 f2 (fun a k q => q.elim Or.inl (fun q => Or.inr (by omega))) (fun a k q => Or.inr (by omega))) y2 zf
        refine ⟨0, sL h1 277 0 (zi n).toInt64, zi n, h2, ?_, zw_o ?_, ?_, fun _ => ?_, D, T, x2⟩
        · unfold s_L_prices
          rw [if_pos rfl, cls, if_neg (by omega), if_neg (by omega), if_neg (by omega), if_neg (by omega), edv, if_pos (by rw [(show (60 : Int32) = zi 60 from zi_lit 60), zi_lt (by omega) (by omega) (by omega) (by omega)]; exact q3), e1, bd_v, bd_v, sm_l]
          exact hl_v rfl
        · refine head2 (sL h1 277 0 (zi n).toInt64) ?_ _ ?_
          · exact yr.1
          · rw [en, ea]
            unfold j_X10_prices_91
            refine zw_f one_ne (zw_f ?_ ⟨_, e2, rfl⟩)
            rw [(show (60 : Int32) = zi 60 from zi_lit 60), zi_lt (by omega) (by omega) (by omega) (by omega)]
            omega
        · rw [f2.i (by omega)]
          exact g0_z
        · show gL h2 277 0 = _
          rw [f2.l (by omega), gL_sI, gL_sL, if_pos ⟨rfl, rfl⟩]
      · refine ag_t (k := 2) (b := 0) x ?_ (by decide) (zw_o (head2 h x.z.rh _ ?_))
        · unfold s_L_prices
          rw [if_pos rfl, cls, if_neg (by omega), if_neg (by omega), if_neg (by omega), if_neg (by omega), edv, if_neg (by rw [(show (60 : Int32) = zi 60 from zi_lit 60), zi_lt (by omega) (by omega) (by omega) (by omega)]; exact q3)]
          rfl
        · unfold j_X10_prices_91
          refine zw_f one_ne (zw_t ?_ ?_)
          · rw [show zi ((b - a) / s) + 1 = zi ((b - a) / s + 1) from zi_add _ 1, (show (60 : Int32) = zi 60 from zi_lit 60), zi_lt (by omega) (by omega) (by omega) (by omega)]
            omega
          · unfold j_X10_prices_110 j_X10_prices_111
            refine zw_bd1 (r_right (b := false) rfl g0_z (by decide)) ?_
            rw [if_neg ff]
            exact zw_t rfl (zw_some rfl)
    · refine ag_t (k := 2) (b := 0) x ?_ (by decide) (zw_o (head h x.z.rh _ ?_))
      · unfold s_L_prices
        rw [if_pos rfl, cls]
        by_cases c1 : a < 0
        · rw [if_pos c1]; rfl
        · by_cases c2 : 9999 < b
          · rw [if_neg c1, if_pos c2]; rfl
          · by_cases c3 : b < a
            · rw [if_neg c1, if_neg c2, if_pos c3]; rfl
            · rw [if_neg c1, if_neg c2, if_neg c3, if_pos (by omega)]; rfl
      · refine zw_bd1 (r_within rfl ((show (0 : Int32) = zi 0 from zi_lit 0)) ((show (9999 : Int32) = zi 9999 from zi_lit 9999)) ha1 ha2 (by decide) (by decide) (by decide) (by decide)) ?_
        by_cases c1 : 0 ≤ a ∧ a ≤ 9999
        · rw [if_pos (decide_eq_true c1)]
          refine zw_f one_ne ?_
          refine zw_bd1 (r_within rfl rfl ((show (9999 : Int32) = zi 9999 from zi_lit 9999)) hb1 hb2 ha1 ha2 (by decide) (by decide)) ?_
          by_cases c2 : a ≤ b ∧ b ≤ 9999
          · rw [if_pos (decide_eq_true c2)]
            refine zw_f one_ne (zw_t ?_ (thr2 h))
            rw [(show (1 : Int32) = zi 1 from zi_lit 1), zi_lt (by omega) (by omega) (by omega) (by omega)]
            omega
          · rw [if_neg (fun z => c2 (of_decide_eq_true z))]
            exact zw_t rfl (thr2 h)
        · rw [if_neg (fun z => c1 (of_decide_eq_true z))]
          exact zw_t rfl (thr2 h)
  · refine ag_t (k := 1) (b := 0) x ?_ (by decide) (zw_o ?_)
    · unfold s_L_prices s_X9_prices
      rw [if_pos rfl, c_needT rfl ht1 ht2]
      by_cases c1 : 0 ≤ t ∧ t < 5
      · have ea : zi t = zi (t.toNat : Nat) := congrArg zi (by omega)
        have e : D.P t.toNat = -1 := by
          by_cases c2 : t = 0
          · rw [c2]; exact x.wf.p.1
          · by_cases c3 : D.P t.toNat = -1
            · exact c3
            · exact absurd ⟨by omega, c3⟩ q1
        rw [if_pos c1, bd_v, sm_l, x.t8, bd_v, if_pos x.tl.l0, c_price x.tl x.ch ea (by omega), bd_v, if_pos (by rw [e]; rfl)]
        rfl
      · rw [if_neg c1]; rfl
    · unfold s_X10_prices
      refine zw_bd1 (r_within rfl ((show (1 : Int32) = zi 1 from zi_lit 1)) ((show (4 : Int32) = zi 4 from zi_lit 4)) ht1 ht2 (by decide) (by decide) (by decide) (by decide)) ?_
      by_cases c1 : 1 ≤ t ∧ t ≤ 4
      · have ea : zi t = zi (t.toNat : Nat) := congrArg zi (by omega)
        have e : D.P t.toNat = -1 := by
          by_cases c3 : D.P t.toNat = -1
          · exact c3
          · exact absurd ⟨by omega, c3⟩ q1
        rw [if_pos (decide_eq_true c1)]
        refine zw_f one_ne ?_
        refine zw_bd1 (r_P x.z.rh ea (by omega)) ?_
        exact zw_t (by rw [e]; rfl) (thr1 h)
      · rw [if_neg (fun z => c1 (of_decide_eq_true z))]
        exact zw_t rfl (thr1 h)
end
