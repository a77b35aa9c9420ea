/-! 70.often: goes, often -/
section
variable {D : HD} {T : Nat} {h : AH}
theorem g_goes (x : IVd D T h) (a0 a1 a2 a3 : Int32) : ag (fun b : Int32 => if b = 0 then (0 : Int64) else 1) (s_L_goes (some 0) a0 a1 a2 a3 (some 277) h) (s_X10_goes a0 a1 a2 a3) := by
  obtain ⟨a, rfl, ha1, ha2⟩ := zi_of a0
  obtain ⟨b, rfl, hb1, hb2⟩ := zi_of a1
  obtain ⟨c, rfl, hc1, hc2⟩ := zi_of a2
  obtain ⟨n, rfl, hn1, hn2⟩ := zi_of a3
  have hK := x.wf.K6
  have hN := x.wf.N16
  have thr : zw (j_X10_goes_47 (zi a) (zi b) (zi c) (zi n) (sI h 240 0 0)) (fun r => r = (0, sI (sI h 240 0 0) 240 0 1)) := by
    unfold j_X10_goes_47 j_X10_goes_48
    refine zw_bd1 (r_right (b := false) rfl g0_z (by decide)) ?_
    rw [if_neg ff]
    exact zw_t rfl (zw_some rfl)
  by_cases q1 : 0 ≤ a ∧ a < D.K
  · have ea : zi a = zi (a.toNat : Nat) := congrArg zi (by omega)
    have hk : a.toNat < D.K := by omega
    by_cases q2 : 0 ≤ b ∧ b < D.N
    · have eb : zi b = zi (b.toNat : Nat) := congrArg zi (by omega)
      have he : b.toNat < D.N := by omega
      by_cases q3 : 0 ≤ c ∧ c ≤ 12
      · have ec : zi c = zi (c.toNat : Nat) := congrArg zi (by omega)
        by_cases q4 : 0 ≤ n ∧ n ≤ 16
        · have en : zi n = zi (n.toNat : Nat) := congrArg zi (by omega)
          have hbt := dB_lt D a.toNat
          have hp := PL.of (k := a.toNat) (t := dB D a.toNat) (by omega) hbt
          have po := x.c.2.1 a.toNat (dB D a.toNat) hk hbt
          have gc : ∀ c', (dB D a.toNat = 2 → c' = c.toNat) → pGo D (rSet D) a.toNat (dB D a.toNat) 2 (D.N - 1 - b.toNat) c' n.toNat = pGo D (rSet D) a.toNat (dB D a.toNat) 2 (D.N - 1 - b.toNat) c.toNat n.toNat := by
            intro c' hc'
            by_cases ht2 : dB D a.toNat = 2
            · rw [hc' ht2]
            · rw [pGo_c ht2 _ c', pGo_c ht2 _ c.toNat]
          have tk : s_X2_takes (31 + 6 * (5 * a.toNat + dB D a.toNat)) (zi b) (zi c) (zi n) h = some (if pGo D (rSet D) a.toNat (dB D a.toNat) 2 (D.N - 1 - b.toNat) c.toNat n.toNat = true then 1 else 0) := by
            by_cases ht2 : dB D a.toNat = 2
            · exact c_takes x.wf hp (x.pk hp) po.1 (c := c.toNat) eb (fun _ => ec) (fun z => absurd ht2 z) en he (by unfold cs; rw [if_pos ht2]; omega) (by omega)
            · rw [c_takes x.wf hp (x.pk hp) po.1 (c := 0) eb (fun z => absurd z ht2) (fun _ => rfl) en he (by have := cs_le (dB D a.toNat); omega) (by omega), gc 0 (fun z => absurd z ht2)]
          generalize hg : pGo D (rSet D) a.toNat (dB D a.toNat) 2 (D.N - 1 - b.toNat) c.toNat n.toNat = g at *
          refine ag_v (v := if g = true then 1 else 0) x ?_ ?_
          · unfold s_L_goes s_X9_goes
            rw [if_pos rfl, c_needK x rfl ha1 ha2, if_pos q1, bd_v, sm_l, c_needE x rfl hb1 hb2, if_pos q2, bd_v, sm_l, c_needW rfl ((show (12 : Int32) = zi 12 from zi_lit 12)) hc1 hc2 (by decide) (by decide), if_pos q3, bd_v, sm_l, c_needW rfl ((show (16 : Int32) = zi 16 from zi_lit 16)) hn1 hn2 (by decide) (by decide), if_pos q4, bd_v, sm_l, c_boughtBy x.wf x.c ea hk, bd_v, bd_v, if_pos hp.l0, tk, bd_v]
            cases g
            · rw [if_neg ff, if_pos (Or.inl rfl), bd_v, sm_l, if_pos rfl]
              unfold j_L_goes_20
              exact hl_v rfl
            · rw [if_pos rfl, if_pos (Or.inr rfl), bd_v, sm_l, if_neg one_ne]
              unfold j_L_goes_20
              exact hl_v rfl
          · generalize hv : (if g = true then (1 : Int64) else 0) = v at *
            have y := x.o v
            unfold s_X10_goes
            refine zw_bd1 (r_isK y.z.rh hK rfl ha1 ha2 g0_z) ?_
            rw [if_pos q1]
            refine zw_f one_ne ?_
            refine zw_bd1 (r_isE y.z.rh hN rfl hb1 hb2 g0_z) ?_
            rw [if_pos q2]
            refine zw_f one_ne ?_
            refine zw_bd1 (r_within rfl ((show (0 : Int32) = zi 0 from zi_lit 0)) ((show (12 : Int32) = zi 12 from zi_lit 12)) hc1 hc2 (by decide) (by decide) (by decide) (by decide)) ?_
            rw [if_pos (decide_eq_true q3)]
            refine zw_f one_ne ?_
            refine zw_bd1 (r_within rfl ((show (0 : Int32) = zi 0 from zi_lit 0)) ((show (16 : Int32) = zi 16 from zi_lit 16)) hn1 hn2 (by decide) (by decide) (by decide) (by decide)) ?_
            rw [if_pos (decide_eq_true q4)]
            refine zw_f one_ne ?_
            unfold j_X10_goes_48
            refine zw_bd1 (r_right (b := true) rfl g0_z (by decide)) ?_
            rw [if_pos rfl]
            refine zw_f one_ne ?_
            refine zw_bd1 (y.z.buys ea hk) ?_
            refine zw_bd (r_plans (th := 2) y.wf y.z.rh hk hbt ea rfl (Or.inr ⟨rfl, rfl⟩)) ?_
            rintro ⟨u2, g2⟩ ⟨f2, rp⟩
            dsimp only at f2 rp ⊢
            unfold s_X10_at
            rw [bd_v]
            refine zw_bd1 (ldZ_ok (429 * b.toNat + 33 * c.toNat + n.toNat) (n := 7293) rfl (by rw [eb, ec, en]; exact (by first | (simp only [zi_lit, zi_neg, zi_add, zi_sub, zi_mul, zl_lit, zl_neg, zl_add, zl_sub, zl_mul, zl_i]; exact congrArg zi (by omega)) | (simp only [zi_lit, zi_neg, zi_add, zi_sub, zi_mul, zl_lit, zl_neg, zl_add, zl_sub, zl_mul, zl_i]; done) | exact congrArg zi (by omega))) (by omega)) ?_
            rw [rp.2 b.toNat c.toNat n.toNat he (by omega) (by omega), hg]
            have hz : gI g2 240 0 = 0 := by rw [f2.i (by omega)]; exact g0_z
            have hf : Fr (fun a k => SC a k ∧ a ≠ 277) (sL h 277 0 v) g2 := (frz _).trans (f2.mono (by unfold SC; omega))
            cases g
            · exact zw_t (Or.inl rfl) (zw_some ⟨hv, hz, hf⟩)
            · exact zw_t (Or.inr rfl) (zw_some ⟨hv, hz, hf⟩)
        · refine ag_t (k := 1) (b := 0) x ?_ (by decide) ?_
          · unfold s_L_goes s_X9_goes
            rw [if_pos rfl, c_needK x rfl ha1 ha2, if_pos q1, bd_v, sm_l, c_needE x rfl hb1 hb2, if_pos q2, bd_v, sm_l, c_needW rfl ((show (12 : Int32) = zi 12 from zi_lit 12)) hc1 hc2 (by decide) (by decide), if_pos q3, bd_v, sm_l, c_needW rfl ((show (16 : Int32) = zi 16 from zi_lit 16)) hn1 hn2 (by decide) (by decide), if_neg q4]
            rfl
          · refine zw_o ?_
            unfold s_X10_goes
            refine zw_bd1 (r_isK x.z.rh hK rfl ha1 ha2 g0_z) ?_
            rw [if_pos q1]
            refine zw_f one_ne ?_
            refine zw_bd1 (r_isE x.z.rh hN rfl hb1 hb2 g0_z) ?_
            rw [if_pos q2]
            refine zw_f one_ne ?_
            refine zw_bd1 (r_within rfl ((show (0 : Int32) = zi 0 from zi_lit 0)) ((show (12 : Int32) = zi 12 from zi_lit 12)) hc1 hc2 (by decide) (by decide) (by decide) (by decide)) ?_
            rw [if_pos (decide_eq_true q3)]
            refine zw_f one_ne ?_
            refine zw_bd1 (r_within rfl ((show (0 : Int32) = zi 0 from zi_lit 0)) ((show (16 : Int32) = zi 16 from zi_lit 16)) hn1 hn2 (by decide) (by decide) (by decide) (by decide)) ?_
            rw [if_neg (fun z => q4 (of_decide_eq_true z))]
            exact zw_t rfl thr
      · refine ag_t (k := 1) (b := 0) x ?_ (by decide) ?_
        · unfold s_L_goes s_X9_goes
          rw [if_pos rfl, c_needK x rfl ha1 ha2, if_pos q1, bd_v, sm_l, c_needE x rfl hb1 hb2, if_pos q2, bd_v, sm_l, c_needW rfl ((show (12 : Int32) = zi 12 from zi_lit 12)) hc1 hc2 (by decide) (by decide), if_neg q3]
          rfl
        · refine zw_o ?_
          unfold s_X10_goes
          refine zw_bd1 (r_isK x.z.rh hK rfl ha1 ha2 g0_z) ?_
          rw [if_pos q1]
          refine zw_f one_ne ?_
          refine zw_bd1 (r_isE x.z.rh hN rfl hb1 hb2 g0_z) ?_
          rw [if_pos q2]
          refine zw_f one_ne ?_
          refine zw_bd1 (r_within rfl ((show (0 : Int32) = zi 0 from zi_lit 0)) ((show (12 : Int32) = zi 12 from zi_lit 12)) hc1 hc2 (by decide) (by decide) (by decide) (by decide)) ?_
          rw [if_neg (fun z => q3 (of_decide_eq_true z))]
          exact zw_t rfl thr
    · refine ag_t (k := 1) (b := 0) x ?_ (by decide) ?_
      · unfold s_L_goes s_X9_goes
        rw [if_pos rfl, c_needK x rfl ha1 ha2, if_pos q1, bd_v, sm_l, c_needE x rfl hb1 hb2, if_neg q2]
        rfl
      · refine zw_o ?_
        unfold s_X10_goes
        refine zw_bd1 (r_isK x.z.rh hK rfl ha1 ha2 g0_z) ?_
        rw [if_pos q1]
        refine zw_f one_ne ?_
        refine zw_bd1 (r_isE x.z.rh hN rfl hb1 hb2 g0_z) ?_
        rw [if_neg q2]
        exact zw_t rfl (zw_some rfl)
  · refine ag_t (k := 1) (b := 0) x ?_ (by decide) ?_
    · unfold s_L_goes s_X9_goes
      rw [if_pos rfl, c_needK x rfl ha1 ha2, if_neg q1]
      rfl
    · refine zw_o ?_
      unfold s_X10_goes
      refine zw_bd1 (r_isK x.z.rh hK rfl ha1 ha2 g0_z) ?_
      rw [if_neg q1]
      exact zw_t rfl (zw_some rfl)
/-- what kinder leaves behind in the class -/
def kdS (k t a j : Nat) : Prop := (a = 31 + 6 * (5 * k + t) ∧ (j = 7 ∨ j = 8)) ∨ a = 31 + 6 * (5 * k + t) + 4 ∨ a = 31 + 6 * (5 * k + t) + 5
theorem c_byChance (x : IVd D T h) {k t : Nat} {a b : Int32} (ha : a = zi k) (hb : b = zi t) (hk : k < D.K) (ht : t < 5) : zw (s_X0_valueByChance a b h) (fun r => r.1 = zl (pV D (rSet D) k t 1 D.N (c0 D t) 0) ∧ IVd D T r.2) := by
  have hD := x.wf
  have hK := hD.K6
  have bT := x.tl.b
  have hne := x.c.1.2.1
  have hp := PL.of (k := k) (t := t) (by omega) ht
  have hset : ∀ h' : AH, CH D T h' → ∀ e, e < D.N → gI h' (T + 2) e = zi (rSet D e) := fun h' y e he => y.2.2.1 e he
  have h01 : ∀ e, e < D.N → rSet D e = 0 ∨ rSet D e = 1 := fun e he => (hD.e e he).2.2.2
  unfold s_X0_valueByChance
  rw [c_planOf x.cb ha hb (by omega) ht, bd_v, x.t13, bd_v, if_pos x.tl.l0, bd_v, if_pos x.tl.l0, bd_v, if_pos hp.l0]
  refine zw_bd (c_make (set := rSet D) (th := 1) hD x.tl hp x.ch (x.pk hp) hk ha (Or.inl ⟨rfl, rfl⟩) x.tl.l2 (by omega) (hset h x.ch) h01) ?_
  rintro ⟨u1, g1⟩ ⟨f1, m1⟩
  dsimp only at f1 m1 ⊢
  have ch1 := x.ch.fr f1 (by intro a j; omega)
  have pk1 := (x.pk hp).fr f1 (by omega) (by omega)
  have t1 : gR g1 13 1 = some T := by rw [f1.r (by omega)]; exact x.t13
  unfold s_X2_value
  rw [if_pos hp.l0, bd_v, t1, bd_v, if_pos x.tl.l0, bd_v, if_pos x.tl.l0, m1.2.1]
  refine zw_bd (c_make (set := rSet D) (th := 2) hD x.tl hp ch1 pk1 hk ha (Or.inr ⟨rfl, rfl⟩) x.tl.l2 (by omega) (hset g1 ch1) h01) ?_
  rintro ⟨u2, g2⟩ ⟨f2, m2⟩
  dsimp only at f2 m2 ⊢
  have f : Fr (kdS k t) h g2 := (f1.trans f2).mono (by unfold kdS; intro a j q; exact q)
  obtain ⟨c1, c2, c3, c4, c5, c6, c7, c8, c9, c10, c11, c12, c13⟩ := x
  refine zw_some ⟨rfl, c1, c2, (f.r (by unfold kdS; omega)).trans c3, ⟨⟨c4.1.1, c4.1.2.1, c4.1.2.2.1.fr f (by unfold kdS; intro a j; omega), c4.1.2.2.2.1.fr f (by unfold kdS; intro j; omega), (f.r (by unfold kdS; omega)).trans c4.1.2.2.2.2.1, (f.r (by unfold kdS; omega)).trans c4.1.2.2.2.2.2.1, fun t' p' hp' => ?_⟩, fun k' t' hk' ht' => ?_, fun k' hk' => ?_⟩, c5.fr f (by unfold YRa kdS; intro a j; omega), c6.fr f (by unfold kdS; intro a j; omega), c7.fr f (by unfold kdS; intro a j; omega), c8.fr f (by unfold kdS; intro a j; omega), c9.fr f (by unfold kdS; intro a j; omega), c10.fr f (by unfold kdS; intro a j; omega), c11.fr f (by unfold kdS; intro a j; omega), c12.fr f hK (by unfold kdS; intro a j; omega), c13.fr f hK (by unfold kdS; intro a j; omega)⟩
  · have bp' := hp'.b
    refine (c4.1.2.2.2.2.2.2 t' p' hp').fr f ?_ ?_
    · rcases hp' with ⟨rfl, -⟩ | ⟨k'', _, _, rfl⟩ <;> unfold kdS <;> omega
    · rcases hp' with ⟨rfl, -⟩ | ⟨k'', _, _, rfl⟩ <;> unfold kdS <;> omega
  · by_cases q : k' = k ∧ t' = t
    · obtain ⟨rfl, rfl⟩ := q
      have po := c4.2.1 k' t' hk' ht'
      exact ⟨m2, po.2.1.fr f (by unfold kdS; omega) (by unfold kdS; omega) (by unfold kdS; intro j; omega) (by unfold kdS; intro j; omega), (f.l (by unfold kdS; omega)).trans po.2.2⟩
    · exact (c4.2.1 k' t' hk' ht').fr f (by unfold kdS; intro a j h1 h2; omega)
  · exact (f.i (by unfold kdS; omega)).trans (c4.2.2 k' hk')
def dKin (D : HD) (k : Nat) : Int := pV D (rSet D) k 1 1 D.N (c0 D 1) 0 - pV D (rSet D) k 0 1 D.N (c0 D 0) 0
def dKind (D : HD) (k : Nat) : Int := if dKin D k < 0 then -1 else if dKin D k / 1000 ≤ 9999 then dKin D k / 1000 else 9999
theorem dKin_b {D : HD} (hD : WFD D) {k : Nat} (hk : k < D.K) : (0 ≤ pV D (rSet D) k 1 1 D.N (c0 D 1) 0 ∧ pV D (rSet D) k 1 1 D.N (c0 D 1) 0 ≤ 16000000) ∧ (0 ≤ pV D (rSet D) k 0 1 D.N (c0 D 0) 0 ∧ pV D (rSet D) k 0 1 D.N (c0 D 0) 0 ≤ 16000000) := by
  have hN := hD.N16
  have a1 := pV_b hD (rSet D) (t := 1) (th := 1) hk (Or.inl rfl) D.N (c0 D 1) 0 (Nat.le_refl _) (by omega)
  have a2 := pV_b hD (rSet D) (t := 0) (th := 1) hk (Or.inl rfl) D.N (c0 D 0) 0 (Nat.le_refl _) (by omega)
  have e : (D.N : Int) ≤ 16 := by omega
  omega
theorem c_kinder (x : IVd D T h) {k : Nat} {a : Int32} (ha : a = zi k) (hk : k < D.K) : zw (s_X0_kinder a h) (fun r => r.1 = zl (dKind D k) ∧ IVd D T r.2) := by
  have bk := dKin_b x.wf hk
  unfold s_X0_kinder
  refine zw_bd (c_byChance x ha ((show (1 : Int32) = zi 1 from zi_lit 1)) hk (t := 1) (by decide)) ?_
  rintro ⟨v1, g1⟩ ⟨e1, x1⟩
  dsimp only at e1 x1 ⊢
  subst e1
  refine zw_bd (c_byChance x1 ha ((show (0 : Int32) = zi 0 from zi_lit 0)) hk (t := 0) (by decide)) ?_
  rintro ⟨v2, g2⟩ ⟨e2, x2⟩
  dsimp only at e2 x2 ⊢
  subst e2
  have ed : zl (pV D (rSet D) k 1 1 D.N (c0 D 1) 0) - zl (pV D (rSet D) k 0 1 D.N (c0 D 0) 0) = zl (dKin D k) := zl_sub _ _
  have bd2 : -16000000 ≤ dKin D k ∧ dKin D k ≤ 16000000 := by unfold dKin; omega
  rw [ed]
  unfold dKind
  by_cases q : dKin D k < 0
  · refine zw_f (by rw [(show (0 : Int64) = zl 0 from zl_lit 0), zl_le (by omega) (by omega) (by omega) (by omega)]; omega) (zw_some ⟨?_, x2⟩)
    rw [if_pos q]
    rfl
  · refine zw_t (by rw [(show (0 : Int64) = zl 0 from zl_lit 0), zl_le (by omega) (by omega) (by omega) (by omega)]; omega) ?_
    refine zw_bd1 (ldivF_ok rfl ((show (1000 : Int64) = zl 1000 from zl_lit 1000)) (by omega) (by omega) (by decide) (by decide)) (zw_some ⟨?_, x2⟩)
    show (if zl (dKin D k / 1000) < 9999 then zl (dKin D k / 1000) else 9999) = _
    rw [if_neg q]
    by_cases q2 : dKin D k / 1000 < 9999
    · rw [if_pos (by rw [(show (9999 : Int64) = zl 9999 from zl_lit 9999), zl_lt (by omega) (by omega) (by omega) (by omega)]; exact q2), if_pos (by omega)]
    · rw [if_neg (by rw [(show (9999 : Int64) = zl 9999 from zl_lit 9999), zl_lt (by omega) (by omega) (by omega) (by omega)]; exact q2), (show (9999 : Int64) = zl 9999 from zl_lit 9999)]
      split
      · exact congrArg zl (by omega)
      · rfl
theorem r_kinder (x : IVd D T h) {k : Nat} {a : Int32} (ha : a = zi k) (hk : k < D.K) : zw (s_X10_kinderOf a h) (fun r => r.1.toInt64 = zl (dKind D k) ∧ Fr (fun a _ => a = 251 ∨ a = 252) h r.2) := by
  have hD := x.wf
  have hN := hD.N16
  have bk := dKin_b hD hk
  have z1 : c0 D 1 = 0 := rfl
  have z0 : c0 D 0 = 0 := rfl
  unfold s_X10_kinderOf
  refine zw_bd (r_plans (t := 1) (th := 1) hD x.rh hk (by decide) ha ((show (1 : Int32) = zi 1 from zi_lit 1)) (Or.inl ⟨rfl, rfl⟩)) ?_
  rintro ⟨u1, g1⟩ ⟨f1, rp1⟩
  dsimp only at f1 rp1 ⊢
  unfold s_X10_at
  rw [bd_v]
  refine zw_bd1 (ldI_ok (429 * 0 + 33 * 0 + 0) (n := 7293) rfl rfl (by decide)) ?_
  rw [rp1.1 0 0 0 (by omega) (by decide) (by omega), Nat.sub_zero]
  have x1 := x.fr (f1.mono (by unfold SC; omega))
  refine zw_bd (r_plans (t := 0) (th := 1) hD x1.rh hk (by decide) ha ((show (0 : Int32) = zi 0 from zi_lit 0)) (Or.inl ⟨rfl, rfl⟩)) ?_
  rintro ⟨u2, g2⟩ ⟨f2, rp2⟩
  dsimp only at f2 rp2 ⊢
  rw [bd_v]
  refine zw_bd1 (ldI_ok (429 * 0 + 33 * 0 + 0) (n := 7293) rfl rfl (by decide)) ?_
  rw [rp2.1 0 0 0 (by omega) (by decide) (by omega), Nat.sub_zero]
  have ed : zi (pV D (rSet D) k 1 1 D.N 0 0) - zi (pV D (rSet D) k 0 1 D.N 0 0) = zi (dKin D k) := zi_sub _ _
  have bd2 : -16000000 ≤ dKin D k ∧ dKin D k ≤ 16000000 := by unfold dKin; omega
  rw [ed]
  refine zw_bd1 (r_floor (a := dKin D k) (by omega) (by omega) (zi_l (by omega) (by omega)) rfl) ?_
  unfold dKind
  have ff2 := f1.trans f2
  by_cases q : dKin D k < 0
  · refine zw_f (by rw [(show (0 : Int64) = zl 0 from zl_lit 0), zl_le (by omega) (by omega) (by omega) (by omega)]; omega) (zw_some ⟨?_, ff2⟩)
    rw [if_pos q]
    rfl
  · refine zw_t (by rw [(show (0 : Int64) = zl 0 from zl_lit 0), zl_le (by omega) (by omega) (by omega) (by omega)]; omega) ?_
    rw [if_neg q]
    by_cases q2 : dKin D k / 1000 ≤ 9999
    · refine zw_t (by rw [(show (9999 : Int64) = zl 9999 from zl_lit 9999), zl_le (by omega) (by omega) (by omega) (by omega)]; exact q2) (zw_some ⟨?_, ff2⟩)
      show ((zl (dKin D k / 1000)).toInt32).toInt64 = _
      rw [zl_i, zi_l (by omega) (by omega), if_pos q2]
    · refine zw_f (by rw [(show (9999 : Int64) = zl 9999 from zl_lit 9999), zl_le (by omega) (by omega) (by omega) (by omega)]; exact q2) (zw_some ⟨?_, ff2⟩)
      rw [if_neg q2]
      rfl
theorem r_thought (x : IVd D T h) {k : Nat} {a : Int32} (ha : a = zi k) (hk : k < D.K) : zw (s_X10_thoughtOf a h) (fun r => r.1 = zl (zs (dCome D (rSet D) k (dB D k) 2) D.N) ∧ Fr (fun a j => (251 ≤ a ∧ a ≤ 254) ∨ (a = 240 ∧ (j = 38 ∨ j = 39))) h r.2) := by
  have hD := x.wf
  have hN := hD.N16
  have hbt := dB_lt D k
  unfold s_X10_thoughtOf
  refine zw_bd1 (x.buys ha hk) ?_
  refine zw_bd (r_plans (t := dB D k) (th := 2) hD x.rh hk hbt ha rfl (Or.inr ⟨rfl, rfl⟩)) ?_
  rintro ⟨u1, g1⟩ ⟨f1, rp⟩
  dsimp only at f1 rp ⊢
  have x1 := x.fr (f1.mono (by unfold SC; omega))
  refine zw_bd (r_begins (k := k) (th := 2) hD x1.rh hbt rfl) ?_
  rintro ⟨u2, g2⟩ ⟨f2, rc⟩
  dsimp only at f2 rc ⊢
  refine zw_bd (P := fun y => y.1 = zl (zs (dCome D (rSet D) k (dB D k) 2) D.N) ∧ Fr (fun a j => (251 ≤ a ∧ a ≤ 254) ∨ (a = 240 ∧ (j = 38 ∨ j = 39))) h y.2) ?_ (fun y hy => zw_some hy)
  refine zw_for D.N (fun i => (zl (zs (dCome D (rSet D) k (dB D k) 2) i), zi i)) (zl (zs (dCome D (rSet D) k (dB D k) 2) D.N)) (fun i h' => Fr (fun a j => (251 ≤ a ∧ a ≤ 254) ∨ (a = 240 ∧ (j = 38 ∨ j = 39))) h h' ∧ RPlan D k (dB D k) 2 h' ∧ RCases D k (dB D k) 2 i h') (by omega) rfl ⟨(f1.mono (by omega)).trans (f2.mono (by omega)), rp.fr f2 (by intro j; omega) (by intro j; omega), rc⟩ ?_ ?_
  · rintro i h' hi ⟨hf, rpi, rci⟩
    have y := x.fr (hf.mono (by unfold SC; omega))
    unfold l_X10_thoughtOf_23
    dsimp only
    refine zw_f (by rw [y.rh.1.2.2.1, zi_le (by omega) (by omega) (by omega) (by omega)]; omega) ?_
    refine zw_bd (r_uses (th := 2) hD y.rh rpi hk hbt ha rfl rfl (Or.inr ⟨rfl, rfl, rfl⟩) hi rci) ?_
    rintro ⟨u4, g4⟩ ⟨f4, b38, b39, rc4⟩
    dsimp only at f4 b38 b39 rc4 ⊢
    refine zw_some ⟨congrArg Sum.inl (Prod.ext ?_ (by first | (simp only [zi_lit, zi_neg, zi_add, zi_sub, zi_mul, zl_lit, zl_neg, zl_add, zl_sub, zl_mul, zl_i]; exact congrArg zi (by omega)) | (simp only [zi_lit, zi_neg, zi_add, zi_sub, zi_mul, zl_lit, zl_neg, zl_add, zl_sub, zl_mul, zl_i]; done) | exact congrArg zi (by omega))), hf.trans (f4.mono (by omega)), rpi.fr f4 (by intro j; omega) (by intro j; omega), rc4⟩
    show zl _ + gL g4 240 38 = _
    rw [b38, zl_add]
    rfl
  · rintro h' ⟨hf, rpi, rci⟩
    have y := x.fr (hf.mono (by unfold SC; omega))
    unfold l_X10_thoughtOf_23
    dsimp only
    exact zw_t (by rw [y.rh.1.2.2.1, zi_le (by omega) (by omega) (by omega) (by omega)]; omega) (zw_some ⟨rfl, rfl, hf⟩)
theorem zCome_b {D : HD} (hD : WFD D) {k t th : Nat} (hk : k < D.K) (hth : th = 1 ∨ th = 2) : 0 ≤ zs (dCome D (rSet D) k t th) D.N ∧ zs (dCome D (rSet D) k t th) D.N ≤ 16000000000 := by
  have hN := hD.N16
  have a1 := zs_nn (f := dCome D (rSet D) k t th) (n := D.N) (fun i hi => (dCome_b hD (rSet D) hk hth hi).1)
  have a2 := zs_le (f := dCome D (rSet D) k t th) (n := D.N) (B := 1000000000) (fun i hi => (dCome_b hD (rSet D) hk hth hi).2)
  omega
/-- what a visit costs -/
def dPays (D : HD) (k : Nat) : Int := if dB D k = 0 ∨ zs (dCome D (rSet D) k (dB D k) 1) D.N = 0 then -1 else 1000 * D.P (dB D k) * 1000000000 / zs (dCome D (rSet D) k (dB D k) 1) D.N
theorem P_told {D : HD} (hD : WFD D) (k : Nat) (h0 : dB D k ≠ 0) : 0 ≤ D.P (dB D k) ∧ D.P (dB D k) ≤ 9999 := by
  have h1 := hD.p.2.1 (dB D k) (dB_lt D k)
  have h2 := bst_told (dW D k) D.P (D.Q k 10) 4
  have h3 : D.P (dB D k) ≠ -1 := by
    rcases h2 with q | q
    · exact absurd q h0
    · exact q
  omega
theorem c_pays (x : IVd D T h) {k : Nat} {a : Int32} (ha : a = zi k) (hk : k < D.K) : s_X0_pays a h = some (zl (dPays D k)) := by
  have hD := x.wf
  have hK := hD.K6
  have hbt := dB_lt D k
  have hp := PL.of (k := k) (t := dB D k) (by omega) hbt
  have zb := zCome_b hD (t := dB D k) (th := 1) hk (Or.inl rfl)
  unfold s_X0_pays s_X2_gone j_X0_pays_30 dPays
  rw [c_boughtBy hD x.c ha hk, bd_v, bd_v, if_pos hp.l0, if_pos hp.l0, bd_v, (x.c.2.1 k (dB D k) hk hbt).2.1.2.1, at_ok k (n := 6) rfl ha (by omega), bd_v, x.c.2.2 k hk]
  by_cases q0 : dB D k = 0
  · rw [if_pos (by rw [q0]; rfl), if_pos (Or.inl q0)]
    rfl
  · have bp := P_told hD k q0
    rw [if_neg (zi_nk ((show (0 : Int32) = zi 0 from zi_lit 0)) (by omega) (by omega) (by omega))]
    by_cases q1 : zs (dCome D (rSet D) k (dB D k) 1) D.N = 0
    · rw [if_neg (by rw [(show (0 : Int64) = zl 0 from zl_lit 0), zl_lt (by omega) (by omega) (by omega) (by omega)]; omega), if_pos (Or.inr q1)]
      rfl
    · rw [if_pos (by rw [(show (0 : Int64) = zl 0 from zl_lit 0), zl_lt (by omega) (by omega) (by omega) (by omega)]; omega), if_neg (by omega), x.t13, bd_v, if_pos x.tl.l0, c_price x.tl x.ch rfl hbt, bd_v, ldivF_ok (a := 1000 * D.P (dB D k) * 1000000000) (b := zs (dCome D (rSet D) k (dB D k) 1) D.N) (by rw [zi_l (by omega) (by omega)]; simp only [zi_lit, zi_neg, zi_add, zi_sub, zi_mul, zl_lit, zl_neg, zl_add, zl_sub, zl_mul, zl_i]) rfl (by omega) (by omega) (by omega) (by omega), bd_v]
def dOft (D : HD) (k : Nat) (w : Int) : Int := if w = 0 then zs (dCome D (rSet D) k (dB D k) 1) D.N else if w = 1 then zs (dSunk D (rSet D) k (dB D k) 1) D.N else if w = 2 then zs (dCome D (rSet D) k (dB D k) 2) D.N else if w = 3 then dPays D k else dKind D k
theorem c_often (x : IVd D T h) {k : Nat} {w : Int} (hk : k < D.K) (hw : 0 ≤ w ∧ w ≤ 4) {a : Int32} (ha : a = zi k) (ha1 : -2147483648 ≤ (k : Int)) : ∃ h1, s_X9_often a (zi w) h = some (.inl (zl (dOft D k w)), h1) ∧ IVd D T h1 := by
  have hD := x.wf
  have hK := hD.K6
  have hbt := dB_lt D k
  have hp := PL.of (k := k) (t := dB D k) (by omega) hbt
  have po := x.c.2.1 k (dB D k) hk hbt
  unfold s_X9_often
  rw [c_needK x ha (by omega) (by omega), if_pos (by omega : 0 ≤ (k : Int) ∧ (k : Int) < D.K), bd_v, sm_l, c_needW rfl ((show (4 : Int32) = zi 4 from zi_lit 4)) (by omega) (by omega) (by decide) (by decide), if_pos hw, bd_v, sm_l, c_boughtBy hD x.c ha hk, bd_v]
  unfold dOft
  by_cases w0 : w = 0
  · refine ⟨h, ?_, x⟩
    unfold s_X2_gone
    rw [if_pos (by rw [w0]; rfl), if_pos w0, bd_v, if_pos hp.l0, if_pos hp.l0, bd_v, po.2.1.2.1]
  · rw [if_neg (zi_nk ((show (0 : Int32) = zi 0 from zi_lit 0)) w0 (by omega) (by omega)), if_neg w0]
    by_cases w1 : w = 1
    · refine ⟨h, ?_, x⟩
      unfold s_X2_sunk
      rw [if_pos (by rw [w1]; rfl), if_pos w1, bd_v, if_pos hp.l0, if_pos hp.l0, bd_v, po.2.1.2.2.1]
    · rw [if_neg (zi_nk ((show (1 : Int32) = zi 1 from zi_lit 1)) w1 (by omega) (by omega)), if_neg w1]
      by_cases w2 : w = 2
      · refine ⟨h, ?_, x⟩
        unfold s_X2_thoughtGone
        rw [if_pos (by rw [w2]; rfl), if_pos w2, bd_v, if_pos hp.l0, if_pos hp.l0, bd_v, po.2.2]
      · rw [if_neg (zi_nk ((show (2 : Int32) = zi 2 from zi_lit 2)) w2 (by omega) (by omega)), if_neg w2]
        by_cases w3 : w = 3
        · refine ⟨h, ?_, x⟩
          rw [if_pos (by rw [w3]; rfl), if_pos w3, c_pays x ha hk, bd_v]
        · rw [if_neg (zi_nk ((show (3 : Int32) = zi 3 from zi_lit 3)) w3 (by omega) (by omega)), if_neg w3]
          obtain ⟨⟨v, h1⟩, e1, hv, x1⟩ := c_kinder x ha hk
          dsimp only at hv x1
          subst hv
          exact ⟨h1, by rw [e1, bd_v], x1⟩
theorem r_often (x : IVd D T h) {k : Nat} {w : Int} (hk : k < D.K) (hw : 0 ≤ w ∧ w ≤ 4) {a : Int32} (ha : a = zi k) : zw (s_X10_often a (zi w) h) (fun r => r.1 = zl (dOft D k w) ∧ gI r.2 240 0 = 0 ∧ Fr (fun a j => (251 ≤ a ∧ a ≤ 254) ∨ (a = 240 ∧ (j = 0 ∨ j = 38 ∨ j = 39))) h r.2) := by
  have hD := x.wf
  have hK := hD.K6
  have hbt := dB_lt D k
  have y := x.z
  have hw4 := y.r.2 k (dB D k) hk hbt
  have zb := zCome_b hD (t := dB D k) (th := 1) hk (Or.inl rfl)
  have f0 : Fr (fun a j => (251 ≤ a ∧ a ≤ 254) ∨ (a = 240 ∧ (j = 0 ∨ j = 38 ∨ j = 39))) h (sI h 240 0 0) := (Fr.refl _ h).sI (by omega)
  unfold s_X10_often
  refine zw_bd1 (r_isK y.rh hK ha (by omega) (by omega) g0_z) ?_
  rw [if_pos (by omega : 0 ≤ (k : Int) ∧ (k : Int) < D.K)]
  refine zw_f one_ne ?_
  refine zw_bd1 (r_within rfl ((show (0 : Int32) = zi 0 from zi_lit 0)) ((show (4 : Int32) = zi 4 from zi_lit 4)) (by omega) (by omega) (by decide) (by decide) (by decide) (by decide)) ?_
  refine zw_bd1 (r_right rfl g0_z (by decide)) ?_
  rw [if_pos (decide_eq_true hw)]
  refine zw_f one_ne ?_
  refine zw_bd1 (y.buys ha hk) ?_
  have e5 : (5 : Int32) * a + zi (dB D k) = zi ((5 * k + dB D k : Nat) : Int) := by rw [ha]; exact (by first | (simp only [zi_lit, zi_neg, zi_add, zi_sub, zi_mul, zl_lit, zl_neg, zl_add, zl_sub, zl_mul, zl_i]; exact congrArg zi (by omega)) | (simp only [zi_lit, zi_neg, zi_add, zi_sub, zi_mul, zl_lit, zl_neg, zl_add, zl_sub, zl_mul, zl_i]; done) | exact congrArg zi (by omega))
  rw [e5]
  unfold dOft
  by_cases w0 : w = 0
  · refine zw_t (by rw [w0]; rfl) ?_
    refine zw_bd1 (ldL_ok (5 * k + dB D k) (n := 30) rfl rfl (by omega)) (zw_some ⟨?_, g0_z, f0⟩)
    rw [if_pos w0]
    exact hw4.2.2.1
  · refine zw_f (zi_nk ((show (0 : Int32) = zi 0 from zi_lit 0)) w0 (by omega) (by omega)) ?_
    rw [if_neg w0]
    by_cases w1 : w = 1
    · refine zw_t (by rw [w1]; rfl) ?_
      refine zw_bd1 (ldL_ok (5 * k + dB D k) (n := 30) rfl rfl (by omega)) (zw_some ⟨?_, g0_z, f0⟩)
      rw [if_pos w1]
      exact hw4.2.2.2
    · refine zw_f (zi_nk ((show (1 : Int32) = zi 1 from zi_lit 1)) w1 (by omega) (by omega)) ?_
      rw [if_neg w1]
      by_cases w2 : w = 2
      · refine zw_t (by rw [w2]; rfl) ?_
        refine zw_bd (r_thought y ha hk) ?_
        rintro ⟨v, g1⟩ ⟨e1, f1⟩
        dsimp only at e1 f1
        subst e1
        refine zw_some ⟨?_, ?_, f0.trans (f1.mono (by omega))⟩
        · rw [if_pos w2]
        · show gI g1 240 0 = 0
          rw [f1.i (by omega)]
          exact g0_z
      · refine zw_f (zi_nk ((show (2 : Int32) = zi 2 from zi_lit 2)) w2 (by omega) (by omega)) ?_
        rw [if_neg w2]
        by_cases w3 : w = 3
        · refine zw_t (by rw [w3]; rfl) ?_
          rw [if_pos w3]
          unfold j_X10_often_110 dPays
          by_cases q0 : dB D k = 0
          · refine zw_t (by rw [q0]; rfl) (zw_some ⟨?_, g0_z, f0⟩)
            rw [if_pos (Or.inl q0)]
            rfl
          · have bp := P_told hD k q0
            refine zw_f (zi_nk ((show (0 : Int32) = zi 0 from zi_lit 0)) (by omega) (by omega) (by omega)) ?_
            refine zw_bd1 (ldL_ok (5 * k + dB D k) (n := 30) rfl rfl (by omega)) ?_
            rw [hw4.2.2.1]
            by_cases q1 : zs (dCome D (rSet D) k (dB D k) 1) D.N = 0
            · refine zw_t (by rw [q1]; rfl) (zw_some ⟨?_, g0_z, f0⟩)
              rw [if_pos (Or.inr q1)]
              rfl
            · refine zw_f (by rw [(show (0 : Int64) = zl 0 from zl_lit 0), zl_eq (by omega) (by omega) (by omega) (by omega)]; exact q1) ?_
              refine zw_bd1 (r_P y.rh rfl hbt) ?_
              refine zw_bd1 (ldL_ok (5 * k + dB D k) (n := 30) rfl rfl (by omega)) ?_
              rw [hw4.2.2.1]
              refine zw_bd1 (ldivF_ok (a := 1000 * D.P (dB D k) * 1000000000) (b := zs (dCome D (rSet D) k (dB D k) 1) D.N) (by rw [zi_l (by omega) (by omega)]; simp only [zi_lit, zi_neg, zi_add, zi_sub, zi_mul, zl_lit, zl_neg, zl_add, zl_sub, zl_mul, zl_i]) rfl (by omega) (by omega) (by omega) (by omega)) (zw_some ⟨?_, g0_z, f0⟩)
              rw [if_neg (by omega)]
        · refine zw_f (zi_nk ((show (3 : Int32) = zi 3 from zi_lit 3)) w3 (by omega) (by omega)) ?_
          rw [if_neg w3]
          refine zw_bd (r_kinder y ha hk) ?_
          rintro ⟨v, g1⟩ ⟨e1, f1⟩
          dsimp only at e1 f1
          refine zw_some ⟨e1, ?_, f0.trans (f1.mono (by omega))⟩
          show gI g1 240 0 = 0
          rw [f1.i (by omega)]
          exact g0_z
theorem g_often (x : IVd D T h) (a0 a1 : Int32) : ag (fun v => v) (s_L_often (some 0) a0 a1 (some 277) h) (s_X10_often a0 a1) := by
  obtain ⟨a, rfl, ha1, ha2⟩ := zi_of a0
  obtain ⟨w, rfl, hw1, hw2⟩ := zi_of a1
  have hK := x.wf.K6
  by_cases q1 : 0 ≤ a ∧ a < D.K
  · have ea : zi a = zi (a.toNat : Nat) := congrArg zi (by omega)
    have hk : a.toNat < D.K := by omega
    by_cases q2 : 0 ≤ w ∧ w ≤ 4
    · obtain ⟨h1, e1, x1⟩ := c_often x hk q2 ea (by omega)
      refine ag_v (v := zl (dOft D a.toNat w)) x1 ?_ ?_
      · unfold s_L_often
        rw [if_pos rfl, e1, bd_v, sm_l]
        exact hl_v rfl
      · have y := x1.o (zl (dOft D a.toNat w))
        refine zw_mono (r_often y hk q2 ea) ?_
        rintro ⟨v, g⟩ ⟨e2, z2, f2⟩
        exact ⟨e2, z2, f2.mono (by unfold SC; omega)⟩
    · refine ag_t (k := 1) (b := 0) x ?_ (by decide) ?_
      · unfold s_L_often s_X9_often
        rw [if_pos rfl, c_needK x rfl ha1 ha2, if_pos q1, bd_v, sm_l, c_needW rfl ((show (4 : Int32) = zi 4 from zi_lit 4)) hw1 hw2 (by decide) (by decide), if_neg q2]
        rfl
      · refine zw_o ?_
        unfold s_X10_often
        refine zw_bd1 (r_isK x.z.rh hK rfl ha1 ha2 g0_z) ?_
        rw [if_pos q1]
        refine zw_f one_ne ?_
        refine zw_bd1 (r_within rfl ((show (0 : Int32) = zi 0 from zi_lit 0)) ((show (4 : Int32) = zi 4 from zi_lit 4)) hw1 hw2 (by decide) (by decide) (by decide) (by decide)) ?_
        refine zw_bd1 (r_right rfl g0_z (by decide)) ?_
        rw [if_neg (fun z => q2 (of_decide_eq_true z))]
        exact zw_t rfl (zw_some rfl)
  · refine ag_t (k := 1) (b := 0) x ?_ (by decide) ?_
    · unfold s_L_often s_X9_often
      rw [if_pos rfl, c_needK x rfl ha1 ha2, if_neg q1]
      rfl
    · refine zw_o ?_
      unfold s_X10_often
      refine zw_bd1 (r_isK x.z.rh hK rfl ha1 ha2 g0_z) ?_
      rw [if_neg q1]
      exact zw_t rfl (zw_some rfl)
end
