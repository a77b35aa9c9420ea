/-! 67.full: full, standing -/
section
variable {D : HD} {T : Nat} {h : AH}
theorem Fr.sc {S S2 : Nat → Nat → Prop} {h h1 : AH} (x : Fr S h h1) (y : ∀ a k, S a k → S2 a k) : Fr S2 h h1 := x.mono y
theorem c_standing (x : IVd D T h) {e : Nat} {a : Int32} (ha : a = zi e) (he : e < D.N) : zw (s_X1_standing (some 13) (some T) a h) (fun r => r.1 = zi (abv (sD D e D.K) D.ch (dOff D D.K + 1)) ∧ Fr (fun a j => a = 212 ∨ (a = 211 ∧ (j = 1 ∨ j = 2))) h r.2) := by
  have hD := x.wf
  have hK := hD.K6
  have hN := hD.N16
  have h6 := x.2.1
  have dl := dOff_le h6
  subst ha
  unfold s_X1_standing
  rw [if_pos rfl, bd_v, if_pos x.tl.l0]
  refine zw_bd c_clear ?_
  rintro ⟨u1, g1⟩ ⟨f1, n1⟩
  dsimp only at f1 n1 ⊢
  refine zw_bd (P := fun y => Fr (fun a j => a = 212 ∨ (a = 211 ∧ (j = 1 ∨ j = 2))) h y.2 ∧ CN (dOff D D.K) (sD D e D.K) y.2) ?_ ?_
  · refine zw_for D.K (fun i => zi i) () (fun k h' => Fr (fun a j => a = 212 ∨ (a = 211 ∧ (j = 1 ∨ j = 2))) h h' ∧ CN (dOff D k) (sD D e k) h') (by omega) rfl ⟨f1, n1⟩ ?_ ?_
    · rintro k h' hk ⟨hf, hn⟩
      have y := x.fr (hf.mono (by unfold SC; omega))
      have bq := cq_b hD (t := dB D k) hk he
      have bc := cf_b hD (t := dB D k) hk he
      have bm := (hD.q k hk).1
      have d1 := dl k (by omega)
      have d2 := h6 k hk
      unfold l_X1_standing_7
      refine zw_f (by rw [y.ch.1.2.2.2.1, zi_le (by omega) (by omega) (by omega) (by omega)]; omega) ?_
      refine zw_bd1 (c_boughtBy hD y.c rfl hk) ?_
      rw [bd_v, if_pos (PL.of (by omega : k < 6) (dB_lt D k)).l0]
      refine zw_bd1 (c_coming hD y.c rfl hk (dB_lt D k) he) ?_
      refine zw_bd1 (idivF_ok (a := cf D k (dB D k) e) rfl ((show (1000 : Int32) = zi 1000 from zi_lit 1000)) bc.1 (by omega) (by decide) (by decide)) ?_
      refine zw_bd1 (c_many hD y.tl y.ch rfl hk) ?_
      refine zw_bd (P := fun y => Fr (fun a j => a = 212 ∨ (a = 211 ∧ (j = 1 ∨ j = 2))) h y.2 ∧ CN (dOff D k + (D.Q k 0).toNat) (nI2 (cf D k (dB D k) e / 1000) (D.Q k 0).toNat (sD D e k)) y.2) ?_ ?_
      · refine zw_for (D.Q k 0).toNat (fun i => zi i) () (fun i h' => Fr (fun a j => a = 212 ∨ (a = 211 ∧ (j = 1 ∨ j = 2))) h h' ∧ CN (dOff D k + i) (nI2 (cf D k (dB D k) e / 1000) i (sD D e k)) h') (by omega) rfl ⟨hf, hn⟩ ?_ ?_
        · rintro i h2 hi ⟨hf2, hn2⟩
          unfold l_X1_standing_46
          refine zw_f (by rw [zi_le (by omega) (by omega) (by omega) (by omega)]; omega) ?_
          refine zw_bd (c_add (by omega) (nI2_b bq (sD_b hD he k (by omega)) i) bq hn2 rfl) ?_
          rintro ⟨u3, g3⟩ ⟨f3, n3⟩
          exact zw_some ⟨congrArg Sum.inl (by first | (simp only [zi_lit, zi_neg, zi_add, zi_sub, zi_mul, zl_lit, zl_neg, zl_add, zl_sub, zl_mul, zl_i]; exact congrArg zi (by omega)) | (simp only [zi_lit, zi_neg, zi_add, zi_sub, zi_mul, zl_lit, zl_neg, zl_add, zl_sub, zl_mul, zl_i]; done) | exact congrArg zi (by omega)), hf2.trans f3, n3⟩
        · rintro h2 ⟨hf2, hn2⟩
          unfold l_X1_standing_46
          exact zw_t (by rw [zi_le (by omega) (by omega) (by omega) (by omega)]; omega) (zw_some ⟨rfl, hf2, hn2⟩)
      · rintro ⟨u3, g3⟩ ⟨f3, n3⟩
        exact zw_some ⟨congrArg Sum.inl (by first | (simp only [zi_lit, zi_neg, zi_add, zi_sub, zi_mul, zl_lit, zl_neg, zl_add, zl_sub, zl_mul, zl_i]; exact congrArg zi (by omega)) | (simp only [zi_lit, zi_neg, zi_add, zi_sub, zi_mul, zl_lit, zl_neg, zl_add, zl_sub, zl_mul, zl_i]; done) | exact congrArg zi (by omega)), f3, n3⟩
    · rintro h' ⟨hf, hn⟩
      have y := x.fr (hf.mono (by unfold SC; omega))
      unfold l_X1_standing_7
      exact zw_t (by rw [y.ch.1.2.2.2.1, zi_le (by omega) (by omega) (by omega) (by omega)]; omega) (zw_some ⟨rfl, hf, hn⟩)
  · rintro ⟨u2, g2⟩ ⟨f2, n2⟩
    dsimp only at f2 n2 ⊢
    have y := x.fr (f2.mono (by unfold SC; omega))
    have d1 := dl D.K (Nat.le_refl _)
    refine zw_bd1 (c_above (by omega) (sD_b hD he D.K (Nat.le_refl _)) n2 hD.c.1 y.ch.1.1) ?_
    exact zw_some ⟨rfl, f2⟩
theorem r_standing (x : IVd D T h) {e : Nat} {a : Int32} (ha : a = zi e) (he : e < D.N) : zw (s_X10_standing a h) (fun r => r.1 = zl (abv (sD D e D.K) D.ch (dOff D D.K + 1)) ∧ Fr (fun a j => a = 259) h r.2) := by
  have hD := x.wf
  have hK := hD.K6
  have hN := hD.N16
  have h6 := x.2.1
  have dl := dOff_le h6
  subst ha
  unfold s_X10_standing
  refine zw_bd r_nobody ?_
  rintro ⟨u1, g1⟩ ⟨f1, n1⟩
  dsimp only at f1 n1 ⊢
  refine zw_bd (P := fun y => y.1 = zi (dOff D D.K : Nat) ∧ Fr (fun a _ => a = 259) h y.2 ∧ RN (sD D e D.K) y.2) ?_ ?_
  · refine zw_for D.K (fun k => (zi (dOff D k : Nat), zi k)) (zi (dOff D D.K : Nat)) (fun k h' => Fr (fun a _ => a = 259) h h' ∧ RN (sD D e k) h') (by omega) rfl ⟨f1, n1⟩ ?_ ?_
    · rintro k h' hk ⟨hf, hn⟩
      have y := x.fr (hf.mono (by unfold SC; omega))
      have bq := cq_b hD (t := dB D k) hk he
      have bc := cf_b hD (t := dB D k) hk he
      have bm := (hD.q k hk).1
      have d1 := dl k (by omega)
      have d2 := h6 k hk
      unfold l_X10_standing_8
      dsimp only
      refine zw_f (by rw [y.rh.1.2.2.2.1, zi_le (by omega) (by omega) (by omega) (by omega)]; omega) ?_
      refine zw_bd1 (r_comingG hD y.rh y.r.g (dG_ok hD) rfl rfl hk he) ?_
      refine zw_bd1 (ldivF_ok (a := cf D k (dB D k) e) rfl ((show (1000 : Int64) = zl 1000 from zl_lit 1000)) bc.1 (by omega) (by decide) (by decide)) ?_
      refine zw_bd (P := fun y => y.1 = zi (dOff D (k + 1) : Nat) ∧ Fr (fun a _ => a = 259) h y.2 ∧ RN (nI2 (cf D k (dB D k) e / 1000) (D.Q k 0).toNat (sD D e k)) y.2) ?_ ?_
      · refine zw_for (D.Q k 0).toNat (fun i => (zi (dOff D k + i : Nat), zi i)) (zi (dOff D (k + 1) : Nat)) (fun i h' => Fr (fun a _ => a = 259) h h' ∧ RN (nI2 (cf D k (dB D k) e / 1000) i (sD D e k)) h') (by omega) rfl ⟨hf, hn⟩ ?_ ?_
        · rintro i h2 hi ⟨hf2, hn2⟩
          have y2 := x.fr (hf2.mono (by unfold SC; omega))
          unfold l_X10_standing_31
          refine zw_bd1 (r_of hD y2.rh rfl (w := 0) ((show (0 : Int32) = zi 0 from zi_lit 0)) hk (by decide)) ?_
          dsimp only
          refine zw_f (by rw [zi_le (by omega) (by omega) (by omega) (by omega)]; omega) ?_
          refine zw_bd (r_oneMore (m := dOff D k + i) (by omega) (nI2_b bq (sD_b hD he k (by omega)) i) bq hn2 rfl rfl) ?_
          rintro ⟨u3, g3⟩ ⟨f3, n3⟩
          refine zw_some ⟨congrArg Sum.inl (Prod.ext ?_ ?_), hf2.trans f3, n3⟩
          · exact (by first | (simp only [zi_lit, zi_neg, zi_add, zi_sub, zi_mul, zl_lit, zl_neg, zl_add, zl_sub, zl_mul, zl_i]; exact congrArg zi (by omega)) | (simp only [zi_lit, zi_neg, zi_add, zi_sub, zi_mul, zl_lit, zl_neg, zl_add, zl_sub, zl_mul, zl_i]; done) | exact congrArg zi (by omega))
          · exact (by first | (simp only [zi_lit, zi_neg, zi_add, zi_sub, zi_mul, zl_lit, zl_neg, zl_add, zl_sub, zl_mul, zl_i]; exact congrArg zi (by omega)) | (simp only [zi_lit, zi_neg, zi_add, zi_sub, zi_mul, zl_lit, zl_neg, zl_add, zl_sub, zl_mul, zl_i]; done) | exact congrArg zi (by omega))
        · rintro h2 ⟨hf2, hn2⟩
          have y2 := x.fr (hf2.mono (by unfold SC; omega))
          unfold l_X10_standing_31
          refine zw_bd1 (r_of hD y2.rh rfl (w := 0) ((show (0 : Int32) = zi 0 from zi_lit 0)) hk (by decide)) ?_
          dsimp only
          exact zw_t (by rw [zi_le (by omega) (by omega) (by omega) (by omega)]; omega) (zw_some ⟨rfl, rfl, hf2, hn2⟩)
      · rintro ⟨u3, g3⟩ ⟨e3, f3, n3⟩
        dsimp only at e3
        subst e3
        exact zw_some ⟨congrArg Sum.inl (Prod.ext rfl (by first | (simp only [zi_lit, zi_neg, zi_add, zi_sub, zi_mul, zl_lit, zl_neg, zl_add, zl_sub, zl_mul, zl_i]; exact congrArg zi (by omega)) | (simp only [zi_lit, zi_neg, zi_add, zi_sub, zi_mul, zl_lit, zl_neg, zl_add, zl_sub, zl_mul, zl_i]; done) | exact congrArg zi (by omega))), f3, n3⟩
    · rintro h' ⟨hf, hn⟩
      have y := x.fr (hf.mono (by unfold SC; omega))
      unfold l_X10_standing_8
      dsimp only
      exact zw_t (by rw [y.rh.1.2.2.2.1, zi_le (by omega) (by omega) (by omega) (by omega)]; omega) (zw_some ⟨rfl, rfl, hf, hn⟩)
  · rintro ⟨u2, g2⟩ ⟨e2, f2, n2⟩
    dsimp only at e2 f2 n2 ⊢
    subst e2
    have y := x.fr (f2.mono (by unfold SC; omega))
    have d1 := dl D.K (Nat.le_refl _)
    refine zw_bd1 (r_above (by omega) (sD_b hD he D.K (Nat.le_refl _)) n2 y.rh.1.1 hD.c.1 rfl) ?_
    exact zw_some ⟨rfl, f2⟩
theorem g_full (x : IVd D T h) (a0 a1 : Int32) : ag Int32.toInt64 (s_L_full (some 0) a0 a1 (some 277) h) (s_X10_full a0 a1) := by
  obtain ⟨a, rfl, ha1, ha2⟩ := zi_of a0
  obtain ⟨b, rfl, hb1, hb2⟩ := zi_of a1
  have hN := x.wf.N16
  by_cases q1 : 0 ≤ a ∧ a < D.N
  · have ea : zi a = zi (a.toNat : Nat) := congrArg zi (by omega)
    by_cases q2 : 0 ≤ b ∧ b ≤ 1
    · have head : ∀ (H : AH), IVd D T H → ∀ Q : Int32 × AH → Prop, zw (if zi b = 0 then bd (s_X10_fullAll (zi a) (sI H 240 0 0)) fun x4 => some (x4.toInt32, sI H 240 0 0) else bd (s_X10_standing (zi a) (sI H 240 0 0)) fun q3 => some (q3.1.toInt32, q3.2)) Q → zw (s_X10_full (zi a) (zi b) H) Q := by
        intro H y Q hh
        have ans : zw (j_X10_full_23 (zi a) (zi b) (sI H 240 0 0)) Q := by
          unfold j_X10_full_23 j_X10_full_28
          refine zw_bd1 (r_right (b := true) rfl g0_z (by decide)) ?_
          rw [if_pos rfl]
          exact zw_f one_ne hh
        unfold s_X10_full
        refine zw_bd1 (r_isE y.z.rh hN rfl ha1 ha2 g0_z) ?_
        rw [if_pos q1]
        refine zw_f one_ne ?_
        by_cases q0 : b = 0
        · exact zw_t (by rw [q0]; rfl) ans
        · exact zw_f (zi_nk ((show (0 : Int32) = zi 0 from zi_lit 0)) q0 hb1 hb2) (zw_t (by rw [show b = 1 by omega]; rfl) ans)
      by_cases q0 : b = 0
      · refine ag_v (v := (zi (eFull D.K (dB D) (fun k => D.Q k 0) (cf D) a.toNat)).toInt64) x ?_ ?_
        · unfold s_L_full s_X9_full
          rw [if_pos rfl, c_needE x rfl ha1 ha2, if_pos q1, bd_v, sm_l, c_needW rfl ((show (1 : Int32) = zi 1 from zi_lit 1)) hb1 hb2 (by decide) (by decide), if_pos q2, bd_v, sm_l, if_pos (by rw [q0]; rfl), c_fullOn x.wf x.c ea (by omega) (ta := 14) rfl (fun k hk => ⟨x.c.2.2 k hk, dB_lt D k⟩), bd_v, zl_i, bd_v, sm_l]
          exact hl_v rfl
        · have y := x.o (zi (eFull D.K (dB D) (fun k => D.Q k 0) (cf D) a.toNat)).toInt64
          refine head _ y _ (zw_t (by rw [q0]; rfl) ?_)
          refine zw_bd1 (r_fullAll y.z.wf y.z.rh y.z.r.g (dG_ok y.wf) ea (by omega)) (zw_some ⟨?_, g0_z, frz _⟩)
          show ((zl _).toInt32).toInt64 = _
          rw [zl_i]
      · have hb : b = 1 := by omega
        obtain ⟨⟨v, h1⟩, e1, hv, f1⟩ := c_standing x ea (by omega)
        dsimp only at hv f1
        subst hv
        have x1 := x.fr (f1.mono (by unfold SC; omega))
        refine ag_v (v := (zi (abv (sD D a.toNat D.K) D.ch (dOff D D.K + 1))).toInt64) x1 ?_ ?_
        · unfold s_L_full s_X9_full
          rw [if_pos rfl, c_needE x rfl ha1 ha2, if_pos q1, bd_v, sm_l, c_needW rfl ((show (1 : Int32) = zi 1 from zi_lit 1)) hb1 hb2 (by decide) (by decide), if_pos q2, bd_v, sm_l, if_neg (zi_nk ((show (0 : Int32) = zi 0 from zi_lit 0)) q0 hb1 hb2), x.t8, bd_v, if_pos x.tl.l0, e1, bd_v, bd_v, sm_l]
          exact hl_v rfl
        · have y := x1.o (zi (abv (sD D a.toNat D.K) D.ch (dOff D D.K + 1))).toInt64
          refine head _ y _ (zw_f (zi_nk ((show (0 : Int32) = zi 0 from zi_lit 0)) q0 hb1 hb2) ?_)
          refine zw_bd (r_standing y.z ea (by omega)) ?_
          rintro ⟨v2, h2⟩ ⟨hv2, f2⟩
          dsimp only at hv2 f2
          subst hv2
          refine zw_some ⟨?_, ?_, ?_⟩
          · show ((zl _).toInt32).toInt64 = _
            rw [zl_i]
          · show gI h2 240 0 = 0
            rw [f2.i (by omega)]
            exact g0_z
          · exact (frz _).trans (f2.mono (by unfold SC; omega))
    · refine ag_t (k := 1) (b := 0) x ?_ (by decide) ?_
      · unfold s_L_full s_X9_full
        rw [if_pos rfl, c_needE x rfl ha1 ha2, if_pos q1, bd_v, sm_l, c_needW rfl ((show (1 : Int32) = zi 1 from zi_lit 1)) hb1 hb2 (by decide) (by decide), if_neg q2]
        rfl
      · refine zw_o ?_
        unfold s_X10_full
        refine zw_bd1 (r_isE x.z.rh hN rfl ha1 ha2 g0_z) ?_
        rw [if_pos q1]
        refine zw_f one_ne ?_
        refine zw_f (zi_nk ((show (0 : Int32) = zi 0 from zi_lit 0)) (by omega : b ≠ 0) hb1 hb2) (zw_f (zi_nk ((show (1 : Int32) = zi 1 from zi_lit 1)) (by omega : b ≠ 1) hb1 hb2) ?_)
        unfold j_X10_full_28
        refine zw_bd1 (r_right (b := false) rfl g0_z (by decide)) ?_
        rw [if_neg ff]
        exact zw_t rfl (zw_some rfl)
  · refine ag_t (k := 1) (b := 0) x ?_ (by decide) ?_
    · unfold s_L_full s_X9_full
      rw [if_pos rfl, c_needE x rfl ha1 ha2, if_neg q1]
      rfl
    · refine zw_o ?_
      unfold s_X10_full
      refine zw_bd1 (r_isE x.z.rh hN rfl ha1 ha2 g0_z) ?_
      rw [if_neg q1]
      exact zw_t rfl (zw_some rfl)
end
