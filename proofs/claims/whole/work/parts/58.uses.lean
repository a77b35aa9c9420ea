/-! 58.uses: the reference's uses and works -/
/-- the case (c, n) is lived in -/
def kC (D : HD) (t c n : Nat) : Prop := if t = 2 then c + n = c0 D t else c = 0
theorem kC_dec (D : HD) (t c n : Nat) : kC D t c n ∨ ¬ kC D t c n := Classical.em _
noncomputable def kV (D : HD) (t c n : Nat) (v : Int) : Int := if t = 2 then (if c + n = c0 D t then v else 0) else (if c = 0 then v else 0)
theorem kV_t {D : HD} {t c n : Nat} {v : Int} (h : kC D t c n) : kV D t c n v = v := by
  unfold kC at h
  unfold kV
  split <;> rename_i q
  · rw [if_pos q] at h; rw [if_pos h]
  · rw [if_neg q] at h; rw [if_pos h]
theorem kV_f {D : HD} {t c n : Nat} {v : Int} (h : ¬ kC D t c n) : kV D t c n v = 0 := by
  unfold kC at h
  unfold kV
  split <;> rename_i q
  · rw [if_pos q] at h; rw [if_neg h]
  · rw [if_neg q] at h; rw [if_neg h]
def RCases (D : HD) (k t th e : Nat) (h : AH) : Prop := ∀ c n, c < 13 → n < 33 → gL h 253 (33 * c + n) = zl (kV D t c n (dF D (rSet D) k t th e n))
section
variable {D : HD} {h : AH} {t k th : Nat}
/-- a sum over all cases is one over n -/
theorem kV_sum (hD : WFD D) {e : Nat} (f : Nat → Int) (he : e < 16) (hf : ∀ n, e < n → f n = 0) (hf2 : t = 2 → ∀ n, c0 D 2 < n → f n = 0) : zs (fun c => zs (fun n => kV D t c n (f n)) 32) 13 = zs f (e + 1) := by
  rw [zs_swap (fun c n => kV D t c n (f n)), ← zs_tail (f := f) (m := e + 1) (n := 32) (by omega) (fun i h1 _ => hf i (by omega))]
  refine zs_congr (fun n hn => ?_)
  have hc0 := c0_lt hD t
  by_cases ht2 : t = 2
  · have hcs : cs t = 13 := by unfold cs; rw [if_pos ht2]
    by_cases q : n ≤ c0 D t
    · rw [zs_one (k := c0 D t - n) (by omega) (fun c hc hne => kV_f (by unfold kC; rw [if_pos ht2]; omega))]
      exact kV_t (by unfold kC; rw [if_pos ht2]; omega)
    · rw [zs_zero (fun c hc => kV_f (by unfold kC; rw [if_pos ht2]; omega))]
      subst ht2
      rw [hf2 rfl n (by omega)]
  · rw [zs_one (k := 0) (by decide) (fun c hc hne => kV_f (by unfold kC; rw [if_neg ht2]; exact hne))]
    exact kV_t (by unfold kC; rw [if_neg ht2])
def ofs (t : Nat) : Nat := if t = 2 then 1 else 0
/-- then[j, m] ahead of the step I -/
noncomputable def tV (D : HD) (k t th e I j m : Nat) : Int := (if 33 * j + m < I then kV D t j m (dF D (rSet D) k t th e m - dCc D (rSet D) k t th e m) else 0) + (if m ≠ 0 ∧ 33 * (j + ofs t) + (m - 1) < I then kV D t (j + ofs t) (m - 1) (dCc D (rSet D) k t th e (m - 1)) else 0)
/-- came ahead of the step (c, n) -/
noncomputable def aV (D : HD) (t : Nat) (f : Nat → Int) (c n : Nat) : Int := zs (fun c' => zs (fun n' => kV D t c' n' (f n')) 32) c + zs (fun n' => kV D t c n' (f n')) n
theorem r_step (hD : WFD D) (x : RH D h) (rp : RPlan D k t 2 h) (hk : k < D.K) (ht : t < 5) (hth : th = 1 ∨ th = 2) {e c n : Nat} {p1 p2 p3 p5 p8 s : Int32} {p6 : Int64} (h1 : p1 = zi k) (h2 : p2 = zi t) (h3 : p3 = zi e) (h5 : (th = 1 ∧ p5 = 1) ∨ (th = 2 ∧ p5 = 0)) (h6 : p6 = zl (dC D k e th)) (h8 : p8 = zi c) (hs : s = zi n) (he : e < D.N) (hc : c < 13) (hn : n < 32)
    (hcs : RCases D k t th e h) (hT : ∀ j m, j < 13 → m < 33 → gL h 254 (33 * j + m) = zl (tV D k t th e (33 * c + n) j m))
    (h38 : gL h 240 38 = zl (aV D t (dCc D (rSet D) k t th e) c n)) (h39 : gL h 240 39 = zl (aV D t (fun n => if dgo D (rSet D) k t e n = true then 0 else dCc D (rSet D) k t th e n) c n)) :
    zw (l_X10_uses_58 p1 p2 p3 p5 p6 p8 s h) (fun r => r.1 = .inl (zi ((n + 1 : Nat) : Int)) ∧ Fr (fun a j => a = 254 ∨ (a = 240 ∧ (j = 38 ∨ j = 39))) h r.2 ∧ (∀ j m, j < 13 → m < 33 → gL r.2 254 (33 * j + m) = zl (tV D k t th e (33 * c + n + 1) j m)) ∧ gL r.2 240 38 = zl (aV D t (dCc D (rSet D) k t th e) c (n + 1)) ∧ gL r.2 240 39 = zl (aV D t (fun n => if dgo D (rSet D) k t e n = true then 0 else dCc D (rSet D) k t th e n) c (n + 1))) := by
  have hN := hD.N16
  have hc0 := c0_lt hD t
  have bS := dF_b hD (rSet D) (t := t) hk hth (e := e) (by omega) n
  have bC := dCc_b hD (rSet D) (t := t) hk hth he n
  have bCh := (dC_b hD hk he hth).2.2
  have bHb := dHb_b hD hk t th
  have bQ4 := (hD.q k hk).2.2.2.2.1
  subst h1 h2 h3 h6 h8 hs
  unfold l_X10_uses_58
  refine zw_f (by simp only [zi_lit, zi_neg, zi_add, zi_sub, zi_mul, zl_lit, zl_neg, zl_add, zl_sub, zl_mul, zl_i]; rw [zi_le (by omega) (by omega) (by omega) (by omega)]; omega) ?_
  refine zw_bd1 (ldL_ok (33 * c + n) (n := 429) rfl (by first | (simp only [zi_lit, zi_neg, zi_add, zi_sub, zi_mul, zl_lit, zl_neg, zl_add, zl_sub, zl_mul, zl_i]; exact congrArg zi (by omega)) | (simp only [zi_lit, zi_neg, zi_add, zi_sub, zi_mul, zl_lit, zl_neg, zl_add, zl_sub, zl_mul, zl_i]; done) | exact congrArg zi (by omega)) (by omega)) ?_
  rw [hcs c n hc (by omega)]
  -- nothing lives here
  have skip : kV D t c n (dF D (rSet D) k t th e n) = 0 → zw (j_X10_uses_247_58 (zi k) (zi t) (zi e) p5 (zl (dC D k e th)) (zi c) (zi n) h) (fun r => r.1 = .inl (zi ((n + 1 : Nat) : Int)) ∧ Fr (fun a j => a = 254 ∨ (a = 240 ∧ (j = 38 ∨ j = 39))) h r.2 ∧ (∀ j m, j < 13 → m < 33 → gL r.2 254 (33 * j + m) = zl (tV D k t th e (33 * c + n + 1) j m)) ∧ gL r.2 240 38 = zl (aV D t (dCc D (rSet D) k t th e) c (n + 1)) ∧ gL r.2 240 39 = zl (aV D t (fun n => if dgo D (rSet D) k t e n = true then 0 else dCc D (rSet D) k t th e n) c (n + 1))) := by
    intro hz
    have z1 : kV D t c n (dCc D (rSet D) k t th e n) = 0 := by
      rcases kC_dec D t c n with q | q
      · rw [kV_t q] at hz ⊢
        exact fC_out hz
      · exact kV_f q
    have z2 : kV D t c n (dF D (rSet D) k t th e n - dCc D (rSet D) k t th e n) = 0 := by
      rcases kC_dec D t c n with q | q
      · rw [kV_t q] at hz z1 ⊢
        omega
      · exact kV_f q
    have z3 : kV D t c n (if dgo D (rSet D) k t e n = true then 0 else dCc D (rSet D) k t th e n) = 0 := by
      rcases kC_dec D t c n with q | q
      · rw [kV_t q] at z1 ⊢
        split
        · rfl
        · exact z1
      · exact kV_f q
    unfold j_X10_uses_247_58
    refine zw_some ⟨congrArg Sum.inl (by first | (simp only [zi_lit, zi_neg, zi_add, zi_sub, zi_mul, zl_lit, zl_neg, zl_add, zl_sub, zl_mul, zl_i]; exact congrArg zi (by omega)) | (simp only [zi_lit, zi_neg, zi_add, zi_sub, zi_mul, zl_lit, zl_neg, zl_add, zl_sub, zl_mul, zl_i]; done) | exact congrArg zi (by omega)), Fr.refl _ _, fun j m hj hm => ?_, ?_, ?_⟩
    · show gL h 254 _ = _
      rw [hT j m hj hm]
      refine congrArg zl ?_
      unfold tV
      have e1 : (if 33 * j + m < 33 * c + n then kV D t j m (dF D (rSet D) k t th e m - dCc D (rSet D) k t th e m) else 0) = (if 33 * j + m < 33 * c + n + 1 then kV D t j m (dF D (rSet D) k t th e m - dCc D (rSet D) k t th e m) else 0) := by
        by_cases q : 33 * j + m < 33 * c + n
        · rw [if_pos q, if_pos (by omega)]
        · rw [if_neg q]
          by_cases q2 : 33 * j + m < 33 * c + n + 1
          · have : j = c := by omega
            have : m = n := by omega
            subst j m
            rw [if_pos q2, z2]
          · rw [if_neg q2]
      have e2 : (if m ≠ 0 ∧ 33 * (j + ofs t) + (m - 1) < 33 * c + n then kV D t (j + ofs t) (m - 1) (dCc D (rSet D) k t th e (m - 1)) else 0) = (if m ≠ 0 ∧ 33 * (j + ofs t) + (m - 1) < 33 * c + n + 1 then kV D t (j + ofs t) (m - 1) (dCc D (rSet D) k t th e (m - 1)) else 0) := by
        by_cases q : m ≠ 0 ∧ 33 * (j + ofs t) + (m - 1) < 33 * c + n
        · rw [if_pos q, if_pos (by omega)]
        · rw [if_neg q]
          by_cases q2 : m ≠ 0 ∧ 33 * (j + ofs t) + (m - 1) < 33 * c + n + 1
          · have a1 : j + ofs t = c := by omega
            have a2 : m - 1 = n := by omega
            rw [if_pos q2, a1, a2, z1]
          · rw [if_neg q2]
      rw [e1, e2]
    · show gL h 240 38 = _
      rw [h38]
      refine congrArg zl ?_
      unfold aV
      rw [zs_s, z1, Int.add_zero]
    · show gL h 240 39 = _
      rw [h39]
      refine congrArg zl ?_
      unfold aV
      rw [zs_s, z3, Int.add_zero]
  by_cases hv : kV D t c n (dF D (rSet D) k t th e n) = 0
  · exact zw_t (by rw [hv]; rfl) (skip hv)
  · have hkc : kC D t c n := by
      rcases kC_dec D t c n with q | q
      · exact q
      · exact absurd (kV_f q) hv
    have hvv := kV_t (v := dF D (rSet D) k t th e n) hkc
    rw [hvv] at hv ⊢
    have hne : n ≤ e := by
      rcases Nat.lt_or_ge e n with q | q
      · exact absurd (fS_out e n q) hv
      · exact q
    refine zw_f (by rw [(show (0 : Int64) = zl 0 from zl_lit 0), zl_eq (by omega) (by omega) (by omega) (by omega)]; exact hv) ?_
    refine zw_bd1 (ldivF_ok (a := dF D (rSet D) k t th e n * dC D k e th) (b := 1000000) (by first | (simp only [zi_lit, zi_neg, zi_add, zi_sub, zi_mul, zl_lit, zl_neg, zl_add, zl_sub, zl_mul, zl_i]; exact congrArg zl (by omega)) | (simp only [zi_lit, zi_neg, zi_add, zi_sub, zi_mul, zl_lit, zl_neg, zl_add, zl_sub, zl_mul, zl_i]; done) | exact congrArg zl (by omega)) (zl_lit _) bC.1.1 (by omega) (by omega) (by omega)) ?_
    unfold s_X10_at
    rw [bd_v]
    refine zw_bd1 (ldZ_ok (429 * e + 33 * c + n) (n := 7293) rfl (by first | (simp only [zi_lit, zi_neg, zi_add, zi_sub, zi_mul, zl_lit, zl_neg, zl_add, zl_sub, zl_mul, zl_i]; exact congrArg zi (by omega)) | (simp only [zi_lit, zi_neg, zi_add, zi_sub, zi_mul, zl_lit, zl_neg, zl_add, zl_sub, zl_mul, zl_i]; done) | exact congrArg zi (by omega)) (by omega)) ?_
    rw [rp.2 e c n he hc (by omega)]
    have hgo : pGo D (rSet D) k t 2 (D.N - 1 - e) c n = dgo D (rSet D) k t e n := by
      unfold dgo
      unfold kC at hkc
      by_cases ht2 : t = 2
      · rw [if_pos ht2] at hkc ⊢
        rw [if_pos (by omega), show c0 D t - n = c by omega]
      · rw [if_neg ht2] at hkc ⊢
        rw [hkc]
    rw [hgo]
    -- the step itself
    have fin : ∀ (v14 : Int32) (k0 : Int32) (h' : AH), gL h' 240 38 = zl (aV D t (dCc D (rSet D) k t th e) c (n + 1)) → gL h' 240 39 = zl (aV D t (fun n => if dgo D (rSet D) k t e n = true then 0 else dCc D (rSet D) k t th e n) c (n + 1)) → (∀ j, gL h' 254 j = gL h 254 j) → Fr (fun a j => a = 254 ∨ (a = 240 ∧ (j = 38 ∨ j = 39))) h h' → (∃ c', c' < 13 ∧ k0 = zi (c' : Nat) ∧ (c' + ofs t = c ∨ (c' = c ∧ dCc D (rSet D) k t th e n = 0))) → zw (j_X10_uses_214_58 (zi k) (zi t) (zi e) p5 (zl (dC D k e th)) (zi c) (zi n) (zl (dF D (rSet D) k t th e n)) (zl (dCc D (rSet D) k t th e n)) k0 33 h') (fun r => r.1 = .inl (zi ((n + 1 : Nat) : Int)) ∧ Fr (fun a j => a = 254 ∨ (a = 240 ∧ (j = 38 ∨ j = 39))) h r.2 ∧ (∀ j m, j < 13 → m < 33 → gL r.2 254 (33 * j + m) = zl (tV D k t th e (33 * c + n + 1) j m)) ∧ gL r.2 240 38 = zl (aV D t (dCc D (rSet D) k t th e) c (n + 1)) ∧ gL r.2 240 39 = zl (aV D t (fun n => if dgo D (rSet D) k t e n = true then 0 else dCc D (rSet D) k t th e n) c (n + 1))) := by
      rintro v14 k0 h' a38 a39 hh hf ⟨c', hc', rfl, hcc⟩
      unfold j_X10_uses_214_58
      refine zw_bd1 (ldL_ok (33 * c' + (n + 1)) (n := 429) rfl (by first | (simp only [zi_lit, zi_neg, zi_add, zi_sub, zi_mul, zl_lit, zl_neg, zl_add, zl_sub, zl_mul, zl_i]; exact congrArg zi (by omega)) | (simp only [zi_lit, zi_neg, zi_add, zi_sub, zi_mul, zl_lit, zl_neg, zl_add, zl_sub, zl_mul, zl_i]; done) | exact congrArg zi (by omega)) (by omega)) ?_
      refine zw_bd1 (stL_ok (33 * c' + (n + 1)) (n := 429) rfl (by first | (simp only [zi_lit, zi_neg, zi_add, zi_sub, zi_mul, zl_lit, zl_neg, zl_add, zl_sub, zl_mul, zl_i]; exact congrArg zi (by omega)) | (simp only [zi_lit, zi_neg, zi_add, zi_sub, zi_mul, zl_lit, zl_neg, zl_add, zl_sub, zl_mul, zl_i]; done) | exact congrArg zi (by omega)) (by omega)) ?_
      refine zw_bd1 (ldL_ok (33 * c + n) (n := 429) rfl (by first | (simp only [zi_lit, zi_neg, zi_add, zi_sub, zi_mul, zl_lit, zl_neg, zl_add, zl_sub, zl_mul, zl_i]; exact congrArg zi (by omega)) | (simp only [zi_lit, zi_neg, zi_add, zi_sub, zi_mul, zl_lit, zl_neg, zl_add, zl_sub, zl_mul, zl_i]; done) | exact congrArg zi (by omega)) (by omega)) ?_
      refine zw_bd1 (stL_ok (33 * c + n) (n := 429) rfl (by first | (simp only [zi_lit, zi_neg, zi_add, zi_sub, zi_mul, zl_lit, zl_neg, zl_add, zl_sub, zl_mul, zl_i]; exact congrArg zi (by omega)) | (simp only [zi_lit, zi_neg, zi_add, zi_sub, zi_mul, zl_lit, zl_neg, zl_add, zl_sub, zl_mul, zl_i]; done) | exact congrArg zi (by omega)) (by omega)) ?_
      have hof : c' + ofs t = c ∨ (c' = c ∧ dCc D (rSet D) k t th e n = 0) := hcc
      have hne2 : 33 * c + n ≠ 33 * c' + (n + 1) := by
        have : ofs t ≤ 1 := by unfold ofs; split <;> omega
        rcases hof with q | q <;> omega
      unfold j_X10_uses_247_58
      refine zw_some ⟨congrArg Sum.inl (by first | (simp only [zi_lit, zi_neg, zi_add, zi_sub, zi_mul, zl_lit, zl_neg, zl_add, zl_sub, zl_mul, zl_i]; exact congrArg zi (by omega)) | (simp only [zi_lit, zi_neg, zi_add, zi_sub, zi_mul, zl_lit, zl_neg, zl_add, zl_sub, zl_mul, zl_i]; done) | exact congrArg zi (by omega)), (hf.sL (Or.inl rfl)).sL (Or.inl rfl), fun j m hj hm => ?_, ?_, ?_⟩
      · show gL (sL (sL h' 254 _ _) 254 _ _) 254 _ = _
        rw [gL_sL (sL h' 254 _ _) 254 (33 * c + n)]
        by_cases q1 : 33 * j + m = 33 * c + n
        · have : j = c := by omega
          have : m = n := by omega
          subst j m
          rw [if_pos ⟨rfl, rfl⟩, gL_sL, if_neg (by omega), hh, hT c n hc (by omega), zl_sub, zl_add]
          refine congrArg zl ?_
          unfold tV
          have hkv := kV_t (v := dF D (rSet D) k t th e n - dCc D (rSet D) k t th e n) hkc
          rw [if_neg (by omega : ¬ 33 * c + n < 33 * c + n), if_pos (by omega : 33 * c + n < 33 * c + n + 1), hkv]
          by_cases q2 : n ≠ 0 ∧ 33 * (c + ofs t) + (n - 1) < 33 * c + n
          · rw [if_pos q2, if_pos (by omega)]; omega
          · rw [if_neg q2, if_neg (by omega)]; omega
        · rw [if_neg (fun z => q1 z.2), gL_sL]
          have eA : (if 33 * j + m < 33 * c + n then kV D t j m (dF D (rSet D) k t th e m - dCc D (rSet D) k t th e m) else 0) = (if 33 * j + m < 33 * c + n + 1 then kV D t j m (dF D (rSet D) k t th e m - dCc D (rSet D) k t th e m) else 0) := by
            by_cases q : 33 * j + m < 33 * c + n
            · rw [if_pos q, if_pos (by omega)]
            · rw [if_neg q, if_neg (by omega)]
          have ofl : ofs t ≤ 1 := by unfold ofs; split <;> omega
          by_cases q2 : 33 * j + m = 33 * c' + (n + 1)
          · have : j = c' := by omega
            have : m = n + 1 := by omega
            subst j m
            rw [if_pos ⟨rfl, rfl⟩, hh, hT c' (n + 1) hc' (by omega), zl_add]
            refine congrArg zl ?_
            unfold tV
            rw [eA, Nat.add_sub_cancel]
            rcases hof with q | ⟨q, q0⟩
            · rw [q, if_neg (by omega : ¬ (n + 1 ≠ 0 ∧ 33 * c + n < 33 * c + n)), if_pos (by omega : n + 1 ≠ 0 ∧ 33 * c + n < 33 * c + n + 1), kV_t hkc]
              omega
            · rw [q0, Int.add_zero]
              have z : ∀ b : Prop, ∀ [Decidable b], (if b then kV D t (c' + ofs t) n 0 else 0) = 0 := by
                intro b _
                split
                · rcases kC_dec D t (c' + ofs t) n with w | w
                  · exact kV_t w
                  · exact kV_f w
                · rfl
              rw [z, z]
          · rw [if_neg (fun z => q2 z.2), hh, hT j m hj hm]
            refine congrArg zl ?_
            unfold tV
            rw [eA]
            by_cases q : m ≠ 0 ∧ 33 * (j + ofs t) + (m - 1) < 33 * c + n
            · rw [if_pos q, if_pos (by omega : m ≠ 0 ∧ 33 * (j + ofs t) + (m - 1) < 33 * c + n + 1)]
            · rw [if_neg q]
              by_cases q3 : m ≠ 0 ∧ 33 * (j + ofs t) + (m - 1) < 33 * c + n + 1
              · have a1 : j + ofs t = c := by omega
                have a2 : m - 1 = n := by omega
                rw [if_pos q3, a1, a2, kV_t hkc]
                rcases hof with w | ⟨w, w0⟩
                · exact absurd (by omega) q2
                · rw [w0]
              · rw [if_neg q3]
      · show gL (sL (sL h' 254 _ _) 254 _ _) 240 38 = _
        rw [gL_sL, if_neg (by omega), gL_sL, if_neg (by omega)]
        exact a38
      · show gL (sL (sL h' 254 _ _) 254 _ _) 240 39 = _
        rw [gL_sL, if_neg (by omega), gL_sL, if_neg (by omega)]
        exact a39
    have f38 : Fr (fun a j => a = 254 ∨ (a = 240 ∧ (j = 38 ∨ j = 39))) h (sL h 240 38 (zl (aV D t (dCc D (rSet D) k t th e) c n) + zl (dCc D (rSet D) k t th e n))) := (Fr.refl _ h).sL (by omega)
    have e38 : zl (aV D t (dCc D (rSet D) k t th e) c n) + zl (dCc D (rSet D) k t th e n) = zl (aV D t (dCc D (rSet D) k t th e) c (n + 1)) := by
      rw [zl_add]
      refine congrArg zl ?_
      unfold aV
      rw [zs_s, kV_t hkc]
      omega
    have g39 : gL (sL h 240 38 (zl (aV D t (dCc D (rSet D) k t th e) c n) + zl (dCc D (rSet D) k t th e n))) 240 39 = zl (aV D t (fun n => if dgo D (rSet D) k t e n = true then 0 else dCc D (rSet D) k t th e n) c n) := by
      rw [gL_sL, if_neg (by omega)]
      exact h39
    have e39 : ∀ w : Int, w = (if dgo D (rSet D) k t e n = true then 0 else dCc D (rSet D) k t th e n) → zl (aV D t (fun n => if dgo D (rSet D) k t e n = true then 0 else dCc D (rSet D) k t th e n) c n) + zl w = zl (aV D t (fun n => if dgo D (rSet D) k t e n = true then 0 else dCc D (rSet D) k t th e n) c (n + 1)) := by
      rintro w rfl
      rw [zl_add]
      refine congrArg zl ?_
      unfold aV
      rw [zs_s, kV_t hkc]
      dsimp only
      omega
    have k254 : ∀ (w w' : Int64) j, gL (sL (sL h 240 38 w) 240 39 w') 254 j = gL h 254 j := fun w w' j => by rw [gL_sL, if_neg (by omega), gL_sL, if_neg (by omega)]
    have ho0 : t ≠ 2 → ofs t = 0 := fun q => by unfold ofs; rw [if_neg q]
    have ho1 : t = 2 → ofs t = 1 := fun q => by unfold ofs; rw [if_pos q]
    cases hg : dgo D (rSet D) k t e n
    · refine zw_t (by rw [if_neg (by decide)]; rfl) ?_
      have hcc : dCc D (rSet D) k t th e n = dF D (rSet D) k t th e n * dC D k e th / 1000000 * dHb D k t th / 1000 := by
        show (if dgo D (rSet D) k t e n = true then _ else _) = _
        rw [hg, if_neg (by decide)]
      have go0 : ∀ w : Int64, w = zl (dCc D (rSet D) k t th e n) → zw (j_X10_uses_158_58 (zi k) (zi t) (zi e) p5 (zl (dC D k e th)) (zi c) (zi n) (zl (dF D (rSet D) k t th e n)) w (zi (if false = true then 1 else 0)) h) (fun r => r.1 = .inl (zi ((n + 1 : Nat) : Int)) ∧ Fr (fun a j => a = 254 ∨ (a = 240 ∧ (j = 38 ∨ j = 39))) h r.2 ∧ (∀ j m, j < 13 → m < 33 → gL r.2 254 (33 * j + m) = zl (tV D k t th e (33 * c + n + 1) j m)) ∧ gL r.2 240 38 = zl (aV D t (dCc D (rSet D) k t th e) c (n + 1)) ∧ gL r.2 240 39 = zl (aV D t (fun n => if dgo D (rSet D) k t e n = true then 0 else dCc D (rSet D) k t th e n) c (n + 1))) := by
        rintro w rfl
        unfold j_X10_uses_158_58
        rw [h38]
        refine zw_t (by rw [if_neg (by decide)]; rfl) ?_
        unfold j_X10_uses_185_58
        refine zw_t (by rw [if_neg (by decide)]; rfl) ?_
        unfold j_X10_uses_212_58
        rw [g39, e39 _ (by rw [hg, if_neg (by decide)]), e38]
        refine fin 0 _ _ ?_ ?_ (k254 _ _) ((((Fr.refl _ h).sL (by omega))).sL (by omega)) ⟨c, hc, rfl, ?_⟩
        · rw [gL_sL, if_neg (by omega), gL_sL, if_pos ⟨rfl, rfl⟩]
        · rw [gL_sL, if_pos ⟨rfl, rfl⟩]
        · by_cases ht2 : t = 2
          · right
            refine ⟨rfl, ?_⟩
            have hh : dHb D k t th = 0 := by unfold dHb; rw [if_neg (by omega)]
            rw [hcc, hh]
            simp
          · left
            rw [ho0 ht2]
            rfl
      have go0z : dHb D k t th = 0 → zw (j_X10_uses_155_58 (zi k) (zi t) (zi e) p5 (zl (dC D k e th)) (zi c) (zi n) (zl (dF D (rSet D) k t th e n)) (zi (if false = true then 1 else 0)) h) (fun r => r.1 = .inl (zi ((n + 1 : Nat) : Int)) ∧ Fr (fun a j => a = 254 ∨ (a = 240 ∧ (j = 38 ∨ j = 39))) h r.2 ∧ (∀ j m, j < 13 → m < 33 → gL r.2 254 (33 * j + m) = zl (tV D k t th e (33 * c + n + 1) j m)) ∧ gL r.2 240 38 = zl (aV D t (dCc D (rSet D) k t th e) c (n + 1)) ∧ gL r.2 240 39 = zl (aV D t (fun n => if dgo D (rSet D) k t e n = true then 0 else dCc D (rSet D) k t th e n) c (n + 1))) := by
        intro hh
        unfold j_X10_uses_155_58 j_X10_uses_156_58
        refine go0 0 ?_
        rw [hcc, hh]
        simp
        rfl
      have go0h : dHb D k t th = D.Q k 4 → zw (j_X10_uses_138_58 (zi k) (zi t) (zi e) p5 (zl (dC D k e th)) (zi c) (zi n) (zl (dF D (rSet D) k t th e n)) (zl (dF D (rSet D) k t th e n * dC D k e th / 1000000)) (zi (if false = true then 1 else 0)) h) (fun r => r.1 = .inl (zi ((n + 1 : Nat) : Int)) ∧ Fr (fun a j => a = 254 ∨ (a = 240 ∧ (j = 38 ∨ j = 39))) h r.2 ∧ (∀ j m, j < 13 → m < 33 → gL r.2 254 (33 * j + m) = zl (tV D k t th e (33 * c + n + 1) j m)) ∧ gL r.2 240 38 = zl (aV D t (dCc D (rSet D) k t th e) c (n + 1)) ∧ gL r.2 240 39 = zl (aV D t (fun n => if dgo D (rSet D) k t e n = true then 0 else dCc D (rSet D) k t th e n) c (n + 1))) := by
        intro hh
        unfold j_X10_uses_138_58
        refine zw_bd1 (r_of hD x (w := 4) rfl ((show (4 : Int32) = zi 4 from zi_lit 4)) hk (by decide)) ?_
        refine zw_bd1 (ldivF_ok (a := dF D (rSet D) k t th e n * dC D k e th / 1000000 * dHb D k t th) (b := 1000) (by rw [zi_l (by omega) (by omega), zl_mul, hh]) (zl_lit _) bC.2.2.1.1 (by have := bC.2.2.1.2; omega) (by omega) (by omega)) ?_
        unfold j_X10_uses_156_58
        exact go0 _ (by rw [hcc])
      rcases h5 with ⟨rfl, rfl⟩ | ⟨rfl, rfl⟩
      · refine zw_f (by decide) ?_
        by_cases q1 : t = 1
        · exact zw_t (by rw [q1]; rfl) (go0h (by unfold dHb; rw [if_pos ⟨Or.inl q1, rfl⟩]))
        · refine zw_f (by rw [(show (1 : Int32) = zi 1 from zi_lit 1), zi_eq (by omega) (by omega) (by omega) (by omega)]; show ¬ (t : Int) = 1; omega) ?_
          by_cases q4 : t = 4
          · exact zw_t (by rw [q4]; rfl) (go0h (by unfold dHb; rw [if_pos ⟨Or.inr q4, rfl⟩]))
          · exact zw_f (by rw [(show (4 : Int32) = zi 4 from zi_lit 4), zi_eq (by omega) (by omega) (by omega) (by omega)]; show ¬ (t : Int) = 4; omega) (go0z (by unfold dHb; rw [if_neg (by omega)]))
      · exact zw_t rfl (go0z (by unfold dHb; rw [if_neg (by omega)]))
    · refine zw_f (by rw [if_pos rfl]; decide) ?_
      have hcc : dCc D (rSet D) k t th e n = dF D (rSet D) k t th e n * dC D k e th / 1000000 := by
        show (if dgo D (rSet D) k t e n = true then _ else _) = _
        rw [hg, if_pos rfl]
      rw [← hcc]
      unfold j_X10_uses_158_58
      rw [h38]
      refine zw_f (by rw [if_pos rfl]; decide) ?_
      unfold j_X10_uses_185_58
      refine zw_f (by rw [if_pos rfl]; decide) ?_
      rw [g39, show (0 : Int64) = zl 0 from rfl, e39 0 (by rw [hg, if_pos rfl]), e38]
      have c38 : gL (sL (sL h 240 38 (zl (aV D t (dCc D (rSet D) k t th e) c (n + 1)))) 240 39 (zl (aV D t (fun n => if dgo D (rSet D) k t e n = true then 0 else dCc D (rSet D) k t th e n) c (n + 1)))) 240 38 = zl (aV D t (dCc D (rSet D) k t th e) c (n + 1)) := by
        rw [gL_sL, if_neg (by omega), gL_sL, if_pos ⟨rfl, rfl⟩]
      by_cases ht2 : t = 2
      · refine zw_t (by rw [ht2]; rfl) (fin 0 _ _ c38 (by rw [gL_sL, if_pos ⟨rfl, rfl⟩]) (k254 _ _) (((Fr.refl _ h).sL (by omega)).sL (by omega)) ⟨c - 1, by omega, ?_, ?_⟩)
        · have c0' : 0 < c := by
            have := hgo
            rw [hg] at this
            have := (pGo_t.mp this).1
            unfold dM at this
            rw [if_pos ht2] at this
            exact of_decide_eq_true this
          exact (by first | (simp only [zi_lit, zi_neg, zi_add, zi_sub, zi_mul, zl_lit, zl_neg, zl_add, zl_sub, zl_mul, zl_i]; exact congrArg zi (by omega)) | (simp only [zi_lit, zi_neg, zi_add, zi_sub, zi_mul, zl_lit, zl_neg, zl_add, zl_sub, zl_mul, zl_i]; done) | exact congrArg zi (by omega))
        · left
          have c0' : 0 < c := by
            have := hgo
            rw [hg] at this
            have := (pGo_t.mp this).1
            unfold dM at this
            rw [if_pos ht2] at this
            exact of_decide_eq_true this
          rw [ho1 ht2]
          omega
      · refine zw_f (by rw [(show (2 : Int32) = zi 2 from zi_lit 2), zi_eq (by omega) (by omega) (by omega) (by omega)]; show ¬ (t : Int) = 2; omega) ?_
        unfold j_X10_uses_212_58
        exact fin 0 _ _ c38 (by rw [gL_sL, if_pos ⟨rfl, rfl⟩]) (k254 _ _) (((Fr.refl _ h).sL (by omega)).sL (by omega)) ⟨c, hc, rfl, Or.inl (by rw [ho0 ht2]; rfl)⟩
end
