/-! 59.works: the reference's uses, begins, works -/
section
variable {D : HD} {h : AH} {t k th : Nat}
theorem tV_fin (hD : WFD D) (ht : t < 5) {e : Nat} (he : e < D.N) (j m : Nat) (hj : j < 13) (hm : m < 33) : tV D k t th e 429 j m = kV D t j m (dF D (rSet D) k t th (e + 1) m) := by
  have hN := hD.N16
  have hc0 := c0_lt hD t
  have hs : dF D (rSet D) k t th (e + 1) m = dF D (rSet D) k t th e m - dCc D (rSet D) k t th e m + (if m = 0 then 0 else dCc D (rSet D) k t th e (m - 1)) := fS_s _ _ _ e m
  unfold tV
  rw [if_pos (by omega : 33 * j + m < 429)]
  by_cases ht2 : t = 2
  · have ho : ofs t = 1 := by unfold ofs; rw [if_pos ht2]
    have hcs : cs t = 13 := by unfold cs; rw [if_pos ht2]
    rw [ho]
    by_cases q : j + m = c0 D t
    · have hk1 : kC D t j m := by unfold kC; rw [if_pos ht2]; exact q
      rw [kV_t hk1, kV_t hk1, hs]
      by_cases m0 : m = 0
      · rw [if_neg (by omega), if_pos m0]
      · rw [if_pos (by omega), if_neg m0, kV_t (by unfold kC; rw [if_pos ht2]; omega)]
    · have hk1 : ¬ kC D t j m := by unfold kC; rw [if_pos ht2]; exact q
      rw [kV_f hk1, kV_f hk1]
      by_cases m0 : m ≠ 0 ∧ 33 * (j + 1) + (m - 1) < 429
      · rw [if_pos m0, kV_f (by unfold kC; rw [if_pos ht2]; omega)]; rfl
      · rw [if_neg m0]; rfl
  · have ho : ofs t = 0 := by unfold ofs; rw [if_neg ht2]
    rw [ho, Nat.add_zero]
    by_cases q : j = 0
    · have hk1 : kC D t j m := by unfold kC; rw [if_neg ht2]; exact q
      have hk2 : kC D t j (m - 1) := by unfold kC; rw [if_neg ht2]; exact q
      rw [kV_t hk1, kV_t hk1, hs]
      by_cases m0 : m = 0
      · rw [if_neg (by omega), if_pos m0]
      · rw [if_pos (by omega), if_neg m0, kV_t hk2]
    · have hk1 : ¬ kC D t j m := by unfold kC; rw [if_neg ht2]; exact q
      have hk2 : ¬ kC D t j (m - 1) := by unfold kC; rw [if_neg ht2]; exact q
      rw [kV_f hk1, kV_f hk1, kV_f hk2]
      split <;> rfl
theorem tV_0 {e : Nat} (j m : Nat) : tV D k t th e 0 j m = 0 := by
  unfold tV
  rw [if_neg (by omega), if_neg (by omega)]
  rfl
theorem tV_32 (hD : WFD D) {e c : Nat} (he : e < 16) (hc : c < 13) (j m : Nat) (hj : j < 13) (hm : m < 33) : tV D k t th e (33 * c + 32) j m = tV D k t th e (33 * (c + 1)) j m := by
  have ofl : ofs t ≤ 1 := by unfold ofs; split <;> omega
  have z0 : ∀ c', kV D t c' 32 (dF D (rSet D) k t th e 32 - dCc D (rSet D) k t th e 32) = 0 := by
    intro c'
    have a : dF D (rSet D) k t th e 32 = 0 := fS_out e 32 (by omega)
    have b : dCc D (rSet D) k t th e 32 = 0 := fC_out a
    rw [a, b]
    rcases kC_dec D t c' 32 with w | w
    · exact kV_t w
    · exact kV_f w
  unfold tV
  have e1 : (if 33 * j + m < 33 * c + 32 then kV D t j m (dF D (rSet D) k t th e m - dCc D (rSet D) k t th e m) else 0) = (if 33 * j + m < 33 * (c + 1) then kV D t j m (dF D (rSet D) k t th e m - dCc D (rSet D) k t th e m) else 0) := by
    by_cases q : 33 * j + m < 33 * c + 32
    · rw [if_pos q, if_pos (by omega)]
    · rw [if_neg q]
      by_cases q2 : 33 * j + m < 33 * (c + 1)
      · have : m = 32 := by omega
        subst m
        rw [if_pos q2, z0]
      · rw [if_neg q2]
  have e2 : (if m ≠ 0 ∧ 33 * (j + ofs t) + (m - 1) < 33 * c + 32 then kV D t (j + ofs t) (m - 1) (dCc D (rSet D) k t th e (m - 1)) else 0) = (if m ≠ 0 ∧ 33 * (j + ofs t) + (m - 1) < 33 * (c + 1) then kV D t (j + ofs t) (m - 1) (dCc D (rSet D) k t th e (m - 1)) else 0) := by
    by_cases q : m ≠ 0 ∧ 33 * (j + ofs t) + (m - 1) < 33 * c + 32
    · rw [if_pos q, if_pos (by omega)]
    · rw [if_neg q, if_neg (by omega)]
  rw [e1, e2]
theorem aV_row {f : Nat → Int} {c : Nat} : aV D t f c 32 = aV D t f (c + 1) 0 := by
  unfold aV
  rw [zs_0, Int.add_zero]
  rfl
theorem r_uses (hD : WFD D) (x : RH D h) (rp : RPlan D k t 2 h) (hk : k < D.K) (ht : t < 5) {e : Nat} {a0 a1 a2 a3 a4 : Int32} (h0 : a0 = zi k) (h1 : a1 = zi t) (h2 : a2 = zi e) (h34 : (th = 1 ∧ a3 = 0 ∧ a4 = 1) ∨ (th = 2 ∧ a3 = 1 ∧ a4 = 0)) (he : e < D.N) (hcs : RCases D k t th e h) :
    zw (s_X10_uses a0 a1 a2 a3 a4 h) (fun r => Fr (fun a j => a = 253 ∨ a = 254 ∨ (a = 240 ∧ (j = 38 ∨ j = 39))) h r.2 ∧ gL r.2 240 38 = zl (dCome D (rSet D) k t th e) ∧ gL r.2 240 39 = zl (dSunk D (rSet D) k t th e) ∧ RCases D k t th (e + 1) r.2) := by
  have hN := hD.N16
  have hth : th = 1 ∨ th = 2 := by rcases h34 with q | q; exact Or.inl q.1; exact Or.inr q.1
  have h3 : (th = 1 ∧ a3 = 0) ∨ (th = 2 ∧ a3 = 1) := by rcases h34 with q | q; exact Or.inl ⟨q.1, q.2.1⟩; exact Or.inr ⟨q.1, q.2.1⟩
  have h4 : (th = 1 ∧ a4 = 1) ∨ (th = 2 ∧ a4 = 0) := by rcases h34 with q | q; exact Or.inl ⟨q.1, q.2.2⟩; exact Or.inr ⟨q.1, q.2.2⟩
  unfold s_X10_uses
  refine zw_bd1 (r_chance hD x h0 h2 hk he h3) ?_
  have fz : Fr (fun a j => a = 254 ∨ (a = 240 ∧ (j = 38 ∨ j = 39))) h (sL (sL h 240 38 0) 240 39 0) := ((Fr.refl _ h).sL (by omega)).sL (by omega)
  have z38 : gL (sL (sL h 240 38 0) 240 39 0) 240 38 = 0 := by rw [gL_sL, if_neg (by omega), gL_sL, if_pos ⟨rfl, rfl⟩]
  have z39 : gL (sL (sL h 240 38 0) 240 39 0) 240 39 = 0 := by rw [gL_sL, if_pos ⟨rfl, rfl⟩]
  generalize sL (sL h 240 38 0) 240 39 0 = g0 at *
  refine zw_bd (P := fun y => Fr (fun a j => a = 254 ∨ (a = 240 ∧ (j = 38 ∨ j = 39))) h y.2 ∧ gL y.2 240 38 = 0 ∧ gL y.2 240 39 = 0 ∧ (∀ i, i < 429 → gL y.2 254 i = 0)) ?_ ?_
  · refine zw_for 429 (fun n => zi n) () (fun m h' => Fr (fun a j => a = 254 ∨ (a = 240 ∧ (j = 38 ∨ j = 39))) h h' ∧ gL h' 240 38 = 0 ∧ gL h' 240 39 = 0 ∧ (∀ i, i < m → gL h' 254 i = 0)) (by decide) rfl ⟨fz, z38, z39, fun i hi => by omega⟩ ?_ ?_
    · rintro n h' hn ⟨hf, y38, y39, hz⟩
      unfold l_X10_uses_23
      refine zw_f (by rw [(show (429 : Int32) = zi 429 from zi_lit 429), zi_le (by omega) (by omega) (by omega) (by omega)]; show ¬ (429 : Int) ≤ n; omega) ?_
      refine zw_bd1 (stL_ok n (n := 429) rfl rfl hn) ?_
      refine zw_some ⟨congrArg Sum.inl (by first | (simp only [zi_lit, zi_neg, zi_add, zi_sub, zi_mul, zl_lit, zl_neg, zl_add, zl_sub, zl_mul, zl_i]; exact congrArg zi (by omega)) | (simp only [zi_lit, zi_neg, zi_add, zi_sub, zi_mul, zl_lit, zl_neg, zl_add, zl_sub, zl_mul, zl_i]; done) | exact congrArg zi (by omega)), hf.sL (Or.inl rfl), ?_, ?_, fun i hi => ?_⟩
      · show gL (sL h' 254 n 0) 240 38 = 0
        rw [gL_sL, if_neg (by omega)]; exact y38
      · show gL (sL h' 254 n 0) 240 39 = 0
        rw [gL_sL, if_neg (by omega)]; exact y39
      · show gL (sL h' 254 n 0) 254 i = 0
        rw [gL_sL]
        split
        · rfl
        · exact hz i (by omega)
    · rintro h' ⟨hf, y38, y39, hz⟩
      unfold l_X10_uses_23
      exact zw_t (by decide) (zw_some ⟨rfl, hf, y38, y39, hz⟩)
  · rintro ⟨u1, g1⟩ ⟨f1, y38, y39, z1⟩
    dsimp only at f1 y38 y39 z1 ⊢
    refine zw_bd (P := fun y => Fr (fun a j => a = 254 ∨ (a = 240 ∧ (j = 38 ∨ j = 39))) h y.2 ∧ (∀ j m, j < 13 → m < 33 → gL y.2 254 (33 * j + m) = zl (tV D k t th e 429 j m)) ∧ gL y.2 240 38 = zl (aV D t (dCc D (rSet D) k t th e) 13 0) ∧ gL y.2 240 39 = zl (aV D t (fun n => if dgo D (rSet D) k t e n = true then 0 else dCc D (rSet D) k t th e n) 13 0)) ?_ ?_
    · refine zw_for 13 (fun n => zi n) () (fun c h' => Fr (fun a j => a = 254 ∨ (a = 240 ∧ (j = 38 ∨ j = 39))) h h' ∧ (∀ j m, j < 13 → m < 33 → gL h' 254 (33 * j + m) = zl (tV D k t th e (33 * c) j m)) ∧ gL h' 240 38 = zl (aV D t (dCc D (rSet D) k t th e) c 0) ∧ gL h' 240 39 = zl (aV D t (fun n => if dgo D (rSet D) k t e n = true then 0 else dCc D (rSet D) k t th e n) c 0)) (by decide) rfl ⟨f1, fun j m hj hm => by rw [tV_0]; exact z1 _ (by omega), y38, y39⟩ ?_ ?_
      · rintro c h' hc ⟨hf, hT, h38, h39⟩
        unfold l_X10_uses_48
        refine zw_f (by rw [(show (13 : Int32) = zi 13 from zi_lit 13), zi_le (by omega) (by omega) (by omega) (by omega)]; show ¬ (13 : Int) ≤ c; omega) ?_
        refine zw_bd (P := fun y => Fr (fun a j => a = 254 ∨ (a = 240 ∧ (j = 38 ∨ j = 39))) h y.2 ∧ (∀ j m, j < 13 → m < 33 → gL y.2 254 (33 * j + m) = zl (tV D k t th e (33 * c + 32) j m)) ∧ gL y.2 240 38 = zl (aV D t (dCc D (rSet D) k t th e) c 32) ∧ gL y.2 240 39 = zl (aV D t (fun n => if dgo D (rSet D) k t e n = true then 0 else dCc D (rSet D) k t th e n) c 32)) ?_ ?_
        · refine zw_for 32 (fun n => zi n) () (fun n h' => Fr (fun a j => a = 254 ∨ (a = 240 ∧ (j = 38 ∨ j = 39))) h h' ∧ (∀ j m, j < 13 → m < 33 → gL h' 254 (33 * j + m) = zl (tV D k t th e (33 * c + n) j m)) ∧ gL h' 240 38 = zl (aV D t (dCc D (rSet D) k t th e) c n) ∧ gL h' 240 39 = zl (aV D t (fun n => if dgo D (rSet D) k t e n = true then 0 else dCc D (rSet D) k t th e n) c n)) (by decide) rfl ⟨hf, hT, h38, h39⟩ ?_ ?_
          · rintro n h2' hn ⟨hf2, hT2, h38', h39'⟩
            refine zw_mono (r_step hD (x.fr hf2 (by intro a j; omega)) ⟨fun e c n q1 q2 q3 => by rw [hf2.i (by omega)]; exact rp.1 e c n q1 q2 q3, fun e c n q1 q2 q3 => by rw [hf2.i (by omega)]; exact rp.2 e c n q1 q2 q3⟩ hk ht hth h0 h1 h2 h4 rfl rfl rfl he hc hn (fun c' n' q1 q2 => by rw [hf2.l (by omega)]; exact hcs c' n' q1 q2) hT2 h38' h39') ?_
            rintro ⟨r1, r2⟩ ⟨e1, f3, t3, a3', b3⟩
            exact ⟨e1, hf2.trans f3, t3, a3', b3⟩
          · rintro h2' ⟨hf2, hT2, h38', h39'⟩
            unfold l_X10_uses_58
            exact zw_t (by decide) (zw_some ⟨rfl, hf2, hT2, h38', h39'⟩)
        · rintro ⟨u2, g2⟩ ⟨f2, hT2, h38', h39'⟩
          dsimp only at f2 hT2 h38' h39' ⊢
          refine zw_some ⟨congrArg Sum.inl (by first | (simp only [zi_lit, zi_neg, zi_add, zi_sub, zi_mul, zl_lit, zl_neg, zl_add, zl_sub, zl_mul, zl_i]; exact congrArg zi (by omega)) | (simp only [zi_lit, zi_neg, zi_add, zi_sub, zi_mul, zl_lit, zl_neg, zl_add, zl_sub, zl_mul, zl_i]; done) | exact congrArg zi (by omega)), f2, fun j m hj hm => ?_, ?_, ?_⟩
          · show gL g2 254 _ = _
            rw [hT2 j m hj hm, tV_32 hD (by omega) hc j m hj hm]
          · show gL g2 240 38 = _
            rw [h38', aV_row]
          · show gL g2 240 39 = _
            rw [h39', aV_row]
      · rintro h' ⟨hf, hT, h38, h39⟩
        unfold l_X10_uses_48
        exact zw_t (by decide) (zw_some ⟨rfl, hf, hT, h38, h39⟩)
    · rintro ⟨u2, g2⟩ ⟨f2, hT, h38, h39⟩
      dsimp only at f2 hT h38 h39 ⊢
      have s38 : aV D t (dCc D (rSet D) k t th e) 13 0 = dCome D (rSet D) k t th e := by
        unfold aV
        rw [zs_0, Int.add_zero, kV_sum hD _ (by omega : e < 16) (fun n hn => fC_out (fS_out e n hn)) (fun ht2 n hn => by subst ht2; exact fC_out (dF_ten e n hn))]
        rfl
      have s39 : aV D t (fun n => if dgo D (rSet D) k t e n = true then 0 else dCc D (rSet D) k t th e n) 13 0 = dSunk D (rSet D) k t th e := by
        unfold aV
        rw [zs_0, Int.add_zero, kV_sum hD _ (by omega : e < 16) (fun n hn => by split; rfl; exact fC_out (fS_out e n hn)) (fun ht2 n hn => by subst ht2; split; rfl; exact fC_out (dF_ten e n hn))]
        rfl
      rw [s38] at h38
      rw [s39] at h39
      refine zw_bd (P := fun y => Fr (fun a j => a = 253 ∨ a = 254 ∨ (a = 240 ∧ (j = 38 ∨ j = 39))) h y.2 ∧ gL y.2 240 38 = zl (dCome D (rSet D) k t th e) ∧ gL y.2 240 39 = zl (dSunk D (rSet D) k t th e) ∧ RCases D k t th (e + 1) y.2) ?_ (fun y hy => zw_some hy)
      refine zw_for 429 (fun n => zi n) () (fun m h' => Fr (fun a j => a = 253) g2 h' ∧ (∀ i, i < m → gL h' 253 i = gL g2 254 i)) (by decide) rfl ⟨Fr.refl _ _, fun i hi => by omega⟩ ?_ ?_
      · rintro n h' hn ⟨hf, hz⟩
        unfold l_X10_uses_262
        refine zw_f (by rw [(show (429 : Int32) = zi 429 from zi_lit 429), zi_le (by omega) (by omega) (by omega) (by omega)]; show ¬ (429 : Int) ≤ n; omega) ?_
        refine zw_bd1 (ldL_ok n (n := 429) rfl rfl hn) ?_
        refine zw_bd1 (stL_ok n (n := 429) rfl rfl hn) ?_
        refine zw_some ⟨congrArg Sum.inl (by first | (simp only [zi_lit, zi_neg, zi_add, zi_sub, zi_mul, zl_lit, zl_neg, zl_add, zl_sub, zl_mul, zl_i]; exact congrArg zi (by omega)) | (simp only [zi_lit, zi_neg, zi_add, zi_sub, zi_mul, zl_lit, zl_neg, zl_add, zl_sub, zl_mul, zl_i]; done) | exact congrArg zi (by omega)), hf.sL rfl, fun i hi => ?_⟩
        show gL (sL h' 253 n _) 253 i = _
        rw [gL_sL]
        by_cases q : i = n
        · subst q
          rw [if_pos ⟨rfl, rfl⟩, hf.l (by omega)]
        · rw [if_neg (by omega)]
          exact hz i (by omega)
      · rintro h' ⟨hf, hz⟩
        unfold l_X10_uses_262
        refine zw_t (by decide) (zw_some ⟨rfl, f2.trans2 hf (by omega) (by omega), ?_, ?_, fun c n hc hn => ?_⟩)
        · show gL h' 240 38 = _
          rw [hf.l (by omega)]; exact h38
        · show gL h' 240 39 = _
          rw [hf.l (by omega)]; exact h39
        · show gL h' 253 _ = _
          rw [hz _ (by omega), hT c n hc hn, tV_fin hD ht he c n hc hn]
theorem r_first (x : RH D h) (hD : WFD D) {a : Int32} (ha : a = zi t) (ht : t < 5) : s_X10_first a h = some (zi (c0 D t)) := by
  have := hD.tb
  unfold s_X10_first c0
  subst ha
  by_cases ht2 : t = 2
  · rw [if_pos (by rw [ht2]; rfl), if_pos ht2, x.1.2.2.2.2.2]
    exact congrArg (fun z => some (zi z)) (by omega)
  · rw [if_neg (by rw [(show (2 : Int32) = zi 2 from zi_lit 2), zi_eq (by omega) (by omega) (by omega) (by omega)]; show ¬ (t : Int) = 2; omega), if_neg ht2]
    rfl
theorem r_begins (hD : WFD D) (x : RH D h) (ht : t < 5) {a : Int32} (ha : a = zi t) : zw (s_X10_begins a h) (fun r => Fr (fun a _ => a = 253) h r.2 ∧ RCases D k t th 0 r.2) := by
  have hc0 := c0_lt hD t
  have hcs := cs_le t
  unfold s_X10_begins
  refine zw_bd (P := fun y => Fr (fun a _ => a = 253) h y.2 ∧ RCases D k t th 0 y.2) ?_ (fun y hy => zw_some hy)
  refine zw_for 429 (fun n => zi n) () (fun m h' => Fr (fun a j => a = 253) h h' ∧ (∀ i, i < m → gL h' 253 i = zl (if i = 33 * c0 D t then 1000000000 else 0))) (by decide) rfl ⟨Fr.refl _ _, fun i hi => by omega⟩ ?_ ?_
  · rintro n h' hn ⟨hf, hz⟩
    unfold l_X10_begins_2
    refine zw_f (by rw [(show (429 : Int32) = zi 429 from zi_lit 429), zi_le (by omega) (by omega) (by omega) (by omega)]; show ¬ (429 : Int) ≤ n; omega) ?_
    refine zw_bd1 (r_first (x.fr hf (by intro a j; omega)) hD ha ht) ?_
    have fin : ∀ w : Int64, w = zl (if n = 33 * c0 D t then 1000000000 else 0) → zw (j_X10_begins_33_2 a (zi n) w (zi n) h') (fun r => r.1 = .inl (zi ((n + 1 : Nat) : Int)) ∧ Fr (fun a j => a = 253) h r.2 ∧ (∀ i, i < n + 1 → gL r.2 253 i = zl (if i = 33 * c0 D t then 1000000000 else 0))) := by
      rintro w rfl
      unfold j_X10_begins_33_2
      refine zw_bd1 (stL_ok n (n := 429) rfl rfl hn) ?_
      refine zw_some ⟨congrArg Sum.inl (by first | (simp only [zi_lit, zi_neg, zi_add, zi_sub, zi_mul, zl_lit, zl_neg, zl_add, zl_sub, zl_mul, zl_i]; exact congrArg zi (by omega)) | (simp only [zi_lit, zi_neg, zi_add, zi_sub, zi_mul, zl_lit, zl_neg, zl_add, zl_sub, zl_mul, zl_i]; done) | exact congrArg zi (by omega)), hf.sL rfl, fun i hi => ?_⟩
      show gL (sL h' 253 n _) 253 i = _
      rw [gL_sL]
      by_cases q : i = n
      · subst q
        rw [if_pos ⟨rfl, rfl⟩]
      · rw [if_neg (by omega)]
        exact hz i (by omega)
    by_cases q : n = 33 * c0 D t
    · refine zw_t (by simp only [zi_lit, zi_neg, zi_add, zi_sub, zi_mul, zl_lit, zl_neg, zl_add, zl_sub, zl_mul, zl_i]; exact congrArg zi (by omega)) (fin _ ?_)
      rw [if_pos q]; rfl
    · refine zw_f (by simp only [zi_lit, zi_neg, zi_add, zi_sub, zi_mul, zl_lit, zl_neg, zl_add, zl_sub, zl_mul, zl_i]; rw [zi_eq (by omega) (by omega) (by omega) (by omega)]; omega) (fin _ ?_)
      rw [if_neg q]; rfl
  · rintro h' ⟨hf, hz⟩
    unfold l_X10_begins_2
    refine zw_t (by decide) (zw_some ⟨rfl, hf, fun c n hc hn => ?_⟩)
    show gL h' 253 _ = _
    rw [hz _ (by omega)]
    refine congrArg zl ?_
    show _ = kV D t c n (if n = 0 then 1000000000 else 0)
    unfold kV
    have hcz : t ≠ 2 → c0 D t = 0 := fun q => by unfold c0; rw [if_neg q]
    by_cases ht2 : t = 2
    · rw [if_pos ht2]
      by_cases q : 33 * c + n = 33 * c0 D t
      · rw [if_pos q, if_pos (by omega), if_pos (by omega)]
      · rw [if_neg q]
        by_cases q2 : c + n = c0 D t
        · rw [if_pos q2, if_neg (by omega)]
        · rw [if_neg q2]
    · rw [if_neg ht2, hcz ht2]
      by_cases q : 33 * c + n = 33 * 0
      · rw [if_pos q, if_pos (by omega), if_pos (by omega)]
      · rw [if_neg q]
        by_cases q2 : c = 0
        · rw [if_pos q2, if_neg (by omega)]
        · rw [if_neg q2]
def RWorks (D : HD) (set : Nat → Int) (k t : Nat) (h : AH) : Prop := gI h 255 (5 * k + t) = zi (pV D set k t 2 D.N (c0 D t) 0) ∧ (∀ e, e < D.N → gL h 256 (16 * (5 * k + t) + e) = zl (dCome D set k t 1 e)) ∧ gL h 257 (5 * k + t) = zl (zs (dCome D set k t 1) D.N) ∧ gL h 258 (5 * k + t) = zl (zs (dSunk D set k t 1) D.N)
theorem RPlan.fr {h' : AH} {S : Nat → Nat → Prop} (rp : RPlan D k t th h) (f : Fr S h h') (n1 : ∀ j, ¬ S 251 j) (n2 : ∀ j, ¬ S 252 j) : RPlan D k t th h' := ⟨fun e c n q1 q2 q3 => by rw [f.i (n1 _)]; exact rp.1 e c n q1 q2 q3, fun e c n q1 q2 q3 => by rw [f.i (n2 _)]; exact rp.2 e c n q1 q2 q3⟩
/-- what works() may change -/
def WS1 (i : Nat) (a j : Nat) : Prop := (251 ≤ a ∧ a ≤ 254) ∨ (a = 240 ∧ (j = 38 ∨ j = 39)) ∨ (a = 255 ∧ j = i) ∨ (a = 256 ∧ 16 * i ≤ j ∧ j < 16 * i + 16) ∨ (a = 257 ∧ j = i) ∨ (a = 258 ∧ j = i)
theorem r_works (hD : WFD D) (x : RH D h) (hk : k < D.K) (ht : t < 5) {a0 a1 : Int32} (h0 : a0 = zi k) (h1 : a1 = zi t) : zw (s_X10_works a0 a1 h) (fun r => Fr (WS1 (5 * k + t)) h r.2 ∧ RWorks D (rSet D) k t r.2) := by
  have hN := hD.N16
  have hK := hD.K6
  have hc0 := c0_lt hD t
  have hcs := cs_le t
  subst h0 h1
  unfold s_X10_works
  refine zw_bd (r_plans (th := 2) hD x hk ht rfl rfl (Or.inr ⟨rfl, rfl⟩)) ?_
  rintro ⟨u1, g1⟩ ⟨f1, rp⟩
  dsimp only at f1 rp ⊢
  have x1 := x.fr f1 (by intro a j; omega)
  refine zw_bd1 (r_first x1 hD rfl ht) ?_
  unfold s_X10_at
  rw [bd_v]
  refine zw_bd1 (ldI_ok (429 * 0 + 33 * c0 D t + 0) (n := 7293) rfl (by first | (simp only [zi_lit, zi_neg, zi_add, zi_sub, zi_mul, zl_lit, zl_neg, zl_add, zl_sub, zl_mul, zl_i]; exact congrArg zi (by omega)) | (simp only [zi_lit, zi_neg, zi_add, zi_sub, zi_mul, zl_lit, zl_neg, zl_add, zl_sub, zl_mul, zl_i]; done) | exact congrArg zi (by omega)) (by omega)) ?_
  rw [rp.1 0 (c0 D t) 0 (by omega) (by omega) (by omega)]
  refine zw_bd1 (stI_ok (5 * k + t) (n := 30) rfl (by first | (simp only [zi_lit, zi_neg, zi_add, zi_sub, zi_mul, zl_lit, zl_neg, zl_add, zl_sub, zl_mul, zl_i]; exact congrArg zi (by omega)) | (simp only [zi_lit, zi_neg, zi_add, zi_sub, zi_mul, zl_lit, zl_neg, zl_add, zl_sub, zl_mul, zl_i]; done) | exact congrArg zi (by omega)) (by omega)) ?_
  refine zw_bd1 (stL_ok (5 * k + t) (n := 30) rfl (by first | (simp only [zi_lit, zi_neg, zi_add, zi_sub, zi_mul, zl_lit, zl_neg, zl_add, zl_sub, zl_mul, zl_i]; exact congrArg zi (by omega)) | (simp only [zi_lit, zi_neg, zi_add, zi_sub, zi_mul, zl_lit, zl_neg, zl_add, zl_sub, zl_mul, zl_i]; done) | exact congrArg zi (by omega)) (by omega)) ?_
  refine zw_bd1 (stL_ok (5 * k + t) (n := 30) rfl (by first | (simp only [zi_lit, zi_neg, zi_add, zi_sub, zi_mul, zl_lit, zl_neg, zl_add, zl_sub, zl_mul, zl_i]; exact congrArg zi (by omega)) | (simp only [zi_lit, zi_neg, zi_add, zi_sub, zi_mul, zl_lit, zl_neg, zl_add, zl_sub, zl_mul, zl_i]; done) | exact congrArg zi (by omega)) (by omega)) ?_
  have f2 : Fr (WS1 (5 * k + t)) h (sL (sL (sI g1 255 (5 * k + t) (zi (pV D (rSet D) k t 2 (D.N - 0) (c0 D t) 0))) 257 (5 * k + t) 0) 258 (5 * k + t) 0) := (((f1.mono (by unfold WS1; omega)).sI (by unfold WS1; omega)).sL (by unfold WS1; omega)).sL (by unfold WS1; omega)
  have y255 : gI (sL (sL (sI g1 255 (5 * k + t) (zi (pV D (rSet D) k t 2 (D.N - 0) (c0 D t) 0))) 257 (5 * k + t) 0) 258 (5 * k + t) 0) 255 (5 * k + t) = zi (pV D (rSet D) k t 2 D.N (c0 D t) 0) := by
    rw [gI_sL, gI_sL, gI_sI, if_pos ⟨rfl, rfl⟩, Nat.sub_zero]
  have y257 : gL (sL (sL (sI g1 255 (5 * k + t) (zi (pV D (rSet D) k t 2 (D.N - 0) (c0 D t) 0))) 257 (5 * k + t) 0) 258 (5 * k + t) 0) 257 (5 * k + t) = 0 := by
    rw [gL_sL, if_neg (by omega), gL_sL, if_pos ⟨rfl, rfl⟩]
  have y258 : gL (sL (sL (sI g1 255 (5 * k + t) (zi (pV D (rSet D) k t 2 (D.N - 0) (c0 D t) 0))) 257 (5 * k + t) 0) 258 (5 * k + t) 0) 258 (5 * k + t) = 0 := by
    rw [gL_sL, if_pos ⟨rfl, rfl⟩]
  have rp2 : RPlan D k t 2 (sL (sL (sI g1 255 (5 * k + t) (zi (pV D (rSet D) k t 2 (D.N - 0) (c0 D t) 0))) 257 (5 * k + t) 0) 258 (5 * k + t) 0) := rp.fr ((((Fr.refl (fun a _ => a = 255 ∨ a = 257 ∨ a = 258) g1).sI (by omega)).sL (by omega)).sL (by omega)) (by intro j; omega) (by intro j; omega)
  generalize sL (sL (sI g1 255 (5 * k + t) (zi (pV D (rSet D) k t 2 (D.N - 0) (c0 D t) 0))) 257 (5 * k + t) 0) 258 (5 * k + t) 0 = g2 at *
  have x2 := x.fr f2 (by unfold WS1; intro a j; omega)
  refine zw_bd (r_begins (k := k) (th := 1) hD x2 ht rfl) ?_
  rintro ⟨u3, g3⟩ ⟨f3, rc⟩
  dsimp only at f3 rc ⊢
  refine zw_bd (P := fun y => Fr (WS1 (5 * k + t)) h y.2 ∧ RWorks D (rSet D) k t y.2) ?_ (fun y hy => zw_some hy)
  refine zw_for D.N (fun n => zi n) () (fun i h' => Fr (WS1 (5 * k + t)) h h' ∧ RPlan D k t 2 h' ∧ RCases D k t 1 i h' ∧ gI h' 255 (5 * k + t) = zi (pV D (rSet D) k t 2 D.N (c0 D t) 0) ∧ (∀ e, e < i → gL h' 256 (16 * (5 * k + t) + e) = zl (dCome D (rSet D) k t 1 e)) ∧ gL h' 257 (5 * k + t) = zl (zs (dCome D (rSet D) k t 1) i) ∧ gL h' 258 (5 * k + t) = zl (zs (dSunk D (rSet D) k t 1) i)) (by omega) rfl ⟨f2.trans (f3.mono (by unfold WS1; omega)), rp2.fr f3 (by intro j; omega) (by intro j; omega), rc, ?_, fun e he => by omega, ?_, ?_⟩ ?_ ?_
  · rw [f3.i (by omega)]; exact y255
  · rw [f3.l (by omega)]; exact y257
  · rw [f3.l (by omega)]; exact y258
  · rintro i h' hi ⟨hf, rpi, rci, a255, a256, a257, a258⟩
    have xi := x.fr hf (by unfold WS1; intro a j; omega)
    unfold l_X10_works_56
    refine zw_f (by rw [xi.1.2.2.1, zi_le (by omega) (by omega) (by omega) (by omega)]; omega) ?_
    refine zw_bd (r_uses (th := 1) hD xi rpi hk ht rfl rfl rfl (Or.inl ⟨rfl, rfl, rfl⟩) hi rci) ?_
    rintro ⟨u4, g4⟩ ⟨f4, b38, b39, rc4⟩
    dsimp only at f4 b38 b39 rc4 ⊢
    have e5 : (5 : Int32) * zi k + zi t = zi (5 * k + t : Nat) := (by first | (simp only [zi_lit, zi_neg, zi_add, zi_sub, zi_mul, zl_lit, zl_neg, zl_add, zl_sub, zl_mul, zl_i]; exact congrArg zi (by omega)) | (simp only [zi_lit, zi_neg, zi_add, zi_sub, zi_mul, zl_lit, zl_neg, zl_add, zl_sub, zl_mul, zl_i]; done) | exact congrArg zi (by omega))
    rw [b38, e5]
    refine zw_bd1 (stL_ok (16 * (5 * k + t) + i) (n := 480) rfl (by first | (simp only [zi_lit, zi_neg, zi_add, zi_sub, zi_mul, zl_lit, zl_neg, zl_add, zl_sub, zl_mul, zl_i]; exact congrArg zi (by omega)) | (simp only [zi_lit, zi_neg, zi_add, zi_sub, zi_mul, zl_lit, zl_neg, zl_add, zl_sub, zl_mul, zl_i]; done) | exact congrArg zi (by omega)) (by omega)) ?_
    refine zw_bd1 (ldL_ok (5 * k + t) (n := 30) rfl rfl (by omega)) ?_
    rw [gL_sL, if_neg (by omega), gL_sL, if_neg (by omega), b38, f4.l (by omega), a257]
    refine zw_bd1 (stL_ok (5 * k + t) (n := 30) rfl rfl (by omega)) ?_
    refine zw_bd1 (ldL_ok (5 * k + t) (n := 30) rfl rfl (by omega)) ?_
    rw [gL_sL, if_neg (by omega), gL_sL, if_neg (by omega), f4.l (by omega), a258, gL_sL, if_neg (by omega), gL_sL, if_neg (by omega), b39]
    refine zw_bd1 (stL_ok (5 * k + t) (n := 30) rfl rfl (by omega)) ?_
    have f5 : Fr (fun a _ => a = 256 ∨ a = 257 ∨ a = 258) g4 (sL (sL (sL g4 256 (16 * (5 * k + t) + i) (zl (dCome D (rSet D) k t 1 i))) 257 (5 * k + t) (zl (zs (dCome D (rSet D) k t 1) i) + zl (dCome D (rSet D) k t 1 i))) 258 (5 * k + t) (zl (zs (dSunk D (rSet D) k t 1) i) + zl (dSunk D (rSet D) k t 1 i))) := (((Fr.refl _ g4).sL (by omega)).sL (by omega)).sL (by omega)
    refine zw_some ⟨congrArg Sum.inl (by first | (simp only [zi_lit, zi_neg, zi_add, zi_sub, zi_mul, zl_lit, zl_neg, zl_add, zl_sub, zl_mul, zl_i]; exact congrArg zi (by omega)) | (simp only [zi_lit, zi_neg, zi_add, zi_sub, zi_mul, zl_lit, zl_neg, zl_add, zl_sub, zl_mul, zl_i]; done) | exact congrArg zi (by omega)), (((hf.trans (f4.mono (by unfold WS1; omega))).sL (by unfold WS1; omega)).sL (by unfold WS1; omega)).sL (by unfold WS1; omega), (rpi.fr f4 (by intro j; omega) (by intro j; omega)).fr f5 (by intro j; omega) (by intro j; omega), fun c n hc hn => ?_, ?_, fun e he => ?_, ?_, ?_⟩
    · rw [f5.l (by omega)]
      exact rc4 c n hc hn
    · rw [f5.i (by omega), f4.i (by omega)]
      exact a255
    · dsimp only
      rw [gL_sL, if_neg (by omega), gL_sL, if_neg (by omega), gL_sL]
      by_cases q : e = i
      · subst q
        rw [if_pos ⟨rfl, rfl⟩]
      · rw [if_neg (by omega), f4.l (by omega)]
        exact a256 e (by omega)
    · dsimp only
      rw [gL_sL, if_neg (by omega), gL_sL, if_pos ⟨rfl, rfl⟩, zl_add]
      rfl
    · dsimp only
      rw [gL_sL, if_pos ⟨rfl, rfl⟩, zl_add]
      rfl
  · rintro h' ⟨hf, rpi, rci, a255, a256, a257, a258⟩
    have xi := x.fr hf (by unfold WS1; intro a j; omega)
    unfold l_X10_works_56
    refine zw_t (by rw [xi.1.2.2.1, zi_le (by omega) (by omega) (by omega) (by omega)]; omega) ?_
    exact zw_some ⟨rfl, hf, a255, a256, a257, a258⟩
end
