/-! 92.seen: begin, seen: alike -/
section
variable {D : HD} {T : Nat} {h : AH}
theorem c_start (a0 : Int32) : zw (s_X4_start 224 a0 h) (fun r => Fr (fun a _ => 224 ≤ a ∧ a ≤ 227) h r.2 ∧ gI r.2 224 0 = 1 ∧ gI r.2 224 1 = 0 ∧ gI r.2 224 2 = a0 ∧ (∀ i, i < 360 → gI r.2 225 i = 0) ∧ (∀ i, i < 96 → gI r.2 226 i = 0)) := by
  obtain ⟨l0, l1, l2, l3, -⟩ := lay_run
  unfold s_X4_start
  rw [if_pos l0]
  have f1 : Fr (fun a _ => a = 224) h (sI (sI (sI h 224 0 1) 224 1 0) 224 2 a0) := (((Fr.refl (fun a _ => a = 224) h).sI rfl).sI rfl).sI rfl
  have v0 : gI (sI (sI (sI h 224 0 1) 224 1 0) 224 2 a0) 224 0 = 1 := by rw [gI_sI, if_neg (by omega), gI_sI, if_neg (by omega), gI_sI, if_pos ⟨rfl, rfl⟩]
  have v1 : gI (sI (sI (sI h 224 0 1) 224 1 0) 224 2 a0) 224 1 = 0 := by rw [gI_sI, if_neg (by omega), gI_sI, if_pos ⟨rfl, rfl⟩]
  have v2 : gI (sI (sI (sI h 224 0 1) 224 1 0) 224 2 a0) 224 2 = a0 := by rw [gI_sI, if_pos ⟨rfl, rfl⟩]
  generalize sI (sI (sI h 224 0 1) 224 1 0) 224 2 a0 = G at f1 v0 v1 v2 ⊢
  refine zw_bd (fill_ok (n := 360) l1) ?_
  rintro ⟨u1, g1⟩ ⟨f2, c2⟩
  dsimp only at f2 c2 ⊢
  refine zw_bd (fill_ok (n := 96) l2) ?_
  rintro ⟨u2, g2⟩ ⟨f3, c3⟩
  dsimp only at f3 c3 ⊢
  refine zw_bd (fill_ok (n := 16) l3) ?_
  rintro ⟨u3, g3⟩ ⟨f4, c4⟩
  dsimp only at f4 c4 ⊢
  refine zw_some ⟨(((f1.mono (by omega)).trans (f2.mono (by omega))).trans (f3.mono (by omega))).trans (f4.mono (by omega)), ?_, ?_, ?_, fun i hi => ?_, fun i hi => ?_⟩
  · show gI g3 224 0 = _
    rw [f4.i (by omega), f3.i (by omega), f2.i (by omega)]; exact v0
  · show gI g3 224 1 = _
    rw [f4.i (by omega), f3.i (by omega), f2.i (by omega)]; exact v1
  · show gI g3 224 2 = _
    rw [f4.i (by omega), f3.i (by omega), f2.i (by omega)]; exact v2
  · show gI g3 225 i = _
    rw [f4.i (by omega), f3.i (by omega)]; exact c2 i hi
  · show gI g3 226 i = _
    rw [f4.i (by omega)]; exact c3 i hi
theorem r_begin (hD : WFD D) (h6 : W60 D) (a0 : Int32) (x : YR D (sI h 240 0 0)) : zw (s_X10_begin a0 h) (fun r => Fr (fun a k => (a = 240 ∧ (k = 0 ∨ k = 58)) ∨ a = 269 ∨ a = 271 ∨ a = 272) h r.2 ∧ gI r.2 240 58 = 1 ∧ gI r.2 269 0 = 0 ∧ gI r.2 269 1 = a0 ∧ ∀ k i, k < D.K → i < (D.Q k 0).toNat → gI r.2 272 (dOff D k + i) = 0 ∧ gI r.2 271 (dOff D k + i) = zi (if dB D k = 2 then D.ten else 0)) := by
  have hK := hD.K6
  unfold s_X10_begin
  refine zw_bd1 (stI_ok 0 (n := 2) rfl rfl (by decide)) (zw_bd1 (stI_ok 1 (n := 2) rfl ((show (1 : Int32) = zi 1 from zi_lit 1)) (by decide)) ?_)
  have f1 : Fr (fun a k => (a = 240 ∧ (k = 0 ∨ k = 58)) ∨ a = 269 ∨ a = 271 ∨ a = 272) h (sI (sI (sI (sI h 240 0 0) 240 58 1) 269 0 0) 269 1 a0) := ((((Fr.refl (fun a k => (a = 240 ∧ (k = 0 ∨ k = 58)) ∨ a = 269 ∨ a = 271 ∨ a = 272) h).sI (by omega)).sI (by omega)).sI (by omega)).sI (by omega)
  have f0 : Fr (fun a k => (a = 240 ∧ k = 58) ∨ a = 269) (sI h 240 0 0) (sI (sI (sI (sI h 240 0 0) 240 58 1) 269 0 0) 269 1 a0) := (((Fr.refl (fun a k => (a = 240 ∧ k = 58) ∨ a = 269) (sI h 240 0 0)).sI (by omega)).sI (by omega)).sI (by omega)
  have v0 : gI (sI (sI (sI (sI h 240 0 0) 240 58 1) 269 0 0) 269 1 a0) 240 58 = 1 := by rw [gI_sI, if_neg (by omega), gI_sI, if_neg (by omega), gI_sI, if_pos ⟨rfl, rfl⟩]
  have v1 : gI (sI (sI (sI (sI h 240 0 0) 240 58 1) 269 0 0) 269 1 a0) 269 0 = 0 := by rw [gI_sI, if_neg (by omega), gI_sI, if_pos ⟨rfl, rfl⟩]
  have v2 : gI (sI (sI (sI (sI h 240 0 0) 240 58 1) 269 0 0) 269 1 a0) 269 1 = a0 := by rw [gI_sI, if_pos ⟨rfl, rfl⟩]
  have y := x.fr f0 (fun a k => by unfold YRa; omega)
  generalize sI (sI (sI (sI h 240 0 0) 240 58 1) 269 0 0) 269 1 a0 = G at f1 v0 v1 v2 y ⊢
  refine zw_bd (P := fun r => Fr (fun a _ => a = 271 ∨ a = 272) G r.2 ∧ ∀ k i, k < D.K → i < (D.Q k 0).toNat → gI r.2 272 (dOff D k + i) = 0 ∧ gI r.2 271 (dOff D k + i) = zi (if dB D k = 2 then D.ten else 0)) ?_ ?_
  · refine zw_for D.K (fun k => (zi (dOff D k : Nat), zi (k : Int))) () (fun k h' => Fr (fun a _ => a = 271 ∨ a = 272) G h' ∧ ∀ k' i, k' < k → i < (D.Q k' 0).toNat → gI h' 272 (dOff D k' + i) = 0 ∧ gI h' 271 (dOff D k' + i) = zi (if dB D k' = 2 then D.ten else 0)) (by omega) rfl ⟨Fr.refl _ G, fun k' i hk => by omega⟩ ?_ ?_
    · rintro k h' hk ⟨hf, hv⟩
      have y' := y.fr hf (fun a k => by unfold YRa; omega)
      have hq := h6 k hk
      have bq := (hD.q k hk).1
      have hb := dB_lt D k
      unfold l_X10_begin_28
      dsimp only
      refine zw_f (by rw [y'.1.1.2.2.2.1, zi_le (by omega) (by omega) (by omega) (by omega)]; omega) ?_
      refine zw_bd (P := fun r => r.1 = zi (dOff D (k + 1) : Nat) ∧ Fr (fun a j => (a = 271 ∨ a = 272) ∧ dOff D k ≤ j) h' r.2 ∧ ∀ i, i < (D.Q k 0).toNat → gI r.2 272 (dOff D k + i) = 0 ∧ gI r.2 271 (dOff D k + i) = zi (if dB D k = 2 then D.ten else 0)) ?_ ?_
      · refine zw_for (D.Q k 0).toNat (fun i => (zi ((dOff D k + i : Nat) : Int), zi (i : Int))) (zi (dOff D (k + 1) : Nat)) (fun i h2 => Fr (fun a j => (a = 271 ∨ a = 272) ∧ dOff D k ≤ j) h' h2 ∧ ∀ j, j < i → gI h2 272 (dOff D k + j) = 0 ∧ gI h2 271 (dOff D k + j) = zi (if dB D k = 2 then D.ten else 0)) (by omega) rfl ⟨Fr.refl _ h', fun j hj => by omega⟩ ?_ ?_
        · rintro i h2 hi ⟨h2f, h2v⟩
          have y2 := y'.fr h2f (fun a k => by unfold YRa; omega)
          have l := dOff_360 hD h6 hk hi
          unfold l_X10_begin_39
          dsimp only
          refine zw_bd1 (r_of hD y2.1 (w := 0) rfl ((show (0 : Int32) = zi 0 from zi_lit 0)) hk (by decide)) ?_
          refine zw_f (by rw [zi_le (by omega) (by omega) (by omega) (by omega)]; omega) ?_
          refine zw_bd1 (r_buysG hD y2.1 y2.g (dG_ok hD) rfl hk) ?_
          have ef : s_X10_first (zi (dB D k)) h2 = some (zi (if dB D k = 2 then D.ten else 0)) := by
            unfold s_X10_first
            by_cases q : dB D k = 2
            · rw [if_pos (by rw [q]; rfl), if_pos q, y2.1.1.2.2.2.2.2]
            · rw [if_neg (zi_nk ((show (2 : Int32) = zi 2 from zi_lit 2)) (by omega) (by omega) (by omega)), if_neg q]
              rfl
          refine zw_bd1 ef ?_
          refine zw_bd1 (stI_ok (dOff D k + i) (n := 360) rfl rfl l) (zw_bd1 (stI_ok (dOff D k + i) (n := 360) rfl rfl l) ?_)
          refine zw_some ⟨congrArg Sum.inl (Prod.ext (by first | (simp only [zi_lit, zi_neg, zi_add, zi_sub, zi_mul, zl_lit, zl_neg, zl_add, zl_sub, zl_mul, zl_i]; exact congrArg zi (by omega)) | (simp only [zi_lit, zi_neg, zi_add, zi_sub, zi_mul, zl_lit, zl_neg, zl_add, zl_sub, zl_mul, zl_i]; done) | exact congrArg zi (by omega)) (by first | (simp only [zi_lit, zi_neg, zi_add, zi_sub, zi_mul, zl_lit, zl_neg, zl_add, zl_sub, zl_mul, zl_i]; exact congrArg zi (by omega)) | (simp only [zi_lit, zi_neg, zi_add, zi_sub, zi_mul, zl_lit, zl_neg, zl_add, zl_sub, zl_mul, zl_i]; done) | exact congrArg zi (by omega))), (h2f.sI (by omega)).sI (by omega), fun j hj => ?_⟩
          show gI (sI (sI h2 271 _ _) 272 _ 0) 272 _ = 0 ∧ gI (sI (sI h2 271 _ _) 272 _ 0) 271 _ = _
          by_cases q : j = i
          · rw [q, gI_sI, if_pos ⟨rfl, rfl⟩, gI_sI, if_neg (by omega), gI_sI, if_pos ⟨rfl, rfl⟩]
            exact ⟨rfl, rfl⟩
          · rw [gI_sI, if_neg (by omega), gI_sI, if_neg (by omega), gI_sI, if_neg (by omega), gI_sI, if_neg (by omega)]
            exact h2v j (by omega)
        · rintro h2 ⟨h2f, h2v⟩
          have y2 := y'.fr h2f (fun a k => by unfold YRa; omega)
          unfold l_X10_begin_39
          dsimp only
          refine zw_bd1 (r_of hD y2.1 (w := 0) rfl ((show (0 : Int32) = zi 0 from zi_lit 0)) hk (by decide)) ?_
          refine zw_t (by rw [zi_le (by omega) (by omega) (by omega) (by omega)]; omega) (zw_some ⟨by rw [dOff_s], by rw [dOff_s], h2f, h2v⟩)
      · rintro ⟨w, g2⟩ ⟨rfl, h2f, h2v⟩
        dsimp only at h2f h2v ⊢
        refine zw_some ⟨congrArg Sum.inl (Prod.ext rfl (by first | (simp only [zi_lit, zi_neg, zi_add, zi_sub, zi_mul, zl_lit, zl_neg, zl_add, zl_sub, zl_mul, zl_i]; exact congrArg zi (by omega)) | (simp only [zi_lit, zi_neg, zi_add, zi_sub, zi_mul, zl_lit, zl_neg, zl_add, zl_sub, zl_mul, zl_i]; done) | exact congrArg zi (by omega))), hf.trans (h2f.mono (by omega)), fun k' i hk' hi => ?_⟩
        by_cases q : k' = k
        · subst q
          exact h2v i hi
        · have m := dOff_mono D (i := k' + 1) (k := k) (by omega)
          rw [dOff_s] at m
          have z := hv k' i (by omega) hi
          exact ⟨(h2f.i (by omega)).trans z.1, (h2f.i (by omega)).trans z.2⟩
    · rintro h' ⟨hf, hv⟩
      have y' := y.fr hf (fun a k => by unfold YRa; omega)
      unfold l_X10_begin_28
      dsimp only
      exact zw_t (by rw [y'.1.1.2.2.2.1, zi_le (by omega) (by omega) (by omega) (by omega)]; omega) (zw_some ⟨rfl, hf, hv⟩)
  · rintro ⟨u, g⟩ ⟨hf, hv⟩
    dsimp only at hf hv ⊢
    refine zw_some ⟨f1.trans (hf.mono (by omega)), ?_, ?_, ?_, hv⟩
    · show gI g 240 58 = _
      rw [hf.i (by omega)]; exact v0
    · show gI g 269 0 = _
      rw [hf.i (by omega)]; exact v1
    · show gI g 269 1 = _
      rw [hf.i (by omega)]; exact v2
theorem g_begin (x : IVd D T h) (a0 : Int32) : ∃ h1 h2, s_X9_begin a0 h = some ((), h1) ∧ s_X10_begin a0 h1 = some ((), h2) ∧ IV h2 := by
  have hD := x.wf
  have btn := hD.tb
  obtain ⟨⟨u, g1⟩, e1, fc, c0, c1, c2, k1, k2⟩ := c_start (h := h) a0
  dsimp only at fc c0 c1 c2 k1 k2
  have yr : YR D (sI g1 240 0 0) := x.r.fr ((fc.mono (fun a k q => Or.inl q) : Fr (fun a k => (224 ≤ a ∧ a ≤ 227) ∨ (a = 240 ∧ k = 0)) h g1).sI (Or.inr ⟨rfl, rfl⟩)) (by intro a k; unfold YRa; omega)
  obtain ⟨⟨u2, g2⟩, e2, fr, r0, r1, r2, r3⟩ := r_begin hD x.w6 a0 yr
  dsimp only at fr r0 r1 r2 r3
  have fz : Fr (fun a k => (224 ≤ a ∧ a ≤ 227) ∨ (a = 240 ∧ (k = 0 ∨ k = 58)) ∨ a = 269 ∨ a = 271 ∨ a = 272) h g2 := (fc.mono (by omega)).trans (fr.mono (by omega))
  have z225 : ∀ i, i < 360 → gI g2 225 i = 0 := fun i hi => by rw [fr.i (by omega)]; exact k1 i hi
  refine ⟨g1, g2, ?_, e2, D, T, x.frV (fz.mono (by unfold rA SC; omega)) ⟨Or.inr ⟨?_, r0, 0, Nat.zero_le _, ?_, r1, ?_, fun k i hk hi => ?_, fun e he => by omega, fun e k he hk hk6 => ?_⟩, x.run.2.fr fz hD.K6 (by omega)⟩⟩
  · unfold s_X9_begin
    rw [e1, bd_v]
  · rw [fr.i (by omega)]; exact c0
  · rw [fr.i (by omega)]; exact c1
  · rw [fr.i (by omega), c2, r2]
  · have l := dOff_360 hD x.w6 hk hi
    have z := r3 k i hk hi
    refine ⟨0, Nat.le_refl _, fun _ => by show (0 : Int) ≤ D.ten; omega, z225 _ l, z.1, ?_⟩
    rw [z.2]
    by_cases q : dB D k = 2
    · rw [if_pos q, if_pos q]
      exact congrArg zi (Int.sub_zero _).symm
    · rw [if_neg q, if_neg q]
  · rw [fr.i (by omega)]
    exact k2 _ (by omega)
/-- what the class tells of an evening -/
theorem c_cameOf {e k : Nat} {a1 : Int32} (h1 : a1 = zi k) (he : e < 16) (hk : k < 6) : s_X4_cameOf 224 (zi e) a1 h = some (gI h 226 (6 * e + k)) := by
  obtain ⟨l0, l1, l2, l3, -⟩ := lay_run
  subst h1
  unfold s_X4_cameOf
  rw [if_pos l0, at_ok (6 * e + k) (n := 96) l2 (by first | (simp only [zi_lit, zi_neg, zi_add, zi_sub, zi_mul, zl_lit, zl_neg, zl_add, zl_sub, zl_mul, zl_i]; exact congrArg zi (by omega)) | (simp only [zi_lit, zi_neg, zi_add, zi_sub, zi_mul, zl_lit, zl_neg, zl_add, zl_sub, zl_mul, zl_i]; done) | exact congrArg zi (by omega)) (by omega), bd_v]
theorem c_cameOn {e : Nat} {cv : Nat → Int} (he : e < 16) (hv : ∀ k, k < 6 → gI h 226 (6 * e + k) = zi (cv k)) : s_X4_cameOn 224 (zi e) h = some (zi (zs cv 6)) := by
  unfold s_X4_cameOn
  have L : lpP (l_X4_cameOn_4 224 (zi e) h) FU (0, 0) = some (zi (zs cv 6)) := by
    refine lpP_for 6 (fun k => (zi (zs cv k), zi (k : Int))) (by decide) rfl ?_ ?_
    · intro k hk
      unfold l_X4_cameOn_4
      dsimp only
      rw [if_neg (by rw [(show (6 : Int32) = zi 6 from zi_lit 6), zi_le (by omega) (by omega) (by omega) (by omega)]; show ¬ (6 : Int) ≤ k; omega), c_cameOf rfl he hk, bd_v, hv k hk, zi_add, zs_s, show zi (k : Int) + 1 = zi ((k + 1 : Nat) : Int) from (by first | (simp only [zi_lit, zi_neg, zi_add, zi_sub, zi_mul, zl_lit, zl_neg, zl_add, zl_sub, zl_mul, zl_i]; exact congrArg zi (by omega)) | (simp only [zi_lit, zi_neg, zi_add, zi_sub, zi_mul, zl_lit, zl_neg, zl_add, zl_sub, zl_mul, zl_i]; done) | exact congrArg zi (by omega))]
    · unfold l_X4_cameOn_4
      rfl
  rw [if_pos lay_run.1, L, bd_v]
theorem c_coins (hD : WFD D) (x : YC D T h) {e : Nat} {cv : Nat → Int} (he : e < D.N) (hv : ∀ k, k < 6 → gI h 226 (6 * e + k) = zi (cv k)) : s_X4_coinsOn 224 (some 13) (some T) (zi e) h = some (zi (zs (fun k => if dB D k = 0 then cv k else 0) D.K * D.E e 1)) := by
  have hK := hD.K6
  have hN := hD.N16
  unfold s_X4_coinsOn
  have L : lpP (l_X4_coinsOn_6 224 T (zi e) h) FU (0, 0) = some (zi (zs (fun k => if dB D k = 0 then cv k else 0) D.K)) := by
    refine lpP_for D.K (fun k => (zi (zs (fun k => if dB D k = 0 then cv k else 0) k), zi (k : Int))) (by omega) rfl ?_ ?_
    · intro k hk
      have hb := dB_lt D k
      have ek : zi (k : Int) + 1 = zi ((k + 1 : Nat) : Int) := (by first | (simp only [zi_lit, zi_neg, zi_add, zi_sub, zi_mul, zl_lit, zl_neg, zl_add, zl_sub, zl_mul, zl_i]; exact congrArg zi (by omega)) | (simp only [zi_lit, zi_neg, zi_add, zi_sub, zi_mul, zl_lit, zl_neg, zl_add, zl_sub, zl_mul, zl_i]; done) | exact congrArg zi (by omega))
      unfold l_X4_coinsOn_6 j_X4_coinsOn_40_6
      dsimp only
      rw [x.1.2.2.1.1.2.2.2.1, if_neg (by rw [zi_le (by omega) (by omega) (by omega) (by omega)]; omega), at_ok k (n := 6) rfl rfl (by omega), bd_v, x.2.2 k hk, ek, zs_s]
      by_cases q : dB D k = 0
      · rw [if_pos (by rw [q]; rfl), if_pos q, c_cameOf rfl (by omega) (by omega), bd_v, hv k (by omega), zi_add]
      · rw [if_neg (zi_nk ((show (0 : Int32) = zi 0 from zi_lit 0)) (by omega) (by omega) (by omega)), if_neg q, show zi (zs (fun k => if dB D k = 0 then cv k else 0) k) + 0 = zi (zs (fun k => if dB D k = 0 then cv k else 0) k + 0) from zi_add _ 0]
    · unfold l_X4_coinsOn_6
      dsimp only
      rw [x.1.2.2.1.1.2.2.2.1, if_pos (by rw [zi_le (by omega) (by omega) (by omega) (by omega)]; omega)]
  rw [if_pos lay_run.1, if_pos rfl, bd_v, if_pos x.1.1.l0, L, bd_v, c_ofE hD x.1.1 x.1.2.2.1 (w := 1) rfl ((show (1 : Int32) = zi 1 from zi_lit 1)) he (by decide), bd_v, zi_mul]
theorem g_seen (x : IVd D T h) (a0 a1 : Int32) : ag Int32.toInt64 (s_L_seen (some 0) a0 a1 (some 277) h) (s_X10_seen a0 a1) := by
  obtain ⟨a, rfl, ha1, ha2⟩ := zi_of a0
  obtain ⟨b, rfl, hb1, hb2⟩ := zi_of a1
  have hD := x.wf
  have hK := hD.K6
  have hN := hD.N16
  by_cases q1 : 0 ≤ a ∧ a < D.N
  · have ea : zi a = zi (a.toNat : Nat) := congrArg zi (by omega)
    have thr : ∀ H : AH, zw (j_X10_seen_49 (zi a) (zi b) (sI H 240 0 0)) (fun r => r = (0, sI (sI H 240 0 0) 240 0 1)) := by
      intro H
      unfold j_X10_seen_49 j_X10_seen_50
      refine zw_bd1 (r_right (b := false) rfl g0_z (by decide)) ?_
      rw [if_neg ff]
      exact zw_t rfl (zw_some rfl)
    have head : ∀ H : AH, RH D (sI H 240 0 0) → ∀ Q : Int32 × AH → Prop, zw (if (gI (sI H 240 0 0) 240 58) = 0 then j_X10_seen_49 (zi a) (zi b) (sI H 240 0 0) else bd (ldI (sI H 240 0 0) 269 0) fun x4 => if x4 ≤ zi a then j_X10_seen_49 (zi a) (zi b) (sI H 240 0 0) else if zi b < 0 then j_X10_seen_49 (zi a) (zi b) (sI H 240 0 0) else if (4 + (gI (sI H 240 0 0) 240 4)) ≤ zi b then j_X10_seen_49 (zi a) (zi b) (sI H 240 0 0) else j_X10_seen_50 (zi a) (zi b) 1 (sI H 240 0 0)) Q → zw (s_X10_seen (zi a) (zi b) H) Q := by
      intro H y Q hh
      unfold s_X10_seen
      refine zw_bd1 (r_isE y hN rfl ha1 ha2 g0_z) ?_
      rw [if_pos q1]
      exact zw_f one_ne hh
    have cls : s_X9_seen (zi a) (zi b) h = if b < 0 then some (.inr 0) else if (D.K : Int) ≤ b - 4 then some (.inr 0) else if gI h 224 0 = 0 then some (.inr 0) else if zi a < gI h 224 1 then (if b = 0 then bd (s_X4_cameOn 224 (zi a) h) fun x10 => some (.inl x10) else if b = 1 then bd (s_X4_cameOn 224 (zi a) h) fun x8 => some (.inl (if 0 < (x8 - zi D.ch) then (x8 - zi D.ch) else 0)) else if b = 2 then bd (s_X4_coinsOn 224 (some 13) (some T) (zi a) h) fun x7 => some (.inl x7) else if b = 3 then bd (s_X9_at (some 227) (zi a) h) fun x5 => some (.inl x5) else bd (s_X4_cameOf 224 (zi a) (zi (b - 4)) h) fun x4 => some (.inl x4)) else some (.inr 0) := by
      unfold s_X9_seen j_X9_seen_43
      rw [c_needE x rfl ha1 ha2, if_pos q1, bd_v, sm_l]
      by_cases b0 : b < 0
      · rw [if_pos (by rw [(show (0 : Int32) = zi 0 from zi_lit 0), zi_lt (by omega) (by omega) (by omega) (by omega)]; exact b0), if_pos b0]
      · rw [if_neg (by rw [(show (0 : Int32) = zi 0 from zi_lit 0), zi_lt (by omega) (by omega) (by omega) (by omega)]; exact b0), if_neg b0, x.t8, bd_v, if_pos x.tl.l0, x.ch.1.2.2.2.1, show zi b - 4 = zi (b - 4) from zi_sub b 4]
        by_cases b4 : (D.K : Int) ≤ b - 4
        · rw [if_pos (by rw [zi_le (by omega) (by omega) (by omega) (by omega)]; exact b4), if_pos b4]
        · rw [if_neg (by rw [zi_le (by omega) (by omega) (by omega) (by omega)]; exact b4), if_neg b4]
          simp only [bd_v, if_pos x.tl.l0, x.ch.1.1, (show (0 : Int32) = zi 0 from zi_lit 0), (show (1 : Int32) = zi 1 from zi_lit 1), (show (2 : Int32) = zi 2 from zi_lit 2), (show (3 : Int32) = zi 3 from zi_lit 3), zi_eq hb1 hb2 (show -2147483648 ≤ (0 : Int) by decide) (by decide), zi_eq hb1 hb2 (show -2147483648 ≤ (1 : Int) by decide) (by decide), zi_eq hb1 hb2 (show -2147483648 ≤ (2 : Int) by decide) (by decide), zi_eq hb1 hb2 (show -2147483648 ≤ (3 : Int) by decide) (by decide)]
    have no : (s_X9_seen (zi a) (zi b) h = some (.inr 0)) → zw (s_X10_seen (zi a) (zi b) h) (fun r => r = (0, sI (sI h 240 0 0) 240 0 1)) → ag Int32.toInt64 (s_L_seen (some 0) (zi a) (zi b) (some 277) h) (s_X10_seen (zi a) (zi b)) := by
      intro c1 c2
      refine ag_t (k := 1) (b := 0) x ?_ (by decide) (zw_o c2)
      unfold s_L_seen
      rw [if_pos rfl, c1, bd_v, sm_r, if_pos rfl]
    by_cases b0 : b < 0
    · refine no (by rw [cls, if_pos b0]) (head h x.z.rh _ (zw_if (fun _ => thr h) fun _ => zw_bd1 (ldI_ok 0 (n := 2) rfl rfl (by decide)) (zw_if (fun _ => thr h) fun _ => zw_t ?_ (thr h))))
      rw [(show (0 : Int32) = zi 0 from zi_lit 0), zi_lt (by omega) (by omega) (by omega) (by omega)]
      exact b0
    · by_cases b4 : (D.K : Int) ≤ b - 4
      · refine no (by rw [cls, if_neg b0, if_pos b4]) (head h x.z.rh _ (zw_if (fun _ => thr h) fun _ => zw_bd1 (ldI_ok 0 (n := 2) rfl rfl (by decide)) (zw_if (fun _ => thr h) fun _ => zw_if (fun _ => thr h) fun _ => zw_t ?_ (thr h))))
        rw [x.z.rh.1.2.2.2.1, show (4 : Int32) + zi (D.K : Int) = zi (4 + (D.K : Int)) from zi_add 4 _, zi_le (by omega) (by omega) (by omega) (by omega)]
        omega
      · rcases x.run.1 with ⟨f1, f2⟩ | ⟨f1, f2, rr⟩
        · refine no (by rw [cls, if_neg b0, if_neg b4, if_pos f1]) (head h x.z.rh _ (zw_t ?_ (thr h)))
          rw [gI_sI, if_neg (by omega)]
          exact f2
        · obtain ⟨nx, n0, n1, n2, n3, n4, n5, n6⟩ := rr
          by_cases qn : a < nx
          · obtain ⟨cv, w1, w2, w3, w4, w5, w6⟩ := n5 a.toNat (by omega)
            have hv : ∀ k, k < 6 → gI h 226 (6 * a.toNat + k) = zi (cv k) := fun k hk => (w1 k hk).1
            have sb1 := zs_nn (f := cv) (n := 6) (fun i hi => (w1 i hi).2.1)
            have sb2 := zs_le (f := cv) (n := 6) (B := 60) (fun i hi => (w1 i hi).2.2.1)
            have bch := hD.c.1
            have val : s_X9_seen (zi a) (zi b) h = some (.inl (gI h 275 (10 * a.toNat + b.toNat))) := by
              rw [cls, if_neg b0, if_neg b4, if_neg (by rw [f1]; decide), n1, if_pos (by rw [zi_lt (by omega) (by omega) (by omega) (by omega)]; exact qn), ea]
              by_cases c0 : b = 0
              · rw [if_pos c0, c_cameOn (by omega) hv, bd_v, ← w3, c0]
                rfl
              · rw [if_neg c0]
                by_cases c1 : b = 1
                · rw [if_pos c1, c_cameOn (by omega) hv, bd_v, c1]
                  have e1 : (if 0 < zi (zs cv 6) - zi D.ch then zi (zs cv 6) - zi D.ch else 0) = zi (mz (zs cv 6 - D.ch)) := by
                    rw [zi_sub]
                    unfold mz
                    by_cases z : 0 < zs cv 6 - D.ch
                    · rw [if_pos (by rw [(show (0 : Int32) = zi 0 from zi_lit 0), zi_lt (by omega) (by omega) (by omega) (by omega)]; exact z), if_pos z]
                    · rw [if_neg (by rw [(show (0 : Int32) = zi 0 from zi_lit 0), zi_lt (by omega) (by omega) (by omega) (by omega)]; exact z), if_neg z]
                      rfl
                  rw [e1, ← w4]
                  rfl
                · rw [if_neg c1]
                  by_cases c2 : b = 2
                  · rw [if_pos c2, c_coins hD x.c (by omega) hv, bd_v, ← w5, c2]
                    rfl
                  · rw [if_neg c2]
                    by_cases c3 : b = 3
                    · rw [if_pos c3, at_ok a.toNat (n := 16) (by decide +kernel) rfl (by omega), bd_v, c3]
                      exact congrArg (fun z => some (Sum.inl z)) w6.symm
                    · rw [if_neg c3, c_cameOf (k := b.toNat - 4) (congrArg zi (by omega)) (by omega) (by omega), bd_v, hv _ (by omega), ← w2 (b.toNat - 4) (by omega)]
                      rw [show 10 * a.toNat + 4 + (b.toNat - 4) = 10 * a.toNat + b.toNat by omega]
            refine ag_v (v := (gI h 275 (10 * a.toNat + b.toNat)).toInt64) x ?_ ?_
            · unfold s_L_seen
              rw [if_pos rfl, val, bd_v, sm_l]
              exact hl_v rfl
            · have y := (x.o (gI h 275 (10 * a.toNat + b.toNat)).toInt64).z
              refine zw_e (z := (gI h 275 (10 * a.toNat + b.toNat), _)) ?_ ⟨rfl, g0_z, frz _⟩
              refine head _ y.rh _ ?_
              refine zw_f (by rw [gI_sI, if_neg (by omega), gI_sL, f2]; decide) ?_
              refine zw_bd1 (ldI_ok 0 (n := 2) rfl rfl (by decide)) ?_
              refine zw_f (by rw [gI_sI, if_neg (by omega), gI_sL, n2, zi_le (by omega) (by omega) (by omega) (by omega)]; omega) ?_
              refine zw_f (by rw [(show (0 : Int32) = zi 0 from zi_lit 0), zi_lt (by omega) (by omega) (by omega) (by omega)]; exact b0) ?_
              refine zw_f (by rw [y.rh.1.2.2.2.1, show (4 : Int32) + zi (D.K : Int) = zi (4 + (D.K : Int)) from zi_add 4 _, zi_le (by omega) (by omega) (by omega) (by omega)]; omega) ?_
              unfold j_X10_seen_50
              refine zw_bd1 (r_right (b := true) rfl g0_z (by decide)) ?_
              rw [if_pos rfl]
              refine zw_f one_ne ?_
              refine zw_bd1 (ldI_ok (10 * a.toNat + b.toNat) (n := 160) rfl (by rw [show (10 : Int32) * zi a + zi b = zi (10 * a + b) by rw [← zi_add, ← zi_mul]; rfl]; exact congrArg zi (by omega)) (by omega)) (zw_some (Prod.ext ?_ rfl))
              show gI (sI (sL h 277 0 (gI h 275 (10 * a.toNat + b.toNat)).toInt64) 240 0 0) 275 (10 * a.toNat + b.toNat) = gI h 275 (10 * a.toNat + b.toNat)
              rw [gI_sI, if_neg (by omega), gI_sL]
          · refine no (by rw [cls, if_neg b0, if_neg b4, if_neg (by rw [f1]; decide), n1, if_neg (by rw [zi_lt (by omega) (by omega) (by omega) (by omega)]; exact qn)]) (head h x.z.rh _ (zw_f ?_ (zw_bd1 (ldI_ok 0 (n := 2) rfl rfl (by decide)) (zw_t ?_ (thr h)))))
            · rw [gI_sI, if_neg (by omega), f2]; decide
            · rw [gI_sI, if_neg (by omega), n2, zi_le (by omega) (by omega) (by omega) (by omega)]
              omega
  · refine ag_t (k := 1) (b := 0) x ?_ (by decide) (zw_o ?_)
    · unfold s_L_seen s_X9_seen
      rw [if_pos rfl, c_needE x rfl ha1 ha2, if_neg q1]
      rfl
    · unfold s_X10_seen
      refine zw_bd1 (r_isE x.z.rh hN rfl ha1 ha2 g0_z) ?_
      rw [if_neg q1]
      exact zw_t rfl (zw_some rfl)
end
