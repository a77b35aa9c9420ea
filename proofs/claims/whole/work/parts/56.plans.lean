/-! 56.plans: the reference's plans -/
theorem ldivF_ne {x y : Int64} (hy : y ≠ 0) : ldivF x y = some (x / y) := by unfold ldivF; rw [if_neg hy]
def rSet (D : HD) : Nat → Int := fun e => D.E e 3
section
variable {D : HD} {h : AH} {t k th : Nat}
theorem r_mayGo (hD : WFD D) (x : RH D h) {e c : Nat} {a b d : Int32} (ht : t < 5) (ha : a = zi t) (hb : b = zi e) (hd : d = zi c) (he : e < D.N) (hc : c < 13) : s_X10_mayGo a b d h = some (if dM t (rSet D) e c = true then 1 else 0) := by
  subst ha hb hd
  unfold s_X10_mayGo dM
  by_cases h2 : t = 2
  · rw [if_pos (by rw [h2]; rfl), if_pos h2]
    by_cases c0 : c = 0
    · rw [if_pos (by rw [c0]; decide), if_neg (by rw [c0]; decide)]
    · rw [if_neg (by rw [(show (0 : Int32) = zi 0 from zi_lit 0), zi_le (by omega) (by omega) (by omega) (by omega)]; show ¬ (c : Int) ≤ 0; omega), if_pos (decide_eq_true (by omega))]
  · rw [if_neg (by rw [(show (2 : Int32) = zi 2 from zi_lit 2), zi_eq (by omega) (by omega) (by omega) (by omega)]; show ¬ (t : Int) = 2; omega), if_neg h2]
    by_cases h3 : t = 3
    · rw [if_pos (by rw [h3]; rfl), if_pos h3, r_E hD x e 3 (by first | (simp only [zi_lit, zi_neg, zi_add, zi_sub, zi_mul, zl_lit, zl_neg, zl_add, zl_sub, zl_mul, zl_i]; exact congrArg zi (by omega)) | (simp only [zi_lit, zi_neg, zi_add, zi_sub, zi_mul, zl_lit, zl_neg, zl_add, zl_sub, zl_mul, zl_i]; done) | exact congrArg zi (by omega)) he (by decide), bd_v]
      unfold rSet
      rcases (hD.e e he).2.2.2 with q | q
      · rw [q, if_neg (by decide), if_neg (by decide)]
      · rw [q, if_pos (by decide), if_pos (by decide)]
        rfl
    · rw [if_neg (by rw [(show (3 : Int32) = zi 3 from zi_lit 3), zi_eq (by omega) (by omega) (by omega) (by omega)]; show ¬ (t : Int) = 3; omega), if_neg h3, if_pos rfl]
      rfl
theorem r_cellT {e c n : Nat} (p1 p2 p3 p4 p7 p8 v9 v10 k0 : Int32) (p5 : Int64) (h4 : p4 = zi e) (h8 : p8 = zi c) (h9 : v9 = zi n) (he : e < 16) (hc : c < 13) (hn : n < 33) : zw (j_X10_plans_240_89 p1 p2 p3 p4 p5 p7 p8 v9 v10 k0 h) (fun r => r.1 = .inl (zi ((n + 1 : Nat) : Int)) ∧ Fr (fun a j => (a = 251 ∨ a = 252) ∧ j = 429 * e + 33 * c + n) h r.2 ∧ gI r.2 252 (429 * e + 33 * c + n) = (if k0 ≤ v10 then 0 else 1) ∧ gI r.2 251 (429 * e + 33 * c + n) = (if k0 ≤ v10 then v10 else v10 + (((k0 - v10).toInt64 * p5) / 1000000).toInt32)) := by
  subst h4 h8 h9
  unfold j_X10_plans_240_89 s_X10_at
  rw [bd_v]
  have fin : ∀ (w b : Int32) (h1 : AH), zw (j_X10_plans_310_89 p1 p2 p3 (zi e) p5 p7 (zi c) (zi n) w (429 * zi e + 33 * zi c + zi n) h1) (fun r => r.1 = .inl (zi ((n + 1 : Nat) : Int)) ∧ r.2 = sI h1 251 (429 * e + 33 * c + n) w) := by
    intro w b h1
    unfold j_X10_plans_310_89
    rw [stI_ok (429 * e + 33 * c + n) (n := 7293) rfl (by first | (simp only [zi_lit, zi_neg, zi_add, zi_sub, zi_mul, zl_lit, zl_neg, zl_add, zl_sub, zl_mul, zl_i]; exact congrArg zi (by omega)) | (simp only [zi_lit, zi_neg, zi_add, zi_sub, zi_mul, zl_lit, zl_neg, zl_add, zl_sub, zl_mul, zl_i]; done) | exact congrArg zi (by omega)) (by omega), bd_v]
    refine zw_some ⟨?_, rfl⟩
    exact congrArg Sum.inl (by first | (simp only [zi_lit, zi_neg, zi_add, zi_sub, zi_mul, zl_lit, zl_neg, zl_add, zl_sub, zl_mul, zl_i]; exact congrArg zi (by omega)) | (simp only [zi_lit, zi_neg, zi_add, zi_sub, zi_mul, zl_lit, zl_neg, zl_add, zl_sub, zl_mul, zl_i]; done) | exact congrArg zi (by omega))
  have hf : ∀ (b w : Int32), Fr (fun a j => (a = 251 ∨ a = 252) ∧ j = 429 * e + 33 * c + n) h (sI (sI h 252 (429 * e + 33 * c + n) b) 251 (429 * e + 33 * c + n) w) := fun b w => ((Fr.refl _ h).sI (by omega)).sI (by omega)
  by_cases q : k0 ≤ v10
  · rw [if_pos q, if_pos q, if_pos q]
    unfold j_X10_plans_267_89 s_X10_at
    rw [stZ_ok (429 * e + 33 * c + n) (n := 7293) rfl (by first | (simp only [zi_lit, zi_neg, zi_add, zi_sub, zi_mul, zl_lit, zl_neg, zl_add, zl_sub, zl_mul, zl_i]; exact congrArg zi (by omega)) | (simp only [zi_lit, zi_neg, zi_add, zi_sub, zi_mul, zl_lit, zl_neg, zl_add, zl_sub, zl_mul, zl_i]; done) | exact congrArg zi (by omega)) (by omega) (Or.inl rfl), bd_v, bd_v, if_pos q]
    refine zw_mono (fin v10 0 _) ?_
    rintro ⟨r1, r2⟩ ⟨e1, rfl⟩
    refine ⟨e1, hf _ _, ?_, ?_⟩
    · show gI (sI (sI h 252 _ _) 251 _ _) 252 _ = _
      rw [gI_sI, if_neg (by omega), gI_sI, if_pos ⟨rfl, rfl⟩]
    · show gI (sI (sI h 252 _ _) 251 _ _) 251 _ = _
      rw [gI_sI, if_pos ⟨rfl, rfl⟩]
  · rw [if_neg q, if_neg q, if_neg q]
    unfold j_X10_plans_267_89 s_X10_at
    rw [stZ_ok (429 * e + 33 * c + n) (n := 7293) rfl (by first | (simp only [zi_lit, zi_neg, zi_add, zi_sub, zi_mul, zl_lit, zl_neg, zl_add, zl_sub, zl_mul, zl_i]; exact congrArg zi (by omega)) | (simp only [zi_lit, zi_neg, zi_add, zi_sub, zi_mul, zl_lit, zl_neg, zl_add, zl_sub, zl_mul, zl_i]; done) | exact congrArg zi (by omega)) (by omega) (Or.inr rfl), bd_v, bd_v, if_neg q, ldivF_ne (by decide), bd_v]
    refine zw_mono (fin _ 0 _) ?_
    rintro ⟨r1, r2⟩ ⟨e1, rfl⟩
    refine ⟨e1, hf _ _, ?_, ?_⟩
    · show gI (sI (sI h 252 _ _) 251 _ _) 252 _ = _
      rw [gI_sI, if_neg (by omega), gI_sI, if_pos ⟨rfl, rfl⟩]
    · show gI (sI (sI h 252 _ _) 251 _ _) 251 _ = _
      rw [gI_sI, if_pos ⟨rfl, rfl⟩]
theorem r_cell (hD : WFD D) (x : RH D h) {i e c n : Nat} (hk : k < D.K) (ht : t < 5) (hth : th = 1 ∨ th = 2) (he : e + 1 + i = D.N) (hc : c < 13) (hn : n < 33) {p1 p2 p3 p4 p7 p8 s : Int32} {p5 : Int64} (h1 : p1 = zi k) (h2 : p2 = zi t) (h4 : p4 = zi e) (h5 : p5 = zl (dC D k e th)) (h7 : p7 = zi (D.Q k (6 + (D.E e 0).toNat))) (h8 : p8 = zi c) (hs : s = zi n)
    (hv : ∀ c' n', c' < 13 → n' + i ≤ 32 → gI h 251 (429 * (e + 1) + 33 * c' + n') = zi (pV D (rSet D) k t th i c' n')) :
    zw (l_X10_plans_89 p1 p2 p3 p4 p5 p7 p8 s h) (fun r => r.1 = .inl (zi ((n + 1 : Nat) : Int)) ∧ Fr (fun a j => (a = 251 ∨ a = 252) ∧ j = 429 * e + 33 * c + n) h r.2 ∧ (n + i + 1 ≤ 32 → gI r.2 251 (429 * e + 33 * c + n) = zi (pV D (rSet D) k t th (i + 1) c n) ∧ gI r.2 252 (429 * e + 33 * c + n) = zi (if pGo D (rSet D) k t th i c n = true then 1 else 0))) := by
  have hN := hD.N16
  have he' : D.N - 1 - i = e := by omega
  have bG := dG_b hD (t := t) hk (e := e) (by omega) (n := n) (by omega)
  have bE := (hD.e e (by omega)).2.1
  have bF := (hD.q k hk).2.2.2.2.2.1
  subst h1 h2 h4 h5 h7 h8 hs
  unfold l_X10_plans_89 s_X10_at
  refine zw_f (by rw [(show (33 : Int32) = zi 33 from zi_lit 33), zi_le (by omega) (by omega) (by omega) (by omega)]; show ¬ (33 : Int) ≤ n; omega) ?_
  rw [bd_v]
  refine zw_bd1 (ldI_ok (429 * (e + 1) + 33 * c + n) (n := 7293) rfl (by first | (simp only [zi_lit, zi_neg, zi_add, zi_sub, zi_mul, zl_lit, zl_neg, zl_add, zl_sub, zl_mul, zl_i]; exact congrArg zi (by omega)) | (simp only [zi_lit, zi_neg, zi_add, zi_sub, zi_mul, zl_lit, zl_neg, zl_add, zl_sub, zl_mul, zl_i]; done) | exact congrArg zi (by omega)) (by omega)) ?_
  refine zw_bd1 (r_of hD x (k := k) (w := 5) rfl ((show (5 : Int32) = zi 5 from zi_lit 5)) hk (by decide)) ?_
  generalize hst : gI h 251 (429 * (e + 1) + 33 * c + n) = st
  -- behind the gain
  have tail : zw (j_X10_plans_166_89 (zi k) (zi t) p3 (zi e) (zl (dC D k e th)) (zi (D.Q k (6 + (D.E e 0).toNat))) (zi c) (zi n) st (zi (if t = 0 then 1000 * D.E e 1 else 0)) (zi (D.Q k (6 + (D.E e 0).toNat) * mz (1000 - D.Q k 5 * n))) h) (fun r => r.1 = .inl (zi ((n + 1 : Nat) : Int)) ∧ Fr (fun a j => (a = 251 ∨ a = 252) ∧ j = 429 * e + 33 * c + n) h r.2 ∧ (n + i + 1 ≤ 32 → gI r.2 251 (429 * e + 33 * c + n) = zi (pV D (rSet D) k t th (i + 1) c n) ∧ gI r.2 252 (429 * e + 33 * c + n) = zi (if pGo D (rSet D) k t th i c n = true then 1 else 0))) := by
    unfold j_X10_plans_166_89
    refine zw_bd1 (r_mayGo hD x ht rfl rfl rfl (by omega) hc) ?_
    have hgain : zi (D.Q k (6 + (D.E e 0).toNat) * mz (1000 - D.Q k 5 * n)) - zi (if t = 0 then 1000 * D.E e 1 else 0) = zi (dG D k t e n) := by
      rw [zi_sub]; rfl
    rw [hgain]
    -- not going
    have stays : (n + i + 1 ≤ 32 → dM t (rSet D) e c = false) → zw (j_X10_plans_194_89 (zi k) (zi t) p3 (zi e) (zl (dC D k e th)) (zi (D.Q k (6 + (D.E e 0).toNat))) (zi c) (zi n) st (zi (dG D k t e n)) h) (fun r => r.1 = .inl (zi ((n + 1 : Nat) : Int)) ∧ Fr (fun a j => (a = 251 ∨ a = 252) ∧ j = 429 * e + 33 * c + n) h r.2 ∧ (n + i + 1 ≤ 32 → gI r.2 251 (429 * e + 33 * c + n) = zi (pV D (rSet D) k t th (i + 1) c n) ∧ gI r.2 252 (429 * e + 33 * c + n) = zi (if pGo D (rSet D) k t th i c n = true then 1 else 0))) := by
      intro hm
      unfold j_X10_plans_194_89 j_X10_plans_195_89
      refine zw_t rfl ?_
      refine zw_mono (r_cellT (h := h) (zi k) (zi t) p3 (zi e) (zi (D.Q k (6 + (D.E e 0).toNat))) (zi c) (zi n) st st (zl (dC D k e th)) rfl rfl rfl (by omega) hc hn) ?_
      rintro ⟨r1, r2⟩ ⟨e1, hf, hb, ha⟩
      dsimp only at e1 hf hb ha ⊢
      refine ⟨e1, hf, fun hle => ?_⟩
      have hg : pGo D (rSet D) k t th i c n = false := by unfold pGo; rw [he', hm hle]; rfl
      rw [if_pos (Int32.le_refl st)] at hb ha
      rw [ha, hb, pV_s, hg, ← hst, hv c n hc (by omega)]
      exact ⟨rfl, rfl⟩
    cases hm : dM t (rSet D) e c
    · exact zw_t (by decide) (stays (fun _ => hm))
    · rw [if_pos rfl]
      refine zw_f (by decide) ?_
      by_cases q33 : n + 1 = 33
      · exact zw_t (by simp only [zi_lit, zi_neg, zi_add, zi_sub, zi_mul, zl_lit, zl_neg, zl_add, zl_sub, zl_mul, zl_i]; rw [zi_le (by omega) (by omega) (by omega) (by omega)]; omega) (stays (fun z => by omega))
      · refine zw_f (by simp only [zi_lit, zi_neg, zi_add, zi_sub, zi_mul, zl_lit, zl_neg, zl_add, zl_sub, zl_mul, zl_i]; rw [zi_le (by omega) (by omega) (by omega) (by omega)]; omega) ?_
        have going : ∀ (k0 k1 : Int32), k0 = zi (if t = 2 then c - 1 else c : Nat) → k1 = zi (e + 1 : Nat) → zw (j_X10_plans_226_89 (zi k) (zi t) p3 (zi e) (zl (dC D k e th)) (zi (D.Q k (6 + (D.E e 0).toNat))) (zi c) (zi n) st k0 k1 (zi (dG D k t e n)) h) (fun r => r.1 = .inl (zi ((n + 1 : Nat) : Int)) ∧ Fr (fun a j => (a = 251 ∨ a = 252) ∧ j = 429 * e + 33 * c + n) h r.2 ∧ (n + i + 1 ≤ 32 → gI r.2 251 (429 * e + 33 * c + n) = zi (pV D (rSet D) k t th (i + 1) c n) ∧ gI r.2 252 (429 * e + 33 * c + n) = zi (if pGo D (rSet D) k t th i c n = true then 1 else 0))) := by
          rintro k0 k1 rfl rfl
          have hcb : (if t = 2 then c - 1 else c) < 13 := by split <;> omega
          unfold j_X10_plans_226_89 s_X10_at
          rw [bd_v]
          refine zw_bd1 (ldI_ok (429 * (e + 1) + 33 * (if t = 2 then c - 1 else c) + (n + 1)) (n := 7293) rfl (by first | (simp only [zi_lit, zi_neg, zi_add, zi_sub, zi_mul, zl_lit, zl_neg, zl_add, zl_sub, zl_mul, zl_i]; exact congrArg zi (by omega)) | (simp only [zi_lit, zi_neg, zi_add, zi_sub, zi_mul, zl_lit, zl_neg, zl_add, zl_sub, zl_mul, zl_i]; done) | exact congrArg zi (by omega)) (by omega)) ?_
          refine zw_mono (r_cellT (h := h) (zi k) (zi t) p3 (zi e) (zi (D.Q k (6 + (D.E e 0).toNat))) (zi c) (zi n) st _ (zl (dC D k e th)) rfl rfl rfl (by omega) hc hn) ?_
          rintro ⟨r1, r2⟩ ⟨e1, hf, hb, ha⟩
          dsimp only at e1 hf hb ha ⊢
          refine ⟨e1, hf, fun hle => ?_⟩
          have bV := pV_b hD (rSet D) (t := t) hk hth i c n (by omega) (by omega)
          have bX := pX_b hD (rSet D) (t := t) hk hth (r := i) (c := c) (n := n) (by omega) (by omega)
          have bC := (dC_b hD hk (e := e) (by omega) hth).2.2
          have bI : (i : Int) ≤ 16 := by omega
          have hx : zi (dG D k t e n) + gI h 251 (429 * (e + 1) + 33 * (if t = 2 then c - 1 else c) + (n + 1)) = zi (pX D (rSet D) k t th i c n) := by
            rw [hv _ _ hcb (by omega), zi_add]
            unfold pX
            rw [he']
          have hst' : st = zi (pV D (rSet D) k t th i c n) := by rw [← hst, hv c n hc (by omega)]
          have hgo : pGo D (rSet D) k t th i c n = true ↔ pV D (rSet D) k t th i c n < pX D (rSet D) k t th i c n := by
            rw [pGo_t, he']
            exact ⟨fun z => z.2, fun z => ⟨hm, z⟩⟩
          rw [hx, hst'] at ha hb
          have hle2 : zi (pX D (rSet D) k t th i c n) ≤ zi (pV D (rSet D) k t th i c n) ↔ ¬ pV D (rSet D) k t th i c n < pX D (rSet D) k t th i c n := by
            rw [zi_le (by omega) (by omega) (by omega) (by omega)]
            omega
          by_cases hlt : pV D (rSet D) k t th i c n < pX D (rSet D) k t th i c n
          · have m := mul_b (a := pX D (rSet D) k t th i c n - pV D (rSet D) k t th i c n) (A := 20000000) (B := 1000000) (by omega) (by omega) bC.1 bC.2
            rw [if_neg (fun z => hle2.mp z hlt)] at ha hb
            rw [ha, hb, pV_s, if_pos (hgo.mpr hlt), if_pos (hgo.mpr hlt), he', zi_sub, zi_l (by omega) (by omega), zl_mul, (show (1000000 : Int64) = zl 1000000 from zl_lit 1000000), zl_div (by omega) (by omega) (by decide) (by decide), zl_i, zi_add]
            exact ⟨rfl, rfl⟩
          · rw [if_pos (hle2.mpr hlt)] at ha hb
            rw [ha, hb, pV_s, if_neg (fun z => hlt (hgo.mp z)), if_neg (fun z => hlt (hgo.mp z))]
            exact ⟨rfl, rfl⟩
        unfold j_X10_plans_195_89
        refine zw_f (by decide) ?_
        by_cases ht2 : t = 2
        · refine zw_t (by rw [ht2]; rfl) (going _ _ ?_ (by first | (simp only [zi_lit, zi_neg, zi_add, zi_sub, zi_mul, zl_lit, zl_neg, zl_add, zl_sub, zl_mul, zl_i]; exact congrArg zi (by omega)) | (simp only [zi_lit, zi_neg, zi_add, zi_sub, zi_mul, zl_lit, zl_neg, zl_add, zl_sub, zl_mul, zl_i]; done) | exact congrArg zi (by omega)))
          have c0 : 0 < c := by
            unfold dM at hm
            rw [if_pos ht2] at hm
            exact of_decide_eq_true hm
          rw [if_pos ht2]
          exact (by first | (simp only [zi_lit, zi_neg, zi_add, zi_sub, zi_mul, zl_lit, zl_neg, zl_add, zl_sub, zl_mul, zl_i]; exact congrArg zi (by omega)) | (simp only [zi_lit, zi_neg, zi_add, zi_sub, zi_mul, zl_lit, zl_neg, zl_add, zl_sub, zl_mul, zl_i]; done) | exact congrArg zi (by omega))
        · refine zw_f (by rw [(show (2 : Int32) = zi 2 from zi_lit 2), zi_eq (by omega) (by omega) (by omega) (by omega)]; show ¬ (t : Int) = 2; omega) (going _ _ ?_ (by first | (simp only [zi_lit, zi_neg, zi_add, zi_sub, zi_mul, zl_lit, zl_neg, zl_add, zl_sub, zl_mul, zl_i]; exact congrArg zi (by omega)) | (simp only [zi_lit, zi_neg, zi_add, zi_sub, zi_mul, zl_lit, zl_neg, zl_add, zl_sub, zl_mul, zl_i]; done) | exact congrArg zi (by omega)))
          rw [if_neg ht2]
  have mid : ∀ k0 : Int32, k0 = zi (mz (1000 - D.Q k 5 * n)) → zw (j_X10_plans_142_89 (zi k) (zi t) p3 (zi e) (zl (dC D k e th)) (zi (D.Q k (6 + (D.E e 0).toNat))) (zi c) (zi n) st k0 (zi (D.Q k (6 + (D.E e 0).toNat))) h) (fun r => r.1 = .inl (zi ((n + 1 : Nat) : Int)) ∧ Fr (fun a j => (a = 251 ∨ a = 252) ∧ j = 429 * e + 33 * c + n) h r.2 ∧ (n + i + 1 ≤ 32 → gI r.2 251 (429 * e + 33 * c + n) = zi (pV D (rSet D) k t th (i + 1) c n) ∧ gI r.2 252 (429 * e + 33 * c + n) = zi (if pGo D (rSet D) k t th i c n = true then 1 else 0))) := by
    rintro k0 rfl
    unfold j_X10_plans_142_89
    rw [zi_mul]
    by_cases ht0 : t = 0
    · refine zw_t (by rw [ht0]; rfl) ?_
      refine zw_bd1 (r_E hD x e 1 (by first | (simp only [zi_lit, zi_neg, zi_add, zi_sub, zi_mul, zl_lit, zl_neg, zl_add, zl_sub, zl_mul, zl_i]; exact congrArg zi (by omega)) | (simp only [zi_lit, zi_neg, zi_add, zi_sub, zi_mul, zl_lit, zl_neg, zl_add, zl_sub, zl_mul, zl_i]; done) | exact congrArg zi (by omega)) (by omega) (by decide)) ?_
      rw [show (1000 : Int32) * zi (D.E e 1) = zi (if t = 0 then 1000 * D.E e 1 else 0) by rw [if_pos ht0]; exact (by first | (simp only [zi_lit, zi_neg, zi_add, zi_sub, zi_mul, zl_lit, zl_neg, zl_add, zl_sub, zl_mul, zl_i]; exact congrArg zi (by omega)) | (simp only [zi_lit, zi_neg, zi_add, zi_sub, zi_mul, zl_lit, zl_neg, zl_add, zl_sub, zl_mul, zl_i]; done) | exact congrArg zi (by omega))]
      exact tail
    · refine zw_f (by rw [(show (0 : Int32) = zi 0 from zi_lit 0), zi_eq (by omega) (by omega) (by omega) (by omega)]; show ¬ (t : Int) = 0; omega) ?_
      rw [show (0 : Int32) = zi (if t = 0 then 1000 * D.E e 1 else 0) by rw [if_neg ht0]; rfl]
      exact tail
  by_cases q : 0 ≤ 1000 - D.Q k 5 * n
  · refine zw_t (by simp only [zi_lit, zi_neg, zi_add, zi_sub, zi_mul, zl_lit, zl_neg, zl_add, zl_sub, zl_mul, zl_i]; rw [zi_le (by omega) (by omega) (by omega) (by omega)]; exact q) (mid _ ?_)
    simp only [zi_lit, zi_neg, zi_add, zi_sub, zi_mul, zl_lit, zl_neg, zl_add, zl_sub, zl_mul, zl_i]
    refine congrArg zi ?_
    unfold mz
    split <;> omega
  · refine zw_f (by simp only [zi_lit, zi_neg, zi_add, zi_sub, zi_mul, zl_lit, zl_neg, zl_add, zl_sub, zl_mul, zl_i]; rw [zi_le (by omega) (by omega) (by omega) (by omega)]; exact q) (mid _ ?_)
    rw [(show (0 : Int32) = zi 0 from zi_lit 0)]
    refine congrArg zi ?_
    unfold mz
    rw [if_neg (by omega)]
theorem r_row (hD : WFD D) (x : RH D h) {i e c : Nat} (hk : k < D.K) (ht : t < 5) (hth : th = 1 ∨ th = 2) (he : e + 1 + i = D.N) (hc : c < 13) {p1 p2 p3 p4 p7 p8 : Int32} {p5 : Int64} (h1 : p1 = zi k) (h2 : p2 = zi t) (h4 : p4 = zi e) (h5 : p5 = zl (dC D k e th)) (h7 : p7 = zi (D.Q k (6 + (D.E e 0).toNat))) (h8 : p8 = zi c)
    (hv : ∀ c' n', c' < 13 → n' + i ≤ 32 → gI h 251 (429 * (e + 1) + 33 * c' + n') = zi (pV D (rSet D) k t th i c' n')) :
    zw (lpH (l_X10_plans_89 p1 p2 p3 p4 p5 p7 p8) FU 0 h) (fun r => Fr (fun a j => (a = 251 ∨ a = 252) ∧ 429 * e + 33 * c ≤ j ∧ j < 429 * e + 33 * c + 33) h r.2 ∧ (∀ n, n + i + 1 ≤ 32 → gI r.2 251 (429 * e + 33 * c + n) = zi (pV D (rSet D) k t th (i + 1) c n) ∧ gI r.2 252 (429 * e + 33 * c + n) = zi (if pGo D (rSet D) k t th i c n = true then 1 else 0))) := by
  refine zw_for 33 (fun n => zi n) () (fun m h' => Fr (fun a j => (a = 251 ∨ a = 252) ∧ 429 * e + 33 * c ≤ j ∧ j < 429 * e + 33 * c + 33) h h' ∧ (∀ n, n < m → n + i + 1 ≤ 32 → gI h' 251 (429 * e + 33 * c + n) = zi (pV D (rSet D) k t th (i + 1) c n) ∧ gI h' 252 (429 * e + 33 * c + n) = zi (if pGo D (rSet D) k t th i c n = true then 1 else 0))) (by decide) rfl ⟨Fr.refl _ _, fun n hn => by omega⟩ ?_ ?_
  · rintro n h' hn ⟨hf, ha⟩
    refine zw_mono (r_cell hD (x.fr hf (by intro a j; omega)) hk ht hth he hc hn h1 h2 h4 h5 h7 h8 rfl (fun c' n' a1 a2 => by rw [hf.i (by omega)]; exact hv c' n' a1 a2)) ?_
    rintro ⟨r1, r2⟩ ⟨e1, hf2, ha2⟩
    dsimp only at e1 hf2 ha2 ⊢
    refine ⟨e1, hf.trans (hf2.mono (by omega)), fun j hj hle => ?_⟩
    by_cases hjn : j = n
    · subst hjn; exact ha2 hle
    · rw [hf2.i (by omega), hf2.i (by omega)]
      exact ha j (by omega) hle
  · rintro h' ⟨hf, ha⟩
    unfold l_X10_plans_89
    exact zw_t (by decide) (zw_some ⟨rfl, hf, fun n hn => ha n (by omega) hn⟩)
def RPlan (D : HD) (k t th : Nat) (h : AH) : Prop := (∀ e c n, e ≤ D.N → c < 13 → n + (D.N - e) ≤ 32 → gI h 251 (429 * e + 33 * c + n) = zi (pV D (rSet D) k t th (D.N - e) c n)) ∧ (∀ e c n, e < D.N → c < 13 → n + (D.N - e) ≤ 32 → gI h 252 (429 * e + 33 * c + n) = zi (if pGo D (rSet D) k t th (D.N - 1 - e) c n = true then 1 else 0))
theorem r_plans (hD : WFD D) (x : RH D h) (hk : k < D.K) (ht : t < 5) {a0 a1 a2 : Int32} (h0 : a0 = zi k) (h1 : a1 = zi t) (h2 : (th = 1 ∧ a2 = 0) ∨ (th = 2 ∧ a2 = 1)) : zw (s_X10_plans a0 a1 a2 h) (fun r => Fr (fun a _ => a = 251 ∨ a = 252) h r.2 ∧ RPlan D k t th r.2) := by
  have hN := hD.N16
  have hth : th = 1 ∨ th = 2 := by rcases h2 with h2 | h2; exact Or.inl h2.1; exact Or.inr h2.1
  unfold s_X10_plans
  refine zw_bd (P := fun y => Fr (fun a _ => a = 251 ∨ a = 252) h y.2 ∧ (∀ j, j < 429 → gI y.2 251 (429 * D.N + j) = 0)) ?_ ?_
  · refine zw_for 429 (fun n => zi n) () (fun m h' => Fr (fun a _ => a = 251 ∨ a = 252) h h' ∧ (∀ j, j < m → gI h' 251 (429 * D.N + j) = 0)) (by decide) rfl ⟨Fr.refl _ _, fun n hn => by omega⟩ ?_ ?_
    · rintro n h' hn ⟨hf, ha⟩
      unfold l_X10_plans_3
      refine zw_f (by rw [(show (429 : Int32) = zi 429 from zi_lit 429), zi_le (by omega) (by omega) (by omega) (by omega)]; show ¬ (429 : Int) ≤ n; omega) ?_
      rw [(x.fr hf (by intro a j; omega)).1.2.2.1, stI_ok (429 * D.N + n) (n := 7293) rfl (by first | (simp only [zi_lit, zi_neg, zi_add, zi_sub, zi_mul, zl_lit, zl_neg, zl_add, zl_sub, zl_mul, zl_i]; exact congrArg zi (by omega)) | (simp only [zi_lit, zi_neg, zi_add, zi_sub, zi_mul, zl_lit, zl_neg, zl_add, zl_sub, zl_mul, zl_i]; done) | exact congrArg zi (by omega)) (by omega), bd_v]
      refine zw_some ⟨congrArg Sum.inl (by first | (simp only [zi_lit, zi_neg, zi_add, zi_sub, zi_mul, zl_lit, zl_neg, zl_add, zl_sub, zl_mul, zl_i]; exact congrArg zi (by omega)) | (simp only [zi_lit, zi_neg, zi_add, zi_sub, zi_mul, zl_lit, zl_neg, zl_add, zl_sub, zl_mul, zl_i]; done) | exact congrArg zi (by omega)), hf.sI (by omega), fun j hj => ?_⟩
      show gI (sI h' 251 _ _) 251 _ = 0
      rw [gI_sI]
      split
      · rfl
      · exact ha j (by omega)
    · rintro h' ⟨hf, ha⟩
      unfold l_X10_plans_3
      exact zw_t (by decide) (zw_some ⟨rfl, hf, ha⟩)
  · rintro ⟨u, h1'⟩ ⟨f1, z1⟩
    dsimp only at f1 z1 ⊢
    rw [(x.fr f1 (by intro a j; omega)).1.2.2.1]
    refine zw_bd (P := fun y => Fr (fun a _ => a = 251 ∨ a = 252) h y.2 ∧ RPlan D k t th y.2) ?_ (fun y hy => zw_some hy)
    refine zw_for D.N (fun i => zi ((D.N : Int) - 1 - i)) () (fun i h' => Fr (fun a _ => a = 251 ∨ a = 252) h h' ∧ (∀ e c n, D.N - i ≤ e → e ≤ D.N → c < 13 → n + (D.N - e) ≤ 32 → gI h' 251 (429 * e + 33 * c + n) = zi (pV D (rSet D) k t th (D.N - e) c n)) ∧ (∀ e c n, D.N - i ≤ e → e < D.N → c < 13 → n + (D.N - e) ≤ 32 → gI h' 252 (429 * e + 33 * c + n) = zi (if pGo D (rSet D) k t th (D.N - 1 - e) c n = true then 1 else 0))) (by omega) ?_ ⟨f1, fun e c n q1 q2 q3 q4 => ?_, fun e c n q1 q2 => by omega⟩ ?_ ?_
    · exact (by first | (simp only [zi_lit, zi_neg, zi_add, zi_sub, zi_mul, zl_lit, zl_neg, zl_add, zl_sub, zl_mul, zl_i]; exact congrArg zi (by omega)) | (simp only [zi_lit, zi_neg, zi_add, zi_sub, zi_mul, zl_lit, zl_neg, zl_add, zl_sub, zl_mul, zl_i]; done) | exact congrArg zi (by omega))
    · have : e = D.N := by omega
      subst this
      rw [Nat.sub_self, pV_0, Nat.add_assoc]
      exact z1 _ (by omega)
    · rintro i h' hi ⟨hf, ha, hb⟩
      have xs := x.fr hf (by intro a j; omega)
      unfold l_X10_plans_42
      refine zw_f (by rw [(show (0 : Int32) = zi 0 from zi_lit 0), zi_lt (by omega) (by omega) (by omega) (by omega)]; show ¬ (D.N : Int) - 1 - i < 0; omega) ?_
      have he : D.N - 1 - i + 1 + i = D.N := by omega
      have hes : zi ((D.N : Int) - 1 - i) = zi ((D.N - 1 - i : Nat) : Int) := congrArg zi (by omega)
      have bE := (hD.e (D.N - 1 - i) (by omega)).1
      rw [hes]
      refine zw_bd1 (r_chance hD xs h0 rfl hk (by omega) h2) ?_
      refine zw_bd1 (r_E hD xs (D.N - 1 - i) 0 (by first | (simp only [zi_lit, zi_neg, zi_add, zi_sub, zi_mul, zl_lit, zl_neg, zl_add, zl_sub, zl_mul, zl_i]; exact congrArg zi (by omega)) | (simp only [zi_lit, zi_neg, zi_add, zi_sub, zi_mul, zl_lit, zl_neg, zl_add, zl_sub, zl_mul, zl_i]; done) | exact congrArg zi (by omega)) (by omega) (by decide)) ?_
      refine zw_bd1 (r_of hD xs (w := 6 + (D.E (D.N - 1 - i) 0).toNat) h0 (by first | (simp only [zi_lit, zi_neg, zi_add, zi_sub, zi_mul, zl_lit, zl_neg, zl_add, zl_sub, zl_mul, zl_i]; exact congrArg zi (by omega)) | (simp only [zi_lit, zi_neg, zi_add, zi_sub, zi_mul, zl_lit, zl_neg, zl_add, zl_sub, zl_mul, zl_i]; done) | exact congrArg zi (by omega)) hk (by omega)) ?_
      refine zw_bd (P := fun y => Fr (fun a j => (a = 251 ∨ a = 252) ∧ 429 * (D.N - 1 - i) ≤ j ∧ j < 429 * (D.N - 1 - i) + 429) h' y.2 ∧ (∀ c n, c < 13 → n + i + 1 ≤ 32 → gI y.2 251 (429 * (D.N - 1 - i) + 33 * c + n) = zi (pV D (rSet D) k t th (i + 1) c n) ∧ gI y.2 252 (429 * (D.N - 1 - i) + 33 * c + n) = zi (if pGo D (rSet D) k t th i c n = true then 1 else 0))) ?_ ?_
      · refine zw_for 13 (fun n => zi n) () (fun m h2 => Fr (fun a j => (a = 251 ∨ a = 252) ∧ 429 * (D.N - 1 - i) ≤ j ∧ j < 429 * (D.N - 1 - i) + 429) h' h2 ∧ (∀ c n, c < m → n + i + 1 ≤ 32 → gI h2 251 (429 * (D.N - 1 - i) + 33 * c + n) = zi (pV D (rSet D) k t th (i + 1) c n) ∧ gI h2 252 (429 * (D.N - 1 - i) + 33 * c + n) = zi (if pGo D (rSet D) k t th i c n = true then 1 else 0))) (by decide) rfl ⟨Fr.refl _ _, fun c n hn => by omega⟩ ?_ ?_
        · rintro c h2 hc ⟨hf2, ha2⟩
          unfold l_X10_plans_79
          refine zw_f (by rw [(show (13 : Int32) = zi 13 from zi_lit 13), zi_le (by omega) (by omega) (by omega) (by omega)]; show ¬ (13 : Int) ≤ c; omega) ?_
          refine zw_bd (r_row hD (xs.fr hf2 (by intro a j; omega)) (i := i) hk ht hth he hc h0 h1 rfl rfl rfl rfl (fun c' n' q1 q2 => ?_)) ?_
          · rw [hf2.i (by omega)]
            have := ha (D.N - 1 - i + 1) c' n' (by omega) (by omega) q1 (by omega)
            rw [show D.N - (D.N - 1 - i + 1) = i by omega] at this
            exact this
          · rintro ⟨u3, h3⟩ ⟨hf3, ha3⟩
            dsimp only at hf3 ha3 ⊢
            refine zw_some ⟨congrArg Sum.inl (by first | (simp only [zi_lit, zi_neg, zi_add, zi_sub, zi_mul, zl_lit, zl_neg, zl_add, zl_sub, zl_mul, zl_i]; exact congrArg zi (by omega)) | (simp only [zi_lit, zi_neg, zi_add, zi_sub, zi_mul, zl_lit, zl_neg, zl_add, zl_sub, zl_mul, zl_i]; done) | exact congrArg zi (by omega)), hf2.trans (hf3.mono (by omega)), fun c' n' q1 q2 => ?_⟩
            by_cases hcc : c' = c
            · subst hcc; exact ha3 n' q2
            · show gI h3 251 _ = _ ∧ gI h3 252 _ = _
              rw [hf3.i (by omega), hf3.i (by omega)]
              exact ha2 c' n' (by omega) q2
        · rintro h2 ⟨hf2, ha2⟩
          unfold l_X10_plans_79
          exact zw_t (by decide) (zw_some ⟨rfl, hf2, ha2⟩)
      · rintro ⟨u3, h3⟩ ⟨hf3, ha3⟩
        dsimp only at hf3 ha3 ⊢
        refine zw_some ⟨?_, hf.trans (hf3.mono (by omega)), fun e c n q1 q2 q3 q4 => ?_, fun e c n q1 q2 q3 q4 => ?_⟩
        · refine congrArg Sum.inl ?_
          simp only [zi_lit, zi_neg, zi_add, zi_sub, zi_mul, zl_lit, zl_neg, zl_add, zl_sub, zl_mul, zl_i]
          exact congrArg zi (by omega)
        · show gI h3 251 _ = _
          by_cases hee : e = D.N - 1 - i
          · subst hee
            rw [show D.N - (D.N - 1 - i) = i + 1 by omega]
            exact (ha3 c n q3 (by omega)).1
          · rw [hf3.i (by omega)]
            exact ha e c n (by omega) q2 q3 q4
        · show gI h3 252 _ = _
          by_cases hee : e = D.N - 1 - i
          · subst hee
            rw [show D.N - 1 - (D.N - 1 - i) = i by omega]
            exact (ha3 c n q3 (by omega)).2
          · rw [hf3.i (by omega)]
            exact hb e c n (by omega) q2 q3 q4
    · rintro h' ⟨hf, ha, hb⟩
      unfold l_X10_plans_42
      refine zw_t (by rw [(show (0 : Int32) = zi 0 from zi_lit 0), zi_lt (by omega) (by omega) (by omega) (by omega)]; show (D.N : Int) - 1 - (D.N : Nat) < 0; omega) ?_
      exact zw_some ⟨rfl, hf, fun e c n q1 q2 q3 => ha e c n (by omega) q1 q2 q3, fun e c n q1 q2 q3 => hb e c n (by omega) q1 q2 q3⟩
end
