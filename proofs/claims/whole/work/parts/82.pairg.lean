/-! 82.pairg: pairs alike -/
section
variable {D : HD} {h : AH}
theorem r_pairI {p : Int} {h1 : AH} {u : Nat} {s : Int × Nat × Nat} {p2 : Int32} (hD : WFD D) (hp : 0 ≤ p ∧ p ≤ 9999) (x : YR D h) (y : rI D p h h1) (hu : u < D.N) (bs : q16 s) (hc : rP s h1) : zw (lpH (l_X10_pair_103 p2 (zi u)) FU (zl s.1, zi u + 1) h1) (fun r => r.1 = zl (qI D p u s (D.N - 1 - u)).1 ∧ rI D p h r.2 ∧ rP (qI D p u s (D.N - 1 - u)) r.2) := by
  have hN := hD.N16
  have hK := hD.K6
  refine zw_for (D.N - 1 - u) (fun j => (zl (qI D p u s j).1, zi ((u + 1 + j : Nat) : Int))) (zl (qI D p u s (D.N - 1 - u)).1) (fun j h' => rI D p h h' ∧ rP (qI D p u s j) h') (by omega) (Prod.ext rfl (by first | (simp only [zi_lit, zi_neg, zi_add, zi_sub, zi_mul, zl_lit, zl_neg, zl_add, zl_sub, zl_mul, zl_i]; exact congrArg zi (by omega)) | (simp only [zi_lit, zi_neg, zi_add, zi_sub, zi_mul, zl_lit, zl_neg, zl_add, zl_sub, zl_mul, zl_i]; done) | exact congrArg zi (by omega))) ⟨y, hc⟩ ?_ ?_
  · rintro j h' hj ⟨yi, hc'⟩
    have hn := (rI.n x yi).1
    have bq := qI_b hD hp bs hu j (by omega)
    have bt := pT_b hD (u := u) (v := u + 1 + j) hp
    unfold l_X10_pair_103
    dsimp only
    refine zw_f (by rw [hn, zi_le (by omega) (by omega) (by omega) (by omega)]; omega) ?_
    refine zw_bd (r_setL (v := u + 1 + j) hD x yi hu (by omega)) ?_
    rintro ⟨u1, g1⟩ ⟨f1, m1⟩
    dsimp only at f1 m1
    have y1 := yi.fr f1 (by unfold fR; omega) (by omega) (by omega)
    have hw := wS_wf hD hp hu (v := u + 1 + j)
    refine zw_bd (r_worksL (D := wS D u (u + 1 + j) p) hw (r_wS x y1 m1) (fun _ _ => rfl)) ?_
    rintro ⟨u2, g2⟩ ⟨f2, m2⟩
    dsimp only at f2 m2
    have y2 := y1.fr f2 (fun a k q => Or.inl q) (by unfold fW; omega) (by unfold fW; omega)
    refine zw_bd1 (r_pairE hD hp x y2 hu (fun e he => by rw [f2.i (by unfold fW; omega)]; exact m1 e he) m2) ?_
    have en : zi ((u + 1 + j : Nat) : Int) + 1 = zi ((u + 1 + (j + 1) : Nat) : Int) := (by first | (simp only [zi_lit, zi_neg, zi_add, zi_sub, zi_mul, zl_lit, zl_neg, zl_add, zl_sub, zl_mul, zl_i]; exact congrArg zi (by omega)) | (simp only [zi_lit, zi_neg, zi_add, zi_sub, zi_mul, zl_lit, zl_neg, zl_add, zl_sub, zl_mul, zl_i]; done) | exact congrArg zi (by omega))
    have keep : gI g2 240 48 = gI h' 240 48 ∧ gI g2 240 49 = gI h' 240 49 := ⟨by rw [f2.i (by unfold fW; omega), f1.i (by omega)], by rw [f2.i (by unfold fW; omega), f1.i (by omega)]⟩
    by_cases q : (qI D p u s j).1 < pT D p u (u + 1 + j)
    · have e1 : qI D p u s (j + 1) = (pT D p u (u + 1 + j), u, u + 1 + j) := by rw [qI_s, if_pos q]
      refine zw_t (by obtain ⟨b1, b2, _⟩ := bq; rw [zl_lt (by omega) (by omega) (by omega) (by omega)]; exact q) ?_
      unfold j_X10_pair_216_103
      refine zw_some ⟨congrArg Sum.inl (Prod.ext (by rw [e1]) en), y2.fr (((Fr.refl (fun a k => a = 240 ∧ (k = 48 ∨ k = 49)) g2).sI ⟨rfl, Or.inl rfl⟩).sI ⟨rfl, Or.inr rfl⟩) (by unfold fR; omega) (by omega) (by omega), ?_⟩
      rw [e1]
      intro _
      show gI (sI (sI g2 240 48 (zi u)) 240 49 (zi ((u + 1 + j : Nat) : Int))) 240 48 = _ ∧ gI (sI (sI g2 240 48 (zi u)) 240 49 (zi ((u + 1 + j : Nat) : Int))) 240 49 = _
      rw [gI_sI, if_neg (by omega), gI_sI, if_pos ⟨rfl, rfl⟩, gI_sI, if_pos ⟨rfl, rfl⟩]
      exact ⟨rfl, rfl⟩
    · have e1 : qI D p u s (j + 1) = qI D p u s j := by rw [qI_s, if_neg q]
      refine zw_f (by obtain ⟨b1, b2, _⟩ := bq; rw [zl_lt (by omega) (by omega) (by omega) (by omega)]; exact q) ?_
      unfold j_X10_pair_216_103
      refine zw_some ⟨congrArg Sum.inl (Prod.ext (by rw [e1]) en), y2, ?_⟩
      rw [e1]
      intro z
      have w := hc' z
      exact ⟨keep.1.trans w.1, keep.2.trans w.2⟩
  · rintro h' ⟨yi, hc'⟩
    have hn := (rI.n x yi).1
    unfold l_X10_pair_103
    dsimp only
    exact zw_t (by rw [hn, zi_le (by omega) (by omega) (by omega) (by omega)]; omega) (zw_some ⟨rfl, rfl, yi, hc'⟩)
theorem r_pairO {p : Int} {h1 : AH} {p2 : Int32} (hD : WFD D) (hp : 0 ≤ p ∧ p ≤ 9999) (x : YR D h) (y : rI D p h h1) : zw (lpH (l_X10_pair_88 p2) FU (-1, 0) h1) (fun r => r.1 = zl (qO D p D.N).1 ∧ rI D p h r.2 ∧ rP (qO D p D.N) r.2) := by
  have hN := hD.N16
  refine zw_for D.N (fun i => (zl (qO D p i).1, zi (i : Int))) (zl (qO D p D.N).1) (fun i h' => rI D p h h' ∧ rP (qO D p i) h') (by omega) rfl ⟨y, fun z => absurd rfl z⟩ ?_ ?_
  · rintro i h' hi ⟨yi, hc'⟩
    have hn := (rI.n x yi).1
    unfold l_X10_pair_88
    dsimp only
    refine zw_f (by rw [hn, zi_le (by omega) (by omega) (by omega) (by omega)]; omega) ?_
    refine zw_bd (r_pairI hD hp x yi hi (qO_b hD hp i (by omega)) hc') ?_
    rintro ⟨v, g⟩ ⟨hv, y2, c2⟩
    dsimp only at hv y2 c2
    subst hv
    exact zw_some ⟨congrArg Sum.inl (Prod.ext rfl (by first | (simp only [zi_lit, zi_neg, zi_add, zi_sub, zi_mul, zl_lit, zl_neg, zl_add, zl_sub, zl_mul, zl_i]; exact congrArg zi (by omega)) | (simp only [zi_lit, zi_neg, zi_add, zi_sub, zi_mul, zl_lit, zl_neg, zl_add, zl_sub, zl_mul, zl_i]; done) | exact congrArg zi (by omega))), y2, c2⟩
  · rintro h' ⟨yi, hc'⟩
    have hn := (rI.n x yi).1
    unfold l_X10_pair_88
    dsimp only
    exact zw_t (by rw [hn, zi_le (by omega) (by omega) (by omega) (by omega)]; omega) (zw_some ⟨rfl, rfl, yi, hc'⟩)
/-- what pair() does behind its questions -/
theorem r_pair {p : Int} {a0 : Int32} {H : AH} (hD : WFD D) (hp : 0 ≤ p ∧ p ≤ 9999) (h0 : a0 = zi p) (h2 : 2 ≤ D.N) (hH : h = sI H 240 0 0) (x : YR D h) : zw (s_X10_pair a0 H) (fun r => r.1 = zl (qO D p D.N).1 ∧ Fr fR h r.2 ∧ YR D r.2 ∧ rP (qO D p D.N) r.2) := by
  have hN := hD.N16
  have hK := hD.K6
  subst h0 hH
  unfold s_X10_pair
  refine zw_bd1 (r_within rfl ((show (0 : Int32) = zi 0 from zi_lit 0)) ((show (9999 : Int32) = zi 9999 from zi_lit 9999)) (by omega) (by omega) (by decide) (by decide) (by decide) (by decide)) ?_
  refine zw_bd1 (r_right rfl g0_z (by decide)) ?_
  rw [if_pos (decide_eq_true hp)]
  refine zw_f one_ne ?_
  refine zw_t (by rw [x.1.1.2.2.1, (show (2 : Int32) = zi 2 from zi_lit 2), zi_le (by omega) (by omega) (by omega) (by omega)]; omega) ?_
  refine zw_bd1 (r_P x.1 (t := 3) ((show (3 : Int32) = zi 3 from zi_lit 3)) (by decide)) ?_
  refine zw_bd1 (stI_ok 3 (n := 5) rfl ((show (3 : Int32) = zi 3 from zi_lit 3)) (by decide)) ?_
  generalize sI H 240 0 0 = h at x ⊢
  -- what the evenings were
  refine zw_bd (P := fun r => rI D p h r.2) ?_ ?_
  · refine zw_for D.N (fun j => zi j) () (fun j h' => Fr fR h h' ∧ gI h' 244 3 = zi p ∧ (∀ e, gI h' 241 e = gI h 241 e) ∧ ∀ e, e < j → gI h' 262 e = zi (D.E e 3)) (by omega) rfl ⟨(Fr.refl fR h).sI (by unfold fR; omega), by rw [gI_sI, if_pos ⟨rfl, rfl⟩], fun e => by rw [gI_sI, if_neg (by omega)], fun e he => by omega⟩ ?_ ?_
    · rintro j h' hj ⟨hf, hq, hs, hm⟩
      have hn : gI h' 240 3 = zi D.N := (hf.i (by unfold fR fW; omega)).trans x.1.1.2.2.1
      unfold l_X10_pair_51
      refine zw_f (by rw [hn, zi_le (by omega) (by omega) (by omega) (by omega)]; omega) ?_
      refine zw_bd1 (ldI_ok (4 * j + 3) (n := 64) rfl (by first | (simp only [zi_lit, zi_neg, zi_add, zi_sub, zi_mul, zl_lit, zl_neg, zl_add, zl_sub, zl_mul, zl_i]; exact congrArg zi (by omega)) | (simp only [zi_lit, zi_neg, zi_add, zi_sub, zi_mul, zl_lit, zl_neg, zl_add, zl_sub, zl_mul, zl_i]; done) | exact congrArg zi (by omega)) (by omega)) ?_
      refine zw_bd1 (stI_ok j (n := 16) rfl rfl (by omega)) ?_
      refine zw_some ⟨congrArg Sum.inl (by first | (simp only [zi_lit, zi_neg, zi_add, zi_sub, zi_mul, zl_lit, zl_neg, zl_add, zl_sub, zl_mul, zl_i]; exact congrArg zi (by omega)) | (simp only [zi_lit, zi_neg, zi_add, zi_sub, zi_mul, zl_lit, zl_neg, zl_add, zl_sub, zl_mul, zl_i]; done) | exact congrArg zi (by omega)), hf.sI (by unfold fR; omega), ?_, fun e => ?_, fun e he => ?_⟩
      · show gI (sI h' 262 j _) 244 3 = _
        rw [gI_sI, if_neg (by omega)]; exact hq
      · show gI (sI h' 262 j _) 241 e = _
        rw [gI_sI, if_neg (by omega)]; exact hs e
      · show gI (sI h' 262 j _) 262 e = _
        rw [gI_sI]
        by_cases q : e = j
        · rw [if_pos ⟨rfl, q⟩, hs, q]
          exact x.1.2.1 j 3 hj (by decide)
        · rw [if_neg (fun z => q z.2)]
          exact hm e (by omega)
    · rintro h' ⟨hf, hq, hs, hm⟩
      have hn : gI h' 240 3 = zi D.N := (hf.i (by unfold fR fW; omega)).trans x.1.1.2.2.1
      unfold l_X10_pair_51
      exact zw_t (by rw [hn, zi_le (by omega) (by omega) (by omega) (by omega)]; omega) (zw_some ⟨rfl, hf, hq, hm⟩)
  · rintro ⟨u1, g1⟩ y1
    dsimp only at y1
    refine zw_bd (r_pairO hD hp x y1) ?_
    rintro ⟨v, g2⟩ ⟨hv, y2, c2⟩
    dsimp only at hv y2 c2
    subst hv
    refine zw_bd1 (stI_ok 3 (n := 5) rfl ((show (3 : Int32) = zi 3 from zi_lit 3)) (by decide)) ?_
    -- the evenings as they were
    refine zw_bd (P := fun r => Fr (fun a k => (a = 244 ∧ k = 3) ∨ (a = 241 ∧ k % 4 = 3)) g2 r.2 ∧ gI r.2 244 3 = zi (D.P 3) ∧ ∀ e, e < D.N → gI r.2 241 (4 * e + 3) = zi (D.E e 3)) ?_ ?_
    · refine zw_for D.N (fun j => zi j) () (fun j h' => Fr (fun a k => (a = 244 ∧ k = 3) ∨ (a = 241 ∧ k % 4 = 3)) g2 h' ∧ gI h' 244 3 = zi (D.P 3) ∧ ∀ e, e < j → gI h' 241 (4 * e + 3) = zi (D.E e 3)) (by omega) rfl ⟨(Fr.refl (fun a k => (a = 244 ∧ k = 3) ∨ (a = 241 ∧ k % 4 = 3)) g2).sI (by omega), by rw [gI_sI, if_pos ⟨rfl, rfl⟩], fun e he => by omega⟩ ?_ ?_
      · rintro j h' hj ⟨hf, hq, hm⟩
        have hn : gI h' 240 3 = zi D.N := (hf.i (by omega)).trans (rI.n x y2).1
        unfold l_X10_pair_238
        refine zw_f (by rw [hn, zi_le (by omega) (by omega) (by omega) (by omega)]; omega) ?_
        refine zw_bd1 (ldI_ok j (n := 16) rfl rfl (by omega)) ?_
        refine zw_bd1 (stI_ok (4 * j + 3) (n := 64) rfl (by first | (simp only [zi_lit, zi_neg, zi_add, zi_sub, zi_mul, zl_lit, zl_neg, zl_add, zl_sub, zl_mul, zl_i]; exact congrArg zi (by omega)) | (simp only [zi_lit, zi_neg, zi_add, zi_sub, zi_mul, zl_lit, zl_neg, zl_add, zl_sub, zl_mul, zl_i]; done) | exact congrArg zi (by omega)) (by omega)) ?_
        refine zw_some ⟨congrArg Sum.inl (by first | (simp only [zi_lit, zi_neg, zi_add, zi_sub, zi_mul, zl_lit, zl_neg, zl_add, zl_sub, zl_mul, zl_i]; exact congrArg zi (by omega)) | (simp only [zi_lit, zi_neg, zi_add, zi_sub, zi_mul, zl_lit, zl_neg, zl_add, zl_sub, zl_mul, zl_i]; done) | exact congrArg zi (by omega)), hf.sI (by omega), ?_, fun e he => ?_⟩
        · show gI (sI h' 241 (4 * j + 3) _) 244 3 = _
          rw [gI_sI, if_neg (by omega)]; exact hq
        · show gI (sI h' 241 (4 * j + 3) _) 241 (4 * e + 3) = _
          rw [gI_sI]
          by_cases q : e = j
          · rw [if_pos ⟨rfl, by omega⟩, hf.i (by omega), q]
            exact y2.2.2 j hj
          · rw [if_neg (by omega)]
            exact hm e (by omega)
      · rintro h' ⟨hf, hq, hm⟩
        have hn : gI h' 240 3 = zi D.N := (hf.i (by omega)).trans (rI.n x y2).1
        unfold l_X10_pair_238
        exact zw_t (by rw [hn, zi_le (by omega) (by omega) (by omega) (by omega)]; omega) (zw_some ⟨rfl, hf, hq, hm⟩)
    · rintro ⟨u3, g3⟩ ⟨f3, q3, m3⟩
      dsimp only at f3 q3 m3
      have f4 : Fr fR h g3 := y2.1.trans (f3.mono (by unfold fR; omega))
      have r3 : RH D g3 := by
        obtain ⟨⟨r1, r2, r3, r4, r5, r6⟩, w1, w2, w3, w4⟩ := x.1
        refine ⟨⟨(f4.i (by unfold fR fW; omega)).trans r1, (f4.i (by unfold fR fW; omega)).trans r2, (f4.i (by unfold fR fW; omega)).trans r3, (f4.i (by unfold fR fW; omega)).trans r4, (f4.i (by unfold fR fW; omega)).trans r5, (f4.i (by unfold fR fW; omega)).trans r6⟩, fun e w he hw => ?_, fun k w hk hw => (f4.i (by unfold fR fW; omega)).trans (w2 k w hk hw), fun r w hr hw => (f4.i (by unfold fR fW; omega)).trans (w3 r w hr hw), fun j hj => ?_⟩
        · by_cases q : w = 3
          · rw [q]; exact m3 e he
          · exact (f4.i (by unfold fR fW; omega)).trans (w1 e w he hw)
        · by_cases q : j = 3
          · rw [q]; exact q3
          · exact (f4.i (by unfold fR fW; omega)).trans (w4 j hj)
      refine zw_bd (r_worksL hD r3 (fun _ _ => rfl)) ?_
      rintro ⟨u5, g5⟩ ⟨f5, m5⟩
      dsimp only at f5 m5
      have f6 : Fr fR h g5 := f4.trans (f5.mono (fun a k q => Or.inl q))
      refine zw_some ⟨rfl, f6, ⟨r3.fr f5 (by intro a k; unfold fW; omega), fun k t hk ht => ?_⟩, fun z => ?_⟩
      · by_cases q : t = 3
        · rw [q]; exact m5 k hk
        · exact (x.2 k t hk ht).fr2 f6 (by unfold fR fW; omega) (fun e he => by have := he; unfold fR fW; omega) (by unfold fR fW; omega) (by unfold fR fW; omega)
      · have w := c2 z
        show gI g5 240 48 = _ ∧ gI g5 240 49 = _
        rw [f5.i (by unfold fW; omega), f5.i (by unfold fW; omega), f3.i (by omega), f3.i (by omega)]
        exact w
variable {T : Nat}
theorem IVd.frQ {h' : AH} (x : IVd D T h) (f : Fr (fun a k => SC a k ∨ (241 ≤ a ∧ a ≤ 244) ∨ (255 ≤ a ∧ a ≤ 258) ∨ (a = 215 ∧ 5 ≤ k) ∨ (a = 240 ∧ (k = 48 ∨ k = 49))) h h') (y : YR D h') (z : IVf2 h') : IVd D T h' := by
  obtain ⟨h1, h2, h3, h4, h5, h6, h7, h8, h9, h10, h11, h12, h13⟩ := x
  exact ⟨h1, h2, (f.r (by unfold SC; omega)).trans h3, h4.fr h1 f (by intro a k; unfold YCa SC; omega), y, h6.fr f (by intro a k; unfold SC; omega), h7.fr f (by intro a k; unfold SC; omega), h8.fr f (by intro a k; unfold SC; omega), z, h10.fr f (by intro a k; unfold SC; omega), h11.fr f (by intro a k; unfold SC; omega), h12.fr f h1.K6 (by intro a k; unfold SC; omega), h13.fr f h1.K6 (by intro a k; unfold SC; omega)⟩
theorem fP_sc {a k : Nat} (q : fP a k) : SC a k ∨ (241 ≤ a ∧ a ≤ 244) ∨ (255 ≤ a ∧ a ≤ 258) ∨ (a = 215 ∧ 5 ≤ k) ∨ (a = 240 ∧ (k = 48 ∨ k = 49)) := by
  unfold fP at q
  unfold SC
  omega
theorem fR_sc {a k : Nat} (q : fR a k) : SC a k ∨ (241 ≤ a ∧ a ≤ 244) ∨ (255 ≤ a ∧ a ≤ 258) ∨ (a = 215 ∧ 5 ≤ k) ∨ (a = 240 ∧ (k = 48 ∨ k = 49)) := by
  unfold fR fW at q
  unfold SC
  omega
theorem g_pair (x : IVd D T h) (a0 : Int32) : ag (fun v => v) (s_L_pair (some 0) a0 (some 277) h) (s_X10_pair a0) := by
  obtain ⟨p, rfl, hp1, hp2⟩ := zi_of a0
  have hN := x.wf.N16
  by_cases q1 : 0 ≤ p ∧ p ≤ 9999
  · have cls : s_X9_pair (zi p) h = if 2 ≤ D.N then bd (s_X5_throughPairs (some 13) (zi p) h) fun q2 => some (.inl q2.1, q2.2) else some (.inl (-1), h) := by
      unfold s_X9_pair
      rw [if_neg (by rw [(show (0 : Int32) = zi 0 from zi_lit 0), zi_lt (by omega) (by omega) (by omega) (by omega)]; omega), if_pos (by rw [(show (9999 : Int32) = zi 9999 from zi_lit 9999), zi_le (by omega) (by omega) (by omega) (by omega)]; omega), x.t8, bd_v, if_pos x.tl.l0, x.ch.1.2.2.1]
      by_cases q2 : 2 ≤ D.N
      · rw [if_pos (by rw [(show (2 : Int32) = zi 2 from zi_lit 2), zi_le (by omega) (by omega) (by omega) (by omega)]; omega), if_pos q2]
      · rw [if_neg (by rw [(show (2 : Int32) = zi 2 from zi_lit 2), zi_le (by omega) (by omega) (by omega) (by omega)]; omega), if_neg q2]
    by_cases q2 : 2 ≤ D.N
    · obtain ⟨⟨v, h1⟩, e1, hv, f1, g1, c1⟩ := c_pairs x.wf x.c q1 (a1 := zi p) rfl
      dsimp only at hv f1 g1 c1
      subst hv
      have fa : Fr (fun a k => fP a k ∨ a = 277 ∨ (a = 240 ∧ k = 0)) h (sI (sL h1 277 0 (zl (qO D p D.N).1)) 240 0 0) := (((f1.mono (fun a k q => Or.inl q) : Fr (fun a k => fP a k ∨ a = 277 ∨ (a = 240 ∧ k = 0)) h h1).sL (Or.inr (Or.inl rfl))).sI (Or.inr (Or.inr ⟨rfl, rfl⟩)))
      have yr : YR D (sI (sL h1 277 0 (zl (qO D p D.N).1)) 240 0 0) := x.r.fr fa (by intro a k; unfold YRa fP; omega)
      obtain ⟨⟨v2, h2⟩, e2, hv2, f2, y2, c2⟩ := r_pair (H := sL h1 277 0 (zl (qO D p D.N).1)) x.wf q1 (a0 := zi p) rfl q2 rfl yr
      dsimp only at hv2 f2 y2 c2
      subst hv2
      obtain ⟨m, hm⟩ : ∃ m, D.N = m + 1 := ⟨D.N - 1, by omega⟩
      have nn : (qO D p D.N).1 ≠ -1 := by
        have := qO_nn x.wf q1 q2 m
        rw [← hm] at this
        omega
      obtain ⟨b1, b2, b3, b4⟩ := qO_b x.wf q1 D.N (Nat.le_refl _)
      have w1 := c1 nn
      have w2 := c2 nn
      have cell : ∀ k, k = 5 ∨ k = 6 ∨ k = 7 → gI h2 215 k = gI h1 215 k := fun k hk => by rw [f2.i (by unfold fR fW; omega), gI_sI, if_neg (by omega), gI_sL]
      have zf : IVf2 h2 := by
        refine Or.inr ⟨(cell 5 (by omega)).trans g1, ?_, ?_, ?_⟩
        · rw [w2.1, show (-1 : Int32) = zi (-1) from rfl, Ne, zi_eq (by omega) (by omega) (by omega) (by omega)]
          omega
        · rw [cell 6 (by omega), w1.1, w2.1]
        · rw [cell 7 (by omega), w1.2, w2.2]
      have x2 : IVd D T h2 := x.frQ (fa.trans2 f2 (fun a k q => by
        rcases q with q | q | q
        · exact fP_sc q
        · exact Or.inl (by unfold SC; omega)
        · exact Or.inl (by unfold SC; omega)) (fun a k q => fR_sc q)) y2 zf
      refine ⟨0, sL h1 277 0 (zl (qO D p D.N).1), zl (qO D p D.N).1, h2, ?_, e2, ?_, fun _ => ?_, D, T, x2⟩
      · unfold s_L_pair
        rw [if_pos rfl, cls, if_pos q2, e1, bd_v, bd_v, sm_l]
        exact hl_v rfl
      · rw [f2.i (by unfold fR fW; omega)]
        exact g0_z
      · show gL h2 277 0 = _
        rw [f2.l (by unfold fR fW; omega), gL_sI, gL_sL, if_pos ⟨rfl, rfl⟩]
    · refine ag_v (v := -1) x ?_ ?_
      · unfold s_L_pair
        rw [if_pos rfl, cls, if_neg q2, bd_v, sm_l]
        exact hl_v rfl
      · refine zw_e (z := (-1, _)) ?_ ⟨rfl, g0_z, frz _⟩
        unfold s_X10_pair
        refine zw_bd1 (r_within rfl ((show (0 : Int32) = zi 0 from zi_lit 0)) ((show (9999 : Int32) = zi 9999 from zi_lit 9999)) hp1 hp2 (by decide) (by decide) (by decide) (by decide)) ?_
        refine zw_bd1 (r_right rfl g0_z (by decide)) ?_
        rw [if_pos (decide_eq_true q1)]
        refine zw_f one_ne (zw_f ?_ (zw_some rfl))
        rw [(x.o (-1)).z.rh.1.2.2.1, (show (2 : Int32) = zi 2 from zi_lit 2), zi_le (by omega) (by omega) (by omega) (by omega)]
        omega
  · refine ag_t (k := 1) (b := 0) x ?_ (by decide) (zw_o ?_)
    · unfold s_L_pair s_X9_pair
      by_cases c1 : p < 0
      · rw [if_pos rfl, if_pos (by rw [(show (0 : Int32) = zi 0 from zi_lit 0), zi_lt (by omega) (by omega) (by omega) (by omega)]; exact c1)]
        rfl
      · rw [if_pos rfl, if_neg (by rw [(show (0 : Int32) = zi 0 from zi_lit 0), zi_lt (by omega) (by omega) (by omega) (by omega)]; exact c1), if_neg (by rw [(show (9999 : Int32) = zi 9999 from zi_lit 9999), zi_le (by omega) (by omega) (by omega) (by omega)]; omega)]
        rfl
    · unfold s_X10_pair
      refine zw_bd1 (r_within rfl ((show (0 : Int32) = zi 0 from zi_lit 0)) ((show (9999 : Int32) = zi 9999 from zi_lit 9999)) hp1 hp2 (by decide) (by decide) (by decide) (by decide)) ?_
      refine zw_bd1 (r_right rfl g0_z (by decide)) ?_
      rw [if_neg (fun z => q1 (of_decide_eq_true z))]
      exact zw_t rfl (zw_some rfl)
end
