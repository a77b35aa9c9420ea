/-! 80.pairc: the class through the pairs -/
def cP (s : Int × Nat × Nat) (h : AH) : Prop := s.1 ≠ -1 → gI h 215 6 = zi s.2.1 ∧ gI h 215 7 = zi s.2.2
def fQ (a k : Nat) : Prop := a = 217 ∨ a = 218 ∨ (a = 23 ∧ (k = 7 ∨ k = 8)) ∨ a = 27 ∨ a = 28 ∨ (a = 215 ∧ (k = 6 ∨ k = 7))
section
variable {D : HD} {T : Nat} {h : AH}
theorem c_pairI (hD : WFD D) (x : YC D T h) {u : Nat} {p : Int} {s : Int × Nat × Nat} (hp : 0 ≤ p ∧ p ≤ 9999) (hu : u < D.N) (bs : q16 s) (hr : ∀ j, j < 5 → gI h 216 j = zi (uz D.P 3 p j)) (hs : ∀ e, e < D.N → gI h 218 e = zi (if e = u then 1 else 0)) (hc : cP s h) : zw (lpH (l_X5_throughPairs_66 (zi u)) FU (zl s.1, zi u + 1) h) (fun r => r.1 = zl (qI D p u s (D.N - 1 - u)).1 ∧ Fr fQ h r.2 ∧ (∀ e, e < D.N → gI r.2 218 e = zi (if e = u then 1 else 0)) ∧ cP (qI D p u s (D.N - 1 - u)) r.2) := by
  have hN := hD.N16
  have bT := x.1.1.b
  refine zw_for (D.N - 1 - u) (fun j => (zl (qI D p u s j).1, zi ((u + 1 + j : Nat) : Int))) (zl (qI D p u s (D.N - 1 - u)).1) (fun j h' => Fr fQ h h' ∧ (∀ e, e < D.N → gI h' 218 e = zi (if e = u then 1 else 0)) ∧ cP (qI D p u s j) h') (by omega) (Prod.ext rfl (by first | (simp only [zi_lit, zi_neg, zi_add, zi_sub, zi_mul, zl_lit, zl_neg, zl_add, zl_sub, zl_mul, zl_i]; exact congrArg zi (by omega)) | (simp only [zi_lit, zi_neg, zi_add, zi_sub, zi_mul, zl_lit, zl_neg, zl_add, zl_sub, zl_mul, zl_i]; done) | exact congrArg zi (by omega))) ⟨Fr.refl fQ h, hs, hc⟩ ?_ ?_
  · rintro j h' hj ⟨hf, hs', hc'⟩
    have y := x.frp hD (hf.mono (by unfold fP fQ; omega))
    have bq := qI_b hD hp bs hu j (by omega)
    have bt := pT_b hD (u := u) (v := u + 1 + j) hp
    unfold l_X5_throughPairs_66
    dsimp only
    rw [y.1.2.2.2.2.1, bd_v, if_pos x.1.1.l0]
    refine zw_f (by rw [y.1.2.2.1.1.2.2.1, zi_le (by omega) (by omega) (by omega) (by omega)]; omega) ?_
    refine zw_bd1 (put_ok (u + 1 + j) (n := 16) rfl rfl (by omega)) ?_
    dsimp only
    have f1 : Fr fQ h (sI h' 218 (u + 1 + j) 1) := hf.sI (Or.inr (Or.inl rfl))
    have y1 := x.frp hD (f1.mono (by unfold fP fQ; omega))
    refine zw_bd (c_bySet hD y1 (u := u) (v := u + 1 + j) hp hu (fun q hq => by rw [f1.i (by unfold fQ; omega)]; exact hr q hq) (fun e he => ?_)) ?_
    · rw [gI_sI]
      by_cases q : e = u + 1 + j
      · rw [if_pos ⟨rfl, q⟩, if_pos (Or.inr q)]
        rfl
      · rw [if_neg (fun z => q z.2), hs' e he]
        by_cases q2 : e = u
        · rw [if_pos q2, if_pos (Or.inl q2)]
        · rw [if_neg q2, if_neg (by omega)]
    · rintro ⟨v, g1⟩ ⟨hv, f2⟩
      dsimp only at hv f2
      subst hv
      refine zw_bd1 (put_ok (u + 1 + j) (n := 16) rfl rfl (by omega)) ?_
      dsimp only
      have f3 : Fr fQ h (sI g1 218 (u + 1 + j) 0) := (f1.trans (f2.mono (by unfold fQ; omega))).sI (Or.inr (Or.inl rfl))
      have s3 : ∀ e, e < D.N → gI (sI g1 218 (u + 1 + j) 0) 218 e = zi (if e = u then 1 else 0) := by
        intro e he
        rw [gI_sI]
        by_cases q : e = u + 1 + j
        · rw [if_pos ⟨rfl, q⟩, if_neg (by omega)]
          rfl
        · rw [if_neg (fun z => q z.2), f2.i (by omega), gI_sI, if_neg (fun z => q z.2)]
          exact hs' e he
      have en : zi ((u + 1 + j : Nat) : Int) + 1 = zi ((u + 1 + (j + 1) : Nat) : Int) := (by first | (simp only [zi_lit, zi_neg, zi_add, zi_sub, zi_mul, zl_lit, zl_neg, zl_add, zl_sub, zl_mul, zl_i]; exact congrArg zi (by omega)) | (simp only [zi_lit, zi_neg, zi_add, zi_sub, zi_mul, zl_lit, zl_neg, zl_add, zl_sub, zl_mul, zl_i]; done) | exact congrArg zi (by omega))
      by_cases q : pT D p u (u + 1 + j) ≤ (qI D p u s j).1
      · have e1 : qI D p u s (j + 1) = qI D p u s j := by rw [qI_s, if_neg (by omega)]
        refine zw_t (by obtain ⟨b1, b2, _⟩ := bq; rw [zl_le (by omega) (by omega) (by omega) (by omega)]; exact q) ?_
        unfold j_X5_throughPairs_127_66
        refine zw_some ⟨congrArg Sum.inl (Prod.ext (by rw [e1]) en), f3, s3, ?_⟩
        rw [e1]
        intro z
        show gI (sI g1 218 (u + 1 + j) 0) 215 6 = _ ∧ gI (sI g1 218 (u + 1 + j) 0) 215 7 = _
        rw [gI_sI, if_neg (by omega), gI_sI, if_neg (by omega), f2.i (by omega), f2.i (by omega), gI_sI, if_neg (by omega), gI_sI, if_neg (by omega)]
        exact hc' z
      · have e1 : qI D p u s (j + 1) = (pT D p u (u + 1 + j), u, u + 1 + j) := by rw [qI_s, if_pos (by omega)]
        refine zw_f (by obtain ⟨b1, b2, _⟩ := bq; rw [zl_le (by omega) (by omega) (by omega) (by omega)]; exact q) ?_
        unfold j_X5_throughPairs_127_66
        refine zw_some ⟨congrArg Sum.inl (Prod.ext (by rw [e1]) en), (f3.sI (by unfold fQ; omega)).sI (by unfold fQ; omega), fun e he => ?_, ?_⟩
        · show gI (sI (sI (sI g1 218 (u + 1 + j) 0) 215 6 (zi u)) 215 7 (zi ((u + 1 + j : Nat) : Int))) 218 e = _
          rw [gI_sI, if_neg (by omega), gI_sI, if_neg (by omega)]
          exact s3 e he
        · rw [e1]
          intro _
          show gI (sI (sI (sI g1 218 (u + 1 + j) 0) 215 6 (zi u)) 215 7 (zi ((u + 1 + j : Nat) : Int))) 215 6 = _ ∧ gI (sI (sI (sI g1 218 (u + 1 + j) 0) 215 6 (zi u)) 215 7 (zi ((u + 1 + j : Nat) : Int))) 215 7 = _
          rw [gI_sI, if_neg (by omega), gI_sI, if_pos ⟨rfl, rfl⟩, gI_sI, if_pos ⟨rfl, rfl⟩]
          exact ⟨rfl, rfl⟩
  · rintro h' ⟨hf, hs', hc'⟩
    have y := x.frp hD (hf.mono (by unfold fP fQ; omega))
    unfold l_X5_throughPairs_66
    dsimp only
    rw [y.1.2.2.2.2.1, bd_v, if_pos x.1.1.l0]
    exact zw_t (by rw [y.1.2.2.1.1.2.2.1, zi_le (by omega) (by omega) (by omega) (by omega)]; omega) (zw_some ⟨rfl, rfl, hf, hs', hc'⟩)
theorem c_pairs (hD : WFD D) (x : YC D T h) {p : Int} (hp : 0 ≤ p ∧ p ≤ 9999) {a1 : Int32} (h1 : a1 = zi p) : zw (s_X5_throughPairs (some 13) a1 h) (fun r => r.1 = zl (qO D p D.N).1 ∧ Fr fP h r.2 ∧ gI r.2 215 5 = 1 ∧ cP (qO D p D.N) r.2) := by
  have hN := hD.N16
  have bT := x.1.1.b
  subst h1
  unfold s_X5_throughPairs
  rw [if_pos rfl, x.1.2.2.2.2.1, bd_v, if_pos x.1.1.l0]
  refine zw_bd (copy_ok (by omega) x.1.1.l7 rfl) ?_
  rintro ⟨u1, g1⟩ ⟨f1, m1⟩
  dsimp only at f1 m1
  refine zw_bd1 (put_ok 3 (n := 5) rfl ((show (3 : Int32) = zi 3 from zi_lit 3)) (by decide)) ?_
  dsimp only
  refine zw_bd (fill_ok (a := 218) (n := 16) rfl) ?_
  rintro ⟨u2, g2⟩ ⟨f2, m2⟩
  dsimp only at f2 m2
  have f0 : Fr (fun a _ => a = 216 ∨ a = 218) h g2 := ((f1.mono (by omega)).sI (Or.inl rfl)).trans (f2.mono (by omega))
  have y := x.frp hD (f0.mono (by unfold fP; omega))
  have hr : ∀ j, j < 5 → gI g2 216 j = zi (uz D.P 3 p j) := by
    intro j hj
    rw [f2.i (by omega), gI_sI]
    unfold uz
    by_cases q : j = 3
    · rw [if_pos ⟨rfl, q⟩, if_pos q]
    · rw [if_neg (fun z => q z.2), if_neg q, m1 j hj]
      exact x.1.2.2.1.2.2.2.2.2.2 j hj
  refine zw_bd (P := fun r => r.1 = zl (qO D p D.N).1 ∧ Fr fQ g2 r.2 ∧ cP (qO D p D.N) r.2) ?_ ?_
  · refine zw_for D.N (fun i => (zl (qO D p i).1, zi (i : Int))) (zl (qO D p D.N).1) (fun i h' => Fr fQ g2 h' ∧ (∀ e, e < D.N → gI h' 218 e = 0) ∧ cP (qO D p i) h') (by omega) rfl ⟨Fr.refl fQ g2, fun e he => m2 e (by omega), fun z => absurd rfl z⟩ ?_ ?_
    · rintro i h' hi ⟨hf, hs, hc⟩
      have y1 := y.frp hD (hf.mono (by unfold fP fQ; omega))
      unfold l_X5_throughPairs_38
      dsimp only
      rw [y1.1.2.2.2.2.1, bd_v, if_pos x.1.1.l0]
      refine zw_f (by rw [y1.1.2.2.1.1.2.2.1, zi_le (by omega) (by omega) (by omega) (by omega)]; omega) ?_
      refine zw_bd1 (put_ok i (n := 16) rfl rfl (by omega)) ?_
      dsimp only
      have f4 : Fr fQ g2 (sI h' 218 i 1) := hf.sI (Or.inr (Or.inl rfl))
      refine zw_bd (c_pairI hD (y.frp hD (f4.mono (by unfold fP fQ; omega))) (u := i) (s := qO D p i) hp hi (qO_b hD hp i (by omega)) (fun q hq => by rw [f4.i (by unfold fQ; omega)]; exact hr q hq) (fun e he => ?_) (fun z => ?_)) ?_
      · rw [gI_sI]
        by_cases q : e = i
        · rw [if_pos ⟨rfl, q⟩, if_pos q]; rfl
        · rw [if_neg (fun z => q z.2), if_neg q, hs e he]; rfl
      · rw [gI_sI, if_neg (by omega), gI_sI, if_neg (by omega)]
        exact hc z
      · rintro ⟨v, g3⟩ ⟨hv, f5, s5, c5⟩
        dsimp only at hv f5 s5 c5
        subst hv
        refine zw_bd1 (put_ok i (n := 16) rfl rfl (by omega)) ?_
        refine zw_some ⟨congrArg Sum.inl (Prod.ext rfl (by first | (simp only [zi_lit, zi_neg, zi_add, zi_sub, zi_mul, zl_lit, zl_neg, zl_add, zl_sub, zl_mul, zl_i]; exact congrArg zi (by omega)) | (simp only [zi_lit, zi_neg, zi_add, zi_sub, zi_mul, zl_lit, zl_neg, zl_add, zl_sub, zl_mul, zl_i]; done) | exact congrArg zi (by omega))), (f4.trans f5).sI (Or.inr (Or.inl rfl)), fun e he => ?_, fun z => ?_⟩
        · show gI (sI g3 218 i 0) 218 e = 0
          rw [gI_sI]
          by_cases q : e = i
          · rw [if_pos ⟨rfl, q⟩]
          · rw [if_neg (fun z => q z.2), s5 e he, if_neg q]; rfl
        · show gI (sI g3 218 i 0) 215 6 = _ ∧ gI (sI g3 218 i 0) 215 7 = _
          rw [gI_sI, if_neg (by omega), gI_sI, if_neg (by omega)]
          exact c5 z
    · rintro h' ⟨hf, hs, hc⟩
      have y1 := y.frp hD (hf.mono (by unfold fP fQ; omega))
      unfold l_X5_throughPairs_38
      dsimp only
      rw [y1.1.2.2.2.2.1, bd_v, if_pos x.1.1.l0]
      exact zw_t (by rw [y1.1.2.2.1.1.2.2.1, zi_le (by omega) (by omega) (by omega) (by omega)]; omega) (zw_some ⟨rfl, rfl, hf, hc⟩)
  · rintro ⟨v, g3⟩ ⟨hv, f3, c3⟩
    dsimp only at hv f3 c3
    refine zw_some ⟨hv, ((f0.mono (by unfold fP; omega)).trans (f3.mono (by unfold fP fQ; omega))).sI (by unfold fP; omega), ?_, ?_⟩
    · show gI (sI g3 215 5 1) 215 5 = 1
      rw [gI_sI, if_pos ⟨rfl, rfl⟩]
    · intro z
      show gI (sI g3 215 5 1) 215 6 = _ ∧ gI (sI g3 215 5 1) 215 7 = _
      rw [gI_sI, if_neg (by omega), gI_sI, if_neg (by omega)]
      exact c3 z
end
