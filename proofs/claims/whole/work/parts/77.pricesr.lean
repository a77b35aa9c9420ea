/-! 77.pricesr: the reference through the prices -/
section
variable {G : AH} {t i : Nat} {p co E F o0 o1 o2 o3 o4 : Int} {p2 p4 p6 p7 : Int32}
def pxR (t i : Nat) (p co E F o1 o3 o4 : Int) (G : AH) : Prop := t < 5 ∧ i < 60 ∧ gI G 244 t = zi p ∧ gI G 240 2 = zi co ∧ (0 ≤ p ∧ p ≤ 9999) ∧ (0 ≤ co ∧ co ≤ 1000000) ∧ (0 ≤ E ∧ E ≤ 42000000000) ∧ (0 ≤ F ∧ F ≤ 42000000000) ∧ (-1 ≤ o1 ∧ o1 ≤ 42000000000) ∧ (-1 ≤ o3 ∧ o3 ≤ 42000000000) ∧ (-1 ≤ o4 ∧ o4 ≤ 9999) ∧ (i = 0 → o1 = -1 ∧ o3 = -1 ∧ o4 = -1)
theorem pxR.fr {G2 : AH} (y : pxR t i p co E F o1 o3 o4 G) (f : Fr (fun a _ => a = 260) G G2) : pxR t i p co E F o1 o3 o4 G2 := ⟨y.1, y.2.1, (f.i (by omega)).trans y.2.2.1, (f.i (by omega)).trans y.2.2.2.1, y.2.2.2.2⟩
theorem r_p279 (y : pxR t i p co E F o1 o3 o4 G) (c4 : gL G 260 4 = zl o4) : zw (j_X10_prices_279_131 (zi t) p2 p4 p6 p7 (zi i) (zl E) G) (fun r => r.1 = .inl (zi ((i + 1 : Nat) : Int)) ∧ Fr (fun a k => a = 260 ∧ k = 4) G r.2 ∧ gL r.2 260 4 = zl (if o4 = -1 ∧ 1000 * co ≤ E then p else o4)) := by
  obtain ⟨ht, hi, hp, hc, bp, bc, bE, bF, b1, b3, b4, z⟩ := y
  have em1 : (-1 : Int64) = zl (-1) := rfl
  have ei : zi (i : Int) + 1 = zi ((i + 1 : Nat) : Int) := (by first | (simp only [zi_lit, zi_neg, zi_add, zi_sub, zi_mul, zl_lit, zl_neg, zl_add, zl_sub, zl_mul, zl_i]; exact congrArg zi (by omega)) | (simp only [zi_lit, zi_neg, zi_add, zi_sub, zi_mul, zl_lit, zl_neg, zl_add, zl_sub, zl_mul, zl_i]; done) | exact congrArg zi (by omega))
  have keep : ¬ (o4 = -1 ∧ 1000 * co ≤ E) → zw (j_X10_prices_320_131 (zi t) p2 p4 p6 p7 (zi i) G) (fun r => r.1 = .inl (zi ((i + 1 : Nat) : Int)) ∧ Fr (fun a k => a = 260 ∧ k = 4) G r.2 ∧ gL r.2 260 4 = zl (if o4 = -1 ∧ 1000 * co ≤ E then p else o4)) := by
    intro q
    unfold j_X10_prices_320_131
    exact zw_some ⟨congrArg Sum.inl ei, Fr.refl (fun a k => a = 260 ∧ k = 4) G, by show gL G 260 4 = _; rw [if_neg q]; exact c4⟩
  unfold j_X10_prices_279_131
  refine zw_bd1 (ldL_ok 4 (n := 5) rfl ((show (4 : Int32) = zi 4 from zi_lit 4)) (by decide)) ?_
  rw [c4, hc, zi_l (by omega) (by omega), show (1000 : Int64) * zl co = zl (1000 * co) from zl_mul 1000 _]
  by_cases q : o4 = -1
  · refine zw_t (by rw [q]; rfl) ?_
    by_cases q2 : E < 1000 * co
    · exact zw_t (by rw [zl_lt (by omega) (by omega) (by omega) (by omega)]; exact q2) (keep (by omega))
    · refine zw_f (by rw [zl_lt (by omega) (by omega) (by omega) (by omega)]; exact q2) ?_
      refine zw_bd1 (ldI_ok t (n := 5) rfl rfl ht) ?_
      rw [hp, zi_l (by omega) (by omega)]
      refine zw_bd1 (stL_ok 4 (n := 5) rfl ((show (4 : Int32) = zi 4 from zi_lit 4)) (by decide)) ?_
      unfold j_X10_prices_320_131
      refine zw_some ⟨congrArg Sum.inl ei, (Fr.refl (fun a k => a = 260 ∧ k = 4) G).sL ⟨rfl, rfl⟩, ?_⟩
      show gL (sL G 260 4 (zl p)) 260 4 = _
      rw [gL_sL, if_pos ⟨rfl, rfl⟩, if_pos (by omega)]
  · exact zw_f (by rw [em1, zl_eq (by omega) (by omega) (by omega) (by omega)]; exact q) (keep (by omega))
theorem r_p265 (y : pxR t i p co E F o1 o3 o4 G) (c4 : i ≠ 0 → gL G 260 4 = zl o4) : zw (j_X10_prices_265_131 (zi t) p2 p4 p6 p7 (zi i) (zl E) G) (fun r => r.1 = .inl (zi ((i + 1 : Nat) : Int)) ∧ Fr (fun a k => a = 260 ∧ k = 4) G r.2 ∧ gL r.2 260 4 = zl (if o4 = -1 ∧ 1000 * co ≤ E then p else o4)) := by
  unfold j_X10_prices_265_131
  have hi := y.2.1
  by_cases q : i = 0
  · refine zw_t (by rw [q]; rfl) ?_
    refine zw_bd1 (stL_ok 4 (n := 5) rfl ((show (4 : Int32) = zi 4 from zi_lit 4)) (by decide)) ?_
    have f : Fr (fun a k => a = 260 ∧ k = 4) G (sL G 260 4 (-1)) := (Fr.refl (fun a k => a = 260 ∧ k = 4) G).sL ⟨rfl, rfl⟩
    refine zw_mono (r_p279 (y.fr (f.mono (by omega))) ?_) ?_
    · rw [gL_sL, if_pos ⟨rfl, rfl⟩, (y.2.2.2.2.2.2.2.2.2.2.2 q).2.2]
      rfl
    · rintro r ⟨h1, h2, h3⟩
      exact ⟨h1, f.trans h2, h3⟩
  · exact zw_f (by rw [(show (0 : Int32) = zi 0 from zi_lit 0), zi_eq (by omega) (by omega) (by omega) (by omega)]; omega) (r_p279 y (c4 q))
theorem r_p227 (y : pxR t i p co E F o1 o3 o4 G) (c4 : i ≠ 0 → gL G 260 4 = zl o4) (c3 : i ≠ 0 → gL G 260 3 = zl o3) (c2 : i ≠ 0 → gL G 260 2 = zl o2) : zw (j_X10_prices_227_131 (zi t) p2 p4 p6 p7 (zi i) (zl E) (zl F) G) (fun r => r.1 = .inl (zi ((i + 1 : Nat) : Int)) ∧ Fr (fun a k => a = 260 ∧ 2 ≤ k) G r.2 ∧ gL r.2 260 2 = zl (if o3 < F then p else o2) ∧ gL r.2 260 3 = zl (if o3 < F then F else o3) ∧ gL r.2 260 4 = zl (if o4 = -1 ∧ 1000 * co ≤ E then p else o4)) := by
  have hi := y.2.1
  have hp := y.2.2.1
  have ht := y.1
  have bp := y.2.2.2.2.1
  have bF := y.2.2.2.2.2.2.2.1
  have b3 := y.2.2.2.2.2.2.2.2.2.1
  have z := y.2.2.2.2.2.2.2.2.2.2.2
  have new : o3 < F → zw (j_X10_prices_244_131 (zi t) p2 p4 p6 p7 (zi i) (zl E) (zl F) G) (fun r => r.1 = .inl (zi ((i + 1 : Nat) : Int)) ∧ Fr (fun a k => a = 260 ∧ 2 ≤ k) G r.2 ∧ gL r.2 260 2 = zl (if o3 < F then p else o2) ∧ gL r.2 260 3 = zl (if o3 < F then F else o3) ∧ gL r.2 260 4 = zl (if o4 = -1 ∧ 1000 * co ≤ E then p else o4)) := by
    intro q
    unfold j_X10_prices_244_131
    refine zw_bd1 (ldI_ok t (n := 5) rfl rfl ht) ?_
    rw [hp, zi_l (by omega) (by omega)]
    refine zw_bd1 (stL_ok 2 (n := 5) rfl ((show (2 : Int32) = zi 2 from zi_lit 2)) (by decide)) ?_
    refine zw_bd1 (stL_ok 3 (n := 5) rfl ((show (3 : Int32) = zi 3 from zi_lit 3)) (by decide)) ?_
    have f : Fr (fun a k => a = 260 ∧ (k = 2 ∨ k = 3)) G (sL (sL G 260 2 (zl p)) 260 3 (zl F)) := ((Fr.refl (fun a k => a = 260 ∧ (k = 2 ∨ k = 3)) G).sL ⟨rfl, Or.inl rfl⟩).sL ⟨rfl, Or.inr rfl⟩
    refine zw_mono (r_p265 (y.fr (f.mono (by omega))) (fun q2 => by rw [f.l (by omega)]; exact c4 q2)) ?_
    rintro r ⟨h1, h2, h3⟩
    refine ⟨h1, (f.mono (by omega)).trans (h2.mono (by omega)), ?_, ?_, h3⟩
    · rw [h2.l (by omega), gL_sL, if_neg (by omega), gL_sL, if_pos ⟨rfl, rfl⟩, if_pos q]
    · rw [h2.l (by omega), gL_sL, if_pos ⟨rfl, rfl⟩, if_pos q]
  unfold j_X10_prices_227_131
  by_cases q : i = 0
  · exact zw_t (by rw [q]; rfl) (new (by have := z q; omega))
  · refine zw_f (by rw [(show (0 : Int32) = zi 0 from zi_lit 0), zi_eq (by omega) (by omega) (by omega) (by omega)]; omega) ?_
    refine zw_bd1 (ldL_ok 3 (n := 5) rfl ((show (3 : Int32) = zi 3 from zi_lit 3)) (by decide)) ?_
    rw [c3 q]
    by_cases q2 : F ≤ o3
    · refine zw_t (by rw [zl_le (by omega) (by omega) (by omega) (by omega)]; exact q2) ?_
      refine zw_mono (r_p265 y c4) ?_
      rintro r ⟨h1, h2, h3⟩
      refine ⟨h1, h2.mono (by omega), ?_, ?_, h3⟩
      · rw [h2.l (by omega), if_neg (by omega)]; exact c2 q
      · rw [h2.l (by omega), if_neg (by omega)]; exact c3 q
    · exact zw_f (by rw [zl_le (by omega) (by omega) (by omega) (by omega)]; exact q2) (new (by omega))
theorem r_pTail (y : pxR t i p co E F o1 o3 o4 G) (c : i ≠ 0 → gL G 260 0 = zl o0 ∧ gL G 260 1 = zl o1 ∧ gL G 260 2 = zl o2 ∧ gL G 260 3 = zl o3 ∧ gL G 260 4 = zl o4) : zw (if zi i = 0 then j_X10_prices_206_131 (zi t) p2 p4 p6 p7 (zi i) (zl E) (zl F) G else bd (ldL G 260 1) fun x22 => if zl E ≤ x22 then j_X10_prices_227_131 (zi t) p2 p4 p6 p7 (zi i) (zl E) (zl F) G else j_X10_prices_206_131 (zi t) p2 p4 p6 p7 (zi i) (zl E) (zl F) G) (fun r => r.1 = .inl (zi ((i + 1 : Nat) : Int)) ∧ Fr (fun a _ => a = 260) G r.2 ∧ gL r.2 260 0 = zl (if o1 < E then p else o0) ∧ gL r.2 260 1 = zl (if o1 < E then E else o1) ∧ gL r.2 260 2 = zl (if o3 < F then p else o2) ∧ gL r.2 260 3 = zl (if o3 < F then F else o3) ∧ gL r.2 260 4 = zl (if o4 = -1 ∧ 1000 * co ≤ E then p else o4)) := by
  have hi := y.2.1
  have hp := y.2.2.1
  have ht := y.1
  have bp := y.2.2.2.2.1
  have bE := y.2.2.2.2.2.2.1
  have b1 := y.2.2.2.2.2.2.2.2.1
  have z := y.2.2.2.2.2.2.2.2.2.2.2
  have new : o1 < E → zw (j_X10_prices_206_131 (zi t) p2 p4 p6 p7 (zi i) (zl E) (zl F) G) (fun r => r.1 = .inl (zi ((i + 1 : Nat) : Int)) ∧ Fr (fun a _ => a = 260) G r.2 ∧ gL r.2 260 0 = zl (if o1 < E then p else o0) ∧ gL r.2 260 1 = zl (if o1 < E then E else o1) ∧ gL r.2 260 2 = zl (if o3 < F then p else o2) ∧ gL r.2 260 3 = zl (if o3 < F then F else o3) ∧ gL r.2 260 4 = zl (if o4 = -1 ∧ 1000 * co ≤ E then p else o4)) := by
    intro q
    unfold j_X10_prices_206_131
    refine zw_bd1 (ldI_ok t (n := 5) rfl rfl ht) ?_
    rw [hp, zi_l (by omega) (by omega)]
    refine zw_bd1 (stL_ok 0 (n := 5) rfl ((show (0 : Int32) = zi 0 from zi_lit 0)) (by decide)) ?_
    refine zw_bd1 (stL_ok 1 (n := 5) rfl ((show (1 : Int32) = zi 1 from zi_lit 1)) (by decide)) ?_
    have f : Fr (fun a k => a = 260 ∧ k < 2) G (sL (sL G 260 0 (zl p)) 260 1 (zl E)) := ((Fr.refl (fun a k => a = 260 ∧ k < 2) G).sL ⟨rfl, by decide⟩).sL ⟨rfl, by decide⟩
    refine zw_mono (r_p227 (y.fr (f.mono (by omega))) (fun q2 => by rw [f.l (by omega)]; exact (c q2).2.2.2.2) (fun q2 => by rw [f.l (by omega)]; exact (c q2).2.2.2.1) (fun q2 => by rw [f.l (by omega)]; exact (c q2).2.2.1)) ?_
    rintro r ⟨h1, h2, h3⟩
    refine ⟨h1, (f.mono (by omega)).trans (h2.mono (by omega)), ?_, ?_, h3⟩
    · rw [h2.l (by omega), gL_sL, if_neg (by omega), gL_sL, if_pos ⟨rfl, rfl⟩, if_pos q]
    · rw [h2.l (by omega), gL_sL, if_pos ⟨rfl, rfl⟩, if_pos q]
  by_cases q : i = 0
  · exact zw_t (by rw [q]; rfl) (new (by have := z q; omega))
  · refine zw_f (by rw [(show (0 : Int32) = zi 0 from zi_lit 0), zi_eq (by omega) (by omega) (by omega) (by omega)]; omega) ?_
    refine zw_bd1 (ldL_ok 1 (n := 5) rfl ((show (1 : Int32) = zi 1 from zi_lit 1)) (by decide)) ?_
    rw [(c q).2.1]
    by_cases q2 : E ≤ o1
    · refine zw_t (by rw [zl_le (by omega) (by omega) (by omega) (by omega)]; exact q2) ?_
      refine zw_mono (r_p227 y (fun q => (c q).2.2.2.2) (fun q => (c q).2.2.2.1) (fun q => (c q).2.2.1)) ?_
      rintro r ⟨h1, h2, h3⟩
      refine ⟨h1, h2.mono (by omega), ?_, ?_, h3⟩
      · rw [h2.l (by omega), if_neg (by omega)]; exact (c q).1
      · rw [h2.l (by omega), if_neg (by omega)]; exact (c q).2.1
    · exact zw_f (by rw [zl_le (by omega) (by omega) (by omega) (by omega)]; exact q2) (new (by omega))
end
