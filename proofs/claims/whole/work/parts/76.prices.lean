/-! 76.prices: the loops over the prices -/
/-- how far the prices lie apart, and how many there are -/
def stp (s : Int) : Int := if 10000 < s then 10000 else s
theorem stp_b {s : Int} (hs : 1 ≤ s) : 1 ≤ stp s ∧ stp s ≤ 10000 := by
  unfold stp
  split <;> omega
theorem pr_s (a s : Int) (i : Nat) : a + ((i + 1 : Nat) : Int) * s = a + i * s + s := by
  rw [show ((i + 1 : Nat) : Int) = i + 1 from rfl, Int.add_mul, Int.one_mul, Int.add_assoc]
/-- the prices from a to b -/
def pAll (a b s : Int) (n : Nat) : Prop := 0 ≤ a ∧ a ≤ b ∧ b ≤ 9999 ∧ 1 ≤ s ∧ s < 2147483648 ∧ 1 ≤ n ∧ n ≤ 60 ∧ (∀ i : Nat, i < n → a + i * stp s ≤ b ∧ a + i * s = a + i * stp s) ∧ b < a + n * stp s
theorem pAll_of {a b s : Int} (h1 : 0 ≤ a) (h2 : a ≤ b) (h3 : b ≤ 9999) (h4 : 1 ≤ s) (h5 : s < 2147483648) (h6 : (b - a) / s < 60) : pAll a b s ((b - a) / s + 1).toNat := by
  have hd := Int.ediv_nonneg (show 0 ≤ b - a by omega) (show 0 ≤ s by omega)
  have em := Int.emod_add_mul_ediv (b - a) s
  have m1 := Int.emod_nonneg (b - a) (show s ≠ 0 by omega)
  have m2 := Int.emod_lt_of_pos (b - a) (show 0 < s by omega)
  have ec : (((b - a) / s + 1).toNat : Int) = (b - a) / s + 1 := Int.toNat_of_nonneg (by omega)
  by_cases q : 10000 < s
  · have e0 : (b - a) / s = 0 := Int.ediv_eq_zero_of_lt (by omega) (by omega)
    have es : stp s = 10000 := if_pos q
    have en : ((b - a) / s + 1).toNat = 1 := by omega
    rw [en]
    unfold pAll
    rw [es]
    refine ⟨h1, h2, h3, h4, h5, by omega, by omega, fun i hi => ?_, by omega⟩
    have : i = 0 := by omega
    subst this
    rw [show ((0 : Nat) : Int) * s = 0 from Int.zero_mul s]
    omega
  · have es : stp s = s := if_neg q
    refine ⟨h1, h2, h3, h4, h5, by omega, by omega, fun i hi => ⟨?_, by rw [es]⟩, ?_⟩
    · rw [es]
      have := Int.mul_le_mul_of_nonneg_right (show (i : Int) ≤ (b - a) / s by omega) (show 0 ≤ s by omega)
      rw [Int.mul_comm s ((b - a) / s)] at em
      omega
    · rw [es, ec, Int.add_mul, Int.one_mul]
      rw [Int.mul_comm s ((b - a) / s)] at em
      omega
theorem pAll_b {a b s : Int} {n : Nat} (p : pAll a b s n) (i : Nat) (hi : i ≤ n) : 0 ≤ a + i * stp s ∧ a + i * stp s ≤ 700000 := by
  obtain ⟨p1, p2, p3, p4, p5, p6, p7, p8, p9⟩ := p
  have hs := stp_b p4
  have m := mul_b (a := (i : Int)) (A := 60) (B := 10000) (by omega) (by omega) (by omega : 0 ≤ stp s) hs.2
  omega
theorem pAll_ok {a b s : Int} {n : Nat} (p : pAll a b s n) : pOk a (stp s) n := fun i hi => by
  have h1 := (pAll_b p i (by omega)).1
  have h2 := (p.2.2.2.2.2.2.2.1 i hi).1
  have h3 := p.2.2.1
  omega
section
variable {D : HD} {T : Nat} {h : AH}
theorem c_through (x : IVd D T h) {t n : Nat} {a b s : Int} (p : pAll a b s n) (ht : t < 5) {a1 a2 a3 a4 : Int32} (e1 : a1 = zi t) (e2 : a2 = zi a) (e3 : a3 = zi b) (e4 : a4 = zi s) : zw (s_X5_throughPrices (some 13) a1 a2 a3 a4 h) (fun r => r.1 = zi n ∧ Fr (fun a k => a = 216 ∨ a = 217 ∨ a = 219 ∨ (a = 215 ∧ k = 4)) h r.2 ∧ gI r.2 215 4 = 1 ∧ cBs D t a (stp s) n r.2) := by
  have bT := x.tl.b
  obtain ⟨p1, p2, p3, p4, p5, p6, p7, p8, p9⟩ := id p
  subst e1 e2 e3 e4
  unfold s_X5_throughPrices
  rw [if_pos rfl, x.t13, bd_v, if_pos x.tl.l0]
  refine zw_bd (copy_ok (by omega) x.tl.l7 rfl) ?_
  rintro ⟨u1, g1⟩ ⟨f1, m1⟩
  dsimp only at f1 m1
  refine zw_bd1 (putW_ok 1 (n := 5) rfl ((show (1 : Int32) = zi 1 from zi_lit 1)) (by decide)) ?_
  refine zw_bd1 (putW_ok 3 (n := 5) rfl ((show (3 : Int32) = zi 3 from zi_lit 3)) (by decide)) ?_
  refine zw_bd1 (putW_ok 4 (n := 5) rfl ((show (4 : Int32) = zi 4 from zi_lit 4)) (by decide)) ?_
  dsimp only
  have em1 : (-1 : Int64) = zl (-1) := rfl
  refine zw_bd (P := fun r => r.1 = zi n ∧ Fr (fun a _ => a = 216 ∨ a = 217 ∨ a = 219) h r.2 ∧ cBs D t a (stp s) n r.2) ?_ ?_
  · refine zw_for n (fun i => (zi i, zi (a + i * stp s))) (zi n) (fun i h' => Fr (fun a _ => a = 216 ∨ a = 217 ∨ a = 219) h h' ∧ (∀ j, j < 5 → j ≠ t → gI h' 216 j = zi (D.P j)) ∧ cBs D t a (stp s) i h') (by omega) ?_ ?_ ?_ ?_
    · show ((0, zi a) : Int32 × Int32) = (zi ((0 : Nat) : Int), zi (a + ((0 : Nat) : Int) * stp s))
      rw [show ((0 : Nat) : Int) * stp s = 0 from Int.zero_mul _, Int.add_zero]
      rfl
    · refine ⟨(((f1.mono (by omega)).sL (Or.inr (Or.inr rfl))).sL (Or.inr (Or.inr rfl))).sL (Or.inr (Or.inr rfl)), fun j hj _ => ?_, ?_, ?_, ?_, fun z => by omega⟩
      · rw [gI_sL, gI_sL, gI_sL, m1 j hj]
        exact x.ch.2.2.2.2.2.2 j hj
      · rw [gL_sL, if_neg (by omega), gL_sL, if_neg (by omega), gL_sL, if_pos ⟨rfl, rfl⟩]; rfl
      · rw [gL_sL, if_neg (by omega), gL_sL, if_pos ⟨rfl, rfl⟩]; rfl
      · rw [gL_sL, if_pos ⟨rfl, rfl⟩]; rfl
    · rintro i h' hi ⟨hf, hm, hb⟩
      have y := x.c.fr3 x.wf hf
      have bp := pAll_b p i (by omega)
      have bs := stp_b p4
      have b8 := p8 i hi
      unfold l_X5_throughPrices_53
      dsimp only
      refine zw_f (by rw [zi_lt (by omega) (by omega) (by omega) (by omega)]; omega) ?_
      refine zw_f (by rw [(show (60 : Int32) = zi 60 from zi_lit 60), zi_le (by omega) (by omega) (by omega) (by omega)]; omega) ?_
      refine zw_bd1 (put_ok t (n := 5) rfl rfl (by omega)) ?_
      dsimp only
      have hr : ∀ j, j < 5 → gI (sI h' 216 t (zi (a + i * stp s))) 216 j = zi (uz D.P t (a + i * stp s) j) := by
        intro j hj
        rw [gI_sI]
        unfold uz
        by_cases q : j = t
        · rw [if_pos ⟨rfl, q⟩, if_pos q]
        · rw [if_neg (fun z => q z.2), if_neg q]
          exact hm j hj q
      refine zw_bd (c_weighP x.wf (y.fr3 x.wf ((Fr.refl _ h').sI (Or.inl rfl))) (pAll_ok p) hi hr ?_ rfl) ?_
      · obtain ⟨c1, c2, c3, c4⟩ := hb
        refine ⟨?_, ?_, ?_, fun z => ⟨?_, ?_⟩⟩
        · rw [gL_sI]; exact c1
        · rw [gL_sI]; exact c2
        · rw [gL_sI]; exact c3
        · rw [gL_sI]; exact (c4 z).1
        · rw [gL_sI]; exact (c4 z).2
      · rintro ⟨u2, g2⟩ ⟨f2, b2⟩
        dsimp only at f2 b2
        refine zw_some ⟨congrArg Sum.inl (Prod.ext (by first | (simp only [zi_lit, zi_neg, zi_add, zi_sub, zi_mul, zl_lit, zl_neg, zl_add, zl_sub, zl_mul, zl_i]; exact congrArg zi (by omega)) | (simp only [zi_lit, zi_neg, zi_add, zi_sub, zi_mul, zl_lit, zl_neg, zl_add, zl_sub, zl_mul, zl_i]; done) | exact congrArg zi (by omega)) ?_), (hf.sI (Or.inl rfl)).trans (f2.mono (by omega)), fun j hj hj2 => ?_, b2⟩
        · show zi (a + i * stp s) + (if (10000 : Int32) < zi s then 10000 else zi s) = zi (a + ((i + 1 : Nat) : Int) * stp s)
          rw [pr_s]
          unfold stp
          by_cases q : 10000 < s
          · rw [if_pos q, if_pos (by rw [(show (10000 : Int32) = zi 10000 from zi_lit 10000), zi_lt (by omega) (by omega) (by omega) (by omega)]; exact q)]
            exact zi_add _ 10000
          · rw [if_neg q, if_neg (by rw [(show (10000 : Int32) = zi 10000 from zi_lit 10000), zi_lt (by omega) (by omega) (by omega) (by omega)]; exact q)]
            exact zi_add _ _
        · rw [f2.i (by omega), gI_sI, if_neg (fun z => hj2 z.2)]
          exact hm j hj hj2
    · rintro h' ⟨hf, hm, hb⟩
      have bp := pAll_b p n (by omega)
      unfold l_X5_throughPrices_53
      dsimp only
      exact zw_t (by rw [zi_lt (by omega) (by omega) (by omega) (by omega)]; omega) (zw_some ⟨rfl, rfl, hf, hb⟩)
  · rintro ⟨v, g2⟩ ⟨hv, f2, hb⟩
    dsimp only at hv f2 hb
    unfold j_X5_throughPrices_103
    refine zw_some ⟨hv, (f2.mono (by omega)).sI (Or.inr (Or.inr (Or.inr ⟨rfl, rfl⟩))), by show gI (sI g2 215 4 1) 215 4 = 1; rw [gI_sI, if_pos ⟨rfl, rfl⟩], ?_⟩
    obtain ⟨c1, c2, c3, c4⟩ := hb
    refine ⟨?_, ?_, ?_, fun z => ⟨?_, ?_⟩⟩
    · show gL (sI g2 215 4 1) 219 1 = _
      rw [gL_sI]; exact c1
    · show gL (sI g2 215 4 1) 219 3 = _
      rw [gL_sI]; exact c2
    · show gL (sI g2 215 4 1) 219 4 = _
      rw [gL_sI]; exact c3
    · show gL (sI g2 215 4 1) 219 0 = _
      rw [gL_sI]; exact (c4 z).1
    · show gL (sI g2 215 4 1) 219 2 = _
      rw [gL_sI]; exact (c4 z).2
end
