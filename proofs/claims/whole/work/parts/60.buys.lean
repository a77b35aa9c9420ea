/-! 60.buys: plans found, what a kind buys: the class's choose, the reference's buysOf -/
def gd (W P : Nat → Int) (t : Nat) : Int := if t = 0 then W 0 else W t - 1000 * P t
def bst (W P : Nat → Int) (y : Int) : Nat → Nat
  | 0 => 0
  | i + 1 => if P (i + 1) ≠ -1 ∧ (i + 1 = 4 → y = 1) ∧ gd W P (bst W P y i) < gd W P (i + 1) then i + 1 else bst W P y i
theorem bst_s (W P : Nat → Int) (y : Int) (i : Nat) : bst W P y (i + 1) = if P (i + 1) ≠ -1 ∧ (i + 1 = 4 → y = 1) ∧ gd W P (bst W P y i) < gd W P (i + 1) then i + 1 else bst W P y i := rfl
theorem bst_le (W P : Nat → Int) (y : Int) : ∀ i, bst W P y i ≤ i := by
  intro i
  induction i with
  | zero => exact Nat.le_refl _
  | succ i ih => rw [bst_s]; split <;> omega
/-- what is bought is the door or told -/
theorem bst_told (W P : Nat → Int) (y : Int) : ∀ i, bst W P y i = 0 ∨ P (bst W P y i) ≠ -1 := by
  intro i
  induction i with
  | zero => exact Or.inl rfl
  | succ i ih =>
    rw [bst_s]
    split
    · rename_i q; exact Or.inr q.1
    · exact ih
theorem bst_congr {W W' P P' : Nat → Int} {y : Int} : ∀ i, (∀ t, t ≤ i → W t = W' t) → (∀ t, t ≤ i → P t = P' t) → bst W P y i = bst W' P' y i := by
  intro i
  induction i with
  | zero => intro _ _; rfl
  | succ i ih =>
    intro hW hP
    have e := ih (fun t ht => hW t (by omega)) (fun t ht => hP t (by omega))
    have g : ∀ t, t ≤ i + 1 → gd W P t = gd W' P' t := fun t ht => by unfold gd; rw [hW 0 (by omega), hW t ht, hP t ht]
    rw [bst_s, bst_s, e, hP (i + 1) (Nat.le_refl _), g _ (by have := bst_le W' P' y i; omega), g (i + 1) (Nat.le_refl _)]
/-- values in bounds -/
def bW (W P : Nat → Int) : Prop := (∀ t, t < 5 → 0 ≤ W t ∧ W t ≤ 16000000) ∧ (∀ t, t < 5 → -1 ≤ P t ∧ P t ≤ 9999)
theorem gd_b {W P : Nat → Int} (h : bW W P) {t : Nat} (ht : t < 5) : -10000000 ≤ gd W P t ∧ gd W P t ≤ 16001000 := by
  have h1 := h.1 t ht
  have h2 := h.2 t ht
  have h3 := h.1 0 (by decide)
  unfold gd
  split <;> omega
/-- the books: where the plans stand -/
def CB (h : AH) : Prop := ∀ i, i < 30 → gR h 29 i = some (31 + 6 * i)
theorem CB.fr {h h' : AH} {S : Nat → Nat → Prop} (x : CB h) (f : Fr S h h') (n : ∀ j, ¬ S 29 j) : CB h' := fun i hi => (f.r (n i)).trans (x i hi)
section
variable {D : HD} {T : Nat} {h : AH}
theorem c_planOf (b : CB h) {k t : Nat} {a0 a1 : Int32} (h0 : a0 = zi k) (h1 : a1 = zi t) (hk : k < 6) (ht : t < 5) : s_X0_planOf a0 a1 h = some (some (31 + 6 * (5 * k + t))) := by
  subst h0 h1
  unfold s_X0_planOf
  have e : zi k * 5 + zi t = zi ((5 * k + t : Nat) : Int) := (by first | (simp only [zi_lit, zi_neg, zi_add, zi_sub, zi_mul, zl_lit, zl_neg, zl_add, zl_sub, zl_mul, zl_i]; exact congrArg zi (by omega)) | (simp only [zi_lit, zi_neg, zi_add, zi_sub, zi_mul, zl_lit, zl_neg, zl_add, zl_sub, zl_mul, zl_i]; done) | exact congrArg zi (by omega))
  rw [e, if_neg (by rw [(show (0 : Int32) = zi 0 from zi_lit 0), zi_lt (by omega) (by omega) (by omega) (by omega)]; show ¬ ((5 * k + t : Nat) : Int) < 0; omega), alen_r (n := 30) rfl, bd_v, if_neg (by rw [zi_le (by omega) (by omega) (by omega) (by omega)]; omega), ldR_ok (5 * k + t) (n := 30) rfl rfl (by omega), bd_v, b _ (by omega)]
  rfl
theorem c_choose (hD : WFD D) (hT : TL T) (x : CH D T h) (b : CB h) (hR : gR h 13 1 = some T) {k pa : Nat} {W P : Nat → Int} (hk : k < D.K) (hpa : LAY pa = (1, 5)) (hP : ∀ t, t < 5 → gI h pa t = zi (P t)) (hW : ∀ t, t < 5 → t ≠ 3 → gL h (31 + 6 * (5 * k + t)) 8 = zl (W t)) (hb : bW W P) {a0 : Int32} {a2 : Int64} (h0 : a0 = zi k) (h2 : a2 = zl (W 3)) : s_X0_choose a0 (some pa) a2 h = some (zi (bst W P (D.Q k 10) 4)) := by
  have hK := hD.K6
  subst h0 h2
  have val : ∀ t, t < 5 → t ≠ 3 → s_X2_value (31 + 6 * (5 * k + t)) h = some (zl (W t)) := fun t ht h3 => by
    unfold s_X2_value
    rw [if_pos (PL.of (by omega) ht).l0, hW t ht h3]
  unfold s_X0_choose
  rw [c_planOf b (k := k) (t := 0) (a0 := zi k) (a1 := 0) rfl rfl (by omega) (by decide), bd_v, bd_v, if_pos (PL.of (by omega : k < 6) (by decide : 0 < 5)).l0, val 0 (by decide) (by decide), bd_v]
  have L : lpP (l_X0_choose_17 (zi k) (some pa) (zl (W 3)) h) FU (0, zl (W 0), 1) = some (zi (bst W P (D.Q k 10) 4)) := by
    refine lpP_for 4 (fun i => (zi (bst W P (D.Q k 10) i), zl (gd W P (bst W P (D.Q k 10) i)), zi ((i + 1 : Nat) : Int))) (by decide) rfl ?_ ?_
    · intro i hi
      have hbl := bst_le W P (D.Q k 10) i
      have g1 := gd_b hb (t := bst W P (D.Q k 10) i) (by omega)
      have g2 := gd_b hb (t := i + 1) (by omega)
      have w2 := hb.1 (i + 1) (by omega)
      have p2 := hb.2 (i + 1) (by omega)
      have keep : ∀ v : Nat, v = bst W P (D.Q k 10) (i + 1) → ∀ g : Int, g = gd W P v → j_X0_choose_116_17 (zi k) (some pa) (zl (W 3)) (zi (v : Int)) (zl g) (zi ((i + 1 : Nat) : Int)) h = some (.inl (zi (bst W P (D.Q k 10) (i + 1)), zl (gd W P (bst W P (D.Q k 10) (i + 1))), zi ((i + 1 + 1 : Nat) : Int))) := by
        rintro v rfl g rfl
        unfold j_X0_choose_116_17
        rw [show zi ((i + 1 : Nat) : Int) + 1 = zi ((i + 1 + 1 : Nat) : Int) from (by first | (simp only [zi_lit, zi_neg, zi_add, zi_sub, zi_mul, zl_lit, zl_neg, zl_add, zl_sub, zl_mul, zl_i]; exact congrArg zi (by omega)) | (simp only [zi_lit, zi_neg, zi_add, zi_sub, zi_mul, zl_lit, zl_neg, zl_add, zl_sub, zl_mul, zl_i]; done) | exact congrArg zi (by omega))]
      have worth : ∀ (sold : Int32) (sb : Bool), sold = (if sb = true then 1 else 0) → (sb = true ↔ P (i + 1) ≠ -1 ∧ (i + 1 = 4 → D.Q k 10 = 1)) → j_X0_choose_59_17 (zi k) (some pa) (zl (W 3)) (zi (bst W P (D.Q k 10) i)) (zl (gd W P (bst W P (D.Q k 10) i))) (zi ((i + 1 : Nat) : Int)) (zi (P (i + 1))) sold h = some (.inl (zi (bst W P (D.Q k 10) (i + 1)), zl (gd W P (bst W P (D.Q k 10) (i + 1))), zi ((i + 1 + 1 : Nat) : Int))) := by
        intro sold sb hs hsb
        have fin : j_X0_choose_81_17 (zi k) (some pa) (zl (W 3)) (zi (bst W P (D.Q k 10) i)) (zl (gd W P (bst W P (D.Q k 10) i))) (zi ((i + 1 : Nat) : Int)) (zi (P (i + 1))) sold (zl (W (i + 1))) h = some (.inl (zi (bst W P (D.Q k 10) (i + 1)), zl (gd W P (bst W P (D.Q k 10) (i + 1))), zi ((i + 1 + 1 : Nat) : Int))) := by
          unfold j_X0_choose_81_17
          have eg : zl (W (i + 1)) - (1000 * (zi (P (i + 1))).toInt64) = zl (gd W P (i + 1)) := by
            rw [zi_l (by omega) (by omega)]
            simp only [zi_lit, zi_neg, zi_add, zi_sub, zi_mul, zl_lit, zl_neg, zl_add, zl_sub, zl_mul, zl_i]
            unfold gd
            rw [if_neg (by omega)]
          rw [eg]
          cases sb
          · rw [if_pos (by rw [hs]; rfl)]
            refine keep _ ?_ _ rfl
            rw [bst_s, if_neg (fun z => absurd (hsb.mpr ⟨z.1, z.2.1⟩) (by decide))]
          · rw [if_neg (by rw [hs]; decide)]
            have hs2 := hsb.mp rfl
            by_cases q : gd W P (i + 1) ≤ gd W P (bst W P (D.Q k 10) i)
            · rw [if_pos (by rw [zl_le (by omega) (by omega) (by omega) (by omega)]; exact q)]
              refine keep _ ?_ _ rfl
              rw [bst_s, if_neg (by omega)]
            · rw [if_neg (by rw [zl_le (by omega) (by omega) (by omega) (by omega)]; exact q)]
              refine keep (i + 1) ?_ _ rfl
              rw [bst_s, if_pos ⟨hs2.1, hs2.2, by omega⟩]
        unfold j_X0_choose_59_17
        by_cases h3 : i + 1 = 3
        · rw [if_pos (by rw [h3]; rfl)]
          rw [show (3 : Nat) = i + 1 from h3.symm] at *
          exact fin
        · rw [if_neg (by rw [(show (3 : Int32) = zi 3 from zi_lit 3), zi_eq (by omega) (by omega) (by omega) (by omega)]; omega), c_planOf b rfl (t := i + 1) rfl (by omega) (by omega), bd_v, bd_v, if_pos (PL.of (by omega : k < 6) (by omega : i + 1 < 5)).l0, val (i + 1) (by omega) h3, bd_v]
          exact fin
      unfold l_X0_choose_17
      dsimp only
      rw [if_neg (by rw [(show (5 : Int32) = zi 5 from zi_lit 5), zi_le (by omega) (by omega) (by omega) (by omega)]; show ¬ (5 : Int) ≤ ((i + 1 : Nat) : Int); omega), at_ok (i + 1) hpa rfl (by omega), bd_v, hP (i + 1) (by omega)]
      have em1 : (-1 : Int32) = zi (-1) := rfl
      by_cases qp : P (i + 1) = -1
      · rw [if_pos (by rw [qp]; rfl)]
        unfold j_X0_choose_58_17
        exact worth 0 false rfl ⟨fun z => absurd z (by decide), fun z => absurd qp z.1⟩
      · rw [if_neg (by rw [em1, zi_eq (by omega) (by omega) (by omega) (by omega)]; exact qp)]
        by_cases h4 : i + 1 = 4
        · rw [if_pos (by rw [h4]; rfl), hR, bd_v, if_pos hT.l0, c_young hD hT x rfl hk, bd_v]
          by_cases qy : D.Q k 10 = 1
          · rw [if_pos qy, if_neg (by decide)]
            unfold j_X0_choose_54_17
            exact worth 1 true rfl ⟨fun _ => ⟨qp, fun _ => qy⟩, fun _ => rfl⟩
          · rw [if_neg qy, if_pos rfl]
            unfold j_X0_choose_58_17
            exact worth 0 false rfl ⟨fun z => absurd z (by decide), fun z => absurd (z.2 h4) qy⟩
        · rw [if_neg (by rw [(show (4 : Int32) = zi 4 from zi_lit 4), zi_eq (by omega) (by omega) (by omega) (by omega)]; omega)]
          unfold j_X0_choose_54_17
          exact worth 1 true rfl ⟨fun _ => ⟨qp, fun z => absurd z h4⟩, fun _ => rfl⟩
    · unfold l_X0_choose_17
      rfl
  rw [L, bd_v]
theorem r_good {k t : Nat} {W P : Nat → Int} {a0 a1 : Int32} (h0 : a0 = zi k) (h1 : a1 = zi t) (hk : k < 6) (ht : t < 5) (hW : gI h 255 (5 * k + t) = zi (W t)) (hP : gI h 244 t = zi (P t)) : s_X10_goodOf a0 a1 h = some (zi (gd W P t)) := by
  subst h0 h1
  unfold s_X10_goodOf gd
  rw [ldI_ok (5 * k + t) (n := 30) rfl (by first | (simp only [zi_lit, zi_neg, zi_add, zi_sub, zi_mul, zl_lit, zl_neg, zl_add, zl_sub, zl_mul, zl_i]; exact congrArg zi (by omega)) | (simp only [zi_lit, zi_neg, zi_add, zi_sub, zi_mul, zl_lit, zl_neg, zl_add, zl_sub, zl_mul, zl_i]; done) | exact congrArg zi (by omega)) (by omega), bd_v, hW]
  by_cases t0 : t = 0
  · subst t0
    rw [if_pos rfl, if_pos (show zi ((0 : Nat) : Int) = 0 from rfl)]
    unfold j_X10_goodOf_28
    rw [show zi (W 0) - 0 = zi (W 0) from (by first | (simp only [zi_lit, zi_neg, zi_add, zi_sub, zi_mul, zl_lit, zl_neg, zl_add, zl_sub, zl_mul, zl_i]; exact congrArg zi (by omega)) | (simp only [zi_lit, zi_neg, zi_add, zi_sub, zi_mul, zl_lit, zl_neg, zl_add, zl_sub, zl_mul, zl_i]; done) | exact congrArg zi (by omega))]
  · rw [if_neg (by rw [(show (0 : Int32) = zi 0 from zi_lit 0), zi_eq (by omega) (by omega) (by omega) (by omega)]; show ¬ (t : Int) = 0; omega), if_neg t0, ldI_ok t (n := 5) rfl rfl ht, bd_v, hP]
    unfold j_X10_goodOf_28
    simp only [zi_lit, zi_neg, zi_add, zi_sub, zi_mul, zl_lit, zl_neg, zl_add, zl_sub, zl_mul, zl_i]
theorem r_buys (hD : WFD D) (x : RH D h) {k : Nat} {W P : Nat → Int} (hk : k < D.K) (hP : ∀ t, t < 5 → gI h 244 t = zi (P t)) (hW : ∀ t, t < 5 → gI h 255 (5 * k + t) = zi (W t)) (hb : bW W P) {a0 : Int32} (h0 : a0 = zi k) : s_X10_buysOf a0 h = some (zi (bst W P (D.Q k 10) 4)) := by
  have hK := hD.K6
  subst h0
  unfold s_X10_buysOf
  have L : lpP (l_X10_buysOf_4 (zi k) h) FU (0, 1) = some (zi (bst W P (D.Q k 10) 4)) := by
    refine lpP_for 4 (fun i => (zi (bst W P (D.Q k 10) i), zi ((i + 1 : Nat) : Int))) (by decide) rfl ?_ ?_
    · intro i hi
      have hbl := bst_le W P (D.Q k 10) i
      have g1 := gd_b hb (t := bst W P (D.Q k 10) i) (by omega)
      have g2 := gd_b hb (t := i + 1) (by omega)
      have p2 := hb.2 (i + 1) (by omega)
      have q2 := (hD.q k hk).2.2.2.2.2.2.2
      have keep : ∀ v : Nat, v = bst W P (D.Q k 10) (i + 1) → j_X10_buysOf_52_4 (zi k) (zi (v : Int)) (zi ((i + 1 : Nat) : Int)) h = some (.inl (zi (bst W P (D.Q k 10) (i + 1)), zi ((i + 1 + 1 : Nat) : Int))) := by
        rintro v rfl
        unfold j_X10_buysOf_52_4
        rw [show zi ((i + 1 : Nat) : Int) + 1 = zi ((i + 1 + 1 : Nat) : Int) from (by first | (simp only [zi_lit, zi_neg, zi_add, zi_sub, zi_mul, zl_lit, zl_neg, zl_add, zl_sub, zl_mul, zl_i]; exact congrArg zi (by omega)) | (simp only [zi_lit, zi_neg, zi_add, zi_sub, zi_mul, zl_lit, zl_neg, zl_add, zl_sub, zl_mul, zl_i]; done) | exact congrArg zi (by omega))]
      have look : P (i + 1) ≠ -1 → (i + 1 = 4 → D.Q k 10 = 1) → j_X10_buysOf_35_4 (zi k) (zi (bst W P (D.Q k 10) i)) (zi ((i + 1 : Nat) : Int)) h = some (.inl (zi (bst W P (D.Q k 10) (i + 1)), zi ((i + 1 + 1 : Nat) : Int))) := by
        intro s1 s2
        unfold j_X10_buysOf_35_4
        rw [r_good rfl (t := i + 1) rfl (by omega) (by omega) (hW _ (by omega)) (hP _ (by omega)), bd_v, r_good rfl (t := bst W P (D.Q k 10) i) rfl (by omega) (by omega) (hW _ (by omega)) (hP _ (by omega)), bd_v]
        by_cases q : gd W P (i + 1) ≤ gd W P (bst W P (D.Q k 10) i)
        · rw [if_pos (by rw [zi_le (by omega) (by omega) (by omega) (by omega)]; exact q)]
          refine keep _ ?_
          rw [bst_s, if_neg (by omega)]
        · rw [if_neg (by rw [zi_le (by omega) (by omega) (by omega) (by omega)]; exact q)]
          refine keep (i + 1) ?_
          rw [bst_s, if_pos ⟨s1, s2, by omega⟩]
      unfold l_X10_buysOf_4
      dsimp only
      rw [if_neg (by rw [(show (5 : Int32) = zi 5 from zi_lit 5), zi_le (by omega) (by omega) (by omega) (by omega)]; show ¬ (5 : Int) ≤ ((i + 1 : Nat) : Int); omega), ldI_ok (i + 1) (n := 5) rfl rfl (by omega), bd_v, hP (i + 1) (by omega)]
      have em1 : (-1 : Int32) = zi (-1) := rfl
      by_cases qp : P (i + 1) = -1
      · rw [if_pos (by rw [qp]; rfl)]
        exact keep _ (by rw [bst_s, if_neg (fun z => z.1 qp)])
      · rw [if_neg (by rw [em1, zi_eq (by omega) (by omega) (by omega) (by omega)]; exact qp)]
        by_cases h4 : i + 1 = 4
        · rw [if_pos (by rw [h4]; rfl), r_of hD x rfl (w := 10) ((show (10 : Int32) = zi 10 from zi_lit 10)) hk (by decide), bd_v]
          by_cases qy : D.Q k 10 = 1
          · rw [if_pos (by rw [qy]; rfl)]
            exact look qp (fun _ => qy)
          · rw [if_neg (by rw [(show (1 : Int32) = zi 1 from zi_lit 1), zi_eq (by omega) (by omega) (by omega) (by omega)]; exact qy)]
            exact keep _ (by rw [bst_s, if_neg (fun z => qy (z.2.1 h4))])
        · rw [if_neg (by rw [(show (4 : Int32) = zi 4 from zi_lit 4), zi_eq (by omega) (by omega) (by omega) (by omega)]; omega)]
          exact look qp (fun z => absurd z h4)
    · unfold l_X10_buysOf_4
      rfl
  rw [L, bd_v]
end
