/-! 62.crowd: numbers by how many come: the reference's oneMore, above; the class's add, above -/
def nS (q : Int) (F : Nat → Int) : Nat → Int := fun j => (F j * (1000000 - q) + (if j = 0 then 0 else F (j - 1) * q)) / 1000000
def Fz : Nat → Int := fun j => if j = 0 then 1000000000 else 0
def nI2 (q : Int) : Nat → (Nat → Int) → Nat → Int
  | 0, F => F
  | n + 1, F => nS q (nI2 q n F)
/-- a row of numbers with m people -/
def bF (m : Nat) (F : Nat → Int) : Prop := (∀ j, 0 ≤ F j ∧ F j ≤ 1000000000) ∧ (∀ j, m < j → F j = 0) ∧ zs F (m + 1) ≤ 1000000000
theorem bF_0 : bF 0 Fz := by
  refine ⟨fun j => by unfold Fz; split <;> omega, fun j hj => by unfold Fz; rw [if_neg (by omega)], by decide⟩
theorem nS_v {q : Int} (hq : 0 ≤ q ∧ q ≤ 1000000) {m : Nat} {F : Nat → Int} (b : bF m F) (j : Nat) : (0 ≤ F j * (1000000 - q) ∧ F j * (1000000 - q) ≤ 1000000000000000) ∧ (0 ≤ (if j = 0 then 0 else F (j - 1) * q) ∧ (if j = 0 then 0 else F (j - 1) * q) ≤ 1000000000000000) ∧ 0 ≤ nS q F j ∧ nS q F j ≤ 1000000000 := by
  have b1 := b.1 j
  have b2 := b.1 (j - 1)
  have m1 := mul_b (b := 1000000 - q) (B := 1000000) b1.1 b1.2 (by omega) (by omega)
  have m2 := mul_b b2.1 b2.2 hq.1 hq.2
  have m3 : F j * (1000000 - q) + (if j = 0 then 0 else F (j - 1) * q) ≤ 1000000000 * 1000000 := by
    have a1 : F j * (1000000 - q) ≤ 1000000000 * (1000000 - q) := Int.mul_le_mul_of_nonneg_right b1.2 (by omega)
    have a2 : F (j - 1) * q ≤ 1000000000 * q := Int.mul_le_mul_of_nonneg_right b2.2 hq.1
    split <;> omega
  have i2 : 0 ≤ (if j = 0 then 0 else F (j - 1) * q) ∧ (if j = 0 then 0 else F (j - 1) * q) ≤ 1000000000000000 := by split <;> omega
  have d := div_b (b := 1000000) (A := 1000000000) (a := F j * (1000000 - q) + (if j = 0 then 0 else F (j - 1) * q)) (by decide) (by omega) (by omega)
  exact ⟨⟨m1.1, by omega⟩, i2, d⟩
theorem zs_mul (f : Nat → Int) (c : Int) (n : Nat) : zs (fun i => f i * c) n = zs f n * c := by
  induction n with
  | zero => rw [zs_0, zs_0, Int.zero_mul]
  | succ n ih => rw [zs_s, zs_s, ih, Int.add_mul]
theorem nS_b {q : Int} (hq : 0 ≤ q ∧ q ≤ 1000000) {m : Nat} {F : Nat → Int} (b : bF m F) : bF (m + 1) (nS q F) := by
  refine ⟨fun j => (nS_v hq b j).2.2, fun j hj => ?_, ?_⟩
  · unfold nS
    rw [b.2.1 j (by omega), b.2.1 (j - 1) (by omega)]
    simp
  · have h1 : zs (fun j => nS q F j * 1000000) (m + 1 + 1) ≤ zs (fun j => F j * (1000000 - q) + (if j = 0 then 0 else F (j - 1) * q)) (m + 1 + 1) := zs_le2 (fun j _ => by
      unfold nS
      generalize F j * (1000000 - q) + (if j = 0 then 0 else F (j - 1) * q) = X
      omega)
    have h2 := zs_shift (fun j => F j * q) (m + 1)
    rw [zs_add, zs_mul, zs_mul, h2, zs_mul, zs_s F (m + 1), b.2.1 (m + 1) (by omega), Int.add_zero] at h1
    have h3 := b.2.2
    have h4 : zs F (m + 1) * (1000000 - q) + zs F (m + 1) * q = zs F (m + 1) * 1000000 := by rw [← Int.mul_add]; congr 1; omega
    omega
/-- how likely more than ch come -/
def abv (F : Nat → Int) (ch : Int) (n : Nat) : Int := zs (fun j => if ch < (j : Int) then F j else 0) n
theorem abv_b {m : Nat} {F : Nat → Int} (b : bF m F) (ch : Int) (n : Nat) : 0 ≤ abv F ch n ∧ abv F ch n ≤ 1000000000 := by
  refine ⟨zs_nn (fun j _ => by split; exact (b.1 j).1; exact Int.le_refl _), ?_⟩
  have h1 : abv F ch n ≤ zs F n := zs_le2 (fun j _ => by split; exact Int.le_refl _; exact (b.1 j).1)
  have h2 : zs F n ≤ zs F (m + 1) := by
    rcases Nat.lt_or_ge n (m + 1) with q | q
    · exact zs_mono (by omega) (fun i _ _ => (b.1 i).1)
    · rw [zs_tail q (fun i hi _ => b.2.1 i (by omega))]
      exact Int.le_refl _
  have := b.2.2
  omega
theorem abv_tail {m n : Nat} {F : Nat → Int} (b : bF m F) (ch : Int) (hn : m + 1 ≤ n) : abv F ch n = abv F ch (m + 1) := zs_tail hn (fun i h1 _ => by (try dsimp only); rw [b.2.1 i (by omega)]; split <;> rfl)
/-- the reference's row -/
def RN (F : Nat → Int) (h : AH) : Prop := ∀ j, j ≤ 400 → gL h 259 j = zl (F j)
section
variable {h : AH} {F : Nat → Int} {m : Nat} {q : Int}
theorem r_nobody : zw (s_X10_nobody h) (fun r => Fr (fun a _ => a = 259) h r.2 ∧ RN Fz r.2) := by
  unfold s_X10_nobody
  refine zw_bd (P := fun y => Fr (fun a _ => a = 259) h y.2 ∧ RN Fz y.2) ?_ (fun y hy => zw_some hy)
  refine zw_for 401 (fun n => zi n) () (fun m h' => Fr (fun a _ => a = 259) h h' ∧ (∀ i, i < m → gL h' 259 i = zl (Fz i))) (by decide) rfl ⟨Fr.refl _ _, fun i hi => by omega⟩ ?_ ?_
  · rintro n h' hn ⟨hf, hz⟩
    have fin : ∀ w : Int64, w = zl (Fz n) → zw (j_X10_nobody_25_2 (zi n) w (zi n) h') (fun r => r.1 = .inl (zi ((n + 1 : Nat) : Int)) ∧ Fr (fun a _ => a = 259) h r.2 ∧ (∀ i, i < n + 1 → gL r.2 259 i = zl (Fz i))) := by
      rintro w rfl
      unfold j_X10_nobody_25_2
      refine zw_bd1 (stL_ok n (n := 401) rfl rfl hn) ?_
      refine zw_some ⟨congrArg Sum.inl (by first | (simp only [zi_lit, zi_neg, zi_add, zi_sub, zi_mul, zl_lit, zl_neg, zl_add, zl_sub, zl_mul, zl_i]; exact congrArg zi (by omega)) | (simp only [zi_lit, zi_neg, zi_add, zi_sub, zi_mul, zl_lit, zl_neg, zl_add, zl_sub, zl_mul, zl_i]; done) | exact congrArg zi (by omega)), hf.sL rfl, fun i hi => ?_⟩
      show gL (sL h' 259 n _) 259 i = _
      rw [gL_sL]
      by_cases q : i = n
      · subst q; rw [if_pos ⟨rfl, rfl⟩]
      · rw [if_neg (by omega)]
        exact hz i (by omega)
    unfold l_X10_nobody_2
    refine zw_f (by rw [(show (401 : Int32) = zi 401 from zi_lit 401), zi_le (by omega) (by omega) (by omega) (by omega)]; show ¬ (401 : Int) ≤ n; omega) ?_
    by_cases q : n = 0
    · subst q
      exact zw_t rfl (fin _ rfl)
    · refine zw_f (by rw [(show (0 : Int32) = zi 0 from zi_lit 0), zi_eq (by omega) (by omega) (by omega) (by omega)]; show ¬ (n : Int) = 0; omega) (fin _ ?_)
      unfold Fz
      rw [if_neg q]
      rfl
  · rintro h' ⟨hf, hz⟩
    unfold l_X10_nobody_2
    exact zw_t (by decide) (zw_some ⟨rfl, hf, fun j hj => hz j (by omega)⟩)
theorem r_oneMore (hm : m < 400) (b : bF m F) (hq : 0 ≤ q ∧ q ≤ 1000000) (r : RN F h) {a0 : Int32} {a1 : Int64} (h0 : a0 = zi m) (h1 : a1 = zl q) : zw (s_X10_oneMore a0 a1 h) (fun r => Fr (fun a _ => a = 259) h r.2 ∧ RN (nS q F) r.2) := by
  subst h0 h1
  unfold s_X10_oneMore
  refine zw_bd (P := fun y => Fr (fun a _ => a = 259) h y.2 ∧ RN (nS q F) y.2) ?_ (fun y hy => zw_some hy)
  refine zw_for (m + 2) (fun i => zi ((m : Int) + 1 - i)) () (fun i h' => Fr (fun a _ => a = 259) h h' ∧ (∀ j, j + i ≤ m + 1 → gL h' 259 j = zl (F j)) ∧ (∀ j, j ≤ 400 → m + 1 < j + i → gL h' 259 j = zl (nS q F j))) (by omega) ?_ ⟨Fr.refl _ _, fun j hj => r j (by omega), fun j hj hj2 => ?_⟩ ?_ ?_
  · exact (by first | (simp only [zi_lit, zi_neg, zi_add, zi_sub, zi_mul, zl_lit, zl_neg, zl_add, zl_sub, zl_mul, zl_i]; exact congrArg zi (by omega)) | (simp only [zi_lit, zi_neg, zi_add, zi_sub, zi_mul, zl_lit, zl_neg, zl_add, zl_sub, zl_mul, zl_i]; done) | exact congrArg zi (by omega))
  · rw [r j hj, b.2.1 j (by omega), (nS_b hq b).2.1 j (by omega)]
  · rintro i h' hi ⟨hf, hlo, hhi⟩
    have hs : zi ((m : Int) + 1 - i) = zi ((m + 1 - i : Nat) : Int) := congrArg zi (by omega)
    have v := nS_v hq b (m + 1 - i)
    rw [hs]
    unfold l_X10_oneMore_5
    refine zw_f (by rw [(show (0 : Int32) = zi 0 from zi_lit 0), zi_lt (by omega) (by omega) (by omega) (by omega)]; show ¬ ((m + 1 - i : Nat) : Int) < 0; omega) ?_
    refine zw_bd1 (ldL_ok (m + 1 - i) (n := 401) rfl rfl (by omega)) ?_
    rw [hlo _ (by omega)]
    have fin : ∀ k0 : Int64, k0 = zl (if m + 1 - i = 0 then 0 else F (m + 1 - i - 1) * q) → zw (j_X10_oneMore_49_5 (zl q) (zi ((m + 1 - i : Nat) : Int)) k0 (zl (F (m + 1 - i)) * (1000000 - zl q)) (zi ((m + 1 - i : Nat) : Int)) h') (fun r => r.1 = .inl (zi ((m : Int) + 1 - (i + 1 : Nat))) ∧ Fr (fun a _ => a = 259) h r.2 ∧ (∀ j, j + (i + 1) ≤ m + 1 → gL r.2 259 j = zl (F j)) ∧ (∀ j, j ≤ 400 → m + 1 < j + (i + 1) → gL r.2 259 j = zl (nS q F j))) := by
      rintro k0 rfl
      unfold j_X10_oneMore_49_5
      refine zw_bd1 (ldivF_ok (a := F (m + 1 - i) * (1000000 - q) + (if m + 1 - i = 0 then 0 else F (m + 1 - i - 1) * q)) (b := 1000000) (by simp only [zi_lit, zi_neg, zi_add, zi_sub, zi_mul, zl_lit, zl_neg, zl_add, zl_sub, zl_mul, zl_i]) (zl_lit _) (by omega) (by omega) (by omega) (by omega)) ?_
      refine zw_bd1 (stL_ok (m + 1 - i) (n := 401) rfl rfl (by omega)) ?_
      refine zw_some ⟨?_, hf.sL rfl, fun j hj => ?_, fun j hj hj2 => ?_⟩
      · refine congrArg Sum.inl ?_
        simp only [zi_lit, zi_neg, zi_add, zi_sub, zi_mul, zl_lit, zl_neg, zl_add, zl_sub, zl_mul, zl_i]
        exact congrArg zi (by omega)
      · show gL (sL h' 259 _ _) 259 j = _
        rw [gL_sL, if_neg (by omega)]
        exact hlo j (by omega)
      · show gL (sL h' 259 _ _) 259 j = _
        rw [gL_sL]
        by_cases q1 : j = m + 1 - i
        · subst q1; rw [if_pos ⟨rfl, rfl⟩]; rfl
        · rw [if_neg (by omega)]
          exact hhi j hj (by omega)
    by_cases q0 : m + 1 - i = 0
    · refine zw_t (by rw [q0]; rfl) (fin _ ?_)
      rw [if_pos q0]; rfl
    · refine zw_f (by rw [(show (0 : Int32) = zi 0 from zi_lit 0), zi_eq (by omega) (by omega) (by omega) (by omega)]; show ¬ ((m + 1 - i : Nat) : Int) = 0; omega) ?_
      refine zw_bd1 (ldL_ok (m + 1 - i - 1) (n := 401) rfl (by first | (simp only [zi_lit, zi_neg, zi_add, zi_sub, zi_mul, zl_lit, zl_neg, zl_add, zl_sub, zl_mul, zl_i]; exact congrArg zi (by omega)) | (simp only [zi_lit, zi_neg, zi_add, zi_sub, zi_mul, zl_lit, zl_neg, zl_add, zl_sub, zl_mul, zl_i]; done) | exact congrArg zi (by omega)) (by omega)) ?_
      rw [hlo _ (by omega)]
      refine fin _ ?_
      rw [if_neg q0, zl_mul]
  · rintro h' ⟨hf, hlo, hhi⟩
    unfold l_X10_oneMore_5
    refine zw_t (by rw [(show (0 : Int32) = zi 0 from zi_lit 0), zi_lt (by omega) (by omega) (by omega) (by omega)]; show (m : Int) + 1 - (m + 2 : Nat) < 0; omega) ?_
    exact zw_some ⟨rfl, hf, fun j hj => hhi j hj (by omega)⟩
theorem r_above (hm : m ≤ 400) (b : bF m F) (r : RN F h) {ch : Int} (hc : gI h 240 1 = zi ch) (hcb : 1 ≤ ch ∧ ch ≤ 400) {a0 : Int32} (h0 : a0 = zi m) : s_X10_above a0 h = some (zl (abv F ch (m + 1))) := by
  subst h0
  unfold s_X10_above
  rw [hc]
  have L : lpP (l_X10_above_10 (zi m) h) FU (0, (zi ch + 1)) = some (zl (abv F ch (m + 1))) := by
    by_cases q : (m : Int) < ch + 1
    · refine lpP_for 0 (fun _ => (0, zi ch + 1)) (by decide) rfl (fun i hi => by omega) ?_
      unfold l_X10_above_10
      dsimp only
      rw [if_pos (by simp only [zi_lit, zi_neg, zi_add, zi_sub, zi_mul, zl_lit, zl_neg, zl_add, zl_sub, zl_mul, zl_i]; rw [zi_lt (by omega) (by omega) (by omega) (by omega)]; exact q)]
      rw [show abv F ch (m + 1) = 0 from zs_zero (fun j hj => by (try dsimp only); rw [if_neg (by omega)])]
      rfl
    · refine lpP_for (m - ch.toNat) (fun i => (zl (abv F ch (ch.toNat + 1 + i)), zi ((ch.toNat + 1 + i : Nat) : Int))) (by omega) ?_ ?_ ?_
      · rw [show abv F ch (ch.toNat + 1 + 0) = 0 from zs_zero (fun j hj => by (try dsimp only); rw [if_neg (by omega)])]
        refine Prod.ext rfl ?_
        show zi ch + 1 = _
        simp only [zi_lit, zi_neg, zi_add, zi_sub, zi_mul, zl_lit, zl_neg, zl_add, zl_sub, zl_mul, zl_i]
        exact congrArg zi (by omega)
      · intro i hi
        unfold l_X10_above_10
        dsimp only
        rw [if_neg (by rw [zi_lt (by omega) (by omega) (by omega) (by omega)]; omega), ldL_ok (ch.toNat + 1 + i) (n := 401) rfl rfl (by omega), bd_v, r _ (by omega), zl_add, show zi ((ch.toNat + 1 + i : Nat) : Int) + 1 = zi ((ch.toNat + 1 + (i + 1) : Nat) : Int) from (by first | (simp only [zi_lit, zi_neg, zi_add, zi_sub, zi_mul, zl_lit, zl_neg, zl_add, zl_sub, zl_mul, zl_i]; exact congrArg zi (by omega)) | (simp only [zi_lit, zi_neg, zi_add, zi_sub, zi_mul, zl_lit, zl_neg, zl_add, zl_sub, zl_mul, zl_i]; done) | exact congrArg zi (by omega))]
        refine congrArg (fun z => some (Sum.inl (zl z, _))) ?_
        show _ = zs _ (ch.toNat + 1 + i + 1)
        rw [zs_s, if_pos (by omega)]
        rfl
      · unfold l_X10_above_10
        dsimp only
        rw [if_pos (by rw [zi_lt (by omega) (by omega) (by omega) (by omega)]; omega), show ch.toNat + 1 + (m - ch.toNat) = m + 1 by omega]
  rw [L, bd_v]
/-- the class's row, with its window -/
def CN (m : Nat) (F : Nat → Int) (h : AH) : Prop := (∀ j, j ≤ 400 → gL h 212 j = zl (F j)) ∧ ∃ lo hi : Nat, gI h 211 1 = zi lo ∧ gI h 211 2 = zi hi ∧ lo ≤ hi ∧ hi ≤ m ∧ (∀ j, j < lo → F j = 0) ∧ (∀ j, hi < j → F j = 0)
theorem c_clear : zw (s_X1_clear h) (fun r => Fr (fun a j => a = 212 ∨ (a = 211 ∧ (j = 1 ∨ j = 2))) h r.2 ∧ CN 0 Fz r.2) := by
  unfold s_X1_clear
  refine zw_bd (fillW_ok (n := 401) rfl) ?_
  rintro ⟨u1, g1⟩ ⟨f1, v1⟩
  refine zw_bd1 (putW_ok 0 (n := 401) rfl rfl (by decide)) ?_
  dsimp only at f1 v1 ⊢
  refine zw_some ⟨(((f1.mono (by omega)).sL (by omega)).sI (by omega)).sI (by omega), fun j hj => ?_, 0, 0, ?_, ?_, Nat.le_refl _, Nat.le_refl _, fun j hj => by omega, fun j hj => by unfold Fz; rw [if_neg (by omega)]⟩
  · show gL (sI (sI (sL g1 212 0 _) 211 1 0) 211 2 0) 212 j = _
    rw [gL_sI, gL_sI, gL_sL]
    unfold Fz
    by_cases q : j = 0
    · rw [if_pos ⟨rfl, q⟩, if_pos q]; rfl
    · rw [if_neg (by omega), if_neg q, v1 j (by omega)]; rfl
  · show gI (sI (sI (sL g1 212 0 _) 211 1 0) 211 2 0) 211 1 = _
    rw [gI_sI, if_neg (by omega), gI_sI, if_pos ⟨rfl, rfl⟩]; rfl
  · show gI (sI (sI (sL g1 212 0 _) 211 1 0) 211 2 0) 211 2 = _
    rw [gI_sI, if_pos ⟨rfl, rfl⟩]; rfl
theorem c_add (hm : m < 400) (b : bF m F) (hq : 0 ≤ q ∧ q ≤ 1000000) (r : CN m F h) {a0 : Int32} (h0 : a0 = zi q) : zw (s_X1_add a0 h) (fun r => Fr (fun a j => a = 212 ∨ (a = 211 ∧ (j = 1 ∨ j = 2))) h r.2 ∧ CN (m + 1) (nS q F) r.2) := by
  obtain ⟨rv, lo, hi, rlo, rhi, hlh, hhm, zlo, zhi⟩ := r
  have nb := nS_b hq b
  subst h0
  unfold s_X1_add
  have e1 : (if 400 < (gI h 211 2 + 1) then 400 else (gI h 211 2 + 1) : Int32) = zi ((hi + 1 : Nat) : Int) := by
    rw [rhi, show zi (hi : Int) + 1 = zi ((hi + 1 : Nat) : Int) from (by first | (simp only [zi_lit, zi_neg, zi_add, zi_sub, zi_mul, zl_lit, zl_neg, zl_add, zl_sub, zl_mul, zl_i]; exact congrArg zi (by omega)) | (simp only [zi_lit, zi_neg, zi_add, zi_sub, zi_mul, zl_lit, zl_neg, zl_add, zl_sub, zl_mul, zl_i]; done) | exact congrArg zi (by omega)), if_neg (by rw [(show (400 : Int32) = zi 400 from zi_lit 400), zi_lt (by omega) (by omega) (by omega) (by omega)]; show ¬ (400 : Int) < ((hi + 1 : Nat) : Int); omega)]
  rw [e1, gI_sI, if_pos ⟨rfl, rfl⟩]
  have f0 : Fr (fun a j => a = 212 ∨ (a = 211 ∧ (j = 1 ∨ j = 2))) h (sI h 211 2 (zi ((hi + 1 : Nat) : Int))) := (Fr.refl _ h).sI (by omega)
  have w1 : ∀ j, j ≤ 400 → gL (sI h 211 2 (zi ((hi + 1 : Nat) : Int))) 212 j = zl (F j) := fun j hj => rv j hj
  have wlo : gI (sI h 211 2 (zi ((hi + 1 : Nat) : Int))) 211 1 = zi lo := by rw [gI_sI, if_neg (by omega)]; exact rlo
  have whi : gI (sI h 211 2 (zi ((hi + 1 : Nat) : Int))) 211 2 = zi ((hi + 1 : Nat) : Int) := by rw [gI_sI, if_pos ⟨rfl, rfl⟩]
  generalize sI h 211 2 (zi ((hi + 1 : Nat) : Int)) = g0 at *
  have zout : ∀ j, (j < lo ∨ hi + 1 < j) → nS q F j = 0 := by
    intro j hj
    unfold nS
    rcases hj with hj | hj
    · rw [zlo j hj, zlo (j - 1) (by omega)]; simp
    · rw [zhi j (by omega), zhi (j - 1) (by omega)]; simp
  refine zw_bd (P := fun y => Fr (fun a j => a = 212 ∨ (a = 211 ∧ (j = 1 ∨ j = 2))) h y.2 ∧ (∀ j, j ≤ 400 → gL y.2 212 j = zl (nS q F j)) ∧ gI y.2 211 1 = zi lo ∧ gI y.2 211 2 = zi ((hi + 1 : Nat) : Int)) ?_ ?_
  · refine zw_for (hi + 2 - lo) (fun i => zi ((hi : Int) + 1 - i)) () (fun i h' => Fr (fun a j => a = 212 ∨ (a = 211 ∧ (j = 1 ∨ j = 2))) h h' ∧ (∀ j, j + i ≤ hi + 1 → gL h' 212 j = zl (F j)) ∧ (∀ j, j ≤ 400 → hi + 1 < j + i → gL h' 212 j = zl (nS q F j)) ∧ gI h' 211 1 = zi lo ∧ gI h' 211 2 = zi ((hi + 1 : Nat) : Int)) (by omega) ?_ ⟨f0, fun j hj => w1 j (by omega), fun j hj hj2 => ?_, wlo, whi⟩ ?_ ?_
    · exact (by first | (simp only [zi_lit, zi_neg, zi_add, zi_sub, zi_mul, zl_lit, zl_neg, zl_add, zl_sub, zl_mul, zl_i]; exact congrArg zi (by omega)) | (simp only [zi_lit, zi_neg, zi_add, zi_sub, zi_mul, zl_lit, zl_neg, zl_add, zl_sub, zl_mul, zl_i]; done) | exact congrArg zi (by omega))
    · rw [w1 j hj, zhi j (by omega), zout j (Or.inr (by omega))]
    · rintro i h' hi' ⟨hf, hl, hh, h1, h2⟩
      have hs : zi ((hi : Int) + 1 - i) = zi ((hi + 1 - i : Nat) : Int) := congrArg zi (by omega)
      have v := nS_v hq b (hi + 1 - i)
      rw [hs]
      unfold l_X1_add_21
      refine zw_f (by rw [h1, zi_lt (by omega) (by omega) (by omega) (by omega)]; omega) ?_
      refine zw_bd1 (atW_ok (hi + 1 - i) (n := 401) rfl rfl (by omega)) ?_
      have at1 : s_X9_atWide (some 212) (zi ((hi + 1 - i : Nat) : Int) - 1) h' = some (zl (if hi + 1 - i = 0 then 0 else F (hi + 1 - i - 1))) := by
        by_cases q0 : hi + 1 - i = 0
        · rw [if_pos q0, atW_lo (-1) (by rw [q0]; rfl) (by omega) (by omega)]; rfl
        · rw [if_neg q0, atW_ok (hi + 1 - i - 1) (n := 401) rfl (by first | (simp only [zi_lit, zi_neg, zi_add, zi_sub, zi_mul, zl_lit, zl_neg, zl_add, zl_sub, zl_mul, zl_i]; exact congrArg zi (by omega)) | (simp only [zi_lit, zi_neg, zi_add, zi_sub, zi_mul, zl_lit, zl_neg, zl_add, zl_sub, zl_mul, zl_i]; done) | exact congrArg zi (by omega)) (by omega), hl _ (by omega)]
      refine zw_bd1 at1 ?_
      rw [hl _ (by omega)]
      have ek : (if hi + 1 - i = 0 then 0 else F (hi + 1 - i - 1)) * q = (if hi + 1 - i = 0 then 0 else F (hi + 1 - i - 1) * q) := by split; rw [Int.zero_mul]; rfl
      refine zw_bd1 (ldivF_ok (a := F (hi + 1 - i) * (1000000 - q) + (if hi + 1 - i = 0 then 0 else F (hi + 1 - i - 1) * q)) (b := 1000000) (by rw [show (1000000 : Int32) - zi q = zi (1000000 - q) from (by first | (simp only [zi_lit, zi_neg, zi_add, zi_sub, zi_mul, zl_lit, zl_neg, zl_add, zl_sub, zl_mul, zl_i]; exact congrArg zi (by omega)) | (simp only [zi_lit, zi_neg, zi_add, zi_sub, zi_mul, zl_lit, zl_neg, zl_add, zl_sub, zl_mul, zl_i]; done) | exact congrArg zi (by omega)), zi_l (by omega) (by omega), zi_l (by omega) (by omega), zl_mul, zl_mul, zl_add, ek]) (zl_lit _) (by omega) (by omega) (by omega) (by omega)) ?_
      refine zw_bd1 (putW_ok (hi + 1 - i) (n := 401) rfl rfl (by omega)) ?_
      refine zw_some ⟨?_, hf.sL (by omega), fun j hj => ?_, fun j hj hj2 => ?_, ?_, ?_⟩
      · refine congrArg Sum.inl ?_
        simp only [zi_lit, zi_neg, zi_add, zi_sub, zi_mul, zl_lit, zl_neg, zl_add, zl_sub, zl_mul, zl_i]
        exact congrArg zi (by omega)
      · show gL (sL h' 212 _ _) 212 j = _
        rw [gL_sL, if_neg (by omega)]
        exact hl j (by omega)
      · show gL (sL h' 212 _ _) 212 j = _
        rw [gL_sL]
        by_cases q1 : j = hi + 1 - i
        · subst q1; rw [if_pos ⟨rfl, rfl⟩]; rfl
        · rw [if_neg (by omega)]
          exact hh j hj (by omega)
      · show gI (sL h' 212 _ _) 211 1 = _
        rw [gI_sL]; exact h1
      · show gI (sL h' 212 _ _) 211 2 = _
        rw [gI_sL]; exact h2
    · rintro h' ⟨hf, hl, hh, h1, h2⟩
      unfold l_X1_add_21
      refine zw_t (by rw [h1, zi_lt (by omega) (by omega) (by omega) (by omega)]; omega) ?_
      refine zw_some ⟨rfl, hf, fun j hj => ?_, h1, h2⟩
      by_cases q1 : hi + 1 < j + (hi + 2 - lo)
      · exact hh j hj q1
      · show gL h' 212 j = _
        rw [hl j (by omega), zlo j (by omega), zout j (Or.inl (by omega))]
  · rintro ⟨u1, g1⟩ ⟨f1, v1, l1, i1⟩
    dsimp only at f1 v1 l1 i1 ⊢
    refine zw_bd (P := fun y => Fr (fun a j => a = 212 ∨ (a = 211 ∧ (j = 1 ∨ j = 2))) h y.2 ∧ (∀ j, j ≤ 400 → gL y.2 212 j = zl (nS q F j)) ∧ gI y.2 211 1 = zi lo ∧ ∃ hi2 : Nat, gI y.2 211 2 = zi hi2 ∧ lo ≤ hi2 ∧ hi2 ≤ hi + 1 ∧ ∀ j, hi2 < j → nS q F j = 0) ?_ ?_
    · refine zw_lp (hi + 1 - lo) (fun i _ h' => Fr (fun a j => a = 212 ∨ (a = 211 ∧ (j = 1 ∨ j = 2))) h h' ∧ (∀ j, j ≤ 400 → gL h' 212 j = zl (nS q F j)) ∧ gI h' 211 1 = zi lo ∧ gI h' 211 2 = zi ((hi + 1 - i : Nat) : Int) ∧ ∀ j, hi + 1 - i < j → nS q F j = 0) (by omega) ⟨f1, v1, l1, i1, fun j hj => zout j (Or.inr (by omega))⟩ ?_
      rintro i u h' hi' ⟨hf, hv, h1, h2, hz⟩
      unfold l_X1_add_81
      by_cases qe : hi + 1 - i ≤ lo
      · refine zw_t (by rw [h1, h2, zi_le (by omega) (by omega) (by omega) (by omega)]; omega) ?_
        exact zw_some (Or.inr ⟨_, rfl, hf, hv, h1, hi + 1 - i, h2, by omega, by omega, hz⟩)
      · refine zw_f (by rw [h1, h2, zi_le (by omega) (by omega) (by omega) (by omega)]; omega) ?_
        refine zw_bd1 (atW_ok (hi + 1 - i) (n := 401) rfl h2 (by omega)) ?_
        rw [hv _ (by omega)]
        have bn := nb.1 (hi + 1 - i)
        by_cases qz : nS q F (hi + 1 - i) = 0
        · refine zw_t (by rw [qz]; rfl) (zw_some (Or.inl ⟨_, rfl, by omega, hf.sI (by omega), fun j hj => hv j hj, ?_, ?_, fun j hj => ?_⟩))
          · show gI (sI h' 211 2 _) 211 1 = _
            rw [gI_sI, if_neg (by omega)]; exact h1
          · show gI (sI h' 211 2 _) 211 2 = _
            rw [gI_sI, if_pos ⟨rfl, rfl⟩, h2]
            exact (by first | (simp only [zi_lit, zi_neg, zi_add, zi_sub, zi_mul, zl_lit, zl_neg, zl_add, zl_sub, zl_mul, zl_i]; exact congrArg zi (by omega)) | (simp only [zi_lit, zi_neg, zi_add, zi_sub, zi_mul, zl_lit, zl_neg, zl_add, zl_sub, zl_mul, zl_i]; done) | exact congrArg zi (by omega))
          · by_cases qj : j = hi + 1 - i
            · rw [qj]; exact qz
            · exact hz j (by omega)
        · refine zw_f (by rw [(show (0 : Int64) = zl 0 from zl_lit 0), zl_eq (by omega) (by omega) (by omega) (by omega)]; exact qz) ?_
          exact zw_some (Or.inr ⟨_, rfl, hf, hv, h1, hi + 1 - i, h2, by omega, by omega, hz⟩)
    · rintro ⟨u2, g2⟩ ⟨f2, v2, l2, hi2, i2, a1, a2, z2⟩
      dsimp only at f2 v2 l2 i2 ⊢
      refine zw_bd (P := fun y => Fr (fun a j => a = 212 ∨ (a = 211 ∧ (j = 1 ∨ j = 2))) h y.2 ∧ CN (m + 1) (nS q F) y.2) ?_ (fun y hy => zw_some hy)
      refine zw_lp (hi2 - lo) (fun i _ h' => Fr (fun a j => a = 212 ∨ (a = 211 ∧ (j = 1 ∨ j = 2))) h h' ∧ (∀ j, j ≤ 400 → gL h' 212 j = zl (nS q F j)) ∧ gI h' 211 1 = zi ((lo + i : Nat) : Int) ∧ gI h' 211 2 = zi hi2 ∧ ∀ j, j < lo + i → nS q F j = 0) (by omega) ⟨f2, v2, l2, i2, fun j hj => zout j (Or.inl (by omega))⟩ ?_
      rintro i u h' hi' ⟨hf, hv, h1, h2, hz⟩
      unfold l_X1_add_121
      by_cases qe : hi2 ≤ lo + i
      · refine zw_t (by rw [h1, h2, zi_le (by omega) (by omega) (by omega) (by omega)]; omega) ?_
        exact zw_some (Or.inr ⟨_, rfl, hf, hv, lo + i, hi2, h1, h2, by omega, by omega, hz, z2⟩)
      · refine zw_f (by rw [h1, h2, zi_le (by omega) (by omega) (by omega) (by omega)]; omega) ?_
        refine zw_bd1 (atW_ok (lo + i) (n := 401) rfl h1 (by omega)) ?_
        rw [hv _ (by omega)]
        have bn := nb.1 (lo + i)
        by_cases qz : nS q F (lo + i) = 0
        · refine zw_t (by rw [qz]; rfl) (zw_some (Or.inl ⟨_, rfl, by omega, hf.sI (by omega), fun j hj => hv j hj, ?_, ?_, fun j hj => ?_⟩))
          · show gI (sI h' 211 1 _) 211 1 = _
            rw [gI_sI, if_pos ⟨rfl, rfl⟩, h1]
            exact (by first | (simp only [zi_lit, zi_neg, zi_add, zi_sub, zi_mul, zl_lit, zl_neg, zl_add, zl_sub, zl_mul, zl_i]; exact congrArg zi (by omega)) | (simp only [zi_lit, zi_neg, zi_add, zi_sub, zi_mul, zl_lit, zl_neg, zl_add, zl_sub, zl_mul, zl_i]; done) | exact congrArg zi (by omega))
          · show gI (sI h' 211 1 _) 211 2 = _
            rw [gI_sI, if_neg (by omega)]; exact h2
          · by_cases qj : j = lo + i
            · rw [qj]; exact qz
            · exact hz j (by omega)
        · refine zw_f (by rw [(show (0 : Int64) = zl 0 from zl_lit 0), zl_eq (by omega) (by omega) (by omega) (by omega)]; exact qz) ?_
          exact zw_some (Or.inr ⟨_, rfl, hf, hv, lo + i, hi2, h1, h2, by omega, by omega, hz, z2⟩)
theorem c_above (hm : m ≤ 400) (b : bF m F) (r : CN m F h) {ch : Int} (hcb : 1 ≤ ch ∧ ch ≤ 400) {a0 : Int32} (h0 : a0 = zi ch) : s_X1_above a0 h = some (zi (abv F ch (m + 1))) := by
  obtain ⟨rv, lo, hi, rlo, rhi, hlh, hhm, zlo, zhi⟩ := r
  subst h0
  unfold s_X1_above
  have e1 : (if gI h 211 1 < (zi ch + 1) then (zi ch + 1) else gI h 211 1 : Int32) = zi ((if lo < ch.toNat + 1 then ch.toNat + 1 else lo : Nat) : Int) := by
    rw [rlo, show zi ch + 1 = zi ((ch.toNat + 1 : Nat) : Int) from (by first | (simp only [zi_lit, zi_neg, zi_add, zi_sub, zi_mul, zl_lit, zl_neg, zl_add, zl_sub, zl_mul, zl_i]; exact congrArg zi (by omega)) | (simp only [zi_lit, zi_neg, zi_add, zi_sub, zi_mul, zl_lit, zl_neg, zl_add, zl_sub, zl_mul, zl_i]; done) | exact congrArg zi (by omega))]
    by_cases q : lo < ch.toNat + 1
    · rw [if_pos (by rw [zi_lt (by omega) (by omega) (by omega) (by omega)]; omega), if_pos q]
    · rw [if_neg (by rw [zi_lt (by omega) (by omega) (by omega) (by omega)]; omega), if_neg q]
  rw [e1]
  have hst : ch.toNat + 1 ≤ (if lo < ch.toNat + 1 then ch.toNat + 1 else lo) ∧ (if lo < ch.toNat + 1 then ch.toNat + 1 else lo) ≤ 401 := by split <;> omega
  have hz0 : abv F ch (if lo < ch.toNat + 1 then ch.toNat + 1 else lo) = 0 := zs_zero (fun j hj => by
    try dsimp only
    split
    · refine zlo j ?_
      split at hj <;> omega
    · rfl)
  generalize (if lo < ch.toNat + 1 then ch.toNat + 1 else lo) = st at *
  have L : lpP (l_X1_above_14 h) FU (0, zi (st : Int)) = some (zl (abv F ch (m + 1))) := by
    refine lpP_for (hi + 1 - st) (fun i => (zl (abv F ch (st + i)), zi ((st + i : Nat) : Int))) (by omega) ?_ ?_ ?_
    · rw [Nat.add_zero, hz0]; rfl
    · intro i hi'
      unfold l_X1_above_14
      dsimp only
      rw [rhi, if_neg (by rw [zi_lt (by omega) (by omega) (by omega) (by omega)]; omega), atW_ok (st + i) (n := 401) rfl rfl (by omega), bd_v, rv _ (by omega), zl_add, show zi ((st + i : Nat) : Int) + 1 = zi ((st + (i + 1) : Nat) : Int) from (by first | (simp only [zi_lit, zi_neg, zi_add, zi_sub, zi_mul, zl_lit, zl_neg, zl_add, zl_sub, zl_mul, zl_i]; exact congrArg zi (by omega)) | (simp only [zi_lit, zi_neg, zi_add, zi_sub, zi_mul, zl_lit, zl_neg, zl_add, zl_sub, zl_mul, zl_i]; done) | exact congrArg zi (by omega))]
      refine congrArg (fun z => some (Sum.inl (zl z, _))) ?_
      show _ = zs _ (st + i + 1)
      rw [zs_s, if_pos (by omega)]
      rfl
    · unfold l_X1_above_14
      dsimp only
      rw [rhi, if_pos (by rw [zi_lt (by omega) (by omega) (by omega) (by omega)]; omega)]
      refine congrArg (fun z => some (Sum.inr (zl z))) ?_
      by_cases q : st ≤ hi + 1
      · rw [show st + (hi + 1 - st) = hi + 1 by omega]
        exact (zs_tail (by omega) (fun j h1 _ => by (try dsimp only); rw [zhi j (by omega)]; split <;> rfl)).symm
      · rw [show st + (hi + 1 - st) = st by omega, hz0]
        exact (zs_zero (fun j hj => by
          try dsimp only
          split
          · by_cases q2 : j < st
            · have := zs_nn (f := fun j => if ch < (j : Int) then F j else 0) (n := j) (fun i _ => by (try dsimp only); split; exact (b.1 i).1; exact Int.le_refl _)
              have m1 := zs_mono (f := fun j => if ch < (j : Int) then F j else 0) (m := j + 1) (n := st) (by omega) (fun i _ _ => by (try dsimp only); split; exact (b.1 i).1; exact Int.le_refl _)
              have hz' : zs (fun j => if ch < (j : Int) then F j else 0) st = 0 := hz0
              rw [hz', zs_s] at m1
              rename_i hcj
              try dsimp only at m1
              rw [if_pos hcj] at m1
              have := (b.1 j).1
              omega
            · exact zhi j (by omega)
          · rfl)).symm
  rw [L, bd_v, zl_i]
end
