/-! 94.tok: one token further: side by side -/
def ty (b : Nat) : Nat := if b = 32 ∨ b = 10 then 4 else if 97 ≤ b ∧ b ≤ 122 then 1 else if 48 ≤ b ∧ b ≤ 57 then 2 else if b = 59 then 3 else 5
def sof (t : Nat) : Nat := if t = 5 then 4 else t
theorem ty_1 {b : Nat} : ty b = 1 ↔ 97 ≤ b ∧ b ≤ 122 := by
  unfold ty
  by_cases q1 : b = 32 ∨ b = 10
  · rw [if_pos q1]; omega
  · rw [if_neg q1]
    by_cases q2 : 97 ≤ b ∧ b ≤ 122
    · rw [if_pos q2]; exact ⟨fun _ => q2, fun _ => rfl⟩
    · rw [if_neg q2]
      constructor
      · intro z; split at z <;> (try split at z) <;> omega
      · intro z; exact absurd z q2
theorem ty_2 {b : Nat} : ty b = 2 ↔ 48 ≤ b ∧ b ≤ 57 := by
  unfold ty
  by_cases q1 : b = 32 ∨ b = 10
  · rw [if_pos q1]; omega
  · rw [if_neg q1]
    by_cases q2 : 97 ≤ b ∧ b ≤ 122
    · rw [if_pos q2]; omega
    · rw [if_neg q2]
      by_cases q3 : 48 ≤ b ∧ b ≤ 57
      · rw [if_pos q3]; exact ⟨fun _ => q3, fun _ => rfl⟩
      · rw [if_neg q3]
        constructor
        · intro z; split at z <;> omega
        · intro z; exact absurd z q3
theorem ty_4 {b : Nat} : ty b = 4 ↔ b = 32 ∨ b = 10 := by
  unfold ty
  by_cases q1 : b = 32 ∨ b = 10
  · rw [if_pos q1]; exact ⟨fun _ => q1, fun _ => rfl⟩
  · rw [if_neg q1]
    constructor
    · intro z; split at z <;> (try split at z) <;> (try split at z) <;> omega
    · intro z; exact absurd z q1
theorem ty_b (b : Nat) : 1 ≤ ty b ∧ ty b ≤ 5 := by
  unfold ty
  split
  · omega
  · split
    · omega
    · split
      · omega
      · split <;> omega
/-- a word's letters, five bits each; a number's digits -/
def pkf (f : Nat → Nat) : Nat → Nat
  | 0 => 0
  | i + 1 => 32 * pkf f i + (f i - 96)
theorem pkf_s (f : Nat → Nat) (i : Nat) : pkf f (i + 1) = 32 * pkf f i + (f i - 96) := rfl
def vlf (f : Nat → Nat) : Nat → Nat
  | 0 => 0
  | i + 1 => 10 * vlf f i + (f i - 48)
theorem vlf_s (f : Nat → Nat) (i : Nat) : vlf f (i + 1) = 10 * vlf f i + (f i - 48) := rfl
theorem pkf_b {f : Nat → Nat} : ∀ i, (∀ j, j < i → f j ≤ 122) → pkf f i < 32 ^ i := by
  intro i
  induction i with
  | zero => intro _; exact Nat.lt_succ_self 0
  | succ i ih =>
    intro h
    have h1 := ih (fun j hj => h j (by omega))
    have h2 := h i (by omega)
    rw [pkf_s, Nat.pow_succ]
    omega
theorem vlf_b {f : Nat → Nat} : ∀ i, (∀ j, j < i → f j ≤ 57) → vlf f i < 10 ^ i := by
  intro i
  induction i with
  | zero => intro _; exact Nat.lt_succ_self 0
  | succ i ih =>
    intro h
    have h1 := ih (fun j hj => h j (by omega))
    have h2 := h i (by omega)
    rw [vlf_s, Nat.pow_succ]
    omega
theorem zl_bv (n : Nat) : (zl n).toBitVec = BitVec.ofNat 64 n := by
  rw [show zl (n : Int) = Int64.ofNat n from Int64.ofInt_eq_ofNat]
  rfl
theorem z_or5 {v d : Nat} (hv : v < 1099511627776) (hd : d < 32) : (lshlF (zl v) 5 ||| zl d) = zl ((32 * v + d : Nat) : Int) := by
  rw [← Int64.toBitVec_inj, Int64.toBitVec_or, zl_bv, zl_bv]
  have e : (lshlF (zl v) 5).toBitVec = BitVec.ofNat 64 v <<< 5 := by
    rw [← zl_bv]
    rfl
  rw [e]
  apply BitVec.eq_of_toNat_eq
  rw [BitVec.toNat_or, BitVec.toNat_shiftLeft, BitVec.toNat_ofNat, BitVec.toNat_ofNat, BitVec.toNat_ofNat, Nat.mod_eq_of_lt (show v < 2 ^ 64 by omega), Nat.mod_eq_of_lt (show d < 2 ^ 64 by omega), Nat.mod_eq_of_lt (show 32 * v + d < 2 ^ 64 by omega), Nat.shiftLeft_eq, Nat.mod_eq_of_lt (show v * 2 ^ 5 < 2 ^ 64 by omega), ← Nat.shiftLeft_eq, ← Nat.shiftLeft_add_eq_or_of_lt (show d < 2 ^ 5 by omega), Nat.shiftLeft_eq]
  omega
/-- the text as both have it -/
def TX (n : Nat) (B : Nat → Nat) (hc hr : AH) : Prop := n ≤ 700 ∧ gI hc 1 3 = zi n ∧ gI hr 240 16 = zi n ∧ ∀ i, i < n → B i < 256 ∧ gI hc 3 i = zi (B i) ∧ gI hc 4 i = zi (ty (B i)) ∧ gI hr 245 i = zi (B i)
/-- the token from p to e -/
def TK (n : Nat) (B : Nat → Nat) (p e : Nat) (hc hr : AH) : Prop := p ≤ e ∧ e ≤ n ∧ gI hc 1 5 = zi p ∧ gI hc 1 6 = zi e ∧ gI hr 240 17 = zi e ∧ gI hr 240 19 = zi p ∧ gI hr 240 20 = zi ((e - p : Nat) : Int) ∧ ((p = n ∧ gI hc 1 4 = 0 ∧ gI hr 240 18 = 0) ∨ (p < e ∧ ty (B p) ≠ 4 ∧ gI hc 1 4 = zi (ty (B p)) ∧ gI hr 240 18 = zi (sof (ty (B p))) ∧ (ty (B p) = 1 → (∀ j, p ≤ j → j < e → ty (B j) = 1) ∧ gL hr 240 22 = zl (pkf (fun i => B (p + i)) (min (e - p) 8))) ∧ (ty (B p) = 2 → (∀ j, p ≤ j → j < e → ty (B j) = 2) ∧ gI hr 240 21 = zi (vlf (fun i => B (p + i)) (min (e - p) 4)))))
def aC (a k : Nat) : Prop := a = 1 ∧ 4 ≤ k ∧ k ≤ 6
def aR (a k : Nat) : Prop := a = 240 ∧ 17 ≤ k ∧ k ≤ 22
theorem TX.fr {n : Nat} {B : Nat → Nat} {hc hr gc gr : AH} {S R : Nat → Nat → Prop} (x : TX n B hc hr) (fc : Fr S hc gc) (fr : Fr R hr gr) (n1 : ¬ S 1 3) (n2 : ∀ k, ¬ S 3 k) (n3 : ∀ k, ¬ S 4 k) (m1 : ¬ R 240 16) (m2 : ∀ k, ¬ R 245 k) : TX n B gc gr := ⟨x.1, (fc.i n1).trans x.2.1, (fr.i m1).trans x.2.2.1, fun i hi => ⟨(x.2.2.2 i hi).1, (fc.i (n2 i)).trans (x.2.2.2 i hi).2.1, (fc.i (n3 i)).trans (x.2.2.2 i hi).2.2.1, (fr.i (m2 i)).trans (x.2.2.2 i hi).2.2.2⟩⟩
section
variable {h hc hr : AH} {n : Nat} {B : Nat → Nat}
theorem c_typeOf {b : Nat} (hb : b < 256) : s_X3_typeOf (zi b) h = some (zi (ty b)) := by
  unfold s_X3_typeOf j_X3_typeOf_28 j_X3_typeOf_42 ty
  simp only [(show (32 : Int32) = zi 32 from zi_lit 32), (show (10 : Int32) = zi 10 from zi_lit 10), (show (97 : Int32) = zi 97 from zi_lit 97), (show (122 : Int32) = zi 122 from zi_lit 122), (show (48 : Int32) = zi 48 from zi_lit 48), (show (57 : Int32) = zi 57 from zi_lit 57), (show (59 : Int32) = zi 59 from zi_lit 59), zi_eq (show -2147483648 ≤ (b : Int) by omega) (show (b : Int) < 2147483648 by omega) (show -2147483648 ≤ (32 : Int) by decide) (by decide), zi_eq (show -2147483648 ≤ (b : Int) by omega) (show (b : Int) < 2147483648 by omega) (show -2147483648 ≤ (10 : Int) by decide) (by decide), zi_eq (show -2147483648 ≤ (b : Int) by omega) (show (b : Int) < 2147483648 by omega) (show -2147483648 ≤ (59 : Int) by decide) (by decide), zi_lt (show -2147483648 ≤ (b : Int) by omega) (show (b : Int) < 2147483648 by omega) (show -2147483648 ≤ (97 : Int) by decide) (by decide), zi_lt (show -2147483648 ≤ (122 : Int) by decide) (by decide) (show -2147483648 ≤ (b : Int) by omega) (show (b : Int) < 2147483648 by omega), zi_lt (show -2147483648 ≤ (b : Int) by omega) (show (b : Int) < 2147483648 by omega) (show -2147483648 ≤ (48 : Int) by decide) (by decide), zi_lt (show -2147483648 ≤ (57 : Int) by decide) (by decide) (show -2147483648 ≤ (b : Int) by omega) (show (b : Int) < 2147483648 by omega)]
  by_cases q1 : (b : Int) = 32
  · rw [if_pos q1, if_pos (by omega)]; rfl
  · rw [if_neg q1]
    by_cases q2 : (b : Int) = 10
    · rw [if_pos q2, if_pos (by omega)]; rfl
    · rw [if_neg q2, if_neg (by omega : ¬ (b = 32 ∨ b = 10))]
      have low : (if (b : Int) < 48 then (if (b : Int) = 59 then some (3 : Int32) else some 5) else if 57 < (b : Int) then (if (b : Int) = 59 then some 3 else some 5) else some 2) = some (zi ((if 48 ≤ b ∧ b ≤ 57 then 2 else if b = 59 then 3 else 5 : Nat) : Int)) := by
        by_cases c1 : (b : Int) < 48
        · rw [if_pos c1, if_neg (by omega), if_neg (by omega : ¬ (48 ≤ b ∧ b ≤ 57)), if_neg (by omega : ¬ b = 59)]; rfl
        · rw [if_neg c1]
          by_cases c2 : 57 < (b : Int)
          · rw [if_pos c2, if_neg (by omega : ¬ (48 ≤ b ∧ b ≤ 57))]
            by_cases c3 : (b : Int) = 59
            · rw [if_pos c3, if_pos (by omega)]; rfl
            · rw [if_neg c3, if_neg (by omega)]; rfl
          · rw [if_neg c2, if_pos (by omega)]; rfl
      by_cases q3 : (b : Int) < 97
      · rw [if_pos q3, if_neg (by omega : ¬ (97 ≤ b ∧ b ≤ 122))]
        exact low
      · rw [if_neg q3]
        by_cases q4 : 122 < (b : Int)
        · rw [if_pos q4, if_neg (by omega : ¬ (97 ≤ b ∧ b ≤ 122))]
          exact low
        · rw [if_neg q4, if_pos (by omega)]; rfl
theorem r_letter {b : Nat} (hb : b < 256) : s_X10_isLetter (zi b) h = some (if ty b = 1 then 1 else 0) := by
  unfold s_X10_isLetter
  by_cases q1 : (b : Int) < 97
  · rw [if_pos (by rw [(show (97 : Int32) = zi 97 from zi_lit 97), zi_lt (by omega) (by omega) (by omega) (by omega)]; exact q1), if_neg (by rw [ty_1]; omega)]
  · rw [if_neg (by rw [(show (97 : Int32) = zi 97 from zi_lit 97), zi_lt (by omega) (by omega) (by omega) (by omega)]; exact q1)]
    by_cases q2 : 122 < (b : Int)
    · rw [if_pos (by rw [(show (122 : Int32) = zi 122 from zi_lit 122), zi_lt (by omega) (by omega) (by omega) (by omega)]; exact q2), if_neg (by rw [ty_1]; omega)]
    · rw [if_neg (by rw [(show (122 : Int32) = zi 122 from zi_lit 122), zi_lt (by omega) (by omega) (by omega) (by omega)]; exact q2), if_pos (by rw [ty_1]; omega)]
theorem r_digit {b : Nat} (hb : b < 256) : s_X10_isDigit (zi b) h = some (if ty b = 2 then 1 else 0) := by
  unfold s_X10_isDigit
  by_cases q1 : (b : Int) < 48
  · rw [if_pos (by rw [(show (48 : Int32) = zi 48 from zi_lit 48), zi_lt (by omega) (by omega) (by omega) (by omega)]; exact q1), if_neg (by rw [ty_2]; omega)]
  · rw [if_neg (by rw [(show (48 : Int32) = zi 48 from zi_lit 48), zi_lt (by omega) (by omega) (by omega) (by omega)]; exact q1)]
    by_cases q2 : 57 < (b : Int)
    · rw [if_pos (by rw [(show (57 : Int32) = zi 57 from zi_lit 57), zi_lt (by omega) (by omega) (by omega) (by omega)]; exact q2), if_neg (by rw [ty_2]; omega)]
    · rw [if_neg (by rw [(show (57 : Int32) = zi 57 from zi_lit 57), zi_lt (by omega) (by omega) (by omega) (by omega)]; exact q2), if_pos (by rw [ty_2]; omega)]
/-- the byte at a place; 0 behind the text -/
def bt (n : Nat) (B : Nat → Nat) (i : Nat) : Nat := if i < n then B i else 0
theorem r_byte (x : TX n B hc hr) {i : Nat} (hi : i < 10000) : s_X10_byteAt (zi i) hr = some (zi (bt n B i)) ∧ bt n B i < 256 := by
  obtain ⟨x1, x2, x3, x4⟩ := x
  unfold s_X10_byteAt bt
  rw [x3]
  by_cases q : i < n
  · have z := x4 i q
    rw [if_neg (by rw [zi_le (by omega) (by omega) (by omega) (by omega)]; omega), ldI_ok i (n := 700) lay_3.2.1 rfl (by omega), bd_v, z.2.2.2, if_pos q]
    exact ⟨rfl, z.1⟩
  · rw [if_pos (by rw [zi_le (by omega) (by omega) (by omega) (by omega)]; omega), if_neg q]
    exact ⟨rfl, by decide⟩
/-- the blanks -/
theorem x_blank {q : Nat} (x : TX n B hc hr) (hq : q ≤ n) (c1 : gI hc 1 5 = zi q) (c2 : gI hr 240 17 = zi q) : z2 (lpH l_X3_advance_16 FU () hc) (lpH l_X10_steps_0 FU () hr) (fun a b => ∃ p, q ≤ p ∧ p ≤ n ∧ (p = n ∨ ty (B p) ≠ 4) ∧ gI a.2 1 5 = zi p ∧ gI b.2 240 17 = zi p ∧ Fr (fun a k => a = 1 ∧ k = 5) hc a.2 ∧ Fr (fun a k => a = 240 ∧ k = 17) hr b.2) := by
  have n7 := x.1
  refine z2_lp (n - q) (fun i _ h _ j => gI h 1 5 = zi ((q + i : Nat) : Int) ∧ gI j 240 17 = zi ((q + i : Nat) : Int) ∧ Fr (fun a k => a = 1 ∧ k = 5) hc h ∧ Fr (fun a k => a = 240 ∧ k = 17) hr j) (by omega) ⟨c1, c2, Fr.refl _ hc, Fr.refl _ hr⟩ ?_
  rintro i s h t j hi ⟨i1, i2, fc, fr⟩
  have x' : TX n B h j := x.fr fc fr (by omega) (by intro k; omega) (by intro k; omega) (by omega) (by intro k; omega)
  unfold l_X3_advance_16 l_X10_steps_0
  rw [i1, i2, x'.2.1, x'.2.2.1]
  by_cases q1 : q + i = n
  · refine z2_lt (by rw [zi_le (by omega) (by omega) (by omega) (by omega)]; omega) (z2_rt (by rw [zi_le (by omega) (by omega) (by omega) (by omega)]; omega) ?_)
    exact z2_some (Or.inr ⟨_, _, rfl, rfl, q + i, by omega, by omega, Or.inl q1, i1, i2, fc, fr⟩)
  · have xi := x'.2.2.2 (q + i) (by omega)
    have rb := r_byte x' (i := q + i) (by omega)
    have eb : bt n B (q + i) = B (q + i) := by unfold bt; rw [if_pos (by omega)]
    rw [eb] at rb
    refine z2_lf (by rw [zi_le (by omega) (by omega) (by omega) (by omega)]; omega) (z2_rf (by rw [zi_le (by omega) (by omega) (by omega) (by omega)]; omega) ?_)
    refine z2_l (at_ok (q + i) (n := 700) lay_3.2.2 rfl (by omega)) ?_
    rw [xi.2.2.1]
    refine z2_r rb.1 ?_
    have en : zi ((q + i : Nat) : Int) + 1 = zi ((q + (i + 1) : Nat) : Int) := (by first | (simp only [zi_lit, zi_neg, zi_add, zi_sub, zi_mul, zl_lit, zl_neg, zl_add, zl_sub, zl_mul, zl_i]; exact congrArg zi (by omega)) | (simp only [zi_lit, zi_neg, zi_add, zi_sub, zi_mul, zl_lit, zl_neg, zl_add, zl_sub, zl_mul, zl_i]; done) | exact congrArg zi (by omega))
    have tb := ty_b (B (q + i))
    by_cases q4 : ty (B (q + i)) = 4
    · have go : z2 (some ((Sum.inl () : Unit ⊕ Unit), sI h 1 5 (zi ((q + i : Nat) : Int) + 1))) (j_X10_steps_37_0 j) (fun (a : (Unit ⊕ Unit) × AH) (b : (Unit ⊕ Unit) × AH) => (∃ s' t', a.1 = .inl s' ∧ b.1 = .inl t' ∧ i < n - q ∧ gI a.2 1 5 = zi ((q + (i + 1) : Nat) : Int) ∧ gI b.2 240 17 = zi ((q + (i + 1) : Nat) : Int) ∧ Fr (fun a k => a = 1 ∧ k = 5) hc a.2 ∧ Fr (fun a k => a = 240 ∧ k = 17) hr b.2) ∨ (∃ e u, a.1 = .inr e ∧ b.1 = .inr u ∧ ∃ p, q ≤ p ∧ p ≤ n ∧ (p = n ∨ ty (B p) ≠ 4) ∧ gI a.2 1 5 = zi p ∧ gI b.2 240 17 = zi p ∧ Fr (fun a k => a = 1 ∧ k = 5) hc a.2 ∧ Fr (fun a k => a = 240 ∧ k = 17) hr b.2)) := by
        unfold j_X10_steps_37_0
        rw [i2, en]
        refine z2_some (Or.inl ⟨_, _, rfl, rfl, by omega, ?_, ?_, fc.sI ⟨rfl, rfl⟩, fr.sI ⟨rfl, rfl⟩⟩)
        · show gI (sI h 1 5 _) 1 5 = _
          rw [gI_sI, if_pos ⟨rfl, rfl⟩]
        · show gI (sI j 240 17 _) 240 17 = _
          rw [gI_sI, if_pos ⟨rfl, rfl⟩]
      refine z2_lt (by rw [q4]; rfl) ?_
      rw [ty_4] at q4
      rcases q4 with q4 | q4
      · refine z2_rt (by rw [q4]; rfl) ?_
        exact go
      · refine z2_rf (by rw [q4]; decide) ?_
        refine z2_r rb.1 (z2_rt (by rw [q4]; rfl) ?_)
        exact go
    · refine z2_lf (zi_nk ((show (4 : Int32) = zi 4 from zi_lit 4)) (by omega) (by omega) (by omega)) ?_
      have nb : ¬ (B (q + i) = 32 ∨ B (q + i) = 10) := fun z => q4 (ty_4.mpr z)
      refine z2_rf (zi_nk ((show (32 : Int32) = zi 32 from zi_lit 32)) (by omega) (by omega) (by omega)) ?_
      refine z2_r rb.1 (z2_rf (zi_nk ((show (10 : Int32) = zi 10 from zi_lit 10)) (by omega) (by omega) (by omega)) ?_)
      exact z2_some (Or.inr ⟨_, _, rfl, rfl, q + i, by omega, by omega, Or.inr q4, i1, i2, fc, fr⟩)
/-- the token's end, as the class finds it -/
theorem c_end {p t : Nat} (x : TX n B hc hr) (hp : p < n) (ht : t ≤ 5) (c4 : gI hc 1 4 = zi t) (c6 : gI hc 1 6 = zi ((p + 1 : Nat) : Int)) : zw (lpH (l_X3_advance_124 1) FU () hc) (fun a => ∃ e, p < e ∧ e ≤ n ∧ (∀ j, p < j → j < e → ty (B j) = t) ∧ (e = n ∨ ty (B e) ≠ t) ∧ gI a.2 1 6 = zi e ∧ Fr (fun a k => a = 1 ∧ k = 6) hc a.2) := by
  have n7 := x.1
  refine zw_lp (n - (p + 1)) (fun i _ h => gI h 1 6 = zi ((p + 1 + i : Nat) : Int) ∧ (∀ j, p < j → j < p + 1 + i → ty (B j) = t) ∧ Fr (fun a k => a = 1 ∧ k = 6) hc h) (by omega) ⟨c6, fun j h1 h2 => by omega, Fr.refl _ hc⟩ ?_
  rintro i s h hi ⟨i1, i2, fc⟩
  have x' : TX n B h hr := x.fr fc (Fr.refl (fun _ _ => False) hr) (by omega) (by intro k; omega) (by intro k; omega) (fun z => z) (fun _ z => z)
  unfold l_X3_advance_124
  refine zw_f one_ne ?_
  rw [i1, x'.2.1]
  by_cases q1 : p + 1 + i = n
  · exact zw_t (by rw [zi_le (by omega) (by omega) (by omega) (by omega)]; omega) (zw_some (Or.inr ⟨_, rfl, p + 1 + i, by omega, by omega, i2, Or.inl q1, i1, fc⟩))
  · have xi := x'.2.2.2 (p + 1 + i) (by omega)
    have tb := ty_b (B (p + 1 + i))
    refine zw_f (by rw [zi_le (by omega) (by omega) (by omega) (by omega)]; omega) ?_
    refine zw_bd1 (at_ok (p + 1 + i) (n := 700) lay_3.2.2 rfl (by omega)) ?_
    rw [xi.2.2.1, fc.i (by omega), c4]
    by_cases q2 : ty (B (p + 1 + i)) = t
    · refine zw_t (by rw [q2]) (zw_some (Or.inl ⟨_, rfl, by omega, ?_, fun j h1 h2 => ?_, fc.sI ⟨rfl, rfl⟩⟩))
      · show gI (sI h 1 6 _) 1 6 = _
        rw [gI_sI, if_pos ⟨rfl, rfl⟩]
        exact (by first | (simp only [zi_lit, zi_neg, zi_add, zi_sub, zi_mul, zl_lit, zl_neg, zl_add, zl_sub, zl_mul, zl_i]; exact congrArg zi (by omega)) | (simp only [zi_lit, zi_neg, zi_add, zi_sub, zi_mul, zl_lit, zl_neg, zl_add, zl_sub, zl_mul, zl_i]; done) | exact congrArg zi (by omega))
      · by_cases z : j = p + 1 + i
        · rw [z]; exact q2
        · exact i2 j h1 (by omega)
    · exact zw_f (by rw [zi_eq (by omega) (by omega) (by omega) (by omega)]; omega) (zw_some (Or.inr ⟨_, rfl, p + 1 + i, by omega, by omega, i2, Or.inr q2, i1, fc⟩))
theorem r_word {p e : Nat} (x : TX n B hc hr) (he : e ≤ n) (hpe : p < e) (h1 : ∀ j, p ≤ j → j < e → ty (B j) = 1) (h2 : e = n ∨ ty (B e) ≠ 1) (c7 : gI hr 240 17 = zi p) (c9 : gI hr 240 19 = zi p) (cw : gL hr 240 22 = 0) : zw (lpH l_X10_steps_103 FU () hr) (fun b => gI b.2 240 17 = zi e ∧ gL b.2 240 22 = zl (pkf (fun i => B (p + i)) (min (e - p) 8)) ∧ Fr (fun a k => a = 240 ∧ (k = 17 ∨ k = 22)) hr b.2) := by
  have n7 := x.1
  refine zw_for (e - p) (fun _ => ()) () (fun i j => gI j 240 17 = zi ((p + i : Nat) : Int) ∧ gL j 240 22 = zl (pkf (fun i => B (p + i)) (min i 8)) ∧ Fr (fun a k => a = 240 ∧ (k = 17 ∨ k = 22)) hr j) (by omega) rfl ⟨c7, cw, Fr.refl _ hr⟩ ?_ ?_
  · rintro i j hi ⟨i1, i2, fr⟩
    have x' : TX n B hc j := x.fr (Fr.refl (fun _ _ => False) hc) fr (fun z => z) (fun _ z => z) (fun _ z => z) (by omega) (by intro k; omega)
    have rb := r_byte x' (i := p + i) (by omega)
    have eb : bt n B (p + i) = B (p + i) := by unfold bt; rw [if_pos (by omega)]
    rw [eb] at rb
    have t1 := h1 (p + i) (by omega) (by omega)
    have en : zi ((p + i : Nat) : Int) + 1 = zi ((p + (i + 1) : Nat) : Int) := (by first | (simp only [zi_lit, zi_neg, zi_add, zi_sub, zi_mul, zl_lit, zl_neg, zl_add, zl_sub, zl_mul, zl_i]; exact congrArg zi (by omega)) | (simp only [zi_lit, zi_neg, zi_add, zi_sub, zi_mul, zl_lit, zl_neg, zl_add, zl_sub, zl_mul, zl_i]; done) | exact congrArg zi (by omega))
    have bl := ty_1.mp t1
    unfold l_X10_steps_103 j_X10_steps_154_103
    rw [i1]
    refine zw_bd1 rb.1 (zw_bd1 (r_letter rb.2) ?_)
    rw [if_pos t1]
    refine zw_f one_ne ?_
    rw [fr.i (by omega), c9, zi_sub, show ((p + i : Nat) : Int) - (p : Int) = (i : Int) by omega]
    by_cases q : 8 ≤ i
    · refine zw_t (by rw [(show (8 : Int32) = zi 8 from zi_lit 8), zi_le (by omega) (by omega) (by omega) (by omega)]; show (8 : Int) ≤ i; omega) ?_
      rw [en]
      refine zw_some ⟨rfl, ?_, ?_, fr.sI (by omega)⟩
      · show gI (sI j 240 17 _) 240 17 = _
        rw [gI_sI, if_pos ⟨rfl, rfl⟩]
      · show gL (sI j 240 17 _) 240 22 = _
        rw [gL_sI, i2, show min (i + 1) 8 = min i 8 by omega]
    · refine zw_f (by rw [(show (8 : Int32) = zi 8 from zi_lit 8), zi_le (by omega) (by omega) (by omega) (by omega)]; show ¬ (8 : Int) ≤ i; omega) ?_
      refine zw_bd1 rb.1 ?_
      have pb := pkf_b (f := fun i => B (p + i)) i (fun u hu => (ty_1.mp (h1 (p + u) (by omega) (by omega))).2)
      have pb7 := Nat.pow_le_pow_right (n := 32) (by decide) (show i ≤ 7 by omega)
      have e7 : 32 ^ 7 = 34359738368 := by decide
      have ew : (lshlF (gL j 240 22) 5 ||| (zi (B (p + i)) - 96).toInt64) = zl ((pkf (fun i => B (p + i)) (i + 1) : Nat) : Int) := by
        rw [i2, show min i 8 = i by omega, show zi (B (p + i) : Int) - 96 = zi ((B (p + i) - 96 : Nat) : Int) from (by first | (simp only [zi_lit, zi_neg, zi_add, zi_sub, zi_mul, zl_lit, zl_neg, zl_add, zl_sub, zl_mul, zl_i]; exact congrArg zi (by omega)) | (simp only [zi_lit, zi_neg, zi_add, zi_sub, zi_mul, zl_lit, zl_neg, zl_add, zl_sub, zl_mul, zl_i]; done) | exact congrArg zi (by omega)), zi_l (by omega) (by omega), z_or5 (by omega) (by omega), pkf_s]
      rw [ew]
      have o17 : gI (sL j 240 22 (zl ((pkf (fun i => B (p + i)) (i + 1) : Nat) : Int))) 240 17 = zi ((p + i : Nat) : Int) := by rw [gI_sL]; exact i1
      rw [o17, en]
      refine zw_some ⟨rfl, ?_, ?_, (fr.sL (by omega)).sI (by omega)⟩
      · show gI (sI (sL j 240 22 _) 240 17 _) 240 17 = _
        rw [gI_sI, if_pos ⟨rfl, rfl⟩]
      · show gL (sI (sL j 240 22 (zl ((pkf (fun i => B (p + i)) (i + 1) : Nat) : Int))) 240 17 _) 240 22 = _
        rw [gL_sI, gL_sL, if_pos ⟨rfl, rfl⟩, show min (i + 1) 8 = i + 1 by omega]
  · rintro j ⟨i1, i2, fr⟩
    have x' : TX n B hc j := x.fr (Fr.refl (fun _ _ => False) hc) fr (fun z => z) (fun _ z => z) (fun _ z => z) (by omega) (by intro k; omega)
    rw [show p + (e - p) = e by omega] at i1
    have rb := r_byte x' (i := e) (by omega)
    have t1 : ¬ ty (bt n B e) = 1 := by
      unfold bt
      by_cases q : e < n
      · rw [if_pos q]
        rcases h2 with h2 | h2
        · omega
        · exact h2
      · rw [if_neg q]; decide
    unfold l_X10_steps_103
    rw [i1]
    refine zw_bd1 rb.1 (zw_bd1 (r_letter rb.2) ?_)
    rw [if_neg t1]
    exact zw_t rfl (zw_some ⟨rfl, i1, i2, fr⟩)
theorem r_num {p e : Nat} (x : TX n B hc hr) (he : e ≤ n) (hpe : p < e) (h1 : ∀ j, p ≤ j → j < e → ty (B j) = 2) (h2 : e = n ∨ ty (B e) ≠ 2) (c7 : gI hr 240 17 = zi p) (c9 : gI hr 240 19 = zi p) (cw : gI hr 240 21 = zi ((0 : Nat) : Int)) : zw (lpH l_X10_steps_182 FU () hr) (fun b => gI b.2 240 17 = zi e ∧ gI b.2 240 21 = zi (vlf (fun i => B (p + i)) (min (e - p) 4)) ∧ Fr (fun a k => a = 240 ∧ (k = 17 ∨ k = 21)) hr b.2) := by
  have n7 := x.1
  refine zw_for (e - p) (fun _ => ()) () (fun i j => gI j 240 17 = zi ((p + i : Nat) : Int) ∧ gI j 240 21 = zi (vlf (fun i => B (p + i)) (min i 4)) ∧ Fr (fun a k => a = 240 ∧ (k = 17 ∨ k = 21)) hr j) (by omega) rfl ⟨c7, cw, Fr.refl _ hr⟩ ?_ ?_
  · rintro i j hi ⟨i1, i2, fr⟩
    have x' : TX n B hc j := x.fr (Fr.refl (fun _ _ => False) hc) fr (fun z => z) (fun _ z => z) (fun _ z => z) (by omega) (by intro k; omega)
    have rb := r_byte x' (i := p + i) (by omega)
    have eb : bt n B (p + i) = B (p + i) := by unfold bt; rw [if_pos (by omega)]
    rw [eb] at rb
    have t1 := h1 (p + i) (by omega) (by omega)
    have en : zi ((p + i : Nat) : Int) + 1 = zi ((p + (i + 1) : Nat) : Int) := (by first | (simp only [zi_lit, zi_neg, zi_add, zi_sub, zi_mul, zl_lit, zl_neg, zl_add, zl_sub, zl_mul, zl_i]; exact congrArg zi (by omega)) | (simp only [zi_lit, zi_neg, zi_add, zi_sub, zi_mul, zl_lit, zl_neg, zl_add, zl_sub, zl_mul, zl_i]; done) | exact congrArg zi (by omega))
    have bl := ty_2.mp t1
    unfold l_X10_steps_182 j_X10_steps_232_182
    rw [i1]
    refine zw_bd1 rb.1 (zw_bd1 (r_digit rb.2) ?_)
    rw [if_pos t1]
    refine zw_f one_ne ?_
    rw [fr.i (by omega), c9, zi_sub, show ((p + i : Nat) : Int) - (p : Int) = (i : Int) by omega]
    by_cases q : 4 ≤ i
    · refine zw_t (by rw [(show (4 : Int32) = zi 4 from zi_lit 4), zi_le (by omega) (by omega) (by omega) (by omega)]; show (4 : Int) ≤ i; omega) ?_
      rw [en]
      refine zw_some ⟨rfl, ?_, ?_, fr.sI (by omega)⟩
      · show gI (sI j 240 17 _) 240 17 = _
        rw [gI_sI, if_pos ⟨rfl, rfl⟩]
      · show gI (sI j 240 17 _) 240 21 = _
        rw [gI_sI, if_neg (by omega), i2, show min (i + 1) 4 = min i 4 by omega]
    · refine zw_f (by rw [(show (4 : Int32) = zi 4 from zi_lit 4), zi_le (by omega) (by omega) (by omega) (by omega)]; show ¬ (4 : Int) ≤ i; omega) ?_
      refine zw_bd1 rb.1 ?_
      have ew : (10 * gI j 240 21) + zi (B (p + i)) - 48 = zi ((vlf (fun i => B (p + i)) (i + 1) : Nat) : Int) := by
        rw [i2, show min i 4 = i by omega, vlf_s]
        exact (by first | (simp only [zi_lit, zi_neg, zi_add, zi_sub, zi_mul, zl_lit, zl_neg, zl_add, zl_sub, zl_mul, zl_i]; exact congrArg zi (by omega)) | (simp only [zi_lit, zi_neg, zi_add, zi_sub, zi_mul, zl_lit, zl_neg, zl_add, zl_sub, zl_mul, zl_i]; done) | exact congrArg zi (by omega))
      rw [ew]
      have o17 : gI (sI j 240 21 (zi ((vlf (fun i => B (p + i)) (i + 1) : Nat) : Int))) 240 17 = zi ((p + i : Nat) : Int) := by rw [gI_sI, if_neg (by omega)]; exact i1
      rw [o17, en]
      refine zw_some ⟨rfl, ?_, ?_, (fr.sI (by omega)).sI (by omega)⟩
      · show gI (sI (sI j 240 21 _) 240 17 _) 240 17 = _
        rw [gI_sI, if_pos ⟨rfl, rfl⟩]
      · show gI (sI (sI j 240 21 (zi ((vlf (fun i => B (p + i)) (i + 1) : Nat) : Int))) 240 17 _) 240 21 = _
        rw [gI_sI, if_neg (by omega), gI_sI, if_pos ⟨rfl, rfl⟩, show min (i + 1) 4 = i + 1 by omega]
  · rintro j ⟨i1, i2, fr⟩
    have x' : TX n B hc j := x.fr (Fr.refl (fun _ _ => False) hc) fr (fun z => z) (fun _ z => z) (fun _ z => z) (by omega) (by intro k; omega)
    rw [show p + (e - p) = e by omega] at i1
    have rb := r_byte x' (i := e) (by omega)
    have t1 : ¬ ty (bt n B e) = 2 := by
      unfold bt
      by_cases q : e < n
      · rw [if_pos q]
        rcases h2 with h2 | h2
        · omega
        · exact h2
      · rw [if_neg q]; decide
    unfold l_X10_steps_182
    rw [i1]
    refine zw_bd1 rb.1 (zw_bd1 (r_digit rb.2) ?_)
    rw [if_neg t1]
    exact zw_t rfl (zw_some ⟨rfl, i1, i2, fr⟩)
end
