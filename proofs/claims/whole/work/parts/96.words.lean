/-! 96.words: words and numbers as both see them -/
/-- the letters of the class's words, in its order -/
def wl (c : Nat) : List Nat := if c = 0 then [99, 104, 97, 105, 114, 115] else if c = 1 then [99, 111, 115, 116, 115] else if c = 2 then [101, 118, 101, 110, 105, 110, 103] else if c = 3 then [114, 97, 105, 110] else if c = 4 then [112, 101, 111, 112, 108, 101] else if c = 5 then [99, 111, 109, 101, 115] else if c = 6 then [116, 104, 105, 110, 107, 115] else if c = 7 then [119, 101, 116] else if c = 8 then [104, 97, 98, 105, 116] else if c = 9 then [102, 97, 108, 108, 115] else if c = 10 then [119, 111, 114, 116, 104] else if c = 11 then [121, 111, 117, 110, 103] else if c = 12 then [115, 101, 97, 116, 115] else if c = 13 then [97, 100, 100, 115] else if c = 14 then [121, 101, 97, 114] else if c = 15 then [116, 101, 110] else if c = 16 then [115, 101, 116] else if c = 17 then [111, 102] else [99, 104, 101, 97, 112]
/-- the reference's number of a word -/
def kw (c : Nat) : Nat := if c = 0 then 0 else if c = 1 then 1 else if c = 2 then 2 else if c = 3 then 9 else if c = 4 then 3 else if c = 5 then 10 else if c = 6 then 11 else if c = 7 then 12 else if c = 8 then 13 else if c = 9 then 14 else if c = 10 then 15 else if c = 11 then 16 else if c = 12 then 4 else if c = 13 then 17 else if c = 14 then 5 else if c = 15 then 6 else if c = 16 then 7 else if c = 17 then 18 else 8
theorem wl_b : ∀ c, c < 19 → (wl c).length ≤ 7 ∧ 1 ≤ (wl c).length ∧ strLn c = zi ((wl c).length : Nat) ∧ ∀ i, i < (wl c).length → 97 ≤ (wl c).getD i 0 ∧ (wl c).getD i 0 ≤ 122 ∧ strCh c (zi (i : Int)) = some (zi ((wl c).getD i 0 : Nat)) := by decide +kernel
theorem pkf_in {f g : Nat → Nat} : ∀ L M, (∀ i, i < L → 97 ≤ f i ∧ f i ≤ 122) → (∀ i, i < M → 97 ≤ g i ∧ g i ≤ 122) → pkf f L = pkf g M → L = M ∧ ∀ i, i < L → f i = g i := by
  intro L
  induction L with
  | zero =>
    intro M _ hg h
    cases M with
    | zero => exact ⟨rfl, fun i hi => by omega⟩
    | succ M =>
      have := hg M (by omega)
      rw [pkf_s] at h
      have e0 : pkf f 0 = 0 := rfl
      omega
  | succ L ih =>
    intro M hf hg h
    have h1 := hf L (by omega)
    cases M with
    | zero =>
      rw [pkf_s] at h
      have e0 : pkf g 0 = 0 := rfl
      omega
    | succ M =>
      have h2 := hg M (by omega)
      rw [pkf_s, pkf_s] at h
      have z := ih M (fun i hi => hf i (by omega)) (fun i hi => hg i (by omega)) (by omega)
      refine ⟨by omega, fun i hi => ?_⟩
      by_cases q : i = L
      · rw [q]
        have : L = M := z.1
        subst this
        omega
      · exact z.2 i (by omega)
theorem r_let (h : AH) (c : Nat) (hc : c < 19) : s_X10_letters (zi (kw c)) h = some (zl (pkf (fun i => (wl c).getD i 0) (wl c).length)) := by
  have q : c = 0 ∨ c = 1 ∨ c = 2 ∨ c = 3 ∨ c = 4 ∨ c = 5 ∨ c = 6 ∨ c = 7 ∨ c = 8 ∨ c = 9 ∨ c = 10 ∨ c = 11 ∨ c = 12 ∨ c = 13 ∨ c = 14 ∨ c = 15 ∨ c = 16 ∨ c = 17 ∨ c = 18 := by omega
  rcases q with rfl | rfl | rfl | rfl | rfl | rfl | rfl | rfl | rfl | rfl | rfl | rfl | rfl | rfl | rfl | rfl | rfl | rfl | rfl <;> rfl
section
variable {h hc hr : AH} {n p e : Nat} {B : Nat → Nat}
/-- the token from p to e is the word c -/
def isW (B : Nat → Nat) (n p e c : Nat) : Prop := p < n ∧ ty (B p) = 1 ∧ e - p = (wl c).length ∧ ∀ i, i < (wl c).length → B (p + i) = (wl c).getD i 0
theorem c_isWord (x : TX n B hc hr) (t : TK n B p e hc hr) {c : Nat} (hcc : c < 19) : ∃ w : Bool, (w = true ↔ isW B n p e c) ∧ s_X3_isWord c hc = some (b1 w) := by
  obtain ⟨w1, w2, w3, w4⟩ := wl_b c hcc
  obtain ⟨t1, t2, t3, t4, t5, t6, t7, t8⟩ := t
  have n7 := x.1
  unfold s_X3_isWord
  rcases t8 with ⟨q1, q2, q3⟩ | ⟨q1, q2, q3, q4, q5, q6⟩
  · refine ⟨false, ⟨fun z => absurd z (by decide), fun z => ?_⟩, ?_⟩
    · have := z.1
      omega
    · rw [q2, if_neg (by decide)]
      rfl
  · have tb := ty_b (B p)
    rw [q3]
    by_cases z1 : ty (B p) = 1
    · rw [if_pos (by rw [z1]; rfl), if_pos (show c < nJ from hcc), t3, t4, w3, zi_sub]
      by_cases z2 : e - p = (wl c).length
      · rw [if_pos (congrArg zi (by omega))]
        have all1 := (q5 z1).1
        -- the letters
        by_cases z3 : ∀ i, i < (wl c).length → B (p + i) = (wl c).getD i 0
        · refine ⟨true, ⟨fun _ => ⟨by omega, z1, z2, z3⟩, fun _ => rfl⟩, ?_⟩
          have L : lpP (l_X3_isWord_28 c hc) FU 0 = some (.inr ()) := by
            refine lpP_for (wl c).length (fun i => zi (i : Int)) (by omega) rfl ?_ ?_
            · intro i hi
              unfold l_X3_isWord_28
              rw [if_pos (show c < nJ from hcc), w3, if_neg (by rw [zi_le (by omega) (by omega) (by omega) (by omega)]; omega), t3, at_ok (p + i) (n := 700) lay_3.1 (zi_add _ _ : zi (p : Int) + zi (i : Int) = _) (by omega), bd_v, (w4 i hi).2.2, bd_v, (x.2.2.2 (p + i) (by omega)).2.1, z3 i hi, if_pos rfl]
              exact congrArg (fun z => some (Sum.inl z)) (by first | (simp only [zi_lit, zi_neg, zi_add, zi_sub, zi_mul, zl_lit, zl_neg, zl_add, zl_sub, zl_mul, zl_i]; exact congrArg zi (by omega)) | (simp only [zi_lit, zi_neg, zi_add, zi_sub, zi_mul, zl_lit, zl_neg, zl_add, zl_sub, zl_mul, zl_i]; done) | exact congrArg zi (by omega))
            · unfold l_X3_isWord_28
              rw [if_pos (show c < nJ from hcc), w3, if_pos (by rw [zi_le (by omega) (by omega) (by omega) (by omega)]; omega)]
          rw [L, bd_v]
          rfl
        · refine ⟨false, ⟨fun z => absurd z (by decide), fun z => absurd z.2.2.2 z3⟩, ?_⟩
          -- the first that differs
          have first : ∀ m, m ≤ (wl c).length → (∀ i, i < m → B (p + i) = (wl c).getD i 0) ∨ ∃ d, d < m ∧ B (p + d) ≠ (wl c).getD d 0 ∧ ∀ i, i < d → B (p + i) = (wl c).getD i 0 := by
            intro m
            induction m with
            | zero => intro _; exact Or.inl (fun i hi => by omega)
            | succ m ih =>
              intro hm
              rcases ih (by omega) with y | ⟨d, d1, d2, d3⟩
              · by_cases y2 : B (p + m) = (wl c).getD m 0
                · refine Or.inl (fun i hi => ?_)
                  by_cases y3 : i = m
                  · rw [y3]; exact y2
                  · exact y i (by omega)
                · exact Or.inr ⟨m, by omega, y2, y⟩
              · exact Or.inr ⟨d, by omega, d2, d3⟩
          rcases first (wl c).length (Nat.le_refl _) with y | ⟨d, d1, d2, d3⟩
          · exact absurd y z3
          have L : lpP (l_X3_isWord_28 c hc) FU 0 = some (.inl ()) := by
            refine lpP_for d (fun i => zi (i : Int)) (by omega) rfl ?_ ?_
            · intro i hi
              unfold l_X3_isWord_28
              rw [if_pos (show c < nJ from hcc), w3, if_neg (by rw [zi_le (by omega) (by omega) (by omega) (by omega)]; omega), t3, at_ok (p + i) (n := 700) lay_3.1 (zi_add _ _ : zi (p : Int) + zi (i : Int) = _) (by omega), bd_v, (w4 i (by omega)).2.2, bd_v, (x.2.2.2 (p + i) (by omega)).2.1, d3 i hi, if_pos rfl]
              exact congrArg (fun z => some (Sum.inl z)) (by first | (simp only [zi_lit, zi_neg, zi_add, zi_sub, zi_mul, zl_lit, zl_neg, zl_add, zl_sub, zl_mul, zl_i]; exact congrArg zi (by omega)) | (simp only [zi_lit, zi_neg, zi_add, zi_sub, zi_mul, zl_lit, zl_neg, zl_add, zl_sub, zl_mul, zl_i]; done) | exact congrArg zi (by omega))
            · have xb := x.2.2.2 (p + d) (by omega)
              have wb := w4 d d1
              unfold l_X3_isWord_28
              rw [if_pos (show c < nJ from hcc), w3, if_neg (by rw [zi_le (by omega) (by omega) (by omega) (by omega)]; omega), t3, at_ok (p + d) (n := 700) lay_3.1 (zi_add _ _ : zi (p : Int) + zi (d : Int) = _) (by omega), bd_v, wb.2.2, bd_v, xb.2.1, if_neg (by rw [zi_eq (by omega) (by omega) (by omega) (by omega)]; omega)]
          rw [L, bd_v]
          rfl
      · rw [if_neg (by rw [zi_eq (by omega) (by omega) (by omega) (by omega)]; omega)]
        exact ⟨false, ⟨fun z => absurd z (by decide), fun z => absurd z.2.2.1 z2⟩, rfl⟩
    · rw [if_neg (zi_nk ((show (1 : Int32) = zi 1 from zi_lit 1)) (by omega) (by omega) (by omega))]
      exact ⟨false, ⟨fun z => absurd z (by decide), fun z => absurd z.2.1 z1⟩, rfl⟩
theorem r_isW (x : TX n B hc hr) (t : TK n B p e hc hr) {c : Nat} (hcc : c < 19) : ∃ w : Bool, (w = true ↔ isW B n p e c) ∧ s_X10_is (zi (kw c)) hr = some (b1 w) := by
  obtain ⟨w1, w2, w3, w4⟩ := wl_b c hcc
  obtain ⟨t1, t2, t3, t4, t5, t6, t7, t8⟩ := t
  have n7 := x.1
  unfold s_X10_is
  rcases t8 with ⟨q1, q2, q3⟩ | ⟨q1, q2, q3, q4, q5, q6⟩
  · refine ⟨false, ⟨fun z => absurd z (by decide), fun z => ?_⟩, ?_⟩
    · have := z.1
      omega
    · rw [q3, if_neg (by decide)]
      rfl
  · have tb := ty_b (B p)
    rw [q4]
    by_cases z1 : ty (B p) = 1
    · have all1 := (q5 z1).1
      rw [if_pos (by rw [z1]; rfl), t7]
      by_cases z2 : 8 ≤ e - p
      · rw [if_pos (by rw [(show (8 : Int32) = zi 8 from zi_lit 8), zi_le (by omega) (by omega) (by omega) (by omega)]; show (8 : Int) ≤ ((e - p : Nat) : Int); omega)]
        refine ⟨false, ⟨fun z => absurd z (by decide), fun z => ?_⟩, rfl⟩
        have := z.2.2.1
        omega
      · rw [if_neg (by rw [(show (8 : Int32) = zi 8 from zi_lit 8), zi_le (by omega) (by omega) (by omega) (by omega)]; show ¬ (8 : Int) ≤ ((e - p : Nat) : Int); omega), r_let hr c hcc, bd_v, (q5 z1).2, show min (e - p) 8 = e - p by omega]
        have fb : ∀ i, i < e - p → 97 ≤ B (p + i) ∧ B (p + i) ≤ 122 := fun i hi => ty_1.mp (all1 (p + i) (by omega) (by omega))
        have gb : ∀ i, i < (wl c).length → 97 ≤ (wl c).getD i 0 ∧ (wl c).getD i 0 ≤ 122 := fun i hi => ⟨(w4 i hi).1, (w4 i hi).2.1⟩
        have b1' := pkf_b (f := fun i => B (p + i)) (e - p) (fun i hi => (fb i hi).2)
        have b2 := pkf_b (f := fun i => (wl c).getD i 0) (wl c).length (fun i hi => (gb i hi).2)
        have p7 := Nat.pow_le_pow_right (n := 32) (by decide) (show e - p ≤ 7 by omega)
        have p8 := Nat.pow_le_pow_right (n := 32) (by decide) (show (wl c).length ≤ 7 by omega)
        have e7 : 32 ^ 7 = 34359738368 := by decide
        by_cases z3 : pkf (fun i => B (p + i)) (e - p) = pkf (fun i => (wl c).getD i 0) (wl c).length
        · rw [if_pos (by rw [z3])]
          have z := pkf_in _ _ fb gb z3
          exact ⟨true, ⟨fun _ => ⟨by omega, z1, z.1, fun i hi => z.2 i (by omega)⟩, fun _ => rfl⟩, rfl⟩
        · rw [if_neg (by rw [zl_eq (by omega) (by omega) (by omega) (by omega)]; omega)]
          refine ⟨false, ⟨fun z => absurd z (by decide), fun z => absurd ?_ z3⟩, rfl⟩
          have cg : ∀ m, m ≤ (wl c).length → pkf (fun i => B (p + i)) m = pkf (fun i => (wl c).getD i 0) m := by
            intro m
            induction m with
            | zero => intro _; rfl
            | succ m ih =>
              intro hm
              rw [pkf_s, pkf_s, ih (by omega), z.2.2.2 m (by omega)]
          rw [z.2.2.1]
          exact cg _ (Nat.le_refl _)
    · have sb : sof (ty (B p)) ≠ 1 ∧ sof (ty (B p)) ≤ 5 := by
        unfold sof
        split <;> omega
      rw [if_neg (zi_nk ((show (1 : Int32) = zi 1 from zi_lit 1)) (by omega) (by omega) (by omega))]
      exact ⟨false, ⟨fun z => absurd z (by decide), fun z => absurd z.2.1 z1⟩, rfl⟩
/-- both see the same word -/
theorem x_is (x : TX n B hc hr) (t : TK n B p e hc hr) {c : Nat} (hcc : c < 19) : ∃ w : Bool, (w = true → p < n) ∧ s_X3_isWord c hc = some (b1 w) ∧ s_X10_is (zi (kw c)) hr = some (b1 w) := by
  obtain ⟨w, h1, h2⟩ := c_isWord x t hcc
  obtain ⟨u, h3, h4⟩ := r_isW x t hcc
  have : u = w := by
    cases u <;> cases w
    · rfl
    · exact absurd (h3.mpr (h1.mp rfl)) (by decide)
    · exact absurd (h1.mpr (h3.mp rfl)) (by decide)
    · rfl
  subst this
  exact ⟨u, fun z => (h1.mp z).1, h2, h4⟩
/-- the number, where it is one -/
theorem c_number (x : TX n B hc hr) (t : TK n B p e hc hr) : (gI hc 1 4 = 2 ∧ gI hr 240 18 = 2 ∧ p < e ∧ ((e - p ≤ 4 ∧ ∃ v : Nat, v < 10000 ∧ s_X3_number hc = some (zi v) ∧ gI hr 240 21 = zi v ∧ gI hr 240 20 = zi ((e - p : Nat) : Int)) ∨ (4 < e - p ∧ s_X3_number hc = some (-1) ∧ gI hr 240 20 = zi ((e - p : Nat) : Int)))) ∨ (gI hc 1 4 ≠ 2 ∧ gI hr 240 18 ≠ 2 ∧ s_X3_number hc = some (-1)) := by
  obtain ⟨t1, t2, t3, t4, t5, t6, t7, t8⟩ := t
  have n7 := x.1
  rcases t8 with ⟨q1, q2, q3⟩ | ⟨q1, q2, q3, q4, q5, q6⟩
  · right
    refine ⟨by rw [q2]; decide, by rw [q3]; decide, ?_⟩
    unfold s_X3_number
    rw [q2, if_neg (by decide)]
  · have tb := ty_b (B p)
    by_cases z1 : ty (B p) = 2
    · left
      obtain ⟨all2, q7⟩ := q6 z1
      refine ⟨by rw [q3, z1]; rfl, by rw [q4, z1]; rfl, q1, ?_⟩
      by_cases z2 : e - p ≤ 4
      · left
        have vb := vlf_b (f := fun i => B (p + i)) (e - p) (fun i hi => (ty_2.mp (all2 (p + i) (by omega) (by omega))).2)
        have p4 := Nat.pow_le_pow_right (n := 10) (by decide) z2
        have e4 : 10 ^ 4 = 10000 := by decide
        refine ⟨z2, vlf (fun i => B (p + i)) (e - p), by omega, ?_, ?_, t7⟩
        · unfold s_X3_number
          rw [q3, if_pos (by rw [z1]; rfl), t3, t4, zi_sub, if_pos (by rw [(show (4 : Int32) = zi 4 from zi_lit 4), zi_le (by omega) (by omega) (by omega) (by omega)]; show (e : Int) - p ≤ 4; omega)]
          have L : lpP (l_X3_number_30 hc) FU (0, zi (p : Int)) = some (zi (vlf (fun i => B (p + i)) (e - p))) := by
            refine lpP_for (e - p) (fun i => (zi (vlf (fun i => B (p + i)) i), zi ((p + i : Nat) : Int))) (by omega) rfl ?_ ?_
            · intro i hi
              have bl := ty_2.mp (all2 (p + i) (by omega) (by omega))
              unfold l_X3_number_30
              dsimp only
              rw [t4, if_neg (by rw [zi_le (by omega) (by omega) (by omega) (by omega)]; omega), at_ok (p + i) (n := 700) lay_3.1 rfl (by omega), bd_v, (x.2.2.2 (p + i) (by omega)).2.1, vlf_s]
              refine congrArg (fun z => some (Sum.inl z)) (Prod.ext ?_ (by first | (simp only [zi_lit, zi_neg, zi_add, zi_sub, zi_mul, zl_lit, zl_neg, zl_add, zl_sub, zl_mul, zl_i]; exact congrArg zi (by omega)) | (simp only [zi_lit, zi_neg, zi_add, zi_sub, zi_mul, zl_lit, zl_neg, zl_add, zl_sub, zl_mul, zl_i]; done) | exact congrArg zi (by omega)))
              show zi (vlf (fun i => B (p + i)) i : Int) * 10 + zi (B (p + i) : Int) - 48 = _
              exact (by first | (simp only [zi_lit, zi_neg, zi_add, zi_sub, zi_mul, zl_lit, zl_neg, zl_add, zl_sub, zl_mul, zl_i]; exact congrArg zi (by omega)) | (simp only [zi_lit, zi_neg, zi_add, zi_sub, zi_mul, zl_lit, zl_neg, zl_add, zl_sub, zl_mul, zl_i]; done) | exact congrArg zi (by omega))
            · unfold l_X3_number_30
              dsimp only
              rw [t4, if_pos (by rw [zi_le (by omega) (by omega) (by omega) (by omega)]; omega)]
          rw [L, bd_v]
        · rw [q7, show min (e - p) 4 = e - p by omega]
      · right
        refine ⟨by omega, ?_, t7⟩
        unfold s_X3_number
        rw [q3, if_pos (by rw [z1]; rfl), t3, t4, zi_sub, if_neg (by rw [(show (4 : Int32) = zi 4 from zi_lit 4), zi_le (by omega) (by omega) (by omega) (by omega)]; show ¬ (e : Int) - p ≤ 4; omega)]
    · right
      have sb : sof (ty (B p)) ≠ 2 ∧ sof (ty (B p)) ≤ 5 := by
        unfold sof
        split <;> omega
      have n1 : gI hc 1 4 ≠ 2 := by rw [q3]; exact zi_nk ((show (2 : Int32) = zi 2 from zi_lit 2)) (by omega) (by omega) (by omega)
      refine ⟨n1, by rw [q4]; exact zi_nk ((show (2 : Int32) = zi 2 from zi_lit 2)) (by omega) (by omega) (by omega), ?_⟩
      unfold s_X3_number
      rw [if_neg n1]
end
