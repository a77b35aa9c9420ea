/-! 86.perm: the rows of tickets, one behind the other: lists, what the swaps do to the rows of both -/
def fi (l : List Nat) : Nat → Nat
  | 0 => 0
  | s + 1 => if l.getD s 0 < l.getD (s + 1) 0 then s + 1 else fi l s
theorem fi_s (l : List Nat) (s : Nat) : fi l (s + 1) = if l.getD s 0 < l.getD (s + 1) 0 then s + 1 else fi l s := rfl
def fj (l : List Nat) (x : Nat) : Nat → Nat
  | 0 => 0
  | s + 1 => if x < l.getD s 0 then s + 1 else fj l x s
theorem fj_s (l : List Nat) (x s : Nat) : fj l x (s + 1) = if x < l.getD s 0 then s + 1 else fj l x s := rfl
def swp (l : List Nat) (i j : Nat) : List Nat := (l.set i (l.getD j 0)).set j (l.getD i 0)
def rvp : Nat → Nat → Nat → List Nat → List Nat
  | 0, _, _, l => l
  | f + 1, a, b, l => if a < b then rvp f (a + 1) (b - 1) (swp l a b) else l
theorem rvp_0 (a b : Nat) (l : List Nat) : rvp 0 a b l = l := rfl
theorem rvp_s (f a b : Nat) (l : List Nat) : rvp (f + 1) a b l = if a < b then rvp f (a + 1) (b - 1) (swp l a b) else l := rfl
def nxl (m : Nat) (l : List Nat) : Option (List Nat) := if fi l (m - 1) = 0 then none else some (rvp m (fi l (m - 1)) (m - 1) (swp l (fi l (m - 1) - 1) (fj l (l.getD (fi l (m - 1) - 1) 0) m - 1)))
def okl (m : Nat) (l : List Nat) : Bool := decide (l.length = m ∧ m ≤ 5 ∧ ∀ i, i < m → l.getD i 0 < 5 ∧ ∀ j, j < i → l.getD j 0 ≠ l.getD i 0)
/-- n more rows at most, each of them in order -/
def chk (m : Nat) : Nat → List Nat → Bool
  | 0, _ => false
  | f + 1, l => okl m l && (match nxl m l with
    | none => true
    | some y => chk m f y)
theorem chk_s {m f : Nat} {l : List Nat} (h : chk m (f + 1) l = true) : okl m l = true ∧ ∀ y, nxl m l = some y → chk m f y = true := by
  have e : chk m (f + 1) l = (okl m l && (match nxl m l with
    | none => true
    | some y => chk m f y)) := rfl
  rw [e, Bool.and_eq_true] at h
  refine ⟨h.1, fun y hy => ?_⟩
  have h2 := h.2
  rw [hy] at h2
  exact h2
def cl (w : Nat → Bool) : Nat → List Nat
  | 0 => []
  | t + 1 => if w t = true then cl w t ++ [t] else cl w t
theorem cl_s (w : Nat → Bool) (t : Nat) : cl w (t + 1) = if w t = true then cl w t ++ [t] else cl w t := rfl
def tb5 (a b c d e : Bool) (t : Nat) : Bool := if t = 0 then a else if t = 1 then b else if t = 2 then c else if t = 3 then d else e
theorem chk_all : ∀ a b c d e : Bool, chk (cl (tb5 a b c d e) 5).length 120 (cl (tb5 a b c d e) 5) = true := by
  intro a b c d e
  cases a <;> cases b <;> cases c <;> cases d <;> cases e <;> decide +kernel
theorem cl_c {w u : Nat → Bool} : ∀ n, (∀ t, t < n → w t = u t) → cl w n = cl u n := by
  intro n
  induction n with
  | zero => intro _; rfl
  | succ n ih => intro h; rw [cl_s, cl_s, h n (by omega), ih (fun t ht => h t (by omega))]
theorem chk_w (w : Nat → Bool) : chk (cl w 5).length 120 (cl w 5) = true := by
  have e : cl w 5 = cl (tb5 (w 0) (w 1) (w 2) (w 3) (w 4)) 5 := cl_c 5 (fun t ht => by
    have c : t = 0 ∨ t = 1 ∨ t = 2 ∨ t = 3 ∨ t = 4 := by omega
    rcases c with rfl | rfl | rfl | rfl | rfl <;> rfl)
  rw [e]
  exact chk_all _ _ _ _ _
theorem clw_len (w : Nat → Bool) : ∀ n, (cl w n).length ≤ n := by
  intro n
  induction n with
  | zero => exact Nat.le_refl _
  | succ n ih =>
    rw [cl_s]
    split
    · rw [List.length_append]
      show (cl w n).length + 1 ≤ n + 1
      omega
    · omega
theorem gdA (l : List Nat) {t i : Nat} (hi : i < l.length + 1) : (l ++ [t]).getD i 0 = if i = l.length then t else l.getD i 0 := by
  rw [List.getD_eq_getElem?_getD, List.getD_eq_getElem?_getD, List.getElem?_append]
  by_cases q : i = l.length
  · rw [if_pos q, if_neg (by omega), q, Nat.sub_self]; rfl
  · rw [if_neg q, if_pos (by omega)]
theorem gdS (l : List Nat) {i v j : Nat} (hi : i < l.length) : (l.set i v).getD j 0 = if j = i then v else l.getD j 0 := by
  rw [List.getD_eq_getElem?_getD, List.getD_eq_getElem?_getD, List.getElem?_set]
  by_cases q : i = j
  · rw [if_pos q, if_pos hi, if_pos q.symm]; rfl
  · rw [if_neg q, if_neg (fun z => q z.symm)]
theorem swp_len (l : List Nat) (i j : Nat) : (swp l i j).length = l.length := by
  unfold swp
  rw [List.length_set, List.length_set]
theorem swp_get (l : List Nat) {i j : Nat} (hi : i < l.length) (hj : j < l.length) (k : Nat) : (swp l i j).getD k 0 = if k = j then l.getD i 0 else if k = i then l.getD j 0 else l.getD k 0 := by
  unfold swp
  rw [gdS _ (by rw [List.length_set]; exact hj), gdS _ hi]
theorem rvp_len : ∀ (f a b : Nat) (l : List Nat), (rvp f a b l).length = l.length := by
  intro f
  induction f with
  | zero => intro a b l; rfl
  | succ f ih =>
    intro a b l
    rw [rvp_s]
    split
    · rw [ih, swp_len]
    · rfl
/-- the row at a holds the list -/
def RW (a : Nat) (l : List Nat) (h : AH) : Prop := ∀ i, i < l.length → gI h a i = zi (l.getD i 0)
theorem RW.fr {a : Nat} {l : List Nat} {h h' : AH} {S : Nat → Nat → Prop} (x : RW a l h) (f : Fr S h h') (n : ∀ i, ¬ S a i) : RW a l h' := fun i hi => (f.i (n i)).trans (x i hi)
section
variable {h : AH} {l : List Nat} {m : Nat}
theorem okl_t (o : okl m l = true) : l.length = m ∧ m ≤ 5 ∧ ∀ i, i < m → l.getD i 0 < 5 ∧ ∀ j, j < i → l.getD j 0 ≠ l.getD i 0 := of_decide_eq_true o
theorem c_swap {i j : Nat} (hm : l.length ≤ 5) (r : RW 222 l h) (hi : i < l.length) (hj : j < l.length) : zw (s_X6_swap (zi i) (zi j) h) (fun y => Fr (fun b _ => b = 222) h y.2 ∧ RW 222 (swp l i j) y.2) := by
  unfold s_X6_swap
  refine zw_bd1 (at_ok i (n := 5) rfl rfl (by omega)) ?_
  refine zw_bd1 (at_ok j (n := 5) rfl rfl (by omega)) ?_
  rw [r i hi, r j hj]
  refine zw_bd1 (put_ok i (n := 5) rfl rfl (by omega)) ?_
  refine zw_bd1 (put_ok j (n := 5) rfl rfl (by omega)) ?_
  refine zw_some ⟨((Fr.refl (fun b _ => b = 222) h).sI rfl).sI rfl, fun k hk => ?_⟩
  rw [swp_len] at hk
  show gI (sI (sI h 222 i _) 222 j _) 222 k = _
  rw [gI_sI, gI_sI, swp_get l hi hj]
  by_cases q1 : k = j
  · rw [if_pos ⟨rfl, q1⟩, if_pos q1]
  · rw [if_neg (fun z => q1 z.2), if_neg q1]
    by_cases q2 : k = i
    · rw [if_pos ⟨rfl, q2⟩, if_pos q2]
    · rw [if_neg (fun z => q2 z.2), if_neg q2]
      exact r k hk
theorem r_swap {i j : Nat} (hm : l.length ≤ 5) (r : RW 266 l h) (hi : i < l.length) (hj : j < l.length) : zw (s_X10_swaps (zi i) (zi j) h) (fun y => Fr (fun b _ => b = 266) h y.2 ∧ RW 266 (swp l i j) y.2) := by
  unfold s_X10_swaps
  refine zw_bd1 (ldI_ok i (n := 5) rfl rfl (by omega)) ?_
  refine zw_bd1 (ldI_ok j (n := 5) rfl rfl (by omega)) ?_
  rw [r i hi, r j hj]
  refine zw_bd1 (stI_ok i (n := 5) rfl rfl (by omega)) ?_
  refine zw_bd1 (stI_ok j (n := 5) rfl rfl (by omega)) ?_
  refine zw_some ⟨((Fr.refl (fun b _ => b = 266) h).sI rfl).sI rfl, fun k hk => ?_⟩
  rw [swp_len] at hk
  show gI (sI (sI h 266 i _) 266 j _) 266 k = _
  rw [gI_sI, gI_sI, swp_get l hi hj]
  by_cases q1 : k = j
  · rw [if_pos ⟨rfl, q1⟩, if_pos q1]
  · rw [if_neg (fun z => q1 z.2), if_neg q1]
    by_cases q2 : k = i
    · rw [if_pos ⟨rfl, q2⟩, if_pos q2]
    · rw [if_neg (fun z => q2 z.2), if_neg q2]
      exact r k hk
/-- what stands between two places, the other way round -/
theorem z_rev {SW : Int32 → Int32 → AH → Option (Unit × AH)} {ar : Nat} (hsw : ∀ (l : List Nat) (h : AH) (i j : Nat), l.length = m → RW ar l h → i < m → j < m → zw (SW (zi i) (zi j) h) (fun y => Fr (fun b _ => b = ar) h y.2 ∧ RW ar (swp l i j) y.2)) (hm : m ≤ 5) (hl : l.length = m) (r : RW ar l h) {a b : Nat} {s0 : Int32 × Int32} (hs : s0 = (zi a, zi b)) (ha : a ≤ m) (hb : b < m) : zw (lpH (fun (s : Int32 × Int32) h => if s.2 ≤ s.1 then some (.inr (), h) else bd (SW s.1 s.2 h) fun q10 => some (.inl (s.1 + 1, s.2 + (-1)), q10.2)) FU s0 h) (fun y : Unit × AH => Fr (fun b _ => b = ar) h y.2 ∧ RW ar (rvp m a b l) y.2) := by
  subst hs
  refine zw_lp m (fun i s h' => ∃ (u v : Nat) (w : List Nat), s = (zi u, zi v) ∧ w.length = m ∧ u ≤ m + i ∧ v < m ∧ v + i ≤ u + m ∧ rvp (m - i) u v w = rvp m a b l ∧ Fr (fun b _ => b = ar) h h' ∧ RW ar w h') (by omega) ⟨a, b, l, rfl, hl, by omega, hb, by omega, rfl, Fr.refl _ h, r⟩ ?_
  rintro i s h' hi ⟨u, v, w, rfl, hw, hu, hv, hd, he, hf, hr⟩
  dsimp only
  by_cases q : u < v
  · refine zw_f (by rw [zi_le (by omega) (by omega) (by omega) (by omega)]; omega) ?_
    refine zw_bd (hsw w h' u v hw hr (by omega) hv) ?_
    rintro ⟨z, g⟩ ⟨f2, r2⟩
    dsimp only at f2 r2 ⊢
    have hlt : i < m := by omega
    refine zw_some (Or.inl ⟨_, rfl, hlt, u + 1, v - 1, swp w u v, Prod.ext (by first | (simp only [zi_lit, zi_neg, zi_add, zi_sub, zi_mul, zl_lit, zl_neg, zl_add, zl_sub, zl_mul, zl_i]; exact congrArg zi (by omega)) | (simp only [zi_lit, zi_neg, zi_add, zi_sub, zi_mul, zl_lit, zl_neg, zl_add, zl_sub, zl_mul, zl_i]; done) | exact congrArg zi (by omega)) (by first | (simp only [zi_lit, zi_neg, zi_add, zi_sub, zi_mul, zl_lit, zl_neg, zl_add, zl_sub, zl_mul, zl_i]; exact congrArg zi (by omega)) | (simp only [zi_lit, zi_neg, zi_add, zi_sub, zi_mul, zl_lit, zl_neg, zl_add, zl_sub, zl_mul, zl_i]; done) | exact congrArg zi (by omega)), by rw [swp_len, hw], by omega, by omega, by omega, ?_, hf.trans f2, r2⟩)
    obtain ⟨f, hf1⟩ : ∃ f, m - i = f + 1 := ⟨m - i - 1, by omega⟩
    rw [← he, hf1, rvp_s, if_pos q, show m - (i + 1) = f by omega]
  · refine zw_t (by rw [zi_le (by omega) (by omega) (by omega) (by omega)]; omega) (zw_some (Or.inr ⟨_, rfl, hf, ?_⟩))
    have e : rvp (m - i) u v w = w := by
      rcases Nat.eq_zero_or_pos (m - i) with z | z
      · rw [z]; rfl
      · obtain ⟨f, hf1⟩ : ∃ f, m - i = f + 1 := ⟨m - i - 1, by omega⟩
        rw [hf1, rvp_s, if_neg q]
    rw [← he, e]
    exact hr
theorem fi_le (l : List Nat) : ∀ s, fi l s ≤ s := by
  intro s
  induction s with
  | zero => exact Nat.le_refl _
  | succ s ih => rw [fi_s]; split <;> omega
theorem fi_up (l : List Nat) : ∀ s, fi l s ≠ 0 → l.getD (fi l s - 1) 0 < l.getD (fi l s) 0 := by
  intro s
  induction s with
  | zero => intro h; exact absurd rfl h
  | succ s ih =>
    rw [fi_s]
    split
    · rename_i q; intro _; exact q
    · exact ih
/-- the place behind which the row falls: what both loops find -/
theorem c_fi (o : okl m l = true) (r : RW 222 l h) {s0 : Int32} (hs : s0 = zi ((m : Int) - 2)) : zw (lpH l_X6_nextRow_7 FU s0 h) (fun y => y.2 = h ∧ ∃ e : Int, y.1 = zi e ∧ -2 ≤ e ∧ e < 5 ∧ ((fi l (m - 1) = 0 ∧ e < 0) ∨ (0 < fi l (m - 1) ∧ e = (fi l (m - 1) : Nat) - 1))) := by
  obtain ⟨o1, o2, o3⟩ := okl_t o
  subst hs
  refine zw_lp m (fun i s h' => h' = h ∧ s = zi ((m : Int) - 2 - i) ∧ (i = 0 ∨ i ≤ m - 1) ∧ fi l (m - 1 - i) = fi l (m - 1)) (by omega) ⟨rfl, congrArg zi (by omega), Or.inl rfl, rfl⟩ ?_
  rintro i s h' hi ⟨rfl, rfl, hi2, hfi⟩
  unfold l_X6_nextRow_7
  rcases Nat.eq_zero_or_pos (m - 1 - i) with q | q
  · refine zw_t (by rw [(show (0 : Int32) = zi 0 from zi_lit 0), zi_lt (by omega) (by omega) (by omega) (by omega)]; show (m : Int) - 2 - i < 0; omega) (zw_some (Or.inr ⟨_, rfl, rfl, _, rfl, by omega, by omega, Or.inl ⟨?_, by omega⟩⟩))
    rw [← hfi, q]
    rfl
  · obtain ⟨p, hp⟩ : ∃ p, m - 1 - i = p + 1 := ⟨m - 1 - i - 1, by omega⟩
    have ep : zi ((m : Int) - 2 - i) = zi (p : Int) := congrArg zi (by omega)
    have ep1 : zi ((m : Int) - 2 - i) + 1 = zi ((p + 1 : Nat) : Int) := by rw [ep]; exact (by first | (simp only [zi_lit, zi_neg, zi_add, zi_sub, zi_mul, zl_lit, zl_neg, zl_add, zl_sub, zl_mul, zl_i]; exact congrArg zi (by omega)) | (simp only [zi_lit, zi_neg, zi_add, zi_sub, zi_mul, zl_lit, zl_neg, zl_add, zl_sub, zl_mul, zl_i]; done) | exact congrArg zi (by omega))
    have b1 := (o3 p (by omega)).1
    have b2 := (o3 (p + 1) (by omega)).1
    refine zw_f (by rw [(show (0 : Int32) = zi 0 from zi_lit 0), zi_lt (by omega) (by omega) (by omega) (by omega)]; show ¬ (m : Int) - 2 - i < 0; omega) ?_
    refine zw_bd1 (at_ok p (n := 5) rfl ep (by omega)) ?_
    refine zw_bd1 (at_ok (p + 1) (n := 5) rfl ep1 (by omega)) ?_
    rw [r p (by omega), r (p + 1) (by omega)]
    rw [hp, fi_s] at hfi
    by_cases q2 : l.getD p 0 < l.getD (p + 1) 0
    · rw [if_pos q2] at hfi
      refine zw_t (by rw [zi_lt (by omega) (by omega) (by omega) (by omega)]; omega) (zw_some (Or.inr ⟨_, rfl, rfl, _, rfl, by omega, by omega, Or.inr ⟨by omega, by omega⟩⟩))
    · rw [if_neg q2] at hfi
      refine zw_f (by rw [zi_lt (by omega) (by omega) (by omega) (by omega)]; omega) (zw_some (Or.inl ⟨_, rfl, by omega, rfl, ?_, by omega, ?_⟩))
      · show zi ((m : Int) - 2 - i) + -1 = _
        exact (by first | (simp only [zi_lit, zi_neg, zi_add, zi_sub, zi_mul, zl_lit, zl_neg, zl_add, zl_sub, zl_mul, zl_i]; exact congrArg zi (by omega)) | (simp only [zi_lit, zi_neg, zi_add, zi_sub, zi_mul, zl_lit, zl_neg, zl_add, zl_sub, zl_mul, zl_i]; done) | exact congrArg zi (by omega))
      · rw [show m - 1 - (i + 1) = p by omega]
        exact hfi
theorem r_fi (o : okl m l = true) (r : RW 266 l h) {s0 p1 : Int32} (hs : s0 = zi ((m : Int) - 2)) : zw (lpH (l_X10_turns_4 p1) FU s0 h) (fun y => y.2 = h ∧ ∃ e : Int, y.1 = zi e ∧ -2 ≤ e ∧ e < 5 ∧ ((fi l (m - 1) = 0 ∧ e < 0) ∨ (0 < fi l (m - 1) ∧ e = (fi l (m - 1) : Nat) - 1))) := by
  obtain ⟨o1, o2, o3⟩ := okl_t o
  subst hs
  refine zw_lp m (fun i s h' => h' = h ∧ s = zi ((m : Int) - 2 - i) ∧ (i = 0 ∨ i ≤ m - 1) ∧ fi l (m - 1 - i) = fi l (m - 1)) (by omega) ⟨rfl, congrArg zi (by omega), Or.inl rfl, rfl⟩ ?_
  rintro i s h' hi ⟨rfl, rfl, hi2, hfi⟩
  unfold l_X10_turns_4
  rcases Nat.eq_zero_or_pos (m - 1 - i) with q | q
  · refine zw_t (by rw [(show (0 : Int32) = zi 0 from zi_lit 0), zi_lt (by omega) (by omega) (by omega) (by omega)]; show (m : Int) - 2 - i < 0; omega) (zw_some (Or.inr ⟨_, rfl, rfl, _, rfl, by omega, by omega, Or.inl ⟨?_, by omega⟩⟩))
    rw [← hfi, q]
    rfl
  · obtain ⟨p, hp⟩ : ∃ p, m - 1 - i = p + 1 := ⟨m - 1 - i - 1, by omega⟩
    have ep : zi ((m : Int) - 2 - i) = zi (p : Int) := congrArg zi (by omega)
    have ep1 : zi ((m : Int) - 2 - i) + 1 = zi ((p + 1 : Nat) : Int) := by rw [ep]; exact (by first | (simp only [zi_lit, zi_neg, zi_add, zi_sub, zi_mul, zl_lit, zl_neg, zl_add, zl_sub, zl_mul, zl_i]; exact congrArg zi (by omega)) | (simp only [zi_lit, zi_neg, zi_add, zi_sub, zi_mul, zl_lit, zl_neg, zl_add, zl_sub, zl_mul, zl_i]; done) | exact congrArg zi (by omega))
    have b1 := (o3 p (by omega)).1
    have b2 := o3 (p + 1) (by omega)
    have b3 := b2.2 p (by omega)
    refine zw_f (by rw [(show (0 : Int32) = zi 0 from zi_lit 0), zi_lt (by omega) (by omega) (by omega) (by omega)]; show ¬ (m : Int) - 2 - i < 0; omega) ?_
    refine zw_bd1 (ldI_ok p (n := 5) rfl ep (by omega)) ?_
    refine zw_bd1 (ldI_ok (p + 1) (n := 5) rfl ep1 (by omega)) ?_
    rw [r p (by omega), r (p + 1) (by omega)]
    rw [hp, fi_s] at hfi
    by_cases q2 : l.getD p 0 < l.getD (p + 1) 0
    · rw [if_pos q2] at hfi
      refine zw_t (by rw [zi_le (by omega) (by omega) (by omega) (by omega)]; omega) (zw_some (Or.inr ⟨_, rfl, rfl, _, rfl, by omega, by omega, Or.inr ⟨by omega, by omega⟩⟩))
    · rw [if_neg q2] at hfi
      refine zw_f (by rw [zi_le (by omega) (by omega) (by omega) (by omega)]; omega) (zw_some (Or.inl ⟨_, rfl, by omega, rfl, ?_, by omega, ?_⟩))
      · show zi ((m : Int) - 2 - i) + -1 = _
        exact (by first | (simp only [zi_lit, zi_neg, zi_add, zi_sub, zi_mul, zl_lit, zl_neg, zl_add, zl_sub, zl_mul, zl_i]; exact congrArg zi (by omega)) | (simp only [zi_lit, zi_neg, zi_add, zi_sub, zi_mul, zl_lit, zl_neg, zl_add, zl_sub, zl_mul, zl_i]; done) | exact congrArg zi (by omega))
      · rw [show m - 1 - (i + 1) = p by omega]
        exact hfi
/-- what takes its place -/
theorem c_fj {i : Nat} (o : okl m l = true) (r : RW 222 l h) (hi : i + 1 < m) (hup : l.getD i 0 < l.getD (i + 1) 0) {s0 : Int32} (hs : s0 = zi ((m : Int) - 1)) : zw (lpH (l_X6_nextRow_51 (zi i)) FU s0 h) (fun y => y.2 = h ∧ y.1 = zi ((fj l (l.getD i 0) m - 1 : Nat) : Int) ∧ 0 < fj l (l.getD i 0) m ∧ fj l (l.getD i 0) m - 1 < m) := by
  obtain ⟨o1, o2, o3⟩ := okl_t o
  subst hs
  refine zw_lp m (fun k s h' => h' = h ∧ s = zi ((m : Int) - 1 - k) ∧ i + 1 + k ≤ m - 1 ∧ fj l (l.getD i 0) (m - k) = fj l (l.getD i 0) m) (by omega) ⟨rfl, congrArg zi (by omega), by omega, rfl⟩ ?_
  rintro k s h' hk ⟨rfl, rfl, hk2, hfj⟩
  unfold l_X6_nextRow_51
  obtain ⟨p, hp⟩ : ∃ p, m - k = p + 1 := ⟨m - k - 1, by omega⟩
  have ep : zi ((m : Int) - 1 - k) = zi (p : Int) := congrArg zi (by omega)
  have b1 := (o3 p (by omega)).1
  have b2 := (o3 i (by omega)).1
  rw [ep]
  refine zw_f (by rw [zi_le (by omega) (by omega) (by omega) (by omega)]; omega) ?_
  refine zw_bd1 (at_ok p (n := 5) rfl rfl (by omega)) ?_
  refine zw_bd1 (at_ok i (n := 5) rfl rfl (by omega)) ?_
  rw [r p (by omega), r i (by omega)]
  rw [hp, fj_s] at hfj
  by_cases q2 : l.getD i 0 < l.getD p 0
  · rw [if_pos q2] at hfj
    refine zw_t (by rw [zi_lt (by omega) (by omega) (by omega) (by omega)]; omega) (zw_some (Or.inr ⟨_, rfl, rfl, congrArg zi (by omega), by omega, by omega⟩))
  · rw [if_neg q2] at hfj
    have hne : p ≠ i + 1 := fun z => q2 (by rw [z]; exact hup)
    refine zw_f (by rw [zi_lt (by omega) (by omega) (by omega) (by omega)]; omega) (zw_some (Or.inl ⟨_, rfl, by omega, rfl, ?_, by omega, ?_⟩))
    · show zi (p : Int) + -1 = _
      exact (by first | (simp only [zi_lit, zi_neg, zi_add, zi_sub, zi_mul, zl_lit, zl_neg, zl_add, zl_sub, zl_mul, zl_i]; exact congrArg zi (by omega)) | (simp only [zi_lit, zi_neg, zi_add, zi_sub, zi_mul, zl_lit, zl_neg, zl_add, zl_sub, zl_mul, zl_i]; done) | exact congrArg zi (by omega))
    · rw [show m - (k + 1) = p by omega]
      exact hfj
theorem r_fj {i : Nat} (o : okl m l = true) (r : RW 266 l h) (hi : i + 1 < m) (hup : l.getD i 0 < l.getD (i + 1) 0) {s0 p1 : Int32} (hs : s0 = zi ((m : Int) - 1)) : zw (lpH (l_X10_turns_41 p1 (zi i)) FU s0 h) (fun y => y.2 = h ∧ y.1 = zi ((fj l (l.getD i 0) m - 1 : Nat) : Int) ∧ 0 < fj l (l.getD i 0) m ∧ fj l (l.getD i 0) m - 1 < m) := by
  obtain ⟨o1, o2, o3⟩ := okl_t o
  subst hs
  refine zw_lp m (fun k s h' => h' = h ∧ s = zi ((m : Int) - 1 - k) ∧ i + 1 + k ≤ m - 1 ∧ fj l (l.getD i 0) (m - k) = fj l (l.getD i 0) m) (by omega) ⟨rfl, congrArg zi (by omega), by omega, rfl⟩ ?_
  rintro k s h' hk ⟨rfl, rfl, hk2, hfj⟩
  unfold l_X10_turns_41
  obtain ⟨p, hp⟩ : ∃ p, m - k = p + 1 := ⟨m - k - 1, by omega⟩
  have ep : zi ((m : Int) - 1 - k) = zi (p : Int) := congrArg zi (by omega)
  have b1 := o3 p (by omega)
  have b2 := (o3 i (by omega)).1
  have b3 := b1.2 i (by omega)
  rw [ep]
  refine zw_bd1 (ldI_ok p (n := 5) rfl rfl (by omega)) ?_
  refine zw_bd1 (ldI_ok i (n := 5) rfl rfl (by omega)) ?_
  rw [r p (by omega), r i (by omega)]
  rw [hp, fj_s] at hfj
  by_cases q2 : l.getD i 0 < l.getD p 0
  · rw [if_pos q2] at hfj
    refine zw_t (by rw [zi_le (by omega) (by omega) (by omega) (by omega)]; omega) (zw_some (Or.inr ⟨_, rfl, rfl, congrArg zi (by omega), by omega, by omega⟩))
  · rw [if_neg q2] at hfj
    have hne : p ≠ i + 1 := fun z => q2 (by rw [z]; exact hup)
    refine zw_f (by rw [zi_le (by omega) (by omega) (by omega) (by omega)]; omega) (zw_some (Or.inl ⟨_, rfl, by omega, rfl, ?_, by omega, ?_⟩))
    · show zi (p : Int) + -1 = _
      exact (by first | (simp only [zi_lit, zi_neg, zi_add, zi_sub, zi_mul, zl_lit, zl_neg, zl_add, zl_sub, zl_mul, zl_i]; exact congrArg zi (by omega)) | (simp only [zi_lit, zi_neg, zi_add, zi_sub, zi_mul, zl_lit, zl_neg, zl_add, zl_sub, zl_mul, zl_i]; done) | exact congrArg zi (by omega))
    · rw [show m - (k + 1) = p by omega]
      exact hfj
/-- the next row, or none -/
theorem c_next (o : okl m l = true) (r : RW 222 l h) (hz : gI h 220 1 = zi m) : zw (s_X6_nextRow h) (fun y => Fr (fun b _ => b = 222) h y.2 ∧ ((nxl m l = none ∧ y.1 = 0) ∨ ∃ w, nxl m l = some w ∧ y.1 = 1 ∧ RW 222 w y.2)) := by
  obtain ⟨o1, o2, o3⟩ := okl_t o
  have fl := fi_le l (m - 1)
  unfold s_X6_nextRow
  rw [hz]
  refine zw_bd (c_fi o r (s0 := zi (m : Int) - 2) (by first | (simp only [zi_lit, zi_neg, zi_add, zi_sub, zi_mul, zl_lit, zl_neg, zl_add, zl_sub, zl_mul, zl_i]; exact congrArg zi (by omega)) | (simp only [zi_lit, zi_neg, zi_add, zi_sub, zi_mul, zl_lit, zl_neg, zl_add, zl_sub, zl_mul, zl_i]; done) | exact congrArg zi (by omega))) ?_
  rintro ⟨v, g⟩ ⟨hg, e, hv, e1, e2, he⟩
  dsimp only at hg hv ⊢
  subst hg hv
  unfold j_X6_nextRow_38
  rcases he with ⟨z, he⟩ | ⟨z, he⟩
  · refine zw_f (by rw [(show (0 : Int32) = zi 0 from zi_lit 0), zi_le (by omega) (by omega) (by omega) (by omega)]; show ¬ (0 : Int) ≤ e; omega) (zw_some ⟨Fr.refl _ _, Or.inl ⟨?_, rfl⟩⟩)
    unfold nxl
    rw [if_pos z]
  · have up := fi_up l (m - 1) (by omega)
    have ee : zi e = zi ((fi l (m - 1) - 1 : Nat) : Int) := congrArg zi (by omega)
    have n2 : nxl m l = some (rvp m (fi l (m - 1)) (m - 1) (swp l (fi l (m - 1) - 1) (fj l (l.getD (fi l (m - 1) - 1) 0) m - 1))) := by
      unfold nxl
      rw [if_neg (by omega)]
    refine zw_t (by rw [(show (0 : Int32) = zi 0 from zi_lit 0), zi_le (by omega) (by omega) (by omega) (by omega)]; show (0 : Int) ≤ e; omega) ?_
    rw [hz, ee]
    refine zw_bd (c_fj o r (i := fi l (m - 1) - 1) (by omega) (by rw [show fi l (m - 1) - 1 + 1 = fi l (m - 1) by omega]; exact up) (s0 := zi (m : Int) - 1) (by first | (simp only [zi_lit, zi_neg, zi_add, zi_sub, zi_mul, zl_lit, zl_neg, zl_add, zl_sub, zl_mul, zl_i]; exact congrArg zi (by omega)) | (simp only [zi_lit, zi_neg, zi_add, zi_sub, zi_mul, zl_lit, zl_neg, zl_add, zl_sub, zl_mul, zl_i]; done) | exact congrArg zi (by omega))) ?_
    rintro ⟨v, g⟩ ⟨hg, hv, j1, j2⟩
    dsimp only at hg hv ⊢
    subst hg hv
    unfold j_X6_nextRow_81
    refine zw_bd (c_swap (by omega) r (i := fi l (m - 1) - 1) (j := fj l (l.getD (fi l (m - 1) - 1) 0) m - 1) (by omega) (by omega)) ?_
    rintro ⟨u, g1⟩ ⟨f1, r1⟩
    dsimp only at f1 r1 ⊢
    rw [f1.i (by decide), hz]
    refine zw_bd (P := fun y : Unit × AH => Fr (fun b _ => b = 222) g1 y.2 ∧ RW 222 (rvp m (fi l (m - 1)) (m - 1) (swp l (fi l (m - 1) - 1) (fj l (l.getD (fi l (m - 1) - 1) 0) m - 1))) y.2) ?_ ?_
    · exact z_rev (SW := s_X6_swap) (fun l h i j hl hr hi hj => c_swap (by omega) hr (by omega) (by omega)) o2 (by rw [swp_len, o1]) r1 (a := fi l (m - 1)) (b := m - 1) (Prod.ext (by first | (simp only [zi_lit, zi_neg, zi_add, zi_sub, zi_mul, zl_lit, zl_neg, zl_add, zl_sub, zl_mul, zl_i]; exact congrArg zi (by omega)) | (simp only [zi_lit, zi_neg, zi_add, zi_sub, zi_mul, zl_lit, zl_neg, zl_add, zl_sub, zl_mul, zl_i]; done) | exact congrArg zi (by omega)) (by first | (simp only [zi_lit, zi_neg, zi_add, zi_sub, zi_mul, zl_lit, zl_neg, zl_add, zl_sub, zl_mul, zl_i]; exact congrArg zi (by omega)) | (simp only [zi_lit, zi_neg, zi_add, zi_sub, zi_mul, zl_lit, zl_neg, zl_add, zl_sub, zl_mul, zl_i]; done) | exact congrArg zi (by omega))) (by omega) (by omega)
    · rintro ⟨u2, g2⟩ ⟨f2, r2⟩
      exact zw_some ⟨f1.trans f2, Or.inr ⟨_, n2, rfl, r2⟩⟩
theorem r_next (o : okl m l = true) (r : RW 266 l h) : zw (s_X10_turns (zi m) h) (fun y => Fr (fun b _ => b = 266) h y.2 ∧ ((nxl m l = none ∧ y.1 = 0) ∨ ∃ w, nxl m l = some w ∧ y.1 = 1 ∧ RW 266 w y.2)) := by
  obtain ⟨o1, o2, o3⟩ := okl_t o
  have fl := fi_le l (m - 1)
  unfold s_X10_turns
  refine zw_bd (r_fi o r (s0 := zi (m : Int) - 2) (by first | (simp only [zi_lit, zi_neg, zi_add, zi_sub, zi_mul, zl_lit, zl_neg, zl_add, zl_sub, zl_mul, zl_i]; exact congrArg zi (by omega)) | (simp only [zi_lit, zi_neg, zi_add, zi_sub, zi_mul, zl_lit, zl_neg, zl_add, zl_sub, zl_mul, zl_i]; done) | exact congrArg zi (by omega))) ?_
  rintro ⟨v, g⟩ ⟨hg, e, hv, e1, e2, he⟩
  dsimp only at hg hv ⊢
  subst hg hv
  unfold j_X10_turns_31
  rcases he with ⟨z, he⟩ | ⟨z, he⟩
  · refine zw_f (by rw [(show (0 : Int32) = zi 0 from zi_lit 0), zi_le (by omega) (by omega) (by omega) (by omega)]; show ¬ (0 : Int) ≤ e; omega) (zw_some ⟨Fr.refl _ _, Or.inl ⟨?_, rfl⟩⟩)
    unfold nxl
    rw [if_pos z]
  · have up := fi_up l (m - 1) (by omega)
    have ee : zi e = zi ((fi l (m - 1) - 1 : Nat) : Int) := congrArg zi (by omega)
    have n2 : nxl m l = some (rvp m (fi l (m - 1)) (m - 1) (swp l (fi l (m - 1) - 1) (fj l (l.getD (fi l (m - 1) - 1) 0) m - 1))) := by
      unfold nxl
      rw [if_neg (by omega)]
    refine zw_t (by rw [(show (0 : Int32) = zi 0 from zi_lit 0), zi_le (by omega) (by omega) (by omega) (by omega)]; show (0 : Int) ≤ e; omega) ?_
    rw [ee]
    refine zw_bd (r_fj o r (i := fi l (m - 1) - 1) (by omega) (by rw [show fi l (m - 1) - 1 + 1 = fi l (m - 1) by omega]; exact up) (s0 := zi (m : Int) - 1) (by first | (simp only [zi_lit, zi_neg, zi_add, zi_sub, zi_mul, zl_lit, zl_neg, zl_add, zl_sub, zl_mul, zl_i]; exact congrArg zi (by omega)) | (simp only [zi_lit, zi_neg, zi_add, zi_sub, zi_mul, zl_lit, zl_neg, zl_add, zl_sub, zl_mul, zl_i]; done) | exact congrArg zi (by omega))) ?_
    rintro ⟨v, g⟩ ⟨hg, hv, j1, j2⟩
    dsimp only at hg hv ⊢
    subst hg hv
    refine zw_bd (r_swap (by omega) r (i := fi l (m - 1) - 1) (j := fj l (l.getD (fi l (m - 1) - 1) 0) m - 1) (by omega) (by omega)) ?_
    rintro ⟨u, g1⟩ ⟨f1, r1⟩
    dsimp only at f1 r1 ⊢
    refine zw_bd (P := fun y : Unit × AH => Fr (fun b _ => b = 266) g1 y.2 ∧ RW 266 (rvp m (fi l (m - 1)) (m - 1) (swp l (fi l (m - 1) - 1) (fj l (l.getD (fi l (m - 1) - 1) 0) m - 1))) y.2) ?_ ?_
    · exact z_rev (SW := s_X10_swaps) (fun l h i j hl hr hi hj => r_swap (by omega) hr (by omega) (by omega)) o2 (by rw [swp_len, o1]) r1 (a := fi l (m - 1)) (b := m - 1) (Prod.ext (by first | (simp only [zi_lit, zi_neg, zi_add, zi_sub, zi_mul, zl_lit, zl_neg, zl_add, zl_sub, zl_mul, zl_i]; exact congrArg zi (by omega)) | (simp only [zi_lit, zi_neg, zi_add, zi_sub, zi_mul, zl_lit, zl_neg, zl_add, zl_sub, zl_mul, zl_i]; done) | exact congrArg zi (by omega)) (by first | (simp only [zi_lit, zi_neg, zi_add, zi_sub, zi_mul, zl_lit, zl_neg, zl_add, zl_sub, zl_mul, zl_i]; exact congrArg zi (by omega)) | (simp only [zi_lit, zi_neg, zi_add, zi_sub, zi_mul, zl_lit, zl_neg, zl_add, zl_sub, zl_mul, zl_i]; done) | exact congrArg zi (by omega))) (by omega) (by omega)
    · rintro ⟨u2, g2⟩ ⟨f2, r2⟩
      exact zw_some ⟨f1.trans f2, Or.inr ⟨_, n2, rfl, r2⟩⟩
end
