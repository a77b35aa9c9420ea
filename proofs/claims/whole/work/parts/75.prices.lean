/-! 75.prices: prices looked through -/
def pB (D : HD) (t : Nat) (p : Int) (k : Nat) : Nat := bst (dW D k) (uz D.P t p) (D.Q k 10) 4
def pE (D : HD) (t : Nat) (p : Int) : Int := eTake D.N D.K (pB D t p) (uz D.P t p) (fun k => D.Q k 0) (cf D) (fun e => D.E e 1)
def pF (D : HD) (t : Nat) (p : Int) : Int := zs (fun e => eFull D.K (pB D t p) (fun k => D.Q k 0) (cf D) e) D.N
theorem pB_lt (D : HD) (t : Nat) (p : Int) (k : Nat) : pB D t p k < 5 := by
  have := bst_le (dW D k) (uz D.P t p) (D.Q k 10) 4
  show bst _ _ _ 4 < 5
  omega
theorem eTake_b {D : HD} (hD : WFD D) {b : Nat → Nat} {P : Nat → Int} (hP : ∀ k, k < D.K → b k ≠ 0 → 0 ≤ P (b k) ∧ P (b k) ≤ 9999) : 0 ≤ eTake D.N D.K b P (fun k => D.Q k 0) (cf D) (fun e => D.E e 1) ∧ eTake D.N D.K b P (fun k => D.Q k 0) (cf D) (fun e => D.E e 1) ≤ 42000000000 := by
  have hN := hD.N16
  have hK := hD.K6
  have term : ∀ k, k < D.K → 0 ≤ (if b k = 0 then zs (fun e => D.Q k 0 * cf D k 0 e * D.E e 1 / 1000000) D.N else 1000 * D.Q k 0 * P (b k)) ∧ (if b k = 0 then zs (fun e => D.Q k 0 * cf D k 0 e * D.E e 1 / 1000000) D.N else 1000 * D.Q k 0 * P (b k)) ≤ 7000000000 := by
    intro k hk
    have bm := (hD.q k hk).1
    by_cases q : b k = 0
    · rw [if_pos q]
      have one : ∀ e, e < D.N → 0 ≤ D.Q k 0 * cf D k 0 e * D.E e 1 / 1000000 ∧ D.Q k 0 * cf D k 0 e * D.E e 1 / 1000000 ≤ 399600000 := by
        intro e he
        have bc := cf_b hD (t := 0) hk he
        have be := (hD.e e he).2.1
        have m := mul_b bm.1 bm.2 bc.1 bc.2
        have m2 := mul_b (A := 400000000000) m.1 (by omega) be.1 be.2
        exact div_b (b := 1000000) (A := 399600000) (by decide) m2.1 (by omega)
      have s1 := zs_nn (n := D.N) (fun e he => (one e he).1)
      have s2 := zs_le (n := D.N) (fun e he => (one e he).2)
      omega
    · rw [if_neg q]
      have bp := hP k hk q
      have m := mul_b (a := 1000 * D.Q k 0) (A := 400000) (B := 9999) (by omega) (by omega) bp.1 bp.2
      omega
  have s1 := zs_nn (n := D.K) (fun k hk => (term k hk).1)
  have s2 := zs_le (n := D.K) (fun k hk => (term k hk).2)
  exact ⟨s1, Int.le_trans s2 (by omega)⟩
theorem eFull_b {D : HD} (hD : WFD D) {b : Nat → Nat} {e : Nat} (he : e < D.N) : 0 ≤ eFull D.K b (fun k => D.Q k 0) (cf D) e ∧ eFull D.K b (fun k => D.Q k 0) (cf D) e ≤ 2400000000 := by
  have hK := hD.K6
  have term : ∀ k, k < D.K → 0 ≤ D.Q k 0 * cf D k (b k) e / 1000 ∧ D.Q k 0 * cf D k (b k) e / 1000 ≤ 400000000 := by
    intro k hk
    have bm := (hD.q k hk).1
    have bc := cf_b hD (t := b k) hk he
    have m := mul_b bm.1 bm.2 bc.1 bc.2
    exact div_b (b := 1000) (A := 400000000) (by decide) m.1 (by omega)
  have s1 := zs_nn (n := D.K) (fun k hk => (term k hk).1)
  have s2 := zs_le (n := D.K) (fun k hk => (term k hk).2)
  exact ⟨s1, Int.le_trans s2 (by omega)⟩
theorem pP_b {D : HD} (hD : WFD D) {t : Nat} {p : Int} (hp : 0 ≤ p ∧ p ≤ 9999) : ∀ i, i < 5 → -1 ≤ uz D.P t p i ∧ uz D.P t p i ≤ 9999 := by
  intro i hi
  have := hD.p.2.1 i hi
  unfold uz
  split <;> omega
theorem pW_b {D : HD} (hD : WFD D) {t : Nat} {p : Int} (hp : 0 ≤ p ∧ p ≤ 9999) {k : Nat} (hk : k < D.K) : bW (dW D k) (uz D.P t p) := ⟨(dW_b hD hk).1, pP_b hD hp⟩
theorem pE_b {D : HD} (hD : WFD D) {t : Nat} {p : Int} (hp : 0 ≤ p ∧ p ≤ 9999) : 0 ≤ pE D t p ∧ pE D t p ≤ 42000000000 := by
  refine eTake_b hD (fun k hk h0 => ?_)
  have h1 := pP_b hD (t := t) hp (pB D t p k) (pB_lt D t p k)
  have h2 := bst_told (dW D k) (uz D.P t p) (D.Q k 10) 4
  have h3 : uz D.P t p (pB D t p k) ≠ -1 := by
    rcases h2 with q | q
    · exact absurd q h0
    · exact q
  omega
theorem pF_b {D : HD} (hD : WFD D) {t : Nat} {p : Int} : 0 ≤ pF D t p ∧ pF D t p ≤ 38400000000 := by
  have hN := hD.N16
  have s1 := zs_nn (f := fun e => eFull D.K (pB D t p) (fun k => D.Q k 0) (cf D) e) (n := D.N) (fun e he => (eFull_b hD (b := pB D t p) he).1)
  have s2 := zs_le (f := fun e => eFull D.K (pB D t p) (fun k => D.Q k 0) (cf D) e) (n := D.N) (fun e he => (eFull_b hD (b := pB D t p) he).2)
  exact ⟨s1, Int.le_trans s2 (by omega)⟩
def x1 (D : HD) (t : Nat) (a s : Int) : Nat → Int
  | 0 => -1
  | i + 1 => if x1 D t a s i < pE D t (a + i * s) then pE D t (a + i * s) else x1 D t a s i
def x0 (D : HD) (t : Nat) (a s : Int) : Nat → Int
  | 0 => 0
  | i + 1 => if x1 D t a s i < pE D t (a + i * s) then a + i * s else x0 D t a s i
def x3 (D : HD) (t : Nat) (a s : Int) : Nat → Int
  | 0 => -1
  | i + 1 => if x3 D t a s i < pF D t (a + i * s) then pF D t (a + i * s) else x3 D t a s i
def x2 (D : HD) (t : Nat) (a s : Int) : Nat → Int
  | 0 => 0
  | i + 1 => if x3 D t a s i < pF D t (a + i * s) then a + i * s else x2 D t a s i
def x4 (D : HD) (t : Nat) (a s : Int) : Nat → Int
  | 0 => -1
  | i + 1 => if x4 D t a s i = -1 ∧ 1000 * D.co ≤ pE D t (a + i * s) then a + i * s else x4 D t a s i
theorem x1_s (D : HD) (t : Nat) (a s : Int) (i : Nat) : x1 D t a s (i + 1) = if x1 D t a s i < pE D t (a + i * s) then pE D t (a + i * s) else x1 D t a s i := rfl
theorem x0_s (D : HD) (t : Nat) (a s : Int) (i : Nat) : x0 D t a s (i + 1) = if x1 D t a s i < pE D t (a + i * s) then a + i * s else x0 D t a s i := rfl
theorem x3_s (D : HD) (t : Nat) (a s : Int) (i : Nat) : x3 D t a s (i + 1) = if x3 D t a s i < pF D t (a + i * s) then pF D t (a + i * s) else x3 D t a s i := rfl
theorem x2_s (D : HD) (t : Nat) (a s : Int) (i : Nat) : x2 D t a s (i + 1) = if x3 D t a s i < pF D t (a + i * s) then a + i * s else x2 D t a s i := rfl
theorem x4_s (D : HD) (t : Nat) (a s : Int) (i : Nat) : x4 D t a s (i + 1) = if x4 D t a s i = -1 ∧ 1000 * D.co ≤ pE D t (a + i * s) then a + i * s else x4 D t a s i := rfl
/-- the prices that are looked at -/
def pOk (a s : Int) (n : Nat) : Prop := ∀ i : Nat, i < n → 0 ≤ a + i * s ∧ a + i * s ≤ 9999
theorem x_b {D : HD} (hD : WFD D) {t : Nat} {a s : Int} {n : Nat} (hp : pOk a s n) : ∀ i, i ≤ n → (-1 ≤ x1 D t a s i ∧ x1 D t a s i ≤ 42000000000) ∧ (-1 ≤ x3 D t a s i ∧ x3 D t a s i ≤ 42000000000) ∧ (-1 ≤ x4 D t a s i ∧ x4 D t a s i ≤ 9999) := by
  intro i
  induction i with
  | zero => intro _; exact ⟨⟨Int.le_refl _, by show (-1 : Int) ≤ _; decide⟩, ⟨Int.le_refl _, by show (-1 : Int) ≤ _; decide⟩, Int.le_refl _, by show (-1 : Int) ≤ _; decide⟩
  | succ i ih =>
    intro hi
    obtain ⟨h1, h3, h4⟩ := ih (by omega)
    have bp := hp i (by omega)
    have be := pE_b hD (t := t) bp
    have bf := pF_b hD (t := t) (p := a + i * s)
    refine ⟨?_, ?_, ?_⟩
    · unfold x1; split <;> omega
    · unfold x3; split <;> omega
    · unfold x4; split <;> omega
/-- the hall with another price -/
def wP (D : HD) (t : Nat) (p : Int) : HD := (D.1, D.2.1, D.2.2.1, D.2.2.2.1, D.2.2.2.2.1, D.2.2.2.2.2.1, D.2.2.2.2.2.2.1, D.2.2.2.2.2.2.2.1, D.2.2.2.2.2.2.2.2.1, uz D.P t p)
theorem wP_wf {D : HD} (hD : WFD D) {t : Nat} {p : Int} (hp : 0 ≤ p ∧ p ≤ 9999) (ht : 1 ≤ t) (htold : D.P t ≠ -1) : WFD (wP D t p) := by
  refine ⟨hD.1, hD.2.1, hD.2.2.1, hD.2.2.2.1, ?_, pP_b hD hp, fun h2 => ?_, fun h3 => ?_⟩
  · show uz D.P t p 0 = -1
    unfold uz
    rw [if_neg (by omega)]
    exact hD.p.1
  · refine hD.p.2.2.1 (fun z => ?_)
    by_cases q : 2 = t
    · exact htold (q ▸ z)
    · exact h2 (by show uz D.P t p 2 = -1; unfold uz; rw [if_neg q]; exact z)
  · refine hD.p.2.2.2 (fun z => ?_)
    by_cases q : 3 = t
    · exact htold (q ▸ z)
    · exact h3 (by show uz D.P t p 3 = -1; unfold uz; rw [if_neg q]; exact z)
section
variable {D : HD} {T : Nat} {h : AH}
def cBs (D : HD) (t : Nat) (a s : Int) (i : Nat) (h : AH) : Prop := gL h 219 1 = zl (x1 D t a s i) ∧ gL h 219 3 = zl (x3 D t a s i) ∧ gL h 219 4 = zl (x4 D t a s i) ∧ (1 ≤ i → gL h 219 0 = zl (x0 D t a s i) ∧ gL h 219 2 = zl (x2 D t a s i))
theorem c_keep {pl : Nat} {p v o : Int} (hpl : pl ≤ 3) (ho : gL h 219 (pl + 1) = zl o) (bp : 0 ≤ p ∧ p ≤ 9999) (bv : -1 ≤ v ∧ v ≤ 42000000000) (bo : -1 ≤ o ∧ o ≤ 42000000000) {a0 a1 : Int32} {a2 : Int64} (h0 : a0 = zi pl) (h1 : a1 = zi p) (h2 : a2 = zl v) : s_X5_keepBetter a0 a1 a2 h = some ((), if o < v then sL (sL h 219 pl (zl p)) 219 (pl + 1) (zl v) else h) := by
  subst h0 h1 h2
  unfold s_X5_keepBetter
  rw [atW_ok (pl + 1) (n := 5) rfl (by first | (simp only [zi_lit, zi_neg, zi_add, zi_sub, zi_mul, zl_lit, zl_neg, zl_add, zl_sub, zl_mul, zl_i]; exact congrArg zi (by omega)) | (simp only [zi_lit, zi_neg, zi_add, zi_sub, zi_mul, zl_lit, zl_neg, zl_add, zl_sub, zl_mul, zl_i]; done) | exact congrArg zi (by omega)) (by omega), bd_v, ho]
  by_cases q : o < v
  · rw [if_neg (by rw [zl_le (by omega) (by omega) (by omega) (by omega)]; omega), putW_ok pl (n := 5) rfl rfl (by omega), bd_v, putW_ok (pl + 1) (n := 5) rfl (by first | (simp only [zi_lit, zi_neg, zi_add, zi_sub, zi_mul, zl_lit, zl_neg, zl_add, zl_sub, zl_mul, zl_i]; exact congrArg zi (by omega)) | (simp only [zi_lit, zi_neg, zi_add, zi_sub, zi_mul, zl_lit, zl_neg, zl_add, zl_sub, zl_mul, zl_i]; done) | exact congrArg zi (by omega)) (by omega), bd_v, if_pos q, zi_l (by omega) (by omega)]
  · rw [if_pos (by rw [zl_le (by omega) (by omega) (by omega) (by omega)]; omega), if_neg q]
theorem YC.fr3 {h' : AH} (hD : WFD D) (x : YC D T h) (f : Fr (fun a _ => a = 216 ∨ a = 217 ∨ a = 219) h h') : YC D T h' := x.fr hD f (by intro a k; unfold YCa; omega)
theorem c_valP (hD : WFD D) (x : YC D T h) {k t : Nat} (hk : k < D.K) (ht : t < 5) : s_X2_value (31 + 6 * (5 * k + t)) h = some (zl (dW D k t)) := by
  have hK := hD.K6
  unfold s_X2_value
  rw [if_pos (PL.of (by omega : k < 6) ht).l0, (x.2.1 k t hk ht).1.2.1]
theorem c_weighP (hD : WFD D) (x : YC D T h) {t : Nat} {a s : Int} {i n : Nat} (hp : pOk a s n) (hi : i < n) (hr : ∀ j, j < 5 → gI h 216 j = zi (uz D.P t (a + i * s) j)) (hb : cBs D t a s i h) {a1 : Int32} (h1 : a1 = zi (a + i * s)) : zw (s_X5_weigh (some 13) a1 h) (fun r => Fr (fun a _ => a = 217 ∨ a = 219) h r.2 ∧ cBs D t a s (i + 1) r.2) := by
  have hK := hD.K6
  have bT := x.1.1.b
  have bp := hp i hi
  have be := pE_b hD (t := t) bp
  have bf := pF_b hD (t := t) (p := a + i * s)
  have bx := x_b hD (t := t) hp i (by omega)
  have bco := hD.c.2.1
  subst h1
  unfold s_X5_weigh
  rw [if_pos rfl, x.1.2.2.2.2.1, bd_v, if_pos x.1.1.l0]
  refine zw_bd (P := fun y => Fr (fun a _ => a = 217) h y.2 ∧ ∀ k, k < D.K → gI y.2 217 k = zi (pB D t (a + i * s) k)) ?_ ?_
  · refine zw_for D.K (fun j => zi j) () (fun j h' => Fr (fun a _ => a = 217) h h' ∧ ∀ k, k < j → gI h' 217 k = zi (pB D t (a + i * s) k)) (by omega) rfl ⟨Fr.refl _ _, fun k hk => by omega⟩ ?_ ?_
    · rintro j h' hj ⟨hf, hm⟩
      have y := x.fr3 hD (hf.mono (by omega))
      unfold l_X5_weigh_8
      refine zw_f (by rw [y.1.2.2.1.1.2.2.2.1, zi_le (by omega) (by omega) (by omega) (by omega)]; omega) ?_
      refine zw_bd1 (c_planOf y.1.2.2.2.1 rfl (t := 3) (a1 := 3) rfl (by omega) (by decide)) ?_
      rw [bd_v, if_pos (PL.of (by omega : j < 6) (by decide : 3 < 5)).l0]
      refine zw_bd1 (c_valP hD y hj (by decide)) ?_
      refine zw_bd1 (c_choose hD y.1.1 y.1.2.2.1 y.1.2.2.2.1 y.1.2.2.2.2.1 (k := j) (pa := 216) (W := dW D j) (P := uz D.P t (a + i * s)) hj rfl (fun q hq => by rw [hf.i (by omega)]; exact hr q hq) (fun q hq _ => (y.2.1 j q hj hq).1.2.1) (pW_b hD bp hj) rfl rfl) ?_
      refine zw_bd1 (put_ok j (n := 6) rfl rfl (by omega)) ?_
      refine zw_some ⟨congrArg Sum.inl (by first | (simp only [zi_lit, zi_neg, zi_add, zi_sub, zi_mul, zl_lit, zl_neg, zl_add, zl_sub, zl_mul, zl_i]; exact congrArg zi (by omega)) | (simp only [zi_lit, zi_neg, zi_add, zi_sub, zi_mul, zl_lit, zl_neg, zl_add, zl_sub, zl_mul, zl_i]; done) | exact congrArg zi (by omega)), hf.sI rfl, fun k hk => ?_⟩
      show gI (sI h' 217 j _) 217 k = _
      rw [gI_sI]
      by_cases q : k = j
      · rw [if_pos ⟨rfl, q⟩, q]; rfl
      · rw [if_neg (fun z => q z.2)]
        exact hm k (by omega)
    · rintro h' ⟨hf, hm⟩
      have y := x.fr3 hD (hf.mono (by omega))
      unfold l_X5_weigh_8
      exact zw_t (by rw [y.1.2.2.1.1.2.2.2.1, zi_le (by omega) (by omega) (by omega) (by omega)]; omega) (zw_some ⟨rfl, hf, hm⟩)
  · rintro ⟨u1, g1⟩ ⟨f1, m1⟩
    dsimp only at f1 m1 ⊢
    have y := x.fr3 hD (f1.mono (by omega))
    refine zw_bd1 (c_takings hD y (ta := 217) (pa := 216) (ma := T + 4) (b := pB D t (a + i * s)) (P := uz D.P t (a + i * s)) (M := fun k => D.Q k 0) rfl rfl y.1.1.l4 (fun k hk => ⟨m1 k hk, pB_lt D t _ k⟩) (fun q hq => by rw [f1.i (by omega)]; exact hr q hq) (fun k hk => ⟨y.1.2.2.1.2.2.2.2.1 k hk, (hD.q k hk).1⟩) (pP_b hD bp)) ?_
    refine zw_bd1 (c_fullOfAll hD y (ta := 217) (b := pB D t (a + i * s)) rfl (fun k hk => ⟨m1 k hk, pB_lt D t _ k⟩)) ?_
    obtain ⟨c1, c3, c4, c02⟩ := hb
    refine zw_bd1 (c_keep (pl := 0) (p := a + i * s) (v := pE D t (a + i * s)) (o := x1 D t a s i) (by decide) (by rw [f1.l (by omega)]; exact c1) bp (by omega) bx.1 ((show (0 : Int32) = zi 0 from zi_lit 0)) rfl rfl) ?_
    dsimp only
    have k3 : gL (if x1 D t a s i < pE D t (a + i * s) then sL (sL g1 219 0 (zl (a + i * s))) 219 (0 + 1) (zl (pE D t (a + i * s))) else g1) 219 (2 + 1) = zl (x3 D t a s i) := by
      split
      · rw [gL_sL, if_neg (by omega), gL_sL, if_neg (by omega), f1.l (by omega)]; exact c3
      · rw [f1.l (by omega)]; exact c3
    refine zw_bd1 (c_keep (pl := 2) (p := a + i * s) (v := pF D t (a + i * s)) (o := x3 D t a s i) (by decide) k3 bp (by omega) bx.2.1 ((show (2 : Int32) = zi 2 from zi_lit 2)) rfl rfl) ?_
    dsimp only
    -- the heap behind both
    generalize hG : (if x3 D t a s i < pF D t (a + i * s) then sL (sL (if x1 D t a s i < pE D t (a + i * s) then sL (sL g1 219 0 (zl (a + i * s))) 219 (0 + 1) (zl (pE D t (a + i * s))) else g1) 219 2 (zl (a + i * s))) 219 (2 + 1) (zl (pF D t (a + i * s))) else (if x1 D t a s i < pE D t (a + i * s) then sL (sL g1 219 0 (zl (a + i * s))) 219 (0 + 1) (zl (pE D t (a + i * s))) else g1)) = G
    have fG : Fr (fun a _ => a = 219) g1 G := by
      rw [← hG]
      split
      · split
        · exact (((((Fr.refl (fun a _ => a = 219) g1).sL rfl).sL rfl).sL rfl).sL rfl)
        · exact (((Fr.refl (fun a _ => a = 219) g1).sL rfl).sL rfl)
      · split
        · exact (((Fr.refl (fun a _ => a = 219) g1).sL rfl).sL rfl)
        · exact Fr.refl (fun a _ => a = 219) g1
    have v1 : gL G 219 1 = zl (x1 D t a s (i + 1)) := by
      rw [← hG, x1_s]
      by_cases q1 : x1 D t a s i < pE D t (a + i * s) <;> by_cases q2 : x3 D t a s i < pF D t (a + i * s)
      · simp only [if_pos q1, if_pos q2]
        rw [gL_sL, if_neg (by omega), gL_sL, if_neg (by omega), gL_sL, if_pos ⟨rfl, rfl⟩]
      · simp only [if_pos q1, if_neg q2]
        rw [gL_sL, if_pos ⟨rfl, rfl⟩]
      · simp only [if_neg q1, if_pos q2]
        rw [gL_sL, if_neg (by omega), gL_sL, if_neg (by omega), f1.l (by omega)]
        exact c1
      · simp only [if_neg q1, if_neg q2]
        rw [f1.l (by omega)]
        exact c1
    have v3 : gL G 219 3 = zl (x3 D t a s (i + 1)) := by
      rw [← hG, x3_s]
      by_cases q2 : x3 D t a s i < pF D t (a + i * s)
      · rw [if_pos q2, if_pos q2, gL_sL, if_pos ⟨rfl, rfl⟩]
      · rw [if_neg q2, if_neg q2]; exact k3
    have v4 : gL G 219 4 = zl (x4 D t a s i) := by
      rw [← hG]
      split
      · split
        · rw [gL_sL, if_neg (by omega), gL_sL, if_neg (by omega), gL_sL, if_neg (by omega), gL_sL, if_neg (by omega), f1.l (by omega)]; exact c4
        · rw [gL_sL, if_neg (by omega), gL_sL, if_neg (by omega), f1.l (by omega)]; exact c4
      · split
        · rw [gL_sL, if_neg (by omega), gL_sL, if_neg (by omega), f1.l (by omega)]; exact c4
        · rw [f1.l (by omega)]; exact c4
    have first : i = 0 → x1 D t a s i < pE D t (a + i * s) ∧ x3 D t a s i < pF D t (a + i * s) := by
      rintro rfl
      exact ⟨by show -1 < _; omega, by show -1 < _; omega⟩
    have v0 : gL G 219 0 = zl (x0 D t a s (i + 1)) := by
      rw [← hG, x0_s]
      by_cases q1 : x1 D t a s i < pE D t (a + i * s) <;> by_cases q2 : x3 D t a s i < pF D t (a + i * s)
      · simp only [if_pos q1, if_pos q2]
        rw [gL_sL, if_neg (by omega), gL_sL, if_neg (by omega), gL_sL, if_neg (by omega), gL_sL, if_pos ⟨rfl, rfl⟩]
      · simp only [if_pos q1, if_neg q2]
        rw [gL_sL, if_neg (by omega), gL_sL, if_pos ⟨rfl, rfl⟩]
      · simp only [if_neg q1, if_pos q2]
        rw [gL_sL, if_neg (by omega), gL_sL, if_neg (by omega), f1.l (by omega)]
        exact (c02 (by omega)).1
      · simp only [if_neg q1, if_neg q2]
        rw [f1.l (by omega)]
        exact (c02 (by omega)).1
    have v2 : gL G 219 2 = zl (x2 D t a s (i + 1)) := by
      rw [← hG, x2_s]
      by_cases q1 : x1 D t a s i < pE D t (a + i * s) <;> by_cases q2 : x3 D t a s i < pF D t (a + i * s)
      · rw [if_pos q1, if_pos q2, if_pos q2, gL_sL, if_neg (by omega), gL_sL, if_pos ⟨rfl, rfl⟩]
      · rw [if_pos q1, if_neg q2, if_neg q2, gL_sL, if_neg (by omega), gL_sL, if_neg (by omega), f1.l (by omega)]; exact (c02 (by omega)).2
      · rw [if_neg q1, if_pos q2, if_pos q2, gL_sL, if_neg (by omega), gL_sL, if_pos ⟨rfl, rfl⟩]
      · rw [if_neg q1, if_neg q2, if_neg q2, f1.l (by omega)]; exact (c02 (by omega)).2
    have yG := y.1.2.2.1.fr fG (by intro a k; omega)
    refine zw_bd1 (atW_ok 4 (n := 5) rfl ((show (4 : Int32) = zi 4 from zi_lit 4)) (by decide)) ?_
    rw [v4]
    have em1 : (-1 : Int64) = zl (-1) := rfl
    have eE : eTake D.N D.K (pB D t (a + i * s)) (uz D.P t (a + i * s)) (fun k => D.Q k 0) (cf D) (fun e => D.E e 1) = pE D t (a + i * s) := rfl
    rw [eE, yG.1.2.1, zi_l (by omega) (by omega), show (1000 : Int64) * zl D.co = zl (1000 * D.co) from zl_mul 1000 _]
    have fall : Fr (fun a _ => a = 217 ∨ a = 219) h G := (f1.mono (by omega)).trans (fG.mono (by omega))
    have keep : x4 D t a s (i + 1) = x4 D t a s i → zw (some ((), G)) (fun r : Unit × AH => Fr (fun a _ => a = 217 ∨ a = 219) h r.2 ∧ cBs D t a s (i + 1) r.2) := fun e4 => zw_some ⟨fall, v1, v3, by rw [e4]; exact v4, fun _ => ⟨v0, v2⟩⟩
    by_cases q4 : x4 D t a s i = -1
    · refine zw_t (by rw [q4]; rfl) ?_
      by_cases q5 : pE D t (a + i * s) < 1000 * D.co
      · refine zw_t (by rw [zl_lt (by omega) (by omega) (by omega) (by omega)]; exact q5) (keep ?_)
        show (if _ ∧ _ then _ else _) = _
        rw [if_neg (by omega)]
      · refine zw_f (by rw [zl_lt (by omega) (by omega) (by omega) (by omega)]; exact q5) ?_
        refine zw_bd1 (putW_ok 4 (n := 5) rfl ((show (4 : Int32) = zi 4 from zi_lit 4)) (by decide)) ?_
        refine zw_some ⟨fall.sL (Or.inr rfl), ?_, ?_, ?_, fun _ => ⟨?_, ?_⟩⟩
        · show gL (sL G 219 4 _) 219 1 = _
          rw [gL_sL, if_neg (by omega)]; exact v1
        · show gL (sL G 219 4 _) 219 3 = _
          rw [gL_sL, if_neg (by omega)]; exact v3
        · show gL (sL G 219 4 _) 219 4 = _
          rw [gL_sL, if_pos ⟨rfl, rfl⟩, zi_l (by omega) (by omega)]
          refine congrArg zl ?_
          show _ = (if _ ∧ _ then _ else _)
          rw [if_pos (by omega)]
        · show gL (sL G 219 4 _) 219 0 = _
          rw [gL_sL, if_neg (by omega)]; exact v0
        · show gL (sL G 219 4 _) 219 2 = _
          rw [gL_sL, if_neg (by omega)]; exact v2
    · refine zw_f (by rw [em1, zl_eq (by omega) (by omega) (by omega) (by omega)]; exact q4) (keep ?_)
      show (if _ ∧ _ then _ else _) = _
      rw [if_neg (by omega)]
end
