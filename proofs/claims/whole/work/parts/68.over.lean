/-! 68.over: the most of a kind by whom standing is no more than a doubt -/
/-- the greatest number up to m that is not beyond d; 0 without -/
def gM (f : Nat → Int) (d : Int) : Nat → Nat
  | 0 => 0
  | m + 1 => if f (m + 1) ≤ d then m + 1 else gM f d m
theorem gM_s (f : Nat → Int) (d : Int) (m : Nat) : gM f d (m + 1) = if f (m + 1) ≤ d then m + 1 else gM f d m := rfl
theorem gM_le (f : Nat → Int) (d : Int) : ∀ m, gM f d m ≤ m := by
  intro m
  induction m with
  | zero => exact Nat.le_refl _
  | succ m ih => rw [gM_s]; split <;> omega
theorem gM_congr {f g : Nat → Int} {d : Int} : ∀ m, (∀ j, 1 ≤ j → j ≤ m → f j = g j) → gM f d m = gM g d m := by
  intro m
  induction m with
  | zero => intro _; rfl
  | succ m ih => intro hh; rw [gM_s, gM_s, hh (m + 1) (by omega) (Nat.le_refl _), ih (fun j h1 h2 => hh j h1 (by omega))]
theorem nS_0 (F : Nat → Int) (j : Nat) : nS 0 F j = F j := by
  unfold nS
  have : F j * (1000000 - 0) + (if j = 0 then 0 else F (j - 1) * 0) = F j * 1000000 := by
    rw [Int.mul_zero]
    split <;> omega
  rw [this]
  omega
theorem nI2_0 : ∀ m, nI2 0 m Fz = Fz := by
  intro m
  induction m with
  | zero => rfl
  | succ m ih =>
    funext j
    rw [nI2_s, nS_0, ih]
theorem abv_0 {ch : Int} (hc : 1 ≤ ch) (m n : Nat) : abv (nI2 0 m Fz) ch n = 0 := by
  rw [nI2_0]
  refine zs_zero (fun j hj => ?_)
  by_cases q : ch < (j : Int)
  · rw [if_pos q]
    unfold Fz
    rw [if_neg (by omega)]
  · rw [if_neg q]
/-- one of a kind never stands -/
theorem dWst_1 {D : HD} (hD : WFD D) {k : Nat} (hk : k < D.K) : ∀ e, e ≤ D.N → dWst D k 1 e = 0 := by
  intro e
  induction e with
  | zero => intro _; rfl
  | succ e ih =>
    intro he
    have hc := hD.c.1
    have z : abv (nI2 (cf D k 1 e / 1000) 1 Fz) D.ch (1 + 1) = 0 := zs_zero (fun j hj => by
      by_cases q : D.ch < (j : Int)
      · omega
      · rw [if_neg q])
    rw [dWst_s, z, ih (by omega)]
    rfl
section
variable {D : HD} {T : Nat} {h : AH}
/-- what lookAt may change -/
def lkS (k a j : Nat) : Prop := a = 212 ∨ (a = 211 ∧ (j = 1 ∨ j = 2)) ∨ (a = 213 ∧ 401 * k + 1 ≤ j ∧ j ≤ 401 * k + 400) ∨ (a = 214 ∧ j = k)
theorem c_lookAt (x : IVd D T h) {k : Nat} {a : Int32} (ha : a = zi k) (hk : k < D.K) (hz : ∀ m, 1 ≤ m → m ≤ 400 → gI h 213 (401 * k + m) = 0) : zw (s_X1_lookAt (some 13) (some T) a h) (fun r => Fr (lkS k) h r.2 ∧ gI r.2 214 k = 1 ∧ ∀ m, 1 ≤ m → m ≤ 400 → gI r.2 213 (401 * k + m) = zi (dWst D k m D.N)) := by
  have hD := x.wf
  have hK := hD.K6
  have hN := hD.N16
  have bT := x.tl.b
  subst ha
  unfold s_X1_lookAt
  rw [if_pos rfl, bd_v, if_pos x.tl.l0]
  refine zw_bd1 (put_ok k (n := 6) rfl rfl (by omega)) ?_
  dsimp only
  have f0 : Fr (lkS k) h (sI h 214 k 1) := (Fr.refl _ h).sI (by unfold lkS; omega)
  have y0 : gI (sI h 214 k 1) 214 k = 1 := by rw [gI_sI, if_pos ⟨rfl, rfl⟩]
  have z0 : ∀ m, 1 ≤ m → m ≤ 400 → gI (sI h 214 k 1) 213 (401 * k + m) = 0 := fun m h1 h2 => by rw [gI_sI, if_neg (by omega)]; exact hz m h1 h2
  generalize sI h 214 k 1 = g0 at *
  refine zw_bd1 (c_planOf (x.cb.fr f0 (by unfold lkS; intro j; omega)) rfl (t := 1) ((show (1 : Int32) = zi 1 from zi_lit 1)) (by omega) (by decide)) ?_
  refine zw_bd (P := fun y => Fr (lkS k) h y.2 ∧ gI y.2 214 k = 1 ∧ ∀ m, 1 ≤ m → m ≤ 400 → gI y.2 213 (401 * k + m) = zi (dWst D k m D.N)) ?_ (fun y hy => zw_some hy)
  refine zw_for D.N (fun i => zi i) () (fun e h' => Fr (lkS k) h h' ∧ gI h' 214 k = 1 ∧ ∀ m, 1 ≤ m → m ≤ 400 → gI h' 213 (401 * k + m) = zi (dWst D k m e)) (by omega) rfl ⟨f0, y0, z0⟩ ?_ ?_
  · rintro e h' he ⟨hf, h214, h213⟩
    have yc := x.c.fr hD hf (by unfold YCa lkS; intro a j; omega)
    have bq := cq_b hD (t := 1) hk he
    have bc := cf_b hD (t := 1) hk he
    unfold l_X1_lookAt_27
    refine zw_f (by rw [yc.1.2.2.1.1.2.2.1, zi_le (by omega) (by omega) (by omega) (by omega)]; omega) ?_
    rw [bd_v, if_pos (PL.of (by omega : k < 6) (by decide : 1 < 5)).l0]
    refine zw_bd1 (c_coming hD yc rfl hk (by decide) he) ?_
    refine zw_bd1 (idivF_ok (a := cf D k 1 e) rfl ((show (1000 : Int32) = zi 1000 from zi_lit 1000)) bc.1 (by omega) (by decide) (by decide)) ?_
    refine zw_bd c_clear ?_
    rintro ⟨u1, g1⟩ ⟨f1, n1⟩
    dsimp only at f1 n1 ⊢
    have f1' : Fr (lkS k) h g1 := hf.trans (f1.mono (by unfold lkS; omega))
    refine zw_bd (P := fun y => Fr (lkS k) h y.2 ∧ gI y.2 214 k = 1 ∧ ∀ m, 1 ≤ m → m ≤ 400 → gI y.2 213 (401 * k + m) = zi (dWst D k m (e + 1))) ?_ ?_
    · by_cases q0 : cf D k 1 e / 1000 ≤ 0
      · have q00 : cf D k 1 e / 1000 = 0 := by omega
        refine zw_lp 0 (fun _ s h2 => s = 1 ∧ h2 = g1) (by decide) ⟨rfl, rfl⟩ ?_
        rintro i s h2 _ ⟨rfl, rfl⟩
        unfold l_X1_lookAt_56
        refine zw_f (by decide) (zw_t (by rw [(show (0 : Int32) = zi 0 from zi_lit 0), zi_le (by omega) (by omega) (by omega) (by omega)]; exact q0) ?_)
        refine zw_some (Or.inr ⟨_, rfl, f1', ?_, fun m h1 hm2 => ?_⟩)
        · show gI h2 214 k = 1
          rw [f1.i (by omega)]; exact h214
        · show gI h2 213 _ = _
          have bw := dWst_b hD (m := m) hk e (by omega)
          rw [f1.i (by omega), h213 m h1 hm2, dWst_s, q00, abv_0 hD.c.1.1, if_neg (by omega)]
      · refine zw_for 400 (fun i => zi ((i + 1 : Nat) : Int)) () (fun i h2 => Fr (lkS k) h h2 ∧ gI h2 214 k = 1 ∧ CN i (nI2 (cf D k 1 e / 1000) i Fz) h2 ∧ ∀ m, 1 ≤ m → m ≤ 400 → gI h2 213 (401 * k + m) = zi (dWst D k m (if m ≤ i then e + 1 else e))) (by decide) rfl ⟨f1', ?_, n1, fun m h1 h2 => ?_⟩ ?_ ?_
        · rw [f1.i (by omega)]; exact h214
        · rw [f1.i (by omega), h213 m h1 h2, if_neg (by omega)]
        · rintro i h2 hi ⟨hf2, a214, hn2, a213⟩
          have y2 := x.c.fr hD hf2 (by unfold YCa lkS; intro a j; omega)
          unfold l_X1_lookAt_56
          refine zw_f (by rw [(show (400 : Int32) = zi 400 from zi_lit 400), zi_lt (by omega) (by omega) (by omega) (by omega)]; show ¬ (400 : Int) < ((i + 1 : Nat) : Int); omega) ?_
          refine zw_f (by rw [(show (0 : Int32) = zi 0 from zi_lit 0), zi_le (by omega) (by omega) (by omega) (by omega)]; exact q0) ?_
          have bF' := nI2_b bq bF_0 i
          rw [Nat.zero_add] at bF'
          refine zw_bd (c_add hi bF' bq hn2 rfl) ?_
          rintro ⟨u3, g3⟩ ⟨f3, n3⟩
          dsimp only at f3 n3 ⊢
          have y3 := y2.fr hD f3 (by unfold YCa; intro a j; omega)
          have bF3 := nI2_b bq bF_0 (i + 1)
          rw [Nat.zero_add] at bF3
          refine zw_bd1 (at_ok (401 * k + (i + 1)) (n := 2406) rfl (by exact (by first | (simp only [zi_lit, zi_neg, zi_add, zi_sub, zi_mul, zl_lit, zl_neg, zl_add, zl_sub, zl_mul, zl_i]; exact congrArg zi (by omega)) | (simp only [zi_lit, zi_neg, zi_add, zi_sub, zi_mul, zl_lit, zl_neg, zl_add, zl_sub, zl_mul, zl_i]; done) | exact congrArg zi (by omega))) (by omega)) ?_
          refine zw_bd1 (c_above (m := i + 1) (F := nI2 (cf D k 1 e / 1000) (i + 1) Fz) (by omega) bF3 n3 hD.c.1 y3.1.2.2.1.1.1) ?_
          have ew : gI g3 213 (401 * k + (i + 1)) = zi (dWst D k (i + 1) e) := by
            rw [f3.i (by omega), a213 (i + 1) (by omega) (by omega), if_neg (by omega)]
          rw [ew]
          have bw := dWst_b hD (m := i + 1) hk e (by omega)
          have ba := abv_b bF3 D.ch (i + 1 + 1)
          have em : (if zi (dWst D k (i + 1) e) < zi (abv (nI2 (cf D k 1 e / 1000) (i + 1) Fz) D.ch (i + 1 + 1)) then zi (abv (nI2 (cf D k 1 e / 1000) (i + 1) Fz) D.ch (i + 1 + 1)) else zi (dWst D k (i + 1) e)) = zi (dWst D k (i + 1) (e + 1)) := by
            rw [dWst_s]
            by_cases q : dWst D k (i + 1) e < abv (nI2 (cf D k 1 e / 1000) (i + 1) Fz) D.ch (i + 1 + 1)
            · rw [if_pos (by rw [zi_lt (by omega) (by omega) (by omega) (by omega)]; exact q), if_pos q]
            · rw [if_neg (by rw [zi_lt (by omega) (by omega) (by omega) (by omega)]; exact q), if_neg q]
          rw [em]
          refine zw_bd1 (put_ok (401 * k + (i + 1)) (n := 2406) rfl (by exact (by first | (simp only [zi_lit, zi_neg, zi_add, zi_sub, zi_mul, zl_lit, zl_neg, zl_add, zl_sub, zl_mul, zl_i]; exact congrArg zi (by omega)) | (simp only [zi_lit, zi_neg, zi_add, zi_sub, zi_mul, zl_lit, zl_neg, zl_add, zl_sub, zl_mul, zl_i]; done) | exact congrArg zi (by omega))) (by omega)) ?_
          have f4 : Fr (fun a _ => a = 213) g3 (sI g3 213 (401 * k + (i + 1)) (zi (dWst D k (i + 1) (e + 1)))) := (Fr.refl _ _).sI rfl
          refine zw_some ⟨congrArg Sum.inl (by first | (simp only [zi_lit, zi_neg, zi_add, zi_sub, zi_mul, zl_lit, zl_neg, zl_add, zl_sub, zl_mul, zl_i]; exact congrArg zi (by omega)) | (simp only [zi_lit, zi_neg, zi_add, zi_sub, zi_mul, zl_lit, zl_neg, zl_add, zl_sub, zl_mul, zl_i]; done) | exact congrArg zi (by omega)), (hf2.trans (f3.mono (by unfold lkS; omega))).sI (by unfold lkS; omega), ?_, ?_, fun m h1 h2 => ?_⟩
          · show gI (sI g3 213 _ _) 214 k = 1
            rw [f4.i (by omega), f3.i (by omega)]; exact a214
          · obtain ⟨c1, lo, hi', c2, c3, c4⟩ := n3
            exact ⟨fun j hj => (f4.l (by omega)).trans (c1 j hj), lo, hi', (f4.i (by omega)).trans c2, (f4.i (by omega)).trans c3, c4⟩
          · show gI (sI g3 213 _ _) 213 _ = _
            rw [gI_sI]
            by_cases qm : m = i + 1
            · subst qm
              rw [if_pos ⟨rfl, rfl⟩, if_pos (Nat.le_refl _)]
            · rw [if_neg (by omega), f3.i (by omega), a213 m h1 h2]
              by_cases qi : m ≤ i
              · rw [if_pos qi, if_pos (by omega)]
              · rw [if_neg qi, if_neg (by omega)]
        · rintro h2 ⟨hf2, a214, hn2, a213⟩
          unfold l_X1_lookAt_56
          refine zw_t (by decide) (zw_some ⟨rfl, hf2, a214, fun m h1 h2 => ?_⟩)
          have := a213 m h1 h2
          rw [if_pos h2] at this
          exact this
    · rintro ⟨u2, g2⟩ ⟨f2, a214, a213⟩
      unfold j_X1_lookAt_116_27
      exact zw_some ⟨congrArg Sum.inl (by first | (simp only [zi_lit, zi_neg, zi_add, zi_sub, zi_mul, zl_lit, zl_neg, zl_add, zl_sub, zl_mul, zl_i]; exact congrArg zi (by omega)) | (simp only [zi_lit, zi_neg, zi_add, zi_sub, zi_mul, zl_lit, zl_neg, zl_add, zl_sub, zl_mul, zl_i]; done) | exact congrArg zi (by omega)), f2, a214, a213⟩
  · rintro h' ⟨hf, h214, h213⟩
    have yc := x.c.fr hD hf (by unfold YCa lkS; intro a j; omega)
    unfold l_X1_lookAt_27
    exact zw_t (by rw [yc.1.2.2.1.1.2.2.1, zi_le (by omega) (by omega) (by omega) (by omega)]; omega) (zw_some ⟨rfl, hf, h214, h213⟩)
theorem c_most {k : Nat} {d : Int} {f : Nat → Int} (hk : k < 6) (hw : ∀ m, 1 ≤ m → m ≤ 400 → gI h 213 (401 * k + m) = zi (f m)) (hb : ∀ m, 0 ≤ f m ∧ f m ≤ 1000000000) (h1 : f 1 ≤ d) (hd : 0 ≤ d ∧ d ≤ 1000000000) {a0 a1 : Int32} (h0 : a0 = zi k) (h1' : a1 = zi d) : j_X1_mostBelow_18 a0 a1 h = some (zi (gM f d 400 : Nat), h) := by
  subst h0 h1'
  have L : zw (lpH (l_X1_mostBelow_23 (zi k) (zi d)) FU 400 h) (fun r => r = (zi (gM f d 400 : Nat), h)) := by
    refine zw_lp 399 (fun i s h2 => h2 = h ∧ s = zi ((400 - i : Nat) : Int) ∧ gM f d 400 = gM f d (400 - i)) (by decide) ⟨rfl, rfl, rfl⟩ ?_
    rintro i s h2 hi ⟨rfl, rfl, hg⟩
    unfold l_X1_mostBelow_23
    have e : 400 - i = 400 - (i + 1) + 1 := by omega
    by_cases q1 : 400 - i ≤ 1
    · refine zw_t (by rw [(show (1 : Int32) = zi 1 from zi_lit 1), zi_le (by omega) (by omega) (by omega) (by omega)]; show ((400 - i : Nat) : Int) ≤ 1; omega) (zw_some (Or.inr ⟨_, rfl, ?_⟩))
      have e1 : 400 - i = 1 := by omega
      rw [hg, e1]
      show (_, h2) = (zi ((gM f d (0 + 1) : Nat) : Int), h2)
      rw [gM_s, if_pos h1]
    · refine zw_f (by rw [(show (1 : Int32) = zi 1 from zi_lit 1), zi_le (by omega) (by omega) (by omega) (by omega)]; show ¬ ((400 - i : Nat) : Int) ≤ 1; omega) ?_
      refine zw_bd1 (at_ok (401 * k + (400 - i)) (n := 2406) rfl (by exact (by first | (simp only [zi_lit, zi_neg, zi_add, zi_sub, zi_mul, zl_lit, zl_neg, zl_add, zl_sub, zl_mul, zl_i]; exact congrArg zi (by omega)) | (simp only [zi_lit, zi_neg, zi_add, zi_sub, zi_mul, zl_lit, zl_neg, zl_add, zl_sub, zl_mul, zl_i]; done) | exact congrArg zi (by omega))) (by omega)) ?_
      rw [hw _ (by omega) (by omega)]
      have bf := hb (400 - i)
      by_cases q2 : f (400 - i) ≤ d
      · refine zw_t (by rw [zi_le (by omega) (by omega) (by omega) (by omega)]; exact q2) (zw_some (Or.inr ⟨_, rfl, ?_⟩))
        rw [hg, e, gM_s, if_pos (by rw [← e]; exact q2)]
      · refine zw_f (by rw [zi_le (by omega) (by omega) (by omega) (by omega)]; exact q2) (zw_some (Or.inl ⟨_, rfl, by omega, rfl, ?_, ?_⟩))
        · simp only [zi_lit, zi_neg, zi_add, zi_sub, zi_mul, zl_lit, zl_neg, zl_add, zl_sub, zl_mul, zl_i]
          exact congrArg zi (by omega)
        · rw [hg, e, gM_s, if_neg (by rw [← e]; exact q2)]
  unfold j_X1_mostBelow_18
  rw [zw_o L, bd_v]
/-- the reference's may -/
theorem r_may (x : IVd D T h) {k : Nat} {d : Int} (hk : k < D.K) (hd : 0 ≤ d ∧ d ≤ 1000000000) {p1 p2 : Int32} (h1 : p1 = zi k) (h2 : p2 = zi d) (hm : ∀ m, m ≤ 400 → gI h 261 m = 1) : zw (lpH (l_X10_over_55 p1 p2) FU 0 h) (fun r => Fr (fun a _ => a = 259 ∨ a = 261) h r.2 ∧ ∀ m, 1 ≤ m → m ≤ 400 → gI r.2 261 m = if dWst D k m D.N ≤ d then 1 else 0) := by
  have hD := x.wf
  have hK := hD.K6
  have hN := hD.N16
  subst h1 h2
  refine zw_for D.N (fun i => zi i) () (fun e h' => Fr (fun a _ => a = 259 ∨ a = 261) h h' ∧ ∀ m, 1 ≤ m → m ≤ 400 → gI h' 261 m = if dWst D k m e ≤ d then 1 else 0) (by omega) rfl ⟨Fr.refl _ _, fun m _ hm2 => by rw [hm m hm2, if_pos (by show (0 : Int) ≤ d; omega)]⟩ ?_ ?_
  · rintro e h' he ⟨hf, hy⟩
    have y := x.fr (hf.mono (by unfold SC; omega))
    have bq := cq_b hD (t := 1) hk he
    have bc := cf_b hD (t := 1) hk he
    unfold l_X10_over_55
    refine zw_f (by rw [y.rh.1.2.2.1, zi_le (by omega) (by omega) (by omega) (by omega)]; omega) ?_
    refine zw_bd1 (ldL_ok (16 * (5 * k + 1) + e) (n := 480) rfl (by first | (simp only [zi_lit, zi_neg, zi_add, zi_sub, zi_mul, zl_lit, zl_neg, zl_add, zl_sub, zl_mul, zl_i]; exact congrArg zi (by omega)) | (simp only [zi_lit, zi_neg, zi_add, zi_sub, zi_mul, zl_lit, zl_neg, zl_add, zl_sub, zl_mul, zl_i]; done) | exact congrArg zi (by omega)) (by omega)) ?_
    rw [(y.r.2 k 1 hk (by decide)).2.1 e he]
    refine zw_bd1 (ldivF_ok (a := cf D k 1 e) rfl ((show (1000 : Int64) = zl 1000 from zl_lit 1000)) bc.1 (by omega) (by decide) (by decide)) ?_
    refine zw_bd r_nobody ?_
    rintro ⟨u1, g1⟩ ⟨f1, n1⟩
    dsimp only at f1 n1 ⊢
    refine zw_bd (P := fun y => Fr (fun a _ => a = 259 ∨ a = 261) h y.2 ∧ ∀ m, 1 ≤ m → m ≤ 400 → gI y.2 261 m = if dWst D k m (e + 1) ≤ d then 1 else 0) ?_ ?_
    · refine zw_for 400 (fun i => zi ((i + 1 : Nat) : Int)) () (fun i h2 => Fr (fun a _ => a = 259 ∨ a = 261) h h2 ∧ RN (nI2 (cf D k 1 e / 1000) i Fz) h2 ∧ ∀ m, 1 ≤ m → m ≤ 400 → gI h2 261 m = if dWst D k m (if m ≤ i then e + 1 else e) ≤ d then 1 else 0) (by decide) rfl ⟨hf.trans (f1.mono (by omega)), n1, fun m h1 h2 => ?_⟩ ?_ ?_
      · rw [f1.i (by omega), hy m h1 h2, if_neg (by omega : ¬ m ≤ 0)]
      · rintro i h2 hi ⟨hf2, hn2, a261⟩
        have bF' := nI2_b bq bF_0 i
        rw [Nat.zero_add] at bF'
        unfold l_X10_over_91
        refine zw_f (by rw [(show (400 : Int32) = zi 400 from zi_lit 400), zi_lt (by omega) (by omega) (by omega) (by omega)]; show ¬ (400 : Int) < ((i + 1 : Nat) : Int); omega) ?_
        refine zw_bd (r_oneMore (m := i) hi bF' bq hn2 (by exact (by first | (simp only [zi_lit, zi_neg, zi_add, zi_sub, zi_mul, zl_lit, zl_neg, zl_add, zl_sub, zl_mul, zl_i]; exact congrArg zi (by omega)) | (simp only [zi_lit, zi_neg, zi_add, zi_sub, zi_mul, zl_lit, zl_neg, zl_add, zl_sub, zl_mul, zl_i]; done) | exact congrArg zi (by omega))) rfl) ?_
        rintro ⟨u3, g3⟩ ⟨f3, n3⟩
        dsimp only at f3 n3 ⊢
        have bF3 := nI2_b bq bF_0 (i + 1)
        rw [Nat.zero_add] at bF3
        have y3 := x.fr ((hf2.mono (by unfold SC; omega)).trans (f3.mono (by unfold SC; omega)))
        refine zw_bd1 (ldZ_ok (i + 1) (n := 401) rfl rfl (by omega)) ?_
        have ew : gI g3 261 (i + 1) = if dWst D k (i + 1) e ≤ d then 1 else 0 := by
          rw [f3.i (by omega), a261 (i + 1) (by omega) (by omega), if_neg (by omega : ¬ i + 1 ≤ i)]
        rw [ew]
        have fin : ∀ w : Int32, w = (if dWst D k (i + 1) (e + 1) ≤ d then 1 else 0) → zw (j_X10_over_142_91 (zi k) (zi d) (zi e) (zl (cf D k 1 e / 1000)) (zi ((i + 1 : Nat) : Int)) w (zi ((i + 1 : Nat) : Int)) g3) (fun r => r.1 = .inl (zi ((i + 1 + 1 : Nat) : Int)) ∧ Fr (fun a _ => a = 259 ∨ a = 261) h r.2 ∧ RN (nI2 (cf D k 1 e / 1000) (i + 1) Fz) r.2 ∧ ∀ m, 1 ≤ m → m ≤ 400 → gI r.2 261 m = if dWst D k m (if m ≤ i + 1 then e + 1 else e) ≤ d then 1 else 0) := by
          rintro w rfl
          unfold j_X10_over_142_91
          refine zw_bd1 (stZ_ok (i + 1) (n := 401) rfl rfl (by omega) (by split; exact Or.inr rfl; exact Or.inl rfl)) ?_
          refine zw_some ⟨congrArg Sum.inl (by first | (simp only [zi_lit, zi_neg, zi_add, zi_sub, zi_mul, zl_lit, zl_neg, zl_add, zl_sub, zl_mul, zl_i]; exact congrArg zi (by omega)) | (simp only [zi_lit, zi_neg, zi_add, zi_sub, zi_mul, zl_lit, zl_neg, zl_add, zl_sub, zl_mul, zl_i]; done) | exact congrArg zi (by omega)), (hf2.trans (f3.mono (by omega))).sI (by omega), fun j hj => n3 j hj, fun m h1 h2 => ?_⟩
          show gI (sI g3 261 _ _) 261 m = _
          rw [gI_sI]
          by_cases qm : m = i + 1
          · subst qm
            rw [if_pos ⟨rfl, rfl⟩, if_pos (Nat.le_refl (i + 1))]
          · rw [if_neg (by omega : ¬ (261 = 261 ∧ m = i + 1)), f3.i (by omega), a261 m h1 h2]
            by_cases qi : m ≤ i
            · rw [if_pos qi, if_pos (by omega : m ≤ i + 1)]
            · rw [if_neg qi, if_neg (by omega : ¬ m ≤ i + 1)]
        have ba := abv_b bF3 D.ch (i + 1 + 1)
        have hws := dWst_s D k (i + 1) e
        by_cases q : dWst D k (i + 1) e ≤ d
        · rw [if_pos q]
          refine zw_f one_ne ?_
          refine zw_bd1 (r_above (m := i + 1) (F := nI2 (cf D k 1 e / 1000) (i + 1) Fz) (by omega) bF3 n3 y3.rh.1.1 hD.c.1 rfl) ?_
          rw [zi_l (by omega) (by omega)]
          by_cases q2 : d < abv (nI2 (cf D k 1 e / 1000) (i + 1) Fz) D.ch (i + 1 + 1)
          · refine zw_t (by rw [zl_lt (by omega) (by omega) (by omega) (by omega)]; exact q2) ?_
            unfold j_X10_over_141_91
            refine fin 0 ?_
            refine (if_neg ?_).symm
            rw [hws, if_pos (by omega)]
            omega
          · refine zw_f (by rw [zl_lt (by omega) (by omega) (by omega) (by omega)]; exact q2) (fin 1 ?_)
            rw [if_pos]
            rw [hws]
            split <;> omega
        · rw [if_neg q]
          refine zw_t rfl ?_
          unfold j_X10_over_141_91
          refine fin 0 ?_
          rw [if_neg]
          rw [hws]
          split <;> omega
      · rintro h2 ⟨hf2, hn2, a261⟩
        unfold l_X10_over_91
        refine zw_t (by decide) (zw_some ⟨rfl, hf2, fun m h1 h2 => ?_⟩)
        have := a261 m h1 h2
        rw [if_pos h2] at this
        exact this
    · rintro ⟨u2, g2⟩ ⟨f2, a2⟩
      exact zw_some ⟨congrArg Sum.inl (by first | (simp only [zi_lit, zi_neg, zi_add, zi_sub, zi_mul, zl_lit, zl_neg, zl_add, zl_sub, zl_mul, zl_i]; exact congrArg zi (by omega)) | (simp only [zi_lit, zi_neg, zi_add, zi_sub, zi_mul, zl_lit, zl_neg, zl_add, zl_sub, zl_mul, zl_i]; done) | exact congrArg zi (by omega)), f2, a2⟩
  · rintro h' ⟨hf, hy⟩
    have y := x.fr (hf.mono (by unfold SC; omega))
    unfold l_X10_over_55
    exact zw_t (by rw [y.rh.1.2.2.1, zi_le (by omega) (by omega) (by omega) (by omega)]; omega) (zw_some ⟨rfl, hf, hy⟩)
theorem r_over (x : IVd D T h) {k : Nat} {d : Int} (hk : k < D.K) (hd : 0 ≤ d ∧ d ≤ 1000000000) {p1 p2 : Int32} (h1 : p1 = zi k) (h2 : p2 = zi d) : zw (bd (lpH (l_X10_over_33 p1 p2) FU 0 h) fun y5 => bd (lpH (l_X10_over_55 p1 p2) FU 0 y5.2) fun y16 => bd (lpH (l_X10_over_160) FU (0, 1) y16.2) fun y19 => some (y19.1, y19.2)) (fun r => r.1 = zi (gM (fun m => dWst D k m D.N) d 400 : Nat) ∧ Fr (fun a _ => a = 259 ∨ a = 261) h r.2) := by
  refine zw_bd (P := fun y => Fr (fun a _ => a = 259 ∨ a = 261) h y.2 ∧ ∀ m, m ≤ 400 → gI y.2 261 m = 1) ?_ ?_
  · refine zw_for 401 (fun n => zi n) () (fun m h' => Fr (fun a _ => a = 259 ∨ a = 261) h h' ∧ (∀ i, i < m → gI h' 261 i = 1)) (by decide) rfl ⟨Fr.refl _ _, fun i hi => by omega⟩ ?_ ?_
    · rintro n h' hn ⟨hf, hz⟩
      unfold l_X10_over_33
      refine zw_f (by rw [(show (400 : Int32) = zi 400 from zi_lit 400), zi_lt (by omega) (by omega) (by omega) (by omega)]; show ¬ (400 : Int) < n; omega) ?_
      refine zw_bd1 (stZ_ok n (n := 401) rfl rfl hn (Or.inr rfl)) ?_
      refine zw_some ⟨congrArg Sum.inl (by first | (simp only [zi_lit, zi_neg, zi_add, zi_sub, zi_mul, zl_lit, zl_neg, zl_add, zl_sub, zl_mul, zl_i]; exact congrArg zi (by omega)) | (simp only [zi_lit, zi_neg, zi_add, zi_sub, zi_mul, zl_lit, zl_neg, zl_add, zl_sub, zl_mul, zl_i]; done) | exact congrArg zi (by omega)), hf.sI (by omega), fun i hi => ?_⟩
      show gI (sI h' 261 n 1) 261 i = 1
      rw [gI_sI]
      split
      · rfl
      · exact hz i (by omega)
    · rintro h' ⟨hf, hz⟩
      unfold l_X10_over_33
      exact zw_t (by decide) (zw_some ⟨rfl, hf, fun m hm => hz m (by omega)⟩)
  · rintro ⟨u1, g1⟩ ⟨f1, z1⟩
    dsimp only at f1 z1 ⊢
    have x1 := x.fr (f1.mono (by unfold SC; omega))
    refine zw_bd (r_may x1 hk hd h1 h2 z1) ?_
    rintro ⟨u2, g2⟩ ⟨f2, z2⟩
    dsimp only at f2 z2 ⊢
    refine zw_bd (P := fun y => y = (zi (gM (fun m => dWst D k m D.N) d 400 : Nat), g2)) ?_ ?_
    · refine ⟨_, lpH_for 400 (fun i => (zi (gM (fun m => dWst D k m D.N) d i : Nat), zi ((i + 1 : Nat) : Int))) (e := zi (gM (fun m => dWst D k m D.N) d 400 : Nat)) (by decide) rfl ?_ ?_, rfl⟩
      · intro i hi
        unfold l_X10_over_160 j_X10_over_184_160
        dsimp only
        rw [if_neg (by rw [(show (400 : Int32) = zi 400 from zi_lit 400), zi_lt (by omega) (by omega) (by omega) (by omega)]; show ¬ (400 : Int) < ((i + 1 : Nat) : Int); omega), ldZ_ok (i + 1) (n := 401) rfl rfl (by omega), bd_v, z2 (i + 1) (by omega) (by omega), show zi ((i + 1 : Nat) : Int) + 1 = zi ((i + 1 + 1 : Nat) : Int) from (by first | (simp only [zi_lit, zi_neg, zi_add, zi_sub, zi_mul, zl_lit, zl_neg, zl_add, zl_sub, zl_mul, zl_i]; exact congrArg zi (by omega)) | (simp only [zi_lit, zi_neg, zi_add, zi_sub, zi_mul, zl_lit, zl_neg, zl_add, zl_sub, zl_mul, zl_i]; done) | exact congrArg zi (by omega)), gM_s]
        by_cases q : dWst D k (i + 1) D.N ≤ d
        · rw [if_pos q, if_neg one_ne, if_pos q]
        · rw [if_neg q, if_pos rfl, if_neg q]
      · unfold l_X10_over_160
        rfl
    · rintro ⟨v, g3⟩ e3
      cases e3
      exact zw_some ⟨rfl, f1.trans f2⟩
theorem g_over (x : IVd D T h) (a0 a1 : Int32) : ag Int32.toInt64 (s_L_over (some 0) a0 a1 (some 277) h) (s_X10_over a0 a1) := by
  obtain ⟨a, rfl, ha1, ha2⟩ := zi_of a0
  obtain ⟨b, rfl, hb1, hb2⟩ := zi_of a1
  have hK := x.wf.K6
  have hN := x.wf.N16
  have bT := x.tl.b
  by_cases q1 : 0 ≤ a ∧ a < D.K
  · have ea : zi a = zi (a.toNat : Nat) := congrArg zi (by omega)
    by_cases q2 : 0 ≤ b ∧ b ≤ 1000000000
    · have hw1 := dWst_1 x.wf (k := a.toNat) (by omega) D.N (Nat.le_refl _)
      -- the class
      have cls : ∃ h1, s_X1_mostBelow (some 13) (some T) (zi a) (zi b) h = some (zi (gM (fun m => dWst D a.toNat m D.N) b 400 : Nat), h1) ∧ IVd D T h1 := by
        have put : ∀ h1 : AH, (∀ m, 1 ≤ m → m ≤ 400 → gI h1 213 (401 * a.toNat + m) = zi (dWst D a.toNat m D.N)) → j_X1_mostBelow_18 (zi a) (zi b) h1 = some (zi (gM (fun m => dWst D a.toNat m D.N) b 400 : Nat), h1) := fun h1 hh => c_most (f := fun m => dWst D a.toNat m D.N) (by omega) hh (fun m => dWst_b x.wf (by omega) _ (Nat.le_refl _)) (by rw [hw1]; exact q2.1) q2 ea rfl
        rcases x.2.2.2.2.2.2.2.2.2.2.1 a.toNat (by omega) with ⟨l0, w0⟩ | ⟨l1, w1⟩
        · obtain ⟨⟨u, h1⟩, e1, f1, l2, w2⟩ := c_lookAt x ea (by omega) w0
          dsimp only at f1 l2 w2
          refine ⟨h1, ?_, ?_⟩
          · unfold s_X1_mostBelow
            rw [if_pos rfl, bd_v, if_pos x.tl.l0, at_ok a.toNat (n := 6) rfl ea (by omega), bd_v, l0, if_pos rfl, e1, bd_v]
            exact put h1 w2
          · obtain ⟨c1, c2, c3, c4, c5, c6, c7, c8, c9, c10, c11, c12, c13⟩ := x
            refine ⟨c1, c2, (f1.r (by unfold lkS; omega)).trans c3, c4.fr c1 f1 (by unfold YCa lkS; intro a j; omega), c5.fr f1 (by unfold YRa lkS; intro a j; omega), c6.fr f1 (by unfold lkS; intro a j; omega), c7.fr f1 (by unfold lkS; intro a j; omega), c8.fr f1 (by unfold lkS; intro a j; omega), c9.fr f1 (by unfold lkS; intro a j; omega), c10.fr f1 (by unfold lkS; intro a j; omega), fun k hk => ?_, c12.fr f1 hK (by unfold lkS; intro a j; omega), c13.fr f1 hK (by unfold lkS; intro a j; omega)⟩
            by_cases qk : k = a.toNat
            · subst qk
              exact Or.inr ⟨l2, w2⟩
            · rcases c11 k hk with ⟨o1, o2⟩ | ⟨o1, o2⟩
              · exact Or.inl ⟨(f1.i (by unfold lkS; omega)).trans o1, fun m m1 m2 => (f1.i (by unfold lkS; omega)).trans (o2 m m1 m2)⟩
              · exact Or.inr ⟨(f1.i (by unfold lkS; omega)).trans o1, fun m m1 m2 => (f1.i (by unfold lkS; omega)).trans (o2 m m1 m2)⟩
        · refine ⟨h, ?_, x⟩
          unfold s_X1_mostBelow
          rw [if_pos rfl, bd_v, if_pos x.tl.l0, at_ok a.toNat (n := 6) rfl ea (by omega), bd_v, l1, if_neg one_ne]
          exact put h w1
      obtain ⟨h1, e1, x1⟩ := cls
      refine ag_v (v := (zi (gM (fun m => dWst D a.toNat m D.N) b 400 : Nat)).toInt64) x1 ?_ ?_
      · unfold s_L_over s_X9_over
        rw [if_pos rfl, c_needK x rfl ha1 ha2, if_pos q1, bd_v, sm_l, if_neg (by rw [(show (0 : Int32) = zi 0 from zi_lit 0), zi_lt (by omega) (by omega) (by omega) (by omega)]; omega), if_pos (by rw [(show (1000000000 : Int32) = zi 1000000000 from zi_lit 1000000000), zi_le (by omega) (by omega) (by omega) (by omega)]; omega), x.t8, bd_v, if_pos x.tl.l0, e1, bd_v, bd_v, sm_l]
        exact hl_v rfl
      · have y := x1.o (zi (gM (fun m => dWst D a.toNat m D.N) b 400 : Nat)).toInt64
        unfold s_X10_over
        refine zw_bd1 (r_isK y.z.rh hK rfl ha1 ha2 g0_z) ?_
        rw [if_pos q1]
        refine zw_f one_ne ?_
        refine zw_bd1 (r_within rfl ((show (0 : Int32) = zi 0 from zi_lit 0)) ((show (1000000000 : Int32) = zi 1000000000 from zi_lit 1000000000)) hb1 hb2 (by decide) (by decide) (by decide) (by decide)) ?_
        refine zw_bd1 (r_right rfl g0_z (by decide)) ?_
        rw [if_pos (decide_eq_true q2)]
        refine zw_f one_ne ?_
        refine zw_mono (r_over y.z (by omega) q2 ea rfl) ?_
        rintro ⟨v2, h2⟩ ⟨hv2, f2⟩
        dsimp only at hv2 f2
        subst hv2
        refine ⟨rfl, ?_, (frz _).trans (f2.mono (by unfold SC; omega))⟩
        show gI h2 240 0 = 0
        rw [f2.i (by omega)]
        exact g0_z
    · refine ag_t (k := 2) (b := 0) x ?_ (by decide) ?_
      · unfold s_L_over s_X9_over j_X9_over_15
        rw [if_pos rfl, c_needK x rfl ha1 ha2, if_pos q1, bd_v, sm_l]
        by_cases q3 : b < 0
        · rw [if_pos (by rw [(show (0 : Int32) = zi 0 from zi_lit 0), zi_lt (by omega) (by omega) (by omega) (by omega)]; exact q3)]
          rfl
        · rw [if_neg (by rw [(show (0 : Int32) = zi 0 from zi_lit 0), zi_lt (by omega) (by omega) (by omega) (by omega)]; exact q3), if_neg (by rw [(show (1000000000 : Int32) = zi 1000000000 from zi_lit 1000000000), zi_le (by omega) (by omega) (by omega) (by omega)]; omega)]
          rfl
      · refine zw_o ?_
        unfold s_X10_over
        refine zw_bd1 (r_isK x.z.rh hK rfl ha1 ha2 g0_z) ?_
        rw [if_pos q1]
        refine zw_f one_ne ?_
        refine zw_bd1 (r_within rfl ((show (0 : Int32) = zi 0 from zi_lit 0)) ((show (1000000000 : Int32) = zi 1000000000 from zi_lit 1000000000)) hb1 hb2 (by decide) (by decide) (by decide) (by decide)) ?_
        refine zw_bd1 (r_right rfl g0_z (by decide)) ?_
        rw [if_neg (fun z => q2 (of_decide_eq_true z))]
        exact zw_t rfl (zw_some rfl)
  · refine ag_t (k := 1) (b := 0) x ?_ (by decide) ?_
    · unfold s_L_over s_X9_over
      rw [if_pos rfl, c_needK x rfl ha1 ha2, if_neg q1]
      rfl
    · refine zw_o ?_
      unfold s_X10_over
      refine zw_bd1 (r_isK x.z.rh hK rfl ha1 ha2 g0_z) ?_
      rw [if_neg q1]
      exact zw_t rfl (zw_some rfl)
end
