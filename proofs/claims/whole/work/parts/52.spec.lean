/-! 52.spec: a hall's numbers, and what a plan is, in integers; both halves are tied to these -/
abbrev HD : Type := Int × Int × Nat × Nat × Nat × Int × (Nat → Nat → Int) × (Nat → Nat → Int) × (Nat → Nat → Int) × (Nat → Int)
abbrev HD.ch (D : HD) : Int := D.1
abbrev HD.co (D : HD) : Int := D.2.1
abbrev HD.N (D : HD) : Nat := D.2.2.1
abbrev HD.K (D : HD) : Nat := D.2.2.2.1
abbrev HD.R (D : HD) : Nat := D.2.2.2.2.1
abbrev HD.ten (D : HD) : Int := D.2.2.2.2.2.1
abbrev HD.E (D : HD) : Nat → Nat → Int := D.2.2.2.2.2.2.1
abbrev HD.Q (D : HD) : Nat → Nat → Int := D.2.2.2.2.2.2.2.1
abbrev HD.S (D : HD) : Nat → Nat → Int := D.2.2.2.2.2.2.2.2.1
abbrev HD.P (D : HD) : Nat → Int := D.2.2.2.2.2.2.2.2.2
/-- the numbers are as told -/
def WE (D : HD) : Prop := ∀ e, e < D.N → (0 ≤ D.E e 0 ∧ D.E e 0 ≤ 3) ∧ (0 ≤ D.E e 1 ∧ D.E e 1 ≤ 999) ∧ (0 ≤ D.E e 2 ∧ D.E e 2 ≤ 1000) ∧ (D.E e 3 = 0 ∨ D.E e 3 = 1)
def WQ (D : HD) : Prop := ∀ k, k < D.K → (0 ≤ D.Q k 0 ∧ D.Q k 0 ≤ 400) ∧ (0 ≤ D.Q k 1 ∧ D.Q k 1 ≤ 1000) ∧ (0 ≤ D.Q k 2 ∧ D.Q k 2 ≤ 1000) ∧ (0 ≤ D.Q k 3 ∧ D.Q k 3 ≤ 1000) ∧ (0 ≤ D.Q k 4 ∧ D.Q k 4 ≤ 1000) ∧ (0 ≤ D.Q k 5 ∧ D.Q k 5 ≤ 500) ∧ (∀ w, 6 ≤ w → w < 10 → 0 ≤ D.Q k w ∧ D.Q k w ≤ 999) ∧ (D.Q k 10 = 0 ∨ D.Q k 10 = 1)
def WS (D : HD) : Prop := ∀ r, r < D.R → (1 ≤ D.S r 0 ∧ D.S r 0 ≤ 400) ∧ (0 ≤ D.S r 1 ∧ D.S r 1 ≤ 99)
def WP (D : HD) : Prop := D.P 0 = -1 ∧ (∀ t, t < 5 → -1 ≤ D.P t ∧ D.P t ≤ 9999) ∧ (D.P 2 ≠ -1 → 1 ≤ D.ten) ∧ (D.P 3 ≠ -1 → ∃ e, e < D.N ∧ D.E e 3 = 1)
def WC (D : HD) : Prop := (1 ≤ D.ch ∧ D.ch ≤ 400) ∧ (0 ≤ D.co ∧ D.co ≤ 9999) ∧ D.N ≤ 16 ∧ D.K ≤ 6 ∧ D.R ≤ 4 ∧ (0 ≤ D.ten ∧ D.ten ≤ 12)
def WFD (D : HD) : Prop := WC D ∧ WE D ∧ WQ D ∧ WS D ∧ WP D
theorem WFD.c {D : HD} (h : WFD D) : WC D := h.1
theorem WFD.N16 {D : HD} (h : WFD D) : D.N ≤ 16 := h.1.2.2.1
theorem WFD.K6 {D : HD} (h : WFD D) : D.K ≤ 6 := h.1.2.2.2.1
theorem WFD.R4 {D : HD} (h : WFD D) : D.R ≤ 4 := h.1.2.2.2.2.1
theorem WFD.tb {D : HD} (h : WFD D) : 0 ≤ D.ten ∧ D.ten ≤ 12 := h.1.2.2.2.2.2
theorem WFD.e {D : HD} (h : WFD D) : WE D := h.2.1
theorem WFD.q {D : HD} (h : WFD D) : WQ D := h.2.2.1
theorem WFD.s {D : HD} (h : WFD D) : WS D := h.2.2.2.1
theorem WFD.p {D : HD} (h : WFD D) : WP D := h.2.2.2.2
theorem mul_b {a b A B : Int} (h1 : 0 ≤ a) (h2 : a ≤ A) (h3 : 0 ≤ b) (h4 : b ≤ B) : 0 ≤ a * b ∧ a * b ≤ A * B := ⟨Int.mul_nonneg h1 h3, Int.mul_le_mul h2 h4 h3 (Int.le_trans h1 h2)⟩
theorem div_b {a b A : Int} (hb : 0 < b) (h1 : 0 ≤ a) (h2 : a ≤ A * b) : 0 ≤ a / b ∧ a / b ≤ A := ⟨Int.ediv_nonneg h1 (Int.le_of_lt hb), Int.ediv_le_of_le_mul hb h2⟩
/-- by THOUGHT (th 2) or as it is (th 1) -/
def dC (D : HD) (k e th : Nat) : Int := D.Q k th * (1000000 - D.E e 2 * D.Q k 3) / 1000
theorem dC_b {D : HD} (hD : WFD D) {k e th : Nat} (hk : k < D.K) (he : e < D.N) (ht : th = 1 ∨ th = 2) : (0 ≤ D.E e 2 * D.Q k 3 ∧ D.E e 2 * D.Q k 3 ≤ 1000000) ∧ (0 ≤ D.Q k th * (1000000 - D.E e 2 * D.Q k 3) ∧ D.Q k th * (1000000 - D.E e 2 * D.Q k 3) ≤ 1000000000) ∧ 0 ≤ dC D k e th ∧ dC D k e th ≤ 1000000 := by
  have h1 := hD.e e he
  have h2 := hD.q k hk
  have m1 := mul_b (A := 1000) (B := 1000) h1.2.2.1.1 h1.2.2.1.2 h2.2.2.2.1.1 h2.2.2.2.1.2
  have hq : 0 ≤ D.Q k th ∧ D.Q k th ≤ 1000 := by
    rcases ht with rfl | rfl
    · exact h2.2.1
    · exact h2.2.2.1
  have m2 := mul_b (A := 1000) (B := 1000000) hq.1 hq.2 (b := 1000000 - D.E e 2 * D.Q k 3) (by omega) (by omega)
  have m3 := div_b (a := D.Q k th * (1000000 - D.E e 2 * D.Q k 3)) (b := 1000) (A := 1000000) (by decide) (by omega) (by omega)
  exact ⟨⟨m1.1, by omega⟩, ⟨m2.1, by omega⟩, m3⟩
def mz (x : Int) : Int := if 0 < x then x else 0
theorem mz_nn (x : Int) : 0 ≤ mz x := by unfold mz; split <;> omega
theorem mz_le {x B : Int} (h : x ≤ B) (hB : 0 ≤ B) : mz x ≤ B := by unfold mz; split <;> omega
def dG (D : HD) (k t e n : Nat) : Int := D.Q k (6 + (D.E e 0).toNat) * mz (1000 - D.Q k 5 * n) - (if t = 0 then 1000 * D.E e 1 else 0)
theorem dG_b {D : HD} (hD : WFD D) {k t e n : Nat} (hk : k < D.K) (he : e < D.N) (hn : n ≤ 33) : (0 ≤ D.Q k (6 + (D.E e 0).toNat) ∧ D.Q k (6 + (D.E e 0).toNat) ≤ 999) ∧ (0 ≤ D.Q k 5 * n ∧ D.Q k 5 * n ≤ 16500) ∧ (0 ≤ D.Q k (6 + (D.E e 0).toNat) * mz (1000 - D.Q k 5 * n) ∧ D.Q k (6 + (D.E e 0).toNat) * mz (1000 - D.Q k 5 * n) ≤ 999000) ∧ -999000 ≤ dG D k t e n ∧ dG D k t e n ≤ 999000 := by
  have h1 := hD.e e he
  have h2 := hD.q k hk
  have hw := h2.2.2.2.2.2.2.1 (6 + (D.E e 0).toNat) (by omega) (by omega)
  have m0 := mul_b (A := 500) (B := 33) h2.2.2.2.2.2.1.1 h2.2.2.2.2.2.1.2 (b := (n : Int)) (by omega) (by omega)
  have m1 := mul_b (A := 999) (B := 1000) hw.1 hw.2 (b := mz (1000 - D.Q k 5 * n)) (mz_nn _) (mz_le (by omega) (by omega))
  refine ⟨hw, ⟨m0.1, by omega⟩, ⟨m1.1, by omega⟩, ?_⟩
  unfold dG
  split <;> omega
/-- may it go by its ticket -/
def dM (t : Nat) (set : Nat → Int) (e c : Nat) : Bool := if t = 2 then decide (0 < c) else if t = 3 then decide (set e = 1) else true
/-- the worth with r evenings left, c left and n had -/
def pV (D : HD) (set : Nat → Int) (k t th : Nat) : Nat → Nat → Nat → Int
  | 0, _, _ => 0
  | r + 1, c, n => if dM t set (D.N - 1 - r) c = true ∧ pV D set k t th r c n < dG D k t (D.N - 1 - r) n + pV D set k t th r (if t = 2 then c - 1 else c) (n + 1) then pV D set k t th r c n + (dG D k t (D.N - 1 - r) n + pV D set k t th r (if t = 2 then c - 1 else c) (n + 1) - pV D set k t th r c n) * dC D k (D.N - 1 - r) th / 1000000 else pV D set k t th r c n
def pX (D : HD) (set : Nat → Int) (k t th r c n : Nat) : Int := dG D k t (D.N - 1 - r) n + pV D set k t th r (if t = 2 then c - 1 else c) (n + 1)
def pGo (D : HD) (set : Nat → Int) (k t th r c n : Nat) : Bool := dM t set (D.N - 1 - r) c && decide (pV D set k t th r c n < pX D set k t th r c n)
theorem pV_0 (D : HD) (set : Nat → Int) (k t th c n : Nat) : pV D set k t th 0 c n = 0 := rfl
theorem pV_s (D : HD) (set : Nat → Int) (k t th r c n : Nat) : pV D set k t th (r + 1) c n = if pGo D set k t th r c n = true then pV D set k t th r c n + (pX D set k t th r c n - pV D set k t th r c n) * dC D k (D.N - 1 - r) th / 1000000 else pV D set k t th r c n := by
  show (if _ then _ else _) = _
  unfold pGo pX
  by_cases h1 : dM t set (D.N - 1 - r) c = true
  · by_cases h2 : pV D set k t th r c n < dG D k t (D.N - 1 - r) n + pV D set k t th r (if t = 2 then c - 1 else c) (n + 1)
    · rw [if_pos ⟨h1, h2⟩]
      exact (if_pos (by rw [h1, decide_eq_true h2]; rfl)).symm
    · rw [if_neg (fun z => h2 z.2), if_neg (by rw [decide_eq_false h2]; simp)]
  · rw [if_neg (fun z => h1 z.1), if_neg (by rw [Bool.eq_false_iff.mpr h1]; simp)]
theorem pGo_t {D : HD} {set : Nat → Int} {k t th r c n : Nat} : pGo D set k t th r c n = true ↔ dM t set (D.N - 1 - r) c = true ∧ pV D set k t th r c n < pX D set k t th r c n := by
  unfold pGo
  rw [Bool.and_eq_true, decide_eq_true_iff]
theorem pV_b {D : HD} (hD : WFD D) (set : Nat → Int) {k t th : Nat} (hk : k < D.K) (ht : th = 1 ∨ th = 2) : ∀ r c n, r ≤ D.N → n + r ≤ 33 → 0 ≤ pV D set k t th r c n ∧ pV D set k t th r c n ≤ r * 999000 := by
  intro r
  induction r with
  | zero => intro c n _ _; exact ⟨Int.le_refl 0, by rw [pV_0]; simp⟩
  | succ r ih =>
    intro c n hr hn
    have h1 := ih c n (by omega) (by omega)
    have e : ((r + 1 : Nat) : Int) * 999000 = r * 999000 + 999000 := by rw [Int.natCast_add, Int.add_mul]; simp
    rw [pV_s, e]
    split
    · rename_i hg
      have hlt := (pGo_t.mp hg).2
      have h2 := ih (if t = 2 then c - 1 else c) (n + 1) (by omega) (by omega)
      have h3 := (dG_b hD (t := t) hk (e := D.N - 1 - r) (by omega) (n := n) (by omega)).2.2.2
      have h4 := (dC_b hD hk (e := D.N - 1 - r) (by omega) ht).2.2
      have hx : pX D set k t th r c n ≤ r * 999000 + 999000 := by unfold pX; omega
      have m := mul_b (a := pX D set k t th r c n - pV D set k t th r c n) (A := pX D set k t th r c n - pV D set k t th r c n) (B := 1000000) (by omega) (Int.le_refl _) h4.1 h4.2
      have d := div_b (b := 1000000) (A := pX D set k t th r c n - pV D set k t th r c n) (by decide) m.1 m.2
      omega
    · omega
theorem pX_b {D : HD} (hD : WFD D) (set : Nat → Int) {k t th : Nat} (hk : k < D.K) (ht : th = 1 ∨ th = 2) {r c n : Nat} (hr : r < D.N) (hn : n + r ≤ 32) : -999000 ≤ pX D set k t th r c n ∧ pX D set k t th r c n ≤ (r + 1) * 999000 := by
  have h2 := pV_b hD set (t := t) hk ht r (if t = 2 then c - 1 else c) (n + 1) (by omega) (by omega)
  have h3 := (dG_b hD (t := t) hk (e := D.N - 1 - r) (by omega) (n := n) (by omega)).2.2.2
  have e : ((r : Int) + 1) * 999000 = r * 999000 + 999000 := by rw [Int.add_mul]; simp
  unfold pX
  omega
/-- without a ten k counts for nothing -/
theorem pV_c {D : HD} {set : Nat → Int} {k t th : Nat} (ht : t ≠ 2) : ∀ r c n, pV D set k t th r c n = pV D set k t th r 0 n := by
  intro r
  induction r with
  | zero => intro c n; rfl
  | succ r ih =>
    intro c n
    rw [pV_s, pV_s]
    unfold pGo pX dM
    rw [if_neg ht, if_neg ht, if_neg ht, if_neg ht, ih c n, ih c (n + 1)]
theorem pGo_c {D : HD} {set : Nat → Int} {k t th : Nat} (ht : t ≠ 2) (r c n : Nat) : pGo D set k t th r c n = pGo D set k t th r 0 n := by
  unfold pGo pX dM
  rw [if_neg ht, if_neg ht, if_neg ht, if_neg ht, pV_c ht r c n, pV_c ht r c (n + 1)]
/-- a flow: of a billion what comes, evening by evening, by how many they have had -/
def fS (C : Nat → Int) (go : Nat → Nat → Bool) (hb : Int) : Nat → Nat → Int
  | 0, n => if n = 0 then 1000000000 else 0
  | e + 1, n => fS C go hb e n - (if go e n = true then fS C go hb e n * C e / 1000000 else fS C go hb e n * C e / 1000000 * hb / 1000) + (if n = 0 then 0 else if go e (n - 1) = true then fS C go hb e (n - 1) * C e / 1000000 else fS C go hb e (n - 1) * C e / 1000000 * hb / 1000)
def fC (C : Nat → Int) (go : Nat → Nat → Bool) (hb : Int) (e n : Nat) : Int := if go e n = true then fS C go hb e n * C e / 1000000 else fS C go hb e n * C e / 1000000 * hb / 1000
theorem fS_s (C : Nat → Int) (go : Nat → Nat → Bool) (hb : Int) (e n : Nat) : fS C go hb (e + 1) n = fS C go hb e n - fC C go hb e n + (if n = 0 then 0 else fC C go hb e (n - 1)) := rfl
/-- what comes on an evening, in vain, all -/
def fCome (C : Nat → Int) (go : Nat → Nat → Bool) (hb : Int) (e : Nat) : Int := zs (fC C go hb e) (e + 1)
def fSunk (C : Nat → Int) (go : Nat → Nat → Bool) (hb : Int) (e : Nat) : Int := zs (fun n => if go e n = true then 0 else fC C go hb e n) (e + 1)
theorem fS_out {C : Nat → Int} {go : Nat → Nat → Bool} {hb : Int} : ∀ e n, e < n → fS C go hb e n = 0 := by
  intro e
  induction e with
  | zero => intro n hn; show (if n = 0 then (1000000000 : Int) else 0) = 0; rw [if_neg (by omega)]
  | succ e ih =>
    intro n hn
    have h1 := ih n (by omega)
    have h2 := ih (n - 1) (by omega)
    rw [fS_s, if_neg (by omega)]
    unfold fC
    rw [h1, h2]
    simp
theorem fC_out {C : Nat → Int} {go : Nat → Nat → Bool} {hb : Int} {e n : Nat} (h : fS C go hb e n = 0) : fC C go hb e n = 0 := by
  unfold fC
  rw [h]
  simp
/-- the premises of a flow -/
def fOk (N : Nat) (C : Nat → Int) (hb : Int) : Prop := (∀ e, e < N → 0 ≤ C e ∧ C e ≤ 1000000) ∧ 0 ≤ hb ∧ hb ≤ 1000
theorem fC_b {N : Nat} {C : Nat → Int} {go : Nat → Nat → Bool} {hb : Int} (hf : fOk N C hb) {e n : Nat} (he : e < N) (h : 0 ≤ fS C go hb e n ∧ fS C go hb e n ≤ 1000000000) : (0 ≤ fS C go hb e n * C e ∧ fS C go hb e n * C e ≤ 1000000000000000) ∧ (0 ≤ fS C go hb e n * C e / 1000000 ∧ fS C go hb e n * C e / 1000000 ≤ fS C go hb e n) ∧ (0 ≤ fS C go hb e n * C e / 1000000 * hb ∧ fS C go hb e n * C e / 1000000 * hb ≤ 1000000000000) ∧ 0 ≤ fC C go hb e n ∧ fC C go hb e n ≤ fS C go hb e n := by
  have hc := hf.1 e he
  have m1 := mul_b (A := 1000000000) (B := 1000000) h.1 h.2 hc.1 hc.2
  have m2 := mul_b (a := fS C go hb e n) (A := fS C go hb e n) (B := 1000000) h.1 (Int.le_refl _) hc.1 hc.2
  have d1 := div_b (b := 1000000) (by decide) m2.1 m2.2
  have m3 := mul_b (A := 1000000000) (B := 1000) d1.1 (Int.le_trans d1.2 h.2) hf.2.1 hf.2.2
  have m4 := mul_b (A := fS C go hb e n * C e / 1000000) (B := 1000) d1.1 (Int.le_refl _) hf.2.1 hf.2.2
  have d2 := div_b (b := 1000) (by decide) m4.1 m4.2
  refine ⟨⟨m1.1, by omega⟩, d1, ⟨m3.1, by omega⟩, ?_⟩
  unfold fC
  split <;> omega
theorem zs_shift (f : Nat → Int) (m : Nat) : zs (fun n => if n = 0 then 0 else f (n - 1)) (m + 1) = zs f m := by
  induction m with
  | zero => rfl
  | succ m ih =>
    rw [zs_s, ih, zs_s, if_neg (by omega)]
    rfl
theorem zs_neg (f : Nat → Int) (n : Nat) : zs (fun i => - f i) n = - zs f n := by
  induction n with
  | zero => rfl
  | succ n ih => rw [zs_s, ih, zs_s]; omega
/-- none gets lost -/
theorem fS_sum {C : Nat → Int} {go : Nat → Nat → Bool} {hb : Int} : ∀ e, zs (fS C go hb e) (e + 1) = 1000000000 := by
  intro e
  induction e with
  | zero => rfl
  | succ e ih =>
    have h1 : zs (fS C go hb (e + 1)) (e + 1 + 1) = zs (fS C go hb e) (e + 1 + 1) - zs (fC C go hb e) (e + 1 + 1) + zs (fC C go hb e) (e + 1) := by
      rw [← zs_shift (fC C go hb e) (e + 1)]
      have : ∀ m, zs (fS C go hb (e + 1)) m = zs (fS C go hb e) m - zs (fC C go hb e) m + zs (fun n => if n = 0 then 0 else fC C go hb e (n - 1)) m := by
        intro m
        induction m with
        | zero => rfl
        | succ m ihm => rw [zs_s, zs_s, zs_s, zs_s, ihm, fS_s]; omega
      exact this _
    have h2 : fS C go hb e (e + 1) = 0 := fS_out e (e + 1) (by omega)
    have h3 : fC C go hb e (e + 1) = 0 := fC_out h2
    rw [h1, zs_s (fS C go hb e) (e + 1), zs_s (fC C go hb e) (e + 1), h2, h3, ih]
    omega
theorem fS_b {N : Nat} {C : Nat → Int} {go : Nat → Nat → Bool} {hb : Int} (hf : fOk N C hb) : ∀ e, e ≤ N → ∀ n, 0 ≤ fS C go hb e n ∧ fS C go hb e n ≤ 1000000000 := by
  intro e
  induction e with
  | zero => intro _ n; show 0 ≤ (if n = 0 then (1000000000 : Int) else 0) ∧ (if n = 0 then (1000000000 : Int) else 0) ≤ 1000000000; split <;> omega
  | succ e ih =>
    intro he
    have nn : ∀ n, 0 ≤ fS C go hb (e + 1) n := by
      intro n
      have h1 := fC_b (go := go) hf (by omega : e < N) (ih (by omega) n)
      have h2 := fC_b (go := go) hf (by omega : e < N) (ih (by omega) (n - 1))
      rw [fS_s]
      split <;> omega
    intro n
    refine ⟨nn n, ?_⟩
    rcases Nat.lt_or_ge n (e + 1 + 1) with q | q
    · have s := fS_sum (C := C) (go := go) (hb := hb) (e + 1)
      have m := zs_mono (f := fS C go hb (e + 1)) (m := n + 1) (n := e + 1 + 1) (by omega) (fun i _ _ => nn i)
      rw [s, zs_s] at m
      have := zs_nn (f := fS C go hb (e + 1)) (n := n) (fun i _ => nn i)
      omega
    · rw [fS_out (e + 1) n (by omega)]; decide
theorem zs_le2 {f g : Nat → Int} {n : Nat} (h : ∀ i, i < n → f i ≤ g i) : zs f n ≤ zs g n := by
  induction n with
  | zero => exact Int.le_refl _
  | succ n ih =>
    rw [zs_s, zs_s]
    have := ih (fun i hi => h i (by omega))
    have := h n (by omega)
    omega
theorem fCome_b {N : Nat} {C : Nat → Int} {go : Nat → Nat → Bool} {hb : Int} (hf : fOk N C hb) {e : Nat} (he : e < N) : 0 ≤ fCome C go hb e ∧ fCome C go hb e ≤ 1000000000 := by
  have hb' := fun n => fC_b (go := go) hf he (fS_b (go := go) hf e (by omega) n)
  refine ⟨zs_nn (fun i _ => (hb' i).2.2.2.1), ?_⟩
  have := zs_le2 (f := fC C go hb e) (g := fS C go hb e) (n := e + 1) (fun i _ => (hb' i).2.2.2.2)
  rw [fS_sum] at this
  exact this
theorem fSunk_b {N : Nat} {C : Nat → Int} {go : Nat → Nat → Bool} {hb : Int} (hf : fOk N C hb) {e : Nat} (he : e < N) : 0 ≤ fSunk C go hb e ∧ fSunk C go hb e ≤ 1000000000 := by
  have hb' := fun n => fC_b (go := go) hf he (fS_b (go := go) hf e (by omega) n)
  refine ⟨zs_nn (fun i _ => by split; exact Int.le_refl 0; exact (hb' i).2.2.2.1), ?_⟩
  have := zs_le2 (f := fun n => if go e n = true then 0 else fC C go hb e n) (g := fC C go hb e) (n := e + 1) (fun i _ => by split; exact (hb' i).2.2.2.1; exact Int.le_refl _)
  have := (fCome_b (go := go) hf he).2
  unfold fCome at this
  unfold fSunk
  omega
