/-! 83.rank: the rows by what they add: the class counts who stands ahead, the reference puts one behind the other -/
/-- how many rows below n stand ahead of the row i -/
def plc (lt : Nat → Nat → Bool) (i : Nat) : Nat → Nat
  | 0 => 0
  | o + 1 => plc lt i o + (if (o < i ∧ lt o i = false) ∨ (i < o ∧ lt i o = true) then 1 else 0)
theorem plc_s (lt : Nat → Nat → Bool) (i o : Nat) : plc lt i (o + 1) = plc lt i o + (if (o < i ∧ lt o i = false) ∨ (i < o ∧ lt i o = true) then 1 else 0) := rfl
theorem plc_le (lt : Nat → Nat → Bool) (i : Nat) : ∀ o, plc lt i o ≤ o := by
  intro o
  induction o with
  | zero => exact Nat.le_refl _
  | succ o ih => rw [plc_s]; split <;> omega
/-- where the row r goes among the k first that stand in b -/
def kkp (lt : Nat → Nat → Bool) (b : Nat → Nat) (r : Nat) : Nat → Nat
  | 0 => 0
  | k + 1 => if lt (b k) r = true then kkp lt b r k else k + 1
theorem kkp_s (lt : Nat → Nat → Bool) (b : Nat → Nat) (r k : Nat) : kkp lt b r (k + 1) = if lt (b k) r = true then kkp lt b r k else k + 1 := rfl
theorem kkp_le (lt : Nat → Nat → Bool) (b : Nat → Nat) (r : Nat) : ∀ k, kkp lt b r k ≤ k := by
  intro k
  induction k with
  | zero => exact Nat.le_refl _
  | succ k ih => rw [kkp_s]; split <;> omega
def insr (lt : Nat → Nat → Bool) (b : Nat → Nat) (r : Nat) : Nat → Nat := fun j => if j < kkp lt b r r then b j else if j = kkp lt b r r then r else b (j - 1)
def srt (lt : Nat → Nat → Bool) : Nat → Nat → Nat
  | 0 => fun j => j
  | r + 1 => insr lt (srt lt r) r
theorem srt_s (lt : Nat → Nat → Bool) (r : Nat) : srt lt (r + 1) = insr lt (srt lt r) r := rfl
def tb6 (a b c d e f : Bool) (x y : Nat) : Bool := if x = 0 then (if y = 1 then a else if y = 2 then b else c) else if x = 1 then (if y = 2 then d else e) else f
theorem srt_all : ∀ a b c d e f : Bool, ((a = true → d = true → b = true) ∧ (a = false → d = false → b = false)) ∧ ((a = true → e = true → c = true) ∧ (a = false → e = false → c = false)) ∧ ((b = true → f = true → c = true) ∧ (b = false → f = false → c = false)) ∧ ((d = true → f = true → e = true) ∧ (d = false → f = false → e = false)) → ∀ R, R < 5 → ∀ j, j < R → srt (tb6 a b c d e f) R j < R ∧ plc (tb6 a b c d e f) j R < R ∧ plc (tb6 a b c d e f) (srt (tb6 a b c d e f) R j) R = j ∧ srt (tb6 a b c d e f) R (plc (tb6 a b c d e f) j R) = j := by
  intro a b c d e f
  cases a <;> cases b <;> cases c <;> cases d <;> cases e <;> cases f <;> decide +kernel
theorem kkp_c {lt lu : Nat → Nat → Bool} {b c : Nat → Nat} {r : Nat} (h : ∀ x, x < r → lt x r = lu x r) : ∀ k, (∀ j, j < k → b j = c j ∧ c j < r) → kkp lt b r k = kkp lu c r k := by
  intro k
  induction k with
  | zero => intro _; rfl
  | succ k ih =>
    intro q
    have q1 := q k (by omega)
    rw [kkp_s, kkp_s, q1.1, h _ q1.2, ih (fun j hj => q j (by omega))]
theorem srt_c {lt lu : Nat → Nat → Bool} {R : Nat} (h : ∀ x y, x < y → y < R → lt x y = lu x y) : ∀ r, r ≤ R → ∀ j, j < r → srt lt r j = srt lu r j ∧ srt lu r j < r := by
  intro r
  induction r with
  | zero => intro _ j hj; omega
  | succ r ih =>
    intro hr j hj
    have ih' := ih (by omega)
    have e := kkp_c (lt := lt) (lu := lu) (b := srt lt r) (c := srt lu r) (r := r) (fun x hx => h x r hx (by omega)) r ih'
    have l := kkp_le lu (srt lu r) r r
    rw [srt_s, srt_s]
    unfold insr
    rw [e]
    by_cases q1 : j < kkp lu (srt lu r) r r
    · rw [if_pos q1, if_pos q1]
      have := ih' j (by omega)
      exact ⟨this.1, by omega⟩
    · rw [if_neg q1, if_neg q1]
      by_cases q2 : j = kkp lu (srt lu r) r r
      · rw [if_pos q2, if_pos q2]
        exact ⟨rfl, by omega⟩
      · rw [if_neg q2, if_neg q2]
        have := ih' (j - 1) (by omega)
        exact ⟨this.1, by omega⟩
theorem plc_c {lt lu : Nat → Nat → Bool} {R i : Nat} (h : ∀ x y, x < y → y < R → lt x y = lu x y) (hi : i < R) : ∀ o, o ≤ R → plc lt i o = plc lu i o := by
  intro o
  induction o with
  | zero => intro _; rfl
  | succ o ih =>
    intro ho
    rw [plc_s, plc_s, ih (by omega)]
    by_cases q1 : o < i
    · rw [h o i q1 hi]
      by_cases q3 : lu o i = false
      · rw [if_pos (Or.inl ⟨q1, q3⟩), if_pos (Or.inl ⟨q1, q3⟩)]
      · rw [if_neg (fun z => z.elim (fun z => q3 z.2) (fun z => by omega)), if_neg (fun z => z.elim (fun z => q3 z.2) (fun z => by omega))]
    · by_cases q2 : i < o
      · rw [h i o q2 (by omega)]
        by_cases q3 : lu i o = true
        · rw [if_pos (Or.inr ⟨q2, q3⟩), if_pos (Or.inr ⟨q2, q3⟩)]
        · rw [if_neg (fun z => z.elim (fun z => by omega) (fun z => q3 z.2)), if_neg (fun z => z.elim (fun z => by omega) (fun z => q3 z.2))]
      · rw [if_neg (by omega), if_neg (by omega)]
def ltA (A : Nat → Int) (x y : Nat) : Bool := decide (A x < A y)
theorem srt_ok (A : Nat → Int) {R : Nat} (hR : R ≤ 4) {j : Nat} (hj : j < R) : srt (ltA A) R j < R ∧ plc (ltA A) j R < R ∧ plc (ltA A) (srt (ltA A) R j) R = j ∧ srt (ltA A) R (plc (ltA A) j R) = j := by
  have h : ∀ x y, x < y → y < R → ltA A x y = tb6 (ltA A 0 1) (ltA A 0 2) (ltA A 0 3) (ltA A 1 2) (ltA A 1 3) (ltA A 2 3) x y := by
    intro x y hxy hy
    have c : (x = 0 ∧ (y = 1 ∨ y = 2 ∨ y = 3)) ∨ (x = 1 ∧ (y = 2 ∨ y = 3)) ∨ (x = 2 ∧ y = 3) := by omega
    rcases c with ⟨rfl, rfl | rfl | rfl⟩ | ⟨rfl, rfl | rfl⟩ | ⟨rfl, rfl⟩ <;> rfl
  have ok : ((ltA A 0 1 = true → ltA A 1 2 = true → ltA A 0 2 = true) ∧ (ltA A 0 1 = false → ltA A 1 2 = false → ltA A 0 2 = false)) ∧ ((ltA A 0 1 = true → ltA A 1 3 = true → ltA A 0 3 = true) ∧ (ltA A 0 1 = false → ltA A 1 3 = false → ltA A 0 3 = false)) ∧ ((ltA A 0 2 = true → ltA A 2 3 = true → ltA A 0 3 = true) ∧ (ltA A 0 2 = false → ltA A 2 3 = false → ltA A 0 3 = false)) ∧ ((ltA A 1 2 = true → ltA A 2 3 = true → ltA A 1 3 = true) ∧ (ltA A 1 2 = false → ltA A 2 3 = false → ltA A 1 3 = false)) := by
    unfold ltA
    simp only [decide_eq_true_eq, decide_eq_false_iff_not]
    omega
  have z := srt_all _ _ _ _ _ _ ok R (by omega)
  have sc := srt_c h R (Nat.le_refl _)
  have pc := fun i hi => plc_c (i := i) h hi R (Nat.le_refl _)
  have z1 := z j hj
  have s1 := sc j hj
  have e1 : srt (ltA A) R j < R := by rw [s1.1]; exact z1.1
  refine ⟨e1, ?_, ?_, ?_⟩
  · rw [pc j hj]; exact z1.2.1
  · rw [pc _ e1, s1.1]; exact z1.2.2.1
  · rw [pc j hj, (sc _ z1.2.1).1]; exact z1.2.2.2
/-- what stands at a place of a row, whatever the index -/
theorem at_any {h : AH} {a n : Nat} (hL : LAY a = (1, n)) (x : Int32) (hn : Nat.ble n 100000 = true := by rfl) : ∃ v, s_X9_at (some a) x h = some v := by
  have hn' := Nat.le_of_ble_eq_true hn
  obtain ⟨i, rfl, h1, h2⟩ := zi_of x
  by_cases q : i < 0
  · exact ⟨0, at_lo i rfl h1 q⟩
  · by_cases q2 : i < n
    · exact ⟨_, at_ok i.toNat hL (congrArg zi (by omega)) (by omega) hn⟩
    · exact ⟨0, at_hi i hL rfl (by omega) h2 hn⟩
abbrev dA (D : HD) : Nat → Int := fun r => D.S r 1
/-- the rows, dear ones ahead -/
abbrev dO (D : HD) : Nat → Nat := srt (ltA (dA D)) D.R
section
variable {D : HD} {T : Nat} {h : AH}
theorem c_rank15 (hD : WFD D) (hT : TL T) (x : CH D T h) {i : Nat} (hi : i < D.R) : lpH (l_X6_rankRows_15 T (zi i)) FU (0, 0) h = some (zi (plc (ltA (dA D)) i D.R), h) := by
  have hR := hD.R4
  refine lpH_for D.R (fun o => (zi (plc (ltA (dA D)) i o), zi o)) (by omega) rfl ?_ ?_
  · intro o ho
    have bi := (hD.s i hi).2
    have bo := (hD.s o ho).2
    unfold l_X6_rankRows_15
    dsimp only
    rw [x.1.2.2.2.2.1, if_neg (by rw [zi_le (by omega) (by omega) (by omega) (by omega)]; omega), c_adds hD hT x rfl ho, bd_v, c_adds hD hT x rfl hi, bd_v, zi_sub]
    have e1 : zi (o : Int) + 1 = zi ((o + 1 : Nat) : Int) := (by first | (simp only [zi_lit, zi_neg, zi_add, zi_sub, zi_mul, zl_lit, zl_neg, zl_add, zl_sub, zl_mul, zl_i]; exact congrArg zi (by omega)) | (simp only [zi_lit, zi_neg, zi_add, zi_sub, zi_mul, zl_lit, zl_neg, zl_add, zl_sub, zl_mul, zl_i]; done) | exact congrArg zi (by omega))
    have yes : (o < i ∧ ltA (dA D) o i = false) ∨ (i < o ∧ ltA (dA D) i o = true) → j_X6_rankRows_61_15 T (zi i) (zi o) (zi (plc (ltA (dA D)) i o)) h = some (.inl (zi (plc (ltA (dA D)) i (o + 1)), zi ((o + 1 : Nat) : Int)), h) := by
      intro q
      unfold j_X6_rankRows_61_15 j_X6_rankRows_66_15
      rw [plc_s, if_pos q, e1, show zi (plc (ltA (dA D)) i o : Int) + 1 = zi ((plc (ltA (dA D)) i o + 1 : Nat) : Int) from (by first | (simp only [zi_lit, zi_neg, zi_add, zi_sub, zi_mul, zl_lit, zl_neg, zl_add, zl_sub, zl_mul, zl_i]; exact congrArg zi (by omega)) | (simp only [zi_lit, zi_neg, zi_add, zi_sub, zi_mul, zl_lit, zl_neg, zl_add, zl_sub, zl_mul, zl_i]; done) | exact congrArg zi (by omega))]
    have no : ¬ ((o < i ∧ ltA (dA D) o i = false) ∨ (i < o ∧ ltA (dA D) i o = true)) → j_X6_rankRows_65_15 T (zi i) (zi o) (zi (plc (ltA (dA D)) i o)) h = some (.inl (zi (plc (ltA (dA D)) i (o + 1)), zi ((o + 1 : Nat) : Int)), h) := by
      intro q
      unfold j_X6_rankRows_65_15 j_X6_rankRows_66_15
      rw [plc_s, if_neg q, e1, show zi (plc (ltA (dA D)) i o : Int) + 0 = zi ((plc (ltA (dA D)) i o + 0 : Nat) : Int) from (by first | (simp only [zi_lit, zi_neg, zi_add, zi_sub, zi_mul, zl_lit, zl_neg, zl_add, zl_sub, zl_mul, zl_i]; exact congrArg zi (by omega)) | (simp only [zi_lit, zi_neg, zi_add, zi_sub, zi_mul, zl_lit, zl_neg, zl_add, zl_sub, zl_mul, zl_i]; done) | exact congrArg zi (by omega))]
    by_cases q1 : D.S i 1 < D.S o 1
    · rw [if_pos (by rw [(show (0 : Int32) = zi 0 from zi_lit 0), zi_lt (by omega) (by omega) (by omega) (by omega)]; omega)]
      refine yes ?_
      unfold ltA dA
      simp only [decide_eq_true_eq, decide_eq_false_iff_not]
      rcases Nat.lt_trichotomy o i with c | c | c
      · left; exact ⟨c, by omega⟩
      · subst c; omega
      · right; exact ⟨c, q1⟩
    · rw [if_neg (by rw [(show (0 : Int32) = zi 0 from zi_lit 0), zi_lt (by omega) (by omega) (by omega) (by omega)]; omega)]
      by_cases q2 : D.S o 1 = D.S i 1
      · rw [if_pos (by rw [(show (0 : Int32) = zi 0 from zi_lit 0), zi_eq (by omega) (by omega) (by omega) (by omega)]; omega)]
        by_cases q3 : i ≤ o
        · rw [if_pos (by rw [zi_le (by omega) (by omega) (by omega) (by omega)]; omega)]
          refine no ?_
          unfold ltA dA
          simp only [decide_eq_true_eq, decide_eq_false_iff_not]
          rintro (z | z)
          · omega
          · exact q1 z.2
        · rw [if_neg (by rw [zi_le (by omega) (by omega) (by omega) (by omega)]; omega)]
          refine yes ?_
          unfold ltA dA
          simp only [decide_eq_true_eq, decide_eq_false_iff_not]
          left
          exact ⟨by omega, by omega⟩
      · rw [if_neg (by rw [(show (0 : Int32) = zi 0 from zi_lit 0), zi_eq (by omega) (by omega) (by omega) (by omega)]; omega)]
        refine no ?_
        unfold ltA dA
        simp only [decide_eq_true_eq, decide_eq_false_iff_not]
        rintro (z | z)
        · omega
        · exact q1 z.2
  · unfold l_X6_rankRows_15
    dsimp only
    rw [x.1.2.2.2.2.1, if_pos (by rw [zi_le (by omega) (by omega) (by omega) (by omega)]; omega)]
/-- the ranks as the class keeps them -/
def CRk (D : HD) (h : AH) : Prop := ∀ j, j < D.R → gI h 223 j = zi (dO D j)
theorem c_rank (hD : WFD D) (hT : TL T) (x : CH D T h) : zw (s_X6_rankRows (some T) h) (fun r => Fr (fun a _ => a = 223) h r.2 ∧ CRk D r.2) := by
  have hR := hD.R4
  unfold s_X6_rankRows
  rw [bd_v, if_pos hT.l0]
  refine zw_bd (P := fun r => Fr (fun a _ => a = 223) h r.2 ∧ CRk D r.2) ?_ (fun y hy => zw_some hy)
  refine zw_for D.R (fun i => zi i) () (fun i h' => Fr (fun a _ => a = 223) h h' ∧ ∀ o, o < i → gI h' 223 (plc (ltA (dA D)) o D.R) = zi o) (by omega) rfl ⟨Fr.refl _ h, fun o ho => by omega⟩ ?_ ?_
  · rintro i h' hi ⟨hf, hv⟩
    have bT := hT.b
    have x' : CH D T h' := x.fr hf (fun a k h1 h2 => by omega)
    have p := srt_ok (dA D) hR hi
    unfold l_X6_rankRows_2
    refine zw_f (by rw [x'.1.2.2.2.2.1, zi_le (by omega) (by omega) (by omega) (by omega)]; omega) ?_
    refine zw_bd1 (c_rank15 hD hT x' hi) ?_
    refine zw_bd1 (put_ok (plc (ltA (dA D)) i D.R) (n := 4) rfl rfl (by omega)) ?_
    refine zw_some ⟨congrArg Sum.inl (by first | (simp only [zi_lit, zi_neg, zi_add, zi_sub, zi_mul, zl_lit, zl_neg, zl_add, zl_sub, zl_mul, zl_i]; exact congrArg zi (by omega)) | (simp only [zi_lit, zi_neg, zi_add, zi_sub, zi_mul, zl_lit, zl_neg, zl_add, zl_sub, zl_mul, zl_i]; done) | exact congrArg zi (by omega)), hf.sI rfl, fun o ho => ?_⟩
    show gI (sI h' 223 _ _) 223 _ = _
    rw [gI_sI]
    by_cases q : o = i
    · rw [q, if_pos ⟨rfl, rfl⟩]
    · have p2 := srt_ok (dA D) hR (j := o) (by omega)
      rw [if_neg (fun z => q (by rw [← p2.2.2.2, z.2, p.2.2.2]))]
      exact hv o (by omega)
  · rintro h' ⟨hf, hv⟩
    have bT := hT.b
    have x' : CH D T h' := x.fr hf (fun a k h1 h2 => by omega)
    unfold l_X6_rankRows_2
    refine zw_t (by rw [x'.1.2.2.2.2.1, zi_le (by omega) (by omega) (by omega) (by omega)]; omega) (zw_some ⟨rfl, hf, fun j hj => ?_⟩)
    have p := srt_ok (dA D) hR hj
    have := hv _ p.1
    rw [p.2.2.1] at this
    exact this
theorem r_rowS (hD : WFD D) (x : RH D h) {a : Int32} (r w : Nat) (ha : a = zi (2 * r + w : Nat)) (hr : r < D.R) (hw : w < 2) : ldI h 243 a = some (zi (D.S r w)) := by
  have := hD.R4
  rw [ldI_ok (2 * r + w) (n := 8) rfl ha (by omega), x.2.2.2.1 r w hr hw]
/-- the ranks as the reference keeps them -/
def RRk (D : HD) (h : AH) : Prop := ∀ j, j < D.R → gI h 267 j = zi (dO D j)
theorem r_ins {r : Nat} {b : Nat → Nat} (hD : WFD D) (x : RH D h) (hr : r < D.R) (hb : ∀ j, j < r → gI h 267 j = zi (b j) ∧ b j < r) : zw (lpH (l_X10_order_17 (zi r)) FU (zi r) h) (fun y => y.1 = zi (kkp (ltA (dA D)) b r r) ∧ Fr (fun a _ => a = 267) h y.2 ∧ (∀ j, j < kkp (ltA (dA D)) b r r → gI y.2 267 j = zi (b j)) ∧ ∀ j, kkp (ltA (dA D)) b r r < j → j ≤ r → gI y.2 267 j = zi (b (j - 1))) := by
  have hR := hD.R4
  refine zw_lp r (fun i s h' => i ≤ r ∧ s = zi ((r - i : Nat) : Int) ∧ Fr (fun a _ => a = 267) h h' ∧ kkp (ltA (dA D)) b r (r - i) = kkp (ltA (dA D)) b r r ∧ (∀ j, j < r - i → gI h' 267 j = zi (b j)) ∧ ∀ j, r - i < j → j ≤ r → gI h' 267 j = zi (b (j - 1))) (by omega) ⟨Nat.zero_le _, rfl, Fr.refl _ h, rfl, fun j hj => (hb j hj).1, fun j h1 h2 => by omega⟩ ?_
  rintro i s h' hi ⟨-, rfl, hf, hk, hlo, hhi⟩
  have x' : RH D h' := x.fr hf (fun a k q => by omega)
  unfold l_X10_order_17
  rcases Nat.lt_or_ge i r with q | q
  · have q1 := hb (r - i - 1) (by omega)
    have q2 := hlo (r - i - 1) (by omega)
    have s1 := (hD.s _ (show b (r - i - 1) < D.R by omega)).2
    have s2 := (hD.s r hr).2
    refine zw_f (by rw [(show (0 : Int32) = zi 0 from zi_lit 0), zi_le (by omega) (by omega) (by omega) (by omega)]; show ¬ ((r - i : Nat) : Int) ≤ 0; omega) ?_
    have ek : zi ((r - i : Nat) : Int) - 1 = zi ((r - i - 1 : Nat) : Int) := (by first | (simp only [zi_lit, zi_neg, zi_add, zi_sub, zi_mul, zl_lit, zl_neg, zl_add, zl_sub, zl_mul, zl_i]; exact congrArg zi (by omega)) | (simp only [zi_lit, zi_neg, zi_add, zi_sub, zi_mul, zl_lit, zl_neg, zl_add, zl_sub, zl_mul, zl_i]; done) | exact congrArg zi (by omega))
    refine zw_bd1 (ldI_ok (r - i - 1) (n := 4) rfl ek (by omega)) ?_
    rw [q2]
    refine zw_bd1 (r_rowS hD x' (b (r - i - 1)) 1 (by first | (simp only [zi_lit, zi_neg, zi_add, zi_sub, zi_mul, zl_lit, zl_neg, zl_add, zl_sub, zl_mul, zl_i]; exact congrArg zi (by omega)) | (simp only [zi_lit, zi_neg, zi_add, zi_sub, zi_mul, zl_lit, zl_neg, zl_add, zl_sub, zl_mul, zl_i]; done) | exact congrArg zi (by omega)) (by omega) (by decide)) ?_
    refine zw_bd1 (r_rowS hD x' r 1 (by first | (simp only [zi_lit, zi_neg, zi_add, zi_sub, zi_mul, zl_lit, zl_neg, zl_add, zl_sub, zl_mul, zl_i]; exact congrArg zi (by omega)) | (simp only [zi_lit, zi_neg, zi_add, zi_sub, zi_mul, zl_lit, zl_neg, zl_add, zl_sub, zl_mul, zl_i]; done) | exact congrArg zi (by omega)) hr (by decide)) ?_
    obtain ⟨k, hk'⟩ : ∃ k, r - i = k + 1 := ⟨r - i - 1, by omega⟩
    have ks := kkp_s (ltA (dA D)) b r k
    rw [hk'] at hk
    by_cases q3 : D.S r 1 ≤ D.S (b (r - i - 1)) 1
    · refine zw_t (by rw [zi_le (by omega) (by omega) (by omega) (by omega)]; exact q3) (zw_some (Or.inr ⟨_, rfl, ?_⟩))
      have e : kkp (ltA (dA D)) b r r = r - i := by
        rw [← hk, ks, if_neg]
        · exact hk'.symm
        · unfold ltA
          rw [decide_eq_true_iff, show k = r - i - 1 by omega]
          show ¬ D.S (b (r - i - 1)) 1 < D.S r 1
          omega
      rw [e]
      exact ⟨rfl, hf, hlo, hhi⟩
    · refine zw_f (by rw [zi_le (by omega) (by omega) (by omega) (by omega)]; exact q3) ?_
      refine zw_bd1 (ldI_ok (r - i - 1) (n := 4) rfl ek (by omega)) ?_
      refine zw_bd1 (stI_ok (r - i) (n := 4) rfl rfl (by omega)) ?_
      refine zw_some (Or.inl ⟨_, rfl, q, by omega, ?_, hf.sI rfl, ?_, fun j hj => ?_, fun j h1 h2 => ?_⟩)
      · show zi ((r - i : Nat) : Int) + -1 = _
        exact (by first | (simp only [zi_lit, zi_neg, zi_add, zi_sub, zi_mul, zl_lit, zl_neg, zl_add, zl_sub, zl_mul, zl_i]; exact congrArg zi (by omega)) | (simp only [zi_lit, zi_neg, zi_add, zi_sub, zi_mul, zl_lit, zl_neg, zl_add, zl_sub, zl_mul, zl_i]; done) | exact congrArg zi (by omega))
      · rw [← hk, ks, if_pos]
        · rw [show r - (i + 1) = k by omega]
        · unfold ltA
          rw [decide_eq_true_iff, show k = r - i - 1 by omega]
          show D.S (b (r - i - 1)) 1 < D.S r 1
          omega
      · show gI (sI h' 267 _ _) 267 j = _
        rw [gI_sI, if_neg (by omega)]
        exact hlo j (by omega)
      · show gI (sI h' 267 _ _) 267 j = _
        rw [gI_sI]
        by_cases q4 : j = r - i
        · rw [if_pos ⟨rfl, q4⟩, q4]
          exact q2
        · rw [if_neg (fun z => q4 z.2)]
          exact hhi j (by omega) h2
  · have e0 : r - i = 0 := by omega
    rw [e0] at hk hlo hhi ⊢
    refine zw_t (by rw [(show (0 : Int32) = zi 0 from zi_lit 0), zi_le (by omega) (by omega) (by omega) (by omega)]; show ((0 : Nat) : Int) ≤ 0; omega) (zw_some (Or.inr ⟨_, rfl, ?_⟩))
    rw [← hk]
    exact ⟨rfl, hf, hlo, hhi⟩
theorem r_rank (hD : WFD D) (x : RH D h) : zw (lpH l_X10_order_7 FU 0 h) (fun r => Fr (fun a _ => a = 267) h r.2 ∧ RRk D r.2) := by
  have hR := hD.R4
  have lt4 : ∀ r, r ≤ D.R → ∀ j, j < r → srt (ltA (dA D)) r j < r := fun r hr j hj => (srt_c (lt := ltA (dA D)) (lu := ltA (dA D)) (R := D.R) (fun _ _ _ _ => rfl) r hr j hj).2
  refine zw_for D.R (fun i => zi i) () (fun i h' => Fr (fun a _ => a = 267) h h' ∧ ∀ j, j < i → gI h' 267 j = zi (srt (ltA (dA D)) i j)) (by omega) rfl ⟨Fr.refl _ h, fun o ho => by omega⟩ ?_ ?_
  · rintro i h' hi ⟨hf, hv⟩
    have x' : RH D h' := x.fr hf (fun a k q => by omega)
    unfold l_X10_order_7
    refine zw_f (by rw [x'.1.2.2.2.2.1, zi_le (by omega) (by omega) (by omega) (by omega)]; omega) ?_
    refine zw_bd (r_ins hD x' hi (b := srt (ltA (dA D)) i) (fun j hj => ⟨hv j hj, lt4 i (by omega) j hj⟩)) ?_
    rintro ⟨s, g⟩ ⟨rfl, f1, l1, l2⟩
    dsimp only at f1 l1 l2 ⊢
    have kl := kkp_le (ltA (dA D)) (srt (ltA (dA D)) i) i i
    unfold j_X10_order_71_7
    refine zw_bd1 (stI_ok (kkp (ltA (dA D)) (srt (ltA (dA D)) i) i i) (n := 4) rfl rfl (by omega)) ?_
    refine zw_some ⟨congrArg Sum.inl (by first | (simp only [zi_lit, zi_neg, zi_add, zi_sub, zi_mul, zl_lit, zl_neg, zl_add, zl_sub, zl_mul, zl_i]; exact congrArg zi (by omega)) | (simp only [zi_lit, zi_neg, zi_add, zi_sub, zi_mul, zl_lit, zl_neg, zl_add, zl_sub, zl_mul, zl_i]; done) | exact congrArg zi (by omega)), (hf.trans f1).sI rfl, fun j hj => ?_⟩
    show gI (sI g 267 _ _) 267 j = _
    rw [gI_sI, srt_s]
    unfold insr
    by_cases q : j = kkp (ltA (dA D)) (srt (ltA (dA D)) i) i i
    · rw [if_pos ⟨rfl, q⟩, if_neg (by omega), if_pos q]
    · rw [if_neg (fun z => q z.2)]
      by_cases q2 : j < kkp (ltA (dA D)) (srt (ltA (dA D)) i) i i
      · rw [if_pos q2]
        exact l1 j q2
      · rw [if_neg q2, if_neg q]
        exact l2 j (by omega) (by omega)
  · rintro h' ⟨hf, hv⟩
    have x' : RH D h' := x.fr hf (fun a k q => by omega)
    unfold l_X10_order_7
    exact zw_t (by rw [x'.1.2.2.2.2.1, zi_le (by omega) (by omega) (by omega) (by omega)]; omega) (zw_some ⟨rfl, hf, hv⟩)
end
