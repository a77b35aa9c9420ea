/-! 53.read: where both halves hold a hall's numbers, and what is read of them -/
def CHs (D : HD) (T : Nat) (h : AH) : Prop := gI h T 0 = zi D.ch ∧ gI h T 1 = zi D.co ∧ gI h T 2 = zi D.N ∧ gI h T 3 = zi D.K ∧ gI h T 4 = zi D.R ∧ gI h T 5 = zi D.ten
def CHr (D : HD) (T : Nat) (h : AH) : Prop := (∀ e w, e < D.N → w < 3 → gI h (T + 1) (3 * e + w) = zi (D.E e w)) ∧ (∀ e, e < D.N → gI h (T + 2) e = zi (D.E e 3)) ∧ (∀ k w, k < D.K → w < 11 → gI h (T + 3) (11 * k + w) = zi (D.Q k w)) ∧ (∀ k, k < D.K → gI h (T + 4) k = zi (D.Q k 0)) ∧ (∀ r, r < D.R → gI h (T + 5) r = zi (D.S r 0) ∧ gI h (T + 6) r = zi (D.S r 1)) ∧ (∀ t, t < 5 → gI h (T + 7) t = zi (D.P t))
/-- the class's half holds D at T -/
def CH (D : HD) (T : Nat) (h : AH) : Prop := CHs D T h ∧ CHr D T h
theorem CH.fr {D : HD} {T : Nat} {h h' : AH} {S : Nat → Nat → Prop} (x : CH D T h) (f : Fr S h h') (n : ∀ a k, T ≤ a → a ≤ T + 7 → ¬ S a k) : CH D T h' := by
  obtain ⟨⟨a0, a1, a2, a3, a4, a5⟩, b1, b2, b3, b4, b5, b7⟩ := x
  have g : ∀ a k, T ≤ a → a ≤ T + 7 → gI h' a k = gI h a k := fun a k u v => f.i (n a k u v)
  refine ⟨⟨?_, ?_, ?_, ?_, ?_, ?_⟩, ?_, ?_, ?_, ?_, ?_, ?_⟩
  · rw [g _ _ (by omega) (by omega)]; exact a0
  · rw [g _ _ (by omega) (by omega)]; exact a1
  · rw [g _ _ (by omega) (by omega)]; exact a2
  · rw [g _ _ (by omega) (by omega)]; exact a3
  · rw [g _ _ (by omega) (by omega)]; exact a4
  · rw [g _ _ (by omega) (by omega)]; exact a5
  · intro e w he hw; rw [g _ _ (by omega) (by omega)]; exact b1 e w he hw
  · intro e he; rw [g _ _ (by omega) (by omega)]; exact b2 e he
  · intro k w hk hw; rw [g _ _ (by omega) (by omega)]; exact b3 k w hk hw
  · intro k hk; rw [g _ _ (by omega) (by omega)]; exact b4 k hk
  · intro r hr; rw [g _ _ (by omega) (by omega), g _ _ (by omega) (by omega)]; exact b5 r hr
  · intro t ht; rw [g _ _ (by omega) (by omega)]; exact b7 t ht
def RHs (D : HD) (h : AH) : Prop := gI h 240 1 = zi D.ch ∧ gI h 240 2 = zi D.co ∧ gI h 240 3 = zi D.N ∧ gI h 240 4 = zi D.K ∧ gI h 240 5 = zi D.R ∧ gI h 240 6 = zi D.ten
def RHr (D : HD) (h : AH) : Prop := (∀ e w, e < D.N → w < 4 → gI h 241 (4 * e + w) = zi (D.E e w)) ∧ (∀ k w, k < D.K → w < 11 → gI h 242 (11 * k + w) = zi (D.Q k w)) ∧ (∀ r w, r < D.R → w < 2 → gI h 243 (2 * r + w) = zi (D.S r w)) ∧ (∀ t, t < 5 → gI h 244 t = zi (D.P t))
/-- the reference's half holds D -/
def RH (D : HD) (h : AH) : Prop := RHs D h ∧ RHr D h
theorem RH.fr {D : HD} {h h' : AH} {S : Nat → Nat → Prop} (x : RH D h) (f : Fr S h h') (n : ∀ a k, (a = 240 ∧ 1 ≤ k ∧ k ≤ 6) ∨ (241 ≤ a ∧ a ≤ 244) → ¬ S a k) : RH D h' := by
  obtain ⟨⟨a0, a1, a2, a3, a4, a5⟩, b1, b2, b3, b4⟩ := x
  have g : ∀ a k, (a = 240 ∧ 1 ≤ k ∧ k ≤ 6) ∨ (241 ≤ a ∧ a ≤ 244) → gI h' a k = gI h a k := fun a k u => f.i (n a k u)
  refine ⟨⟨?_, ?_, ?_, ?_, ?_, ?_⟩, ?_, ?_, ?_, ?_⟩
  · rw [g _ _ (by omega)]; exact a0
  · rw [g _ _ (by omega)]; exact a1
  · rw [g _ _ (by omega)]; exact a2
  · rw [g _ _ (by omega)]; exact a3
  · rw [g _ _ (by omega)]; exact a4
  · rw [g _ _ (by omega)]; exact a5
  · intro e w he hw; rw [g _ _ (by omega)]; exact b1 e w he hw
  · intro e w he hw; rw [g _ _ (by omega)]; exact b2 e w he hw
  · intro e w he hw; rw [g _ _ (by omega)]; exact b3 e w he hw
  · intro t ht; rw [g _ _ (by omega)]; exact b4 t ht
section
variable {D : HD} {T : Nat} {h : AH}
theorem c_ofE (hD : WFD D) (hT : TL T) (x : CH D T h) {e w : Nat} {a b : Int32} (ha : a = zi e) (hb : b = zi w) (he : e < D.N) (hw : w < 3) : s_X8_ofEvening T a b h = some (zi (D.E e w)) := by
  have := hD.N16
  subst ha hb
  unfold s_X8_ofEvening
  rw [if_pos hT.l0, at_ok (3 * e + w) hT.l1 (by first | (simp only [zi_lit, zi_neg, zi_add, zi_sub, zi_mul, zl_lit, zl_neg, zl_add, zl_sub, zl_mul, zl_i]; exact congrArg zi (by omega)) | (simp only [zi_lit, zi_neg, zi_add, zi_sub, zi_mul, zl_lit, zl_neg, zl_add, zl_sub, zl_mul, zl_i]; done) | exact congrArg zi (by omega)) (by omega), bd_v, x.2.1 e w he hw]
theorem c_ofQ (hD : WFD D) (hT : TL T) (x : CH D T h) {k w : Nat} {a b : Int32} (ha : a = zi k) (hb : b = zi w) (hk : k < D.K) (hw : w < 11) : s_X8_ofKind T a b h = some (zi (D.Q k w)) := by
  have := hD.K6
  subst ha hb
  unfold s_X8_ofKind
  rw [if_pos hT.l0, at_ok (11 * k + w) hT.l3 (by first | (simp only [zi_lit, zi_neg, zi_add, zi_sub, zi_mul, zl_lit, zl_neg, zl_add, zl_sub, zl_mul, zl_i]; exact congrArg zi (by omega)) | (simp only [zi_lit, zi_neg, zi_add, zi_sub, zi_mul, zl_lit, zl_neg, zl_add, zl_sub, zl_mul, zl_i]; done) | exact congrArg zi (by omega)) (by omega), bd_v, x.2.2.2.1 k w hk hw]
theorem c_many (hD : WFD D) (hT : TL T) (x : CH D T h) {k : Nat} {a : Int32} (ha : a = zi k) (hk : k < D.K) : s_X9_at (some (T + 4)) a h = some (zi (D.Q k 0)) := by
  have := hD.K6
  rw [at_ok k hT.l4 ha (by omega), x.2.2.2.2.1 k hk]
theorem c_set (hD : WFD D) (hT : TL T) (x : CH D T h) {e : Nat} {a : Int32} (ha : a = zi e) (he : e < D.N) : s_X9_at (some (T + 2)) a h = some (zi (D.E e 3)) := by
  have := hD.N16
  rw [at_ok e hT.l2 ha (by omega), x.2.2.1 e he]
theorem c_price (hT : TL T) (x : CH D T h) {t : Nat} {a : Int32} (ha : a = zi t) (ht : t < 5) : s_X9_at (some (T + 7)) a h = some (zi (D.P t)) := by
  rw [at_ok t hT.l7 ha (by omega), x.2.2.2.2.2.2 t ht]
theorem c_seats (hD : WFD D) (hT : TL T) (x : CH D T h) {r : Nat} {a : Int32} (ha : a = zi r) (hr : r < D.R) : s_X9_at (some (T + 5)) a h = some (zi (D.S r 0)) := by
  have := hD.R4
  rw [at_ok r hT.l5 ha (by omega), (x.2.2.2.2.2.1 r hr).1]
theorem c_adds (hD : WFD D) (hT : TL T) (x : CH D T h) {r : Nat} {a : Int32} (ha : a = zi r) (hr : r < D.R) : s_X9_at (some (T + 6)) a h = some (zi (D.S r 1)) := by
  have := hD.R4
  rw [at_ok r hT.l6 ha (by omega), (x.2.2.2.2.2.1 r hr).2]
theorem c_young (hD : WFD D) (hT : TL T) (x : CH D T h) {k : Nat} {a : Int32} (ha : a = zi k) (hk : k < D.K) : s_X8_isYoung T a h = some (if D.Q k 10 = 1 then 1 else 0) := by
  have hq := (hD.q k hk).2.2.2.2.2.2.2
  unfold s_X8_isYoung
  rw [if_pos hT.l0, c_ofQ hD hT x (k := k) (w := 10) ha ((show (10 : Int32) = zi 10 from zi_lit 10)) hk (by decide), bd_v]
  rcases hq with q | q
  · rw [q, if_neg (by decide), if_neg (by decide)]
  · rw [q, if_pos (by decide), if_pos rfl]
theorem c_likely (hD : WFD D) (hT : TL T) (x : CH D T h) {k e th : Nat} {a b c : Int32} (ha : a = zi k) (hb : b = zi e) (hk : k < D.K) (he : e < D.N) (hc : (th = 1 ∧ c = 0) ∨ (th = 2 ∧ c = 1)) : s_X8_likely T a b c h = some (zi (dC D k e th)) := by
  have key : ∀ w : Int32, w = zi th → (th = 1 ∨ th = 2) → j_X8_likely_11 T a b w a T h = some (zi (dC D k e th)) := by
    intro w hw ht
    have d := dC_b hD hk he ht
    have e1 := hD.e e he
    have q1 := hD.q k hk
    unfold j_X8_likely_11
    rw [c_ofQ hD hT x ha hw hk (by omega), bd_v, c_ofE hD hT x (w := 2) hb ((show (2 : Int32) = zi 2 from zi_lit 2)) he (by decide), bd_v, c_ofQ hD hT x (w := 3) ha ((show (3 : Int32) = zi 3 from zi_lit 3)) hk (by decide), bd_v]
    have hqr : 0 ≤ D.Q k th ∧ D.Q k th ≤ 1000 := by
      rcases ht with rfl | rfl
      · exact q1.2.1
      · exact q1.2.2.1
    rw [zi_l (by omega) (by omega), zi_l (by omega) (by omega), zi_l (by omega) (by omega), ldivF_ok (a := D.Q k th * (1000000 - D.E e 2 * D.Q k 3)) (b := 1000) (by first | (simp only [zi_lit, zi_neg, zi_add, zi_sub, zi_mul, zl_lit, zl_neg, zl_add, zl_sub, zl_mul, zl_i]; exact congrArg zl (by omega)) | (simp only [zi_lit, zi_neg, zi_add, zi_sub, zi_mul, zl_lit, zl_neg, zl_add, zl_sub, zl_mul, zl_i]; done) | exact congrArg zl (by omega)) ((show (1000 : Int64) = zl 1000 from zl_lit 1000)) (by omega) (by omega) (by omega) (by omega), bd_v, zl_i]
    rfl
  unfold s_X8_likely
  rw [if_pos hT.l0]
  rcases hc with ⟨rfl, rfl⟩ | ⟨rfl, rfl⟩
  · rw [if_pos rfl]; exact key 1 rfl (Or.inl rfl)
  · rw [if_neg (by decide)]; exact key 2 rfl (Or.inr rfl)
theorem r_of (hD : WFD D) (x : RH D h) {k w : Nat} {a b : Int32} (ha : a = zi k) (hb : b = zi w) (hk : k < D.K) (hw : w < 11) : s_X10_of a b h = some (zi (D.Q k w)) := by
  have := hD.K6
  subst ha hb
  unfold s_X10_of
  rw [ldI_ok (11 * k + w) (n := 66) rfl (by first | (simp only [zi_lit, zi_neg, zi_add, zi_sub, zi_mul, zl_lit, zl_neg, zl_add, zl_sub, zl_mul, zl_i]; exact congrArg zi (by omega)) | (simp only [zi_lit, zi_neg, zi_add, zi_sub, zi_mul, zl_lit, zl_neg, zl_add, zl_sub, zl_mul, zl_i]; done) | exact congrArg zi (by omega)) (by omega), bd_v, x.2.2.1 k w hk hw]
theorem r_E (hD : WFD D) (x : RH D h) {a : Int32} (e w : Nat) (ha : a = zi (4 * e + w : Nat)) (he : e < D.N) (hw : w < 4) : ldI h 241 a = some (zi (D.E e w)) := by
  have := hD.N16
  rw [ldI_ok (4 * e + w) (n := 64) rfl ha (by omega), x.2.1 e w he hw]
theorem r_P (x : RH D h) {t : Nat} {a : Int32} (ha : a = zi t) (ht : t < 5) : ldI h 244 a = some (zi (D.P t)) := by
  rw [ldI_ok t (n := 5) rfl ha (by omega), x.2.2.2.2 t ht]
theorem r_chance (hD : WFD D) (x : RH D h) {k e th : Nat} {a b c : Int32} (ha : a = zi k) (hb : b = zi e) (hk : k < D.K) (he : e < D.N) (hc : (th = 1 ∧ c = 0) ∨ (th = 2 ∧ c = 1)) : s_X10_chanceOf a b c h = some (zl (dC D k e th)) := by
  have key : ∀ w : Int32, w = zi th → (th = 1 ∨ th = 2) → j_X10_chanceOf_11 a b w a h = some (zl (dC D k e th)) := by
    intro w hw ht
    have d := dC_b hD hk he ht
    have e1 := hD.e e he
    have q1 := hD.q k hk
    unfold j_X10_chanceOf_11
    rw [r_of hD x ha hw hk (by omega), bd_v, r_E hD x e 2 (by rw [hb]; exact (by first | (simp only [zi_lit, zi_neg, zi_add, zi_sub, zi_mul, zl_lit, zl_neg, zl_add, zl_sub, zl_mul, zl_i]; exact congrArg zi (by omega)) | (simp only [zi_lit, zi_neg, zi_add, zi_sub, zi_mul, zl_lit, zl_neg, zl_add, zl_sub, zl_mul, zl_i]; done) | exact congrArg zi (by omega))) he (by decide), bd_v, r_of hD x (w := 3) ha ((show (3 : Int32) = zi 3 from zi_lit 3)) hk (by decide), bd_v]
    have hqr : 0 ≤ D.Q k th ∧ D.Q k th ≤ 1000 := by
      rcases ht with rfl | rfl
      · exact q1.2.1
      · exact q1.2.2.1
    rw [zi_l (by omega) (by omega), zi_l (by omega) (by omega), zi_l (by omega) (by omega), ldivF_ok (a := D.Q k th * (1000000 - D.E e 2 * D.Q k 3)) (b := 1000) (by first | (simp only [zi_lit, zi_neg, zi_add, zi_sub, zi_mul, zl_lit, zl_neg, zl_add, zl_sub, zl_mul, zl_i]; exact congrArg zl (by omega)) | (simp only [zi_lit, zi_neg, zi_add, zi_sub, zi_mul, zl_lit, zl_neg, zl_add, zl_sub, zl_mul, zl_i]; done) | exact congrArg zl (by omega)) ((show (1000 : Int64) = zl 1000 from zl_lit 1000)) (by omega) (by omega) (by omega) (by omega), bd_v]
    rfl
  unfold s_X10_chanceOf
  rcases hc with ⟨rfl, rfl⟩ | ⟨rfl, rfl⟩
  · rw [if_pos rfl]; exact key 1 rfl (Or.inl rfl)
  · rw [if_neg (by decide)]; exact key 2 rfl (Or.inr rfl)
end
