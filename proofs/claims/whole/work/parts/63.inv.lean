/-! 63.inv: what holds between two calls -/
def dOff (D : HD) : Nat → Nat
  | 0 => 0
  | k + 1 => dOff D k + (D.Q k 0).toNat
theorem dOff_s (D : HD) (k : Nat) : dOff D (k + 1) = dOff D k + (D.Q k 0).toNat := rfl
def W60 (D : HD) : Prop := ∀ k, k < D.K → D.Q k 0 ≤ 60
theorem dOff_le {D : HD} (h6 : W60 D) : ∀ k, k ≤ D.K → dOff D k ≤ 60 * k := by
  intro k
  induction k with
  | zero => intro _; exact Nat.le_refl _
  | succ k ih =>
    intro hk
    have := ih (by omega)
    have := h6 k (by omega)
    rw [dOff_s]
    omega
theorem dOff_mono (D : HD) {i k : Nat} (h : i ≤ k) : dOff D i ≤ dOff D k := by
  induction k with
  | zero => have : i = 0 := by omega
            subst this; exact Nat.le_refl _
  | succ k ih =>
    rcases Nat.lt_or_ge i (k + 1) with q | q
    · have := ih (by omega)
      rw [dOff_s]
      omega
    · have : i = k + 1 := by omega
      subst this; exact Nat.le_refl _
/-- standing's numbers behind the kinds below k -/
def sD (D : HD) (e : Nat) : Nat → Nat → Int
  | 0 => Fz
  | k + 1 => nI2 (cf D k (dB D k) e / 1000) (D.Q k 0).toNat (sD D e k)
theorem nI2_s (q : Int) (n : Nat) (F : Nat → Int) : nI2 q (n + 1) F = nS q (nI2 q n F) := rfl
theorem nI2_b {q : Int} (hq : 0 ≤ q ∧ q ≤ 1000000) {m : Nat} {F : Nat → Int} (b : bF m F) : ∀ n, bF (m + n) (nI2 q n F) := by
  intro n
  induction n with
  | zero => exact b
  | succ n ih => exact nS_b hq ih
theorem cq_b {D : HD} (hD : WFD D) {k t e : Nat} (hk : k < D.K) (he : e < D.N) : 0 ≤ cf D k t e / 1000 ∧ cf D k t e / 1000 ≤ 1000000 := by
  have := cf_b hD (t := t) hk he
  omega
theorem sD_b {D : HD} (hD : WFD D) {e : Nat} (he : e < D.N) : ∀ k, k ≤ D.K → bF (dOff D k) (sD D e k) := by
  intro k
  induction k with
  | zero => intro _; exact bF_0
  | succ k ih => intro hk; exact nI2_b (cq_b hD (by omega) he) (ih (by omega)) _
/-- the most standing of m people of a kind with a year, of the evenings below e -/
def dWst (D : HD) (k m : Nat) : Nat → Int
  | 0 => 0
  | e + 1 => if dWst D k m e < abv (nI2 (cf D k 1 e / 1000) m Fz) D.ch (m + 1) then abv (nI2 (cf D k 1 e / 1000) m Fz) D.ch (m + 1) else dWst D k m e
theorem dWst_s (D : HD) (k m e : Nat) : dWst D k m (e + 1) = if dWst D k m e < abv (nI2 (cf D k 1 e / 1000) m Fz) D.ch (m + 1) then abv (nI2 (cf D k 1 e / 1000) m Fz) D.ch (m + 1) else dWst D k m e := rfl
theorem dWst_b {D : HD} (hD : WFD D) {k m : Nat} (hk : k < D.K) : ∀ e, e ≤ D.N → 0 ≤ dWst D k m e ∧ dWst D k m e ≤ 1000000000 := by
  intro e
  induction e with
  | zero => intro _; exact ⟨Int.le_refl 0, by show (0 : Int) ≤ _; decide⟩
  | succ e ih =>
    intro he
    have h1 := ih (by omega)
    have h2 := nI2_b (cq_b hD (t := 1) hk (by omega : e < D.N)) bF_0 m
    have h3 := abv_b h2 D.ch (m + 1)
    rw [dWst_s]
    split
    · exact h3
    · exact h1
def IVt (h : AH) : Prop := ∃ tl : Nat, tl ≤ 700 ∧ gI h 2 1 = zi tl ∧ gI h 240 12 = zi tl ∧ ∀ i, i < tl → ∃ b : Nat, b < 256 ∧ gI h 3 i = zi b ∧ gI h 245 i = zi b
theorem IVt.fr {h h' : AH} {S : Nat → Nat → Prop} (x : IVt h) (f : Fr S h h') (n : ∀ a k, (a = 2 ∧ k = 1) ∨ (a = 240 ∧ k = 12) ∨ a = 3 ∨ a = 245 → ¬ S a k) : IVt h' := by
  obtain ⟨tl, h1, h2, h3, h4⟩ := x
  refine ⟨tl, h1, (f.i (n _ _ (by omega))).trans h2, (f.i (n _ _ (by omega))).trans h3, fun i hi => ?_⟩
  obtain ⟨b, b1, b2, b3⟩ := h4 i hi
  exact ⟨b, b1, (f.i (n _ _ (by omega))).trans b2, (f.i (n _ _ (by omega))).trans b3⟩
def IVs (h : AH) : Prop := gI h 0 10 = gI h 240 14 ∧ gI h 0 11 = gI h 246 0 ∧ gI h 0 12 = gI h 246 1
theorem IVs.fr {h h' : AH} {S : Nat → Nat → Prop} (x : IVs h) (f : Fr S h h') (n : ∀ a k, (a = 0 ∧ (k = 10 ∨ k = 11 ∨ k = 12)) ∨ (a = 240 ∧ k = 14) ∨ a = 246 → ¬ S a k) : IVs h' := by
  obtain ⟨h1, h2, h3⟩ := x
  refine ⟨?_, ?_, ?_⟩
  · rw [f.i (n _ _ (by omega)), f.i (n _ _ (by omega))]; exact h1
  · rw [f.i (n _ _ (by omega)), f.i (n _ _ (by omega))]; exact h2
  · rw [f.i (n _ _ (by omega)), f.i (n _ _ (by omega))]; exact h3
def IVf1 (h : AH) : Prop := (gI h 215 4 = 0 ∧ gI h 240 45 = 0) ∨ (gI h 215 4 = 1 ∧ gI h 240 45 = 1 ∧ ∀ i, i < 5 → gL h 219 i = gL h 260 i)
def IVf2 (h : AH) : Prop := (gI h 215 5 = 0 ∧ gI h 240 48 = -1) ∨ (gI h 215 5 = 1 ∧ gI h 240 48 ≠ -1 ∧ gI h 215 6 = gI h 240 48 ∧ gI h 215 7 = gI h 240 49)
theorem IVf1.fr {h h' : AH} {S : Nat → Nat → Prop} (x : IVf1 h) (f : Fr S h h') (n : ∀ a k, (a = 215 ∧ k = 4) ∨ (a = 240 ∧ k = 45) ∨ a = 219 ∨ a = 260 → ¬ S a k) : IVf1 h' := by
  rcases x with ⟨h1, h2⟩ | ⟨h1, h2, h3⟩
  · exact Or.inl ⟨(f.i (n _ _ (by omega))).trans h1, (f.i (n _ _ (by omega))).trans h2⟩
  · exact Or.inr ⟨(f.i (n _ _ (by omega))).trans h1, (f.i (n _ _ (by omega))).trans h2, fun i hi => by rw [f.l (n _ _ (by omega)), f.l (n _ _ (by omega))]; exact h3 i hi⟩
theorem IVf2.fr {h h' : AH} {S : Nat → Nat → Prop} (x : IVf2 h) (f : Fr S h h') (n : ∀ a k, (a = 215 ∧ 5 ≤ k) ∨ (a = 240 ∧ (k = 48 ∨ k = 49)) → ¬ S a k) : IVf2 h' := by
  rcases x with ⟨h1, h2⟩ | ⟨h1, h2, h3, h4⟩
  · exact Or.inl ⟨(f.i (n _ _ (by omega))).trans h1, (f.i (n _ _ (by omega))).trans h2⟩
  · refine Or.inr ⟨(f.i (n _ _ (by omega))).trans h1, ?_, ?_, ?_⟩
    · rw [f.i (n _ _ (by omega))]; exact h2
    · rw [f.i (n _ _ (by omega)), f.i (n _ _ (by omega))]; exact h3
    · rw [f.i (n _ _ (by omega)), f.i (n _ _ (by omega))]; exact h4
def IVo (h : AH) : Prop := (gI h 220 0 = 0 ∧ gI h 240 53 = -1) ∨ (gI h 220 0 = 1 ∧ ∃ m : Nat, m ≤ 5 ∧ gI h 220 1 = zi m ∧ gI h 240 53 = zi m ∧ ∀ i, i < m → gI h 221 i = gI h 265 i)
theorem IVo.fr {h h' : AH} {S : Nat → Nat → Prop} (x : IVo h) (f : Fr S h h') (n : ∀ a k, (a = 220 ∧ k ≤ 1) ∨ (a = 240 ∧ k = 53) ∨ a = 221 ∨ a = 265 → ¬ S a k) : IVo h' := by
  rcases x with ⟨h1, h2⟩ | ⟨h1, m, h2, h3, h4, h5⟩
  · exact Or.inl ⟨(f.i (n _ _ (by omega))).trans h1, (f.i (n _ _ (by omega))).trans h2⟩
  · exact Or.inr ⟨(f.i (n _ _ (by omega))).trans h1, m, h2, (f.i (n _ _ (by omega))).trans h3, (f.i (n _ _ (by omega))).trans h4, fun i hi => by rw [f.i (n _ _ (by omega)), f.i (n _ _ (by omega))]; exact h5 i hi⟩
def IVc (D : HD) (h : AH) : Prop := ∀ k, k < D.K → (gI h 214 k = 0 ∧ ∀ m, 1 ≤ m → m ≤ 400 → gI h 213 (401 * k + m) = 0) ∨ (gI h 214 k = 1 ∧ ∀ m, 1 ≤ m → m ≤ 400 → gI h 213 (401 * k + m) = zi (dWst D k m D.N))
theorem IVc.fr {D : HD} {h h' : AH} {S : Nat → Nat → Prop} (x : IVc D h) (f : Fr S h h') (n : ∀ a k, a = 213 ∨ a = 214 → ¬ S a k) : IVc D h' := by
  intro k hk
  rcases x k hk with ⟨h1, h2⟩ | ⟨h1, h2⟩
  · exact Or.inl ⟨(f.i (n _ _ (by omega))).trans h1, fun m a b => (f.i (n _ _ (by omega))).trans (h2 m a b)⟩
  · exact Or.inr ⟨(f.i (n _ _ (by omega))).trans h1, fun m a b => (f.i (n _ _ (by omega))).trans (h2 m a b)⟩
/-- people in a run: k and n of each -/
def RPeo (D : HD) (a rl rh nx : Nat) (h : AH) : Prop := ∀ k i, k < D.K → i < (D.Q k 0).toNat → ∃ d : Nat, d ≤ nx ∧ (dB D k = 2 → (d : Int) ≤ D.ten) ∧ gI h (a + 1) (dOff D k + i) = zi d ∧ gI h rh (dOff D k + i) = zi d ∧ gI h rl (dOff D k + i) = zi (if dB D k = 2 then D.ten - d else 0)
/-- an evening that was gone through -/
def REve (D : HD) (a rs e : Nat) (h : AH) : Prop := ∃ cv : Nat → Int, (∀ k, k < 6 → gI h (a + 2) (6 * e + k) = zi (cv k) ∧ 0 ≤ cv k ∧ cv k ≤ 60 ∧ (D.K ≤ k → cv k = 0)) ∧ (∀ k, k < D.K → gI h rs (10 * e + 4 + k) = zi (cv k)) ∧ gI h rs (10 * e) = zi (zs cv 6) ∧ gI h rs (10 * e + 1) = zi (mz (zs cv 6 - D.ch)) ∧ gI h rs (10 * e + 2) = zi (zs (fun k => if dB D k = 0 then cv k else 0) D.K * D.E e 1) ∧ gI h rs (10 * e + 3) = gI h (a + 3) e
def RRun (D : HD) (a ra rl rh rs : Nat) (h : AH) : Prop := ∃ nx : Nat, nx ≤ D.N ∧ gI h a 1 = zi nx ∧ gI h ra 0 = zi nx ∧ gI h a 2 = gI h ra 1 ∧ RPeo D a rl rh nx h ∧ (∀ e, e < nx → REve D a rs e h) ∧ (∀ e k, e < 16 → D.K ≤ k → k < 6 → gI h (a + 2) (6 * e + k) = 0)
def RBoth (D : HD) (a f ra rl rh rs : Nat) (h : AH) : Prop := (gI h a 0 = 0 ∧ gI h 240 f = 0) ∨ (gI h a 0 = 1 ∧ gI h 240 f = 1 ∧ RRun D a ra rl rh rs h)
theorem RPeo.fr {D : HD} {a rl rh nx : Nat} {h h' : AH} {S : Nat → Nat → Prop} (x : RPeo D a rl rh nx h) (f : Fr S h h') (n : ∀ b k, b = a + 1 ∨ b = rl ∨ b = rh → ¬ S b k) : RPeo D a rl rh nx h' := by
  intro k i hk hi
  obtain ⟨d, h1, h2, h3, h4, h5⟩ := x k i hk hi
  exact ⟨d, h1, h2, (f.i (n _ _ (by omega))).trans h3, (f.i (n _ _ (by omega))).trans h4, (f.i (n _ _ (by omega))).trans h5⟩
theorem REve.fr {D : HD} {a rs e : Nat} {h h' : AH} {S : Nat → Nat → Prop} (x : REve D a rs e h) (f : Fr S h h') (n : ∀ k, ¬ (k < 6 ∧ S (a + 2) (6 * e + k))) (n2 : ∀ k, ¬ (k < 10 ∧ S rs (10 * e + k))) (n3 : ¬ S (a + 3) e) (hK : D.K ≤ 6) : REve D a rs e h' := by
  obtain ⟨cv, h1, h2, h3, h4, h5, h6⟩ := x
  refine ⟨cv, fun k hk => ⟨(f.i (fun z => n k ⟨hk, z⟩)).trans (h1 k hk).1, (h1 k hk).2⟩, fun k hk => (f.i (fun z => n2 (4 + k) ⟨by omega, by rw [← Nat.add_assoc]; exact z⟩)).trans (h2 k hk), (f.i (fun z => n2 0 ⟨by omega, z⟩)).trans h3, (f.i (fun z => n2 1 ⟨by omega, z⟩)).trans h4, (f.i (fun z => n2 2 ⟨by omega, z⟩)).trans h5, ?_⟩
  rw [f.i (fun z => n2 3 ⟨by omega, z⟩), f.i n3]
  exact h6
theorem RBoth.fr {D : HD} {a f ra rl rh rs : Nat} {h h' : AH} {S : Nat → Nat → Prop} (x : RBoth D a f ra rl rh rs h) (fr : Fr S h h') (hK : D.K ≤ 6) (n : ∀ b k, (a ≤ b ∧ b ≤ a + 3) ∨ (b = 240 ∧ k = f) ∨ b = ra ∨ b = rl ∨ b = rh ∨ b = rs → ¬ S b k) : RBoth D a f ra rl rh rs h' := by
  rcases x with ⟨h1, h2⟩ | ⟨h1, h2, nx, h3, h4, h5, h6, h7, h8, h9⟩
  · exact Or.inl ⟨(fr.i (n _ _ (by omega))).trans h1, (fr.i (n _ _ (by omega))).trans h2⟩
  · refine Or.inr ⟨(fr.i (n _ _ (by omega))).trans h1, (fr.i (n _ _ (by omega))).trans h2, nx, h3, (fr.i (n _ _ (by omega))).trans h4, (fr.i (n _ _ (by omega))).trans h5, ?_, h7.fr fr (fun b k q => n b k (by omega)), fun e he => (h8 e he).fr fr (fun k z => n _ _ (by omega) z.2) (fun k z => n _ _ (by omega) z.2) (n _ _ (by omega)) hK, fun e k he hk hk6 => (fr.i (n _ _ (by omega))).trans (h9 e k he hk hk6)⟩
    rw [fr.i (n _ _ (by omega)), fr.i (n _ _ (by omega))]
    exact h6
def IVr (D : HD) (h : AH) : Prop := RBoth D 224 58 269 271 272 275 h ∧ RBoth D 228 59 270 273 274 276 h
/-- all that holds between two calls -/
def IVd (D : HD) (T : Nat) (h : AH) : Prop := WFD D ∧ W60 D ∧ gR h 0 9 = some (247 - T) ∧ YC D T h ∧ YR D h ∧ IVt h ∧ IVs h ∧ IVf1 h ∧ IVf2 h ∧ IVo h ∧ IVc D h ∧ IVr D h
def IV (h : AH) : Prop := ∃ D T, IVd D T h
/-- what a call may scratch -/
def SC (a k : Nat) : Prop := (a = 240 ∧ (k = 0 ∨ k = 38 ∨ k = 39)) ∨ (251 ≤ a ∧ a ≤ 254) ∨ a = 259 ∨ (261 ≤ a ∧ a ≤ 264) ∨ (266 ≤ a ∧ a ≤ 268) ∨ a = 277 ∨ a = 30 ∨ a = 211 ∨ a = 212 ∨ (216 ≤ a ∧ a ≤ 218) ∨ a = 222 ∨ a = 223 ∨ (a = 220 ∧ (k = 5 ∨ k = 6)) ∨ (a = 23 ∧ 2 ≤ k) ∨ (24 ≤ a ∧ a ≤ 28)
theorem IVd.fr {D : HD} {T : Nat} {h h' : AH} (x : IVd D T h) (f : Fr SC h h') : IVd D T h' := by
  obtain ⟨h1, h2, h3, h4, h5, h6, h7, h8, h9, h10, h11, h12, h13⟩ := x
  exact ⟨h1, h2, (f.r (by unfold SC; omega)).trans h3, h4.fr h1 f (by intro a k; unfold YCa SC; omega), h5.fr f (by intro a k; unfold YRa SC; omega), h6.fr f (by intro a k; unfold SC; omega), h7.fr f (by intro a k; unfold SC; omega), h8.fr f (by intro a k; unfold SC; omega), h9.fr f (by intro a k; unfold SC; omega), h10.fr f (by intro a k; unfold SC; omega), h11.fr f (by intro a k; unfold SC; omega), h12.fr f h1.K6 (by intro a k; unfold SC; omega), h13.fr f h1.K6 (by intro a k; unfold SC; omega)⟩
/-- both answer alike: cls is the law's helper (what was thrown, the answer in out[0]), m the reference -/
def ag {α : Type} (cv : α → Int64) (c : Option (Int32 × AH)) (m : AH → Option (α × AH)) : Prop := ∃ k h1 b h2, c = some (k, h1) ∧ m h1 = some (b, h2) ∧ gI h2 240 0 = k ∧ (k = 0 → gL h2 277 0 = cv b) ∧ IV h2
section
variable {D : HD} {T : Nat} {h : AH}
theorem IVd.wf (x : IVd D T h) : WFD D := x.1
theorem IVd.c (x : IVd D T h) : YC D T h := x.2.2.2.1
theorem IVd.r (x : IVd D T h) : YR D h := x.2.2.2.2.1
theorem IVd.tl (x : IVd D T h) : TL T := x.2.2.2.1.1.1
theorem IVd.ch (x : IVd D T h) : CH D T h := x.2.2.2.1.1.2.2.1
theorem IVd.rh (x : IVd D T h) : RH D h := x.2.2.2.2.1.1
theorem IVd.t8 (x : IVd D T h) : gR h 0 8 = some T := x.2.2.2.1.1.2.2.2.2.2.1
theorem IVd.t13 (x : IVd D T h) : gR h 13 1 = some T := x.2.2.2.1.1.2.2.2.2.1
theorem IVd.cb (x : IVd D T h) : CB h := x.2.2.2.1.1.2.2.2.1
theorem IVd.pk (x : IVd D T h) {t p : Nat} (hp : PL t p) : PK t p h := x.2.2.2.1.1.2.2.2.2.2.2 t p hp
theorem IVd.o (x : IVd D T h) (v : Int64) : IVd D T (sL h 277 0 v) := x.fr ((Fr.refl _ h).sL (by unfold SC; omega))
theorem IVd.z (x : IVd D T h) : IVd D T (sI h 240 0 0) := x.fr ((Fr.refl _ h).sI (by unfold SC; omega))
/-- the law's helper where the class answers or throws -/
theorem hl_v {v : Int64} {z : Option (Int32 × AH)} (e : z = bd (some 277) fun t3 => bd (stL h t3 0 v) fun m4 => some (0, m4)) : z = some (0, sL h 277 0 v) := by
  rw [e, bd_v, stL_ok (x := 0) 0 (n := 1) rfl rfl (by decide), bd_v]
/-- right() -/
theorem r_right {b : Bool} {w : Int32} {a0 : Int32} (h0 : a0 = if b = true then 1 else 0) (ht : gI h 240 0 = 0) (hw : w ≠ 0) : s_X10_right a0 w h = some (if b = true then (1, h) else (0, sI h 240 0 w)) := by
  unfold s_X10_right j_X10_right_16
  subst h0
  rw [if_pos ht]
  cases b
  · rw [if_neg (by decide : ¬ false = true), if_pos rfl, if_neg (by rw [gI_sI, if_pos ⟨rfl, rfl⟩]; exact hw)]
    rfl
  · rw [if_pos rfl, if_neg (by decide), if_pos ht]
    rfl
theorem r_within {a l m : Int} {x y z : Int32} (hx : x = zi a) (hy : y = zi l) (hz : z = zi m) (a1 : -2147483648 ≤ a) (a2 : a < 2147483648) (l1 : -2147483648 ≤ l) (l2 : l < 2147483648) (m1 : -2147483648 ≤ m) (m2 : m < 2147483648) : s_X10_within x y z h = some (if decide (l ≤ a ∧ a ≤ m) = true then 1 else 0) := by
  subst hx hy hz
  unfold s_X10_within
  by_cases q1 : a < l
  · rw [if_pos (by rw [zi_lt a1 a2 l1 l2]; exact q1), if_neg (by rw [decide_eq_true_iff]; omega)]
  · rw [if_neg (by rw [zi_lt a1 a2 l1 l2]; exact q1)]
    by_cases q2 : m < a
    · rw [if_pos (by rw [zi_lt m1 m2 a1 a2]; exact q2), if_neg (by rw [decide_eq_true_iff]; omega)]
    · rw [if_neg (by rw [zi_lt m1 m2 a1 a2]; exact q2), if_pos (by rw [decide_eq_true_iff]; omega)]
theorem r_isK (x : RH D h) (hK : D.K ≤ 6) {a : Int} {a0 : Int32} (h0 : a0 = zi a) (a1 : -2147483648 ≤ a) (a2 : a < 2147483648) (ht : gI h 240 0 = 0) : s_X10_isKind a0 h = some (if 0 ≤ a ∧ a < D.K then (1, h) else (0, sI h 240 0 1)) := by
  subst h0
  have key : ∀ b : Bool, ∀ k0 : Int32, k0 = (if b = true then 1 else 0) → j_X10_isKind_18 k0 h = some (if b = true then (1, h) else (0, sI h 240 0 1)) := by
    intro b k0 hk
    unfold j_X10_isKind_18
    rw [r_right hk ht (by decide), bd_v]
    cases b
    · rw [if_neg (by decide : ¬ false = true), if_pos (Or.inl rfl)]
    · rw [if_pos (rfl : true = true), if_pos (Or.inr rfl)]
  unfold s_X10_isKind j_X10_isKind_17
  by_cases q1 : a < 0
  · rw [if_pos (by rw [(show (0 : Int32) = zi 0 from zi_lit 0), zi_lt a1 a2 (by omega) (by omega)]; exact q1), key false 0 rfl, if_neg (by decide), if_neg (by omega)]
  · rw [if_neg (by rw [(show (0 : Int32) = zi 0 from zi_lit 0), zi_lt a1 a2 (by omega) (by omega)]; exact q1), x.1.2.2.2.1]
    by_cases q2 : (D.K : Int) ≤ a
    · rw [if_pos (by rw [zi_le (by omega) (by omega) a1 a2]; exact q2), key false 0 rfl, if_neg (by decide), if_neg (by omega)]
    · rw [if_neg (by rw [zi_le (by omega) (by omega) a1 a2]; exact q2), key true 1 rfl, if_pos rfl, if_pos (by omega)]
theorem r_isE (x : RH D h) (hN : D.N ≤ 16) {a : Int} {a0 : Int32} (h0 : a0 = zi a) (a1 : -2147483648 ≤ a) (a2 : a < 2147483648) (ht : gI h 240 0 = 0) : s_X10_isEvening a0 h = some (if 0 ≤ a ∧ a < D.N then (1, h) else (0, sI h 240 0 1)) := by
  subst h0
  have key : ∀ b : Bool, ∀ k0 : Int32, k0 = (if b = true then 1 else 0) → j_X10_isEvening_18 k0 h = some (if b = true then (1, h) else (0, sI h 240 0 1)) := by
    intro b k0 hk
    unfold j_X10_isEvening_18
    rw [r_right hk ht (by decide), bd_v]
    cases b
    · rw [if_neg (by decide : ¬ false = true), if_pos (Or.inl rfl)]
    · rw [if_pos (rfl : true = true), if_pos (Or.inr rfl)]
  unfold s_X10_isEvening j_X10_isEvening_17
  by_cases q1 : a < 0
  · rw [if_pos (by rw [(show (0 : Int32) = zi 0 from zi_lit 0), zi_lt a1 a2 (by omega) (by omega)]; exact q1), key false 0 rfl, if_neg (by decide), if_neg (by omega)]
  · rw [if_neg (by rw [(show (0 : Int32) = zi 0 from zi_lit 0), zi_lt a1 a2 (by omega) (by omega)]; exact q1), x.1.2.2.1]
    by_cases q2 : (D.N : Int) ≤ a
    · rw [if_pos (by rw [zi_le (by omega) (by omega) a1 a2]; exact q2), key false 0 rfl, if_neg (by decide), if_neg (by omega)]
    · rw [if_neg (by rw [zi_le (by omega) (by omega) a1 a2]; exact q2), key true 1 rfl, if_pos rfl, if_pos (by omega)]
theorem c_needK (x : IVd D T h) {a : Int} {a0 : Int32} (h0 : a0 = zi a) (a1 : -2147483648 ≤ a) (a2 : a < 2147483648) : s_X9_needKind a0 h = some (if 0 ≤ a ∧ a < D.K then .inl () else .inr 0) := by
  have hK := x.wf.K6
  subst h0
  unfold s_X9_needKind j_X9_needKind_15
  by_cases q1 : a < 0
  · rw [if_pos (by rw [(show (0 : Int32) = zi 0 from zi_lit 0), zi_lt a1 a2 (by omega) (by omega)]; exact q1), if_neg (by omega)]
  · rw [if_neg (by rw [(show (0 : Int32) = zi 0 from zi_lit 0), zi_lt a1 a2 (by omega) (by omega)]; exact q1), x.t8, bd_v, if_pos x.tl.l0, x.ch.1.2.2.2.1]
    by_cases q2 : a < (D.K : Int)
    · rw [if_pos (by rw [zi_lt a1 a2 (by omega) (by omega)]; exact q2), if_pos (by omega)]
    · rw [if_neg (by rw [zi_lt a1 a2 (by omega) (by omega)]; exact q2), if_neg (by omega)]
theorem c_needE (x : IVd D T h) {a : Int} {a0 : Int32} (h0 : a0 = zi a) (a1 : -2147483648 ≤ a) (a2 : a < 2147483648) : s_X9_needEvening a0 h = some (if 0 ≤ a ∧ a < D.N then .inl () else .inr 0) := by
  have hN := x.wf.N16
  subst h0
  unfold s_X9_needEvening j_X9_needEvening_15
  by_cases q1 : a < 0
  · rw [if_pos (by rw [(show (0 : Int32) = zi 0 from zi_lit 0), zi_lt a1 a2 (by omega) (by omega)]; exact q1), if_neg (by omega)]
  · rw [if_neg (by rw [(show (0 : Int32) = zi 0 from zi_lit 0), zi_lt a1 a2 (by omega) (by omega)]; exact q1), x.t8, bd_v, if_pos x.tl.l0, x.ch.1.2.2.1]
    by_cases q2 : a < (D.N : Int)
    · rw [if_pos (by rw [zi_lt a1 a2 (by omega) (by omega)]; exact q2), if_pos (by omega)]
    · rw [if_neg (by rw [zi_lt a1 a2 (by omega) (by omega)]; exact q2), if_neg (by omega)]
theorem c_needW {a m : Int} {a0 b0 : Int32} (h0 : a0 = zi a) (hb : b0 = zi m) (a1 : -2147483648 ≤ a) (a2 : a < 2147483648) (m1 : -2147483648 ≤ m) (m2 : m < 2147483648) : s_X9_needWhat a0 b0 h = some (if 0 ≤ a ∧ a ≤ m then .inl () else .inr 0) := by
  subst h0 hb
  unfold s_X9_needWhat j_X9_needWhat_9
  by_cases q1 : a < 0
  · rw [if_pos (by rw [(show (0 : Int32) = zi 0 from zi_lit 0), zi_lt a1 a2 (by omega) (by omega)]; exact q1), if_neg (by omega)]
  · rw [if_neg (by rw [(show (0 : Int32) = zi 0 from zi_lit 0), zi_lt a1 a2 (by omega) (by omega)]; exact q1)]
    by_cases q2 : a ≤ m
    · rw [if_pos (by rw [zi_le a1 a2 m1 m2]; exact q2), if_pos (by omega)]
    · rw [if_neg (by rw [zi_le a1 a2 m1 m2]; exact q2), if_neg (by omega)]
theorem c_needT {a : Int} {a0 : Int32} (h0 : a0 = zi a) (a1 : -2147483648 ≤ a) (a2 : a < 2147483648) : s_X9_needTicket a0 h = some (if 0 ≤ a ∧ a < 5 then .inl () else .inr 0) := by
  subst h0
  unfold s_X9_needTicket j_X9_needTicket_9
  by_cases q1 : a < 0
  · rw [if_pos (by rw [(show (0 : Int32) = zi 0 from zi_lit 0), zi_lt a1 a2 (by omega) (by omega)]; exact q1), if_neg (by omega)]
  · rw [if_neg (by rw [(show (0 : Int32) = zi 0 from zi_lit 0), zi_lt a1 a2 (by omega) (by omega)]; exact q1)]
    by_cases q2 : a < 5
    · rw [if_pos (by rw [(show (5 : Int32) = zi 5 from zi_lit 5), zi_lt a1 a2 (by omega) (by omega)]; exact q2), if_pos (by omega)]
    · rw [if_neg (by rw [(show (5 : Int32) = zi 5 from zi_lit 5), zi_lt a1 a2 (by omega) (by omega)]; exact q2), if_neg (by omega)]
theorem g0_z : gI (sI h 240 0 0) 240 0 = 0 := by rw [gI_sI, if_pos ⟨rfl, rfl⟩]
theorem g0_w (w : Int32) : gI (sI h 240 0 w) 240 0 = w := by rw [gI_sI, if_pos ⟨rfl, rfl⟩]
theorem IVd.w (x : IVd D T h) (w : Int32) : IVd D T (sI h 240 0 w) := x.fr ((Fr.refl _ h).sI (by unfold SC; omega))
/-- both throw -/
theorem ag_t {α : Type} {cv : α → Int64} {c : Option (Int32 × AH)} {m : AH → Option (α × AH)} {k : Int32} {b : α} (x : IVd D T h) (hc : c = some (k, h)) (hk : k ≠ 0) (hm : m h = some (b, sI (sI h 240 0 0) 240 0 k)) : ag cv c m := ⟨k, h, b, _, hc, hm, g0_w k, fun z => absurd z hk, D, T, x.z.w k⟩
/-- both answer, the reference scratches alone -/
theorem ag_v {α : Type} {cv : α → Int64} {c : Option (Int32 × AH)} {m : AH → Option (α × AH)} {v : Int64} (x : IVd D T h) (hc : c = some (0, sL h 277 0 v)) (hm : zw (m (sL h 277 0 v)) (fun r => cv r.1 = v ∧ gI r.2 240 0 = 0 ∧ Fr (fun a k => SC a k ∧ a ≠ 277) (sL h 277 0 v) r.2)) : ag cv c m := by
  obtain ⟨⟨b, h2⟩, e, hv, h0, hf⟩ := hm
  refine ⟨0, _, b, h2, hc, e, h0, fun _ => ?_, D, T, (x.o v).fr (hf.mono (fun a k q => q.1))⟩
  show gL h2 277 0 = cv b
  rw [hf.l (by omega), gL_sL, if_pos ⟨rfl, rfl⟩]
  exact hv.symm
end
