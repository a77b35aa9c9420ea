/-! 50.base: numbers as integers, answers, frames, loops: the ground of the pure half -/
def zi (x : Int) : Int32 := Int32.ofInt x
def zl (x : Int) : Int64 := Int64.ofInt x
theorem zi_lit (n : Nat) : (no_index (OfNat.ofNat n) : Int32) = zi (OfNat.ofNat n) := (Int32.ofInt_eq_ofNat (n := n)).symm
theorem zl_lit (n : Nat) : (no_index (OfNat.ofNat n) : Int64) = zl (OfNat.ofNat n) := (Int64.ofInt_eq_ofNat (n := n)).symm
theorem zi_add (a b : Int) : zi a + zi b = zi (a + b) := (Int32.ofInt_add a b).symm
theorem zi_sub (a b : Int) : zi a - zi b = zi (a - b) := (Int32.ofInt_sub a b).symm
theorem zi_mul (a b : Int) : zi a * zi b = zi (a * b) := (Int32.ofInt_mul a b).symm
theorem zi_neg (a : Int) : - zi a = zi (- a) := (Int32.ofInt_neg a).symm
theorem zl_add (a b : Int) : zl a + zl b = zl (a + b) := (Int64.ofInt_add a b).symm
theorem zl_sub (a b : Int) : zl a - zl b = zl (a - b) := (Int64.ofInt_sub a b).symm
theorem zl_mul (a b : Int) : zl a * zl b = zl (a * b) := (Int64.ofInt_mul a b).symm
theorem zl_neg (a : Int) : - zl a = zl (- a) := (Int64.ofInt_neg a).symm
theorem zi_toInt {a : Int} (h1 : -2147483648 ≤ a) (h2 : a < 2147483648) : (zi a).toInt = a := Int32.toInt_ofInt_of_le (by omega) (by omega)
theorem zl_toInt {a : Int} (h1 : -9223372036854775808 ≤ a) (h2 : a < 9223372036854775808) : (zl a).toInt = a := Int64.toInt_ofInt_of_le (by omega) (by omega)
theorem zi_of (x : Int32) : ∃ a : Int, x = zi a ∧ -2147483648 ≤ a ∧ a < 2147483648 := ⟨x.toInt, (Int32.ofInt_toInt x).symm, by have := x.le_toInt; omega, by have := x.toInt_lt; omega⟩
theorem zl_of (x : Int64) : ∃ a : Int, x = zl a ∧ -9223372036854775808 ≤ a ∧ a < 9223372036854775808 := ⟨x.toInt, (Int64.ofInt_toInt x).symm, by have := x.le_toInt; omega, by have := x.toInt_lt; omega⟩
theorem zi_lt {a b : Int} (h1 : -2147483648 ≤ a) (h2 : a < 2147483648) (h3 : -2147483648 ≤ b) (h4 : b < 2147483648) : zi a < zi b ↔ a < b := by
  rw [Int32.lt_iff_toInt_lt, zi_toInt h1 h2, zi_toInt h3 h4]
theorem zi_le {a b : Int} (h1 : -2147483648 ≤ a) (h2 : a < 2147483648) (h3 : -2147483648 ≤ b) (h4 : b < 2147483648) : zi a ≤ zi b ↔ a ≤ b := by
  rw [Int32.le_iff_toInt_le, zi_toInt h1 h2, zi_toInt h3 h4]
theorem zi_eq {a b : Int} (h1 : -2147483648 ≤ a) (h2 : a < 2147483648) (h3 : -2147483648 ≤ b) (h4 : b < 2147483648) : zi a = zi b ↔ a = b := by
  rw [← Int32.toInt_inj, zi_toInt h1 h2, zi_toInt h3 h4]
theorem zl_lt {a b : Int} (h1 : -9223372036854775808 ≤ a) (h2 : a < 9223372036854775808) (h3 : -9223372036854775808 ≤ b) (h4 : b < 9223372036854775808) : zl a < zl b ↔ a < b := by
  rw [Int64.lt_iff_toInt_lt, zl_toInt h1 h2, zl_toInt h3 h4]
theorem zl_le {a b : Int} (h1 : -9223372036854775808 ≤ a) (h2 : a < 9223372036854775808) (h3 : -9223372036854775808 ≤ b) (h4 : b < 9223372036854775808) : zl a ≤ zl b ↔ a ≤ b := by
  rw [Int64.le_iff_toInt_le, zl_toInt h1 h2, zl_toInt h3 h4]
theorem zl_eq {a b : Int} (h1 : -9223372036854775808 ≤ a) (h2 : a < 9223372036854775808) (h3 : -9223372036854775808 ≤ b) (h4 : b < 9223372036854775808) : zl a = zl b ↔ a = b := by
  rw [← Int64.toInt_inj, zl_toInt h1 h2, zl_toInt h3 h4]
theorem zi_l {a : Int} (h1 : -2147483648 ≤ a) (h2 : a < 2147483648) : (zi a).toInt64 = zl a := by
  rw [← Int64.toInt_inj, Int32.toInt_toInt64, zi_toInt h1 h2, zl_toInt (by omega) (by omega)]
theorem zl_i (a : Int) : (zl a).toInt32 = zi a := by
  rw [← Int32.toInt_inj, Int64.toInt_toInt32]
  unfold zi zl
  rw [Int64.toInt_ofInt, Int32.toInt_ofInt, show Int32.size = 2 ^ 32 from rfl]
  exact Int.bmod_bmod_of_dvd ⟨4294967296, rfl⟩
theorem zi_nat {a : Int} (h1 : 0 ≤ a) (h2 : a < 2147483648) : (zi a).toNatClampNeg = a.toNat := by
  rw [← Int32.toNat_toInt, zi_toInt (by omega) h2]
theorem zi_natN (n : Nat) (h2 : n < 2147483648) : (zi n).toNatClampNeg = n := by
  rw [zi_nat (by omega) (by omega)]; rfl
theorem zi_div {a b : Int} (h1 : 0 ≤ a) (h2 : a < 2147483648) (h3 : 0 < b) (h4 : b < 2147483648) : zi a / zi b = zi (a / b) := by
  have e : zi (a.tdiv b) = zi a / zi b := Int32.ofInt_tdiv (by show (-2 ^ 31 : Int) ≤ a; omega) (by show a ≤ (2 ^ 31 - 1 : Int); omega) (by show (-2 ^ 31 : Int) ≤ b; omega) (by show b ≤ (2 ^ 31 - 1 : Int); omega)
  rw [← e, Int.tdiv_eq_ediv_of_nonneg h1]
theorem zl_divT {a b : Int} (h1 : -9223372036854775808 ≤ a) (h2 : a < 9223372036854775808) (h3 : -9223372036854775808 ≤ b) (h4 : b < 9223372036854775808) : zl a / zl b = zl (a.tdiv b) :=
  (Int64.ofInt_tdiv (by show (-2 ^ 63 : Int) ≤ a; omega) (by show a ≤ (2 ^ 63 - 1 : Int); omega) (by show (-2 ^ 63 : Int) ≤ b; omega) (by show b ≤ (2 ^ 63 - 1 : Int); omega)).symm
theorem zl_div {a b : Int} (h1 : 0 ≤ a) (h2 : a < 9223372036854775808) (h3 : 0 < b) (h4 : b < 9223372036854775808) : zl a / zl b = zl (a / b) := by
  rw [zl_divT (by omega) h2 (by omega) h4, Int.tdiv_eq_ediv_of_nonneg h1]
theorem ldivF_ok {x y : Int64} {a b : Int} (hx : x = zl a) (hy : y = zl b) (h1 : 0 ≤ a) (h2 : a < 9223372036854775808) (h3 : 0 < b) (h4 : b < 9223372036854775808) : ldivF x y = some (zl (a / b)) := by
  subst hx hy
  unfold ldivF
  rw [if_neg (by rw [(show (0 : Int64) = zl 0 from zl_lit 0), zl_eq (by omega) (by omega) (by omega) (by omega)]; show ¬ b = 0; omega), zl_div h1 h2 h3 h4]
theorem idivF_ok {x y : Int32} {a b : Int} (hx : x = zi a) (hy : y = zi b) (h1 : 0 ≤ a) (h2 : a < 2147483648) (h3 : 0 < b) (h4 : b < 2147483648) : idivF x y = some (zi (a / b)) := by
  subst hx hy
  unfold idivF
  rw [if_neg (by rw [(show (0 : Int32) = zi 0 from zi_lit 0), zi_eq (by omega) (by omega) (by omega) (by omega)]; show ¬ b = 0; omega), zi_div h1 h2 h3 h4]
theorem iremF_ok {x y : Int32} {a b : Int} (hx : x = zi a) (hy : y = zi b) (h1 : 0 ≤ a) (h2 : a < 2147483648) (h3 : 0 < b) (h4 : b < 2147483648) : iremF x y = some (zi (a % b)) := by
  subst hx hy
  unfold iremF
  rw [if_neg (by rw [(show (0 : Int32) = zi 0 from zi_lit 0), zi_eq (by omega) (by omega) (by omega) (by omega)]; show ¬ b = 0; omega), zi_div h1 h2 h3 h4, zi_mul, zi_sub]
  have := Int.emod_add_mul_ediv a b
  rw [show a - a / b * b = a % b by rw [Int.mul_comm]; omega]
theorem bd_v {α β : Type} (z : α) (f : α → Option β) : bd (some z) f = f z := rfl
theorem sm_l {α β γ : Type} (y : α) (f : α → γ) (k : β → γ) : sm (.inl y) f k = f y := rfl
theorem sm_r {α β γ : Type} (y : β) (f : α → γ) (k : β → γ) : sm (.inr y) f k = k y := rfl
theorem mt_so {α β : Type} (o : α) (a : β) (f : α → β) : mt (some o) a f = f o := rfl
theorem mt_no {α β : Type} (a : β) (f : α → β) : mt none a f = a := rfl
theorem gI_sI (h : AH) (a k : Nat) (v : Int32) (b j : Nat) : gI (sI h a k v) b j = if b = a ∧ j = k then v else gI h b j := rfl
theorem gI_sL (h : AH) (a k : Nat) (v : Int64) (b j : Nat) : gI (sL h a k v) b j = gI h b j := rfl
theorem gI_sR (h : AH) (a k : Nat) (v : Option Nat) (b j : Nat) : gI (sR h a k v) b j = gI h b j := rfl
theorem gL_sI (h : AH) (a k : Nat) (v : Int32) (b j : Nat) : gL (sI h a k v) b j = gL h b j := rfl
theorem gL_sL (h : AH) (a k : Nat) (v : Int64) (b j : Nat) : gL (sL h a k v) b j = if b = a ∧ j = k then v else gL h b j := rfl
theorem gL_sR (h : AH) (a k : Nat) (v : Option Nat) (b j : Nat) : gL (sR h a k v) b j = gL h b j := rfl
theorem gR_sI (h : AH) (a k : Nat) (v : Int32) (b j : Nat) : gR (sI h a k v) b j = gR h b j := rfl
theorem gR_sL (h : AH) (a k : Nat) (v : Int64) (b j : Nat) : gR (sL h a k v) b j = gR h b j := rfl
theorem gR_sR (h : AH) (a k : Nat) (v : Option Nat) (b j : Nat) : gR (sR h a k v) b j = if b = a ∧ j = k then v else gR h b j := rfl
/-- an answer there is, and it is so -/
def zw {α : Type} (o : Option α) (Q : α → Prop) : Prop := ∃ z, o = some z ∧ Q z
theorem zw_some {α : Type} {z : α} {Q : α → Prop} (h : Q z) : zw (some z) Q := ⟨z, rfl, h⟩
theorem zw_eq {α : Type} {o : Option α} {z : α} {Q : α → Prop} (e : o = some z) (h : Q z) : zw o Q := ⟨z, e, h⟩
theorem zw_bd {α β : Type} {x : Option α} {f : α → Option β} {P : α → Prop} {Q : β → Prop} (hx : zw x P) (h : ∀ z, P z → zw (f z) Q) : zw (bd x f) Q := by
  obtain ⟨z, rfl, hz⟩ := hx
  exact h z hz
theorem zw_bd1 {α β : Type} {x : Option α} {z : α} {f : α → Option β} {Q : β → Prop} (hx : x = some z) (h : zw (f z) Q) : zw (bd x f) Q := by
  subst hx
  exact h
theorem zw_mono {α : Type} {o : Option α} {P Q : α → Prop} (h : zw o P) (k : ∀ z, P z → Q z) : zw o Q := by
  obtain ⟨z, e, hz⟩ := h
  exact ⟨z, e, k z hz⟩
theorem zw_if {α : Type} {c : Prop} [Decidable c] {a b : Option α} {Q : α → Prop} (h1 : c → zw a Q) (h2 : ¬ c → zw b Q) : zw (if c then a else b) Q := by
  by_cases hc : c
  · rw [if_pos hc]; exact h1 hc
  · rw [if_neg hc]; exact h2 hc
theorem zw_t {α : Type} {c : Prop} [Decidable c] {a b : Option α} {Q : α → Prop} (hc : c) (h1 : zw a Q) : zw (if c then a else b) Q := by rw [if_pos hc]; exact h1
theorem zw_f {α : Type} {c : Prop} [Decidable c] {a b : Option α} {Q : α → Prop} (hc : ¬ c) (h1 : zw b Q) : zw (if c then a else b) Q := by rw [if_neg hc]; exact h1
/-- outside of S nothing has changed -/
def Fr (S : Nat → Nat → Prop) (h h' : AH) : Prop := ∀ a k, ¬ S a k → gI h' a k = gI h a k ∧ gL h' a k = gL h a k ∧ gR h' a k = gR h a k
theorem Fr.refl (S : Nat → Nat → Prop) (h : AH) : Fr S h h := fun _ _ _ => ⟨rfl, rfl, rfl⟩
theorem Fr.trans {S : Nat → Nat → Prop} {h h1 h2 : AH} (x : Fr S h h1) (y : Fr S h1 h2) : Fr S h h2 := fun a k hk => ⟨(y a k hk).1.trans (x a k hk).1, (y a k hk).2.1.trans (x a k hk).2.1, (y a k hk).2.2.trans (x a k hk).2.2⟩
theorem Fr.mono {S T : Nat → Nat → Prop} {h h1 : AH} (x : Fr S h h1) (y : ∀ a k, S a k → T a k) : Fr T h h1 := fun a k hk => x a k (fun q => hk (y a k q))
theorem Fr.trans2 {S S1 S2 : Nat → Nat → Prop} {h h1 h2 : AH} (x : Fr S1 h h1) (y : Fr S2 h1 h2) (u : ∀ a k, S1 a k → S a k) (v : ∀ a k, S2 a k → S a k) : Fr S h h2 := (x.mono u).trans (y.mono v)
theorem Fr.sI {S : Nat → Nat → Prop} {h h1 : AH} (x : Fr S h h1) {a k : Nat} {v : Int32} (hs : S a k) : Fr S h (sI h1 a k v) := fun b j hb => by
  have hn : ¬ (b = a ∧ j = k) := fun z => hb (z.1 ▸ z.2 ▸ hs)
  refine ⟨?_, (x b j hb).2.1, (x b j hb).2.2⟩
  rw [gI_sI, if_neg hn]
  exact (x b j hb).1
theorem Fr.sL {S : Nat → Nat → Prop} {h h1 : AH} (x : Fr S h h1) {a k : Nat} {v : Int64} (hs : S a k) : Fr S h (sL h1 a k v) := fun b j hb => by
  have hn : ¬ (b = a ∧ j = k) := fun z => hb (z.1 ▸ z.2 ▸ hs)
  refine ⟨(x b j hb).1, ?_, (x b j hb).2.2⟩
  rw [gL_sL, if_neg hn]
  exact (x b j hb).2.1
theorem Fr.sR {S : Nat → Nat → Prop} {h h1 : AH} (x : Fr S h h1) {a k : Nat} {v : Option Nat} (hs : S a k) : Fr S h (sR h1 a k v) := fun b j hb => by
  have hn : ¬ (b = a ∧ j = k) := fun z => hb (z.1 ▸ z.2 ▸ hs)
  refine ⟨(x b j hb).1, (x b j hb).2.1, ?_⟩
  rw [gR_sR, if_neg hn]
  exact (x b j hb).2.2
theorem Fr.i {S : Nat → Nat → Prop} {h h1 : AH} (x : Fr S h h1) {a k : Nat} (hs : ¬ S a k) : gI h1 a k = gI h a k := (x a k hs).1
theorem Fr.l {S : Nat → Nat → Prop} {h h1 : AH} (x : Fr S h h1) {a k : Nat} (hs : ¬ S a k) : gL h1 a k = gL h a k := (x a k hs).2.1
theorem Fr.r {S : Nat → Nat → Prop} {h h1 : AH} (x : Fr S h h1) {a k : Nat} (hs : ¬ S a k) : gR h1 a k = gR h a k := (x a k hs).2.2
/-- a loop with heap: at most n turns; P i s h ahead of the turn i -/
theorem zw_loop {σ ε : Type} {body : σ → AH → Option ((σ ⊕ ε) × AH)} (n : Nat) (P : Nat → σ → AH → Prop) {Q : ε × AH → Prop} (step : ∀ i s h, i ≤ n → P i s h → zw (body s h) (fun r => (∃ s', r.1 = .inl s' ∧ i < n ∧ P (i + 1) s' r.2) ∨ (∃ e, r.1 = .inr e ∧ Q (e, r.2)))) : ∀ (d i fuel : Nat) (s : σ) (h : AH), i + d = n → d < fuel → P i s h → zw (lpH body fuel s h) Q := by
  intro d
  induction d with
  | zero =>
    intro i fuel s h hi hf hp
    obtain ⟨f, rfl⟩ : ∃ f, fuel = f + 1 := ⟨fuel - 1, by omega⟩
    obtain ⟨⟨x, h1⟩, e, hr⟩ := step i s h (by omega) hp
    rcases hr with ⟨s', -, hlt, -⟩ | ⟨e2, hx, hq⟩
    · omega
    · refine ⟨(e2, h1), ?_, hq⟩
      unfold lpH
      dsimp only at hx
      rw [e, hx]
  | succ d ih =>
    intro i fuel s h hi hf hp
    obtain ⟨f, rfl⟩ : ∃ f, fuel = f + 1 := ⟨fuel - 1, by omega⟩
    obtain ⟨⟨x, h1⟩, e, hr⟩ := step i s h (by omega) hp
    rcases hr with ⟨s', hx, -, hp'⟩ | ⟨e2, hx, hq⟩
    · obtain ⟨z, ez, hz⟩ := ih (i + 1) f s' h1 (by omega) (by omega) hp'
      refine ⟨z, ?_, hz⟩
      unfold lpH
      dsimp only at hx
      rw [e, hx]
      exact ez
    · refine ⟨(e2, h1), ?_, hq⟩
      unfold lpH
      dsimp only at hx
      rw [e, hx]
theorem zw_lp {σ ε : Type} {body : σ → AH → Option ((σ ⊕ ε) × AH)} (n : Nat) (P : Nat → σ → AH → Prop) {Q : ε × AH → Prop} {s : σ} {h : AH} (hn : n < 10000) (h0 : P 0 s h) (step : ∀ i s h, i ≤ n → P i s h → zw (body s h) (fun r => (∃ s', r.1 = .inl s' ∧ i < n ∧ P (i + 1) s' r.2) ∨ (∃ e, r.1 = .inr e ∧ Q (e, r.2)))) : zw (lpH body FU s h) Q := zw_loop n P step n 0 FU s h (by omega) hn h0
/-- counted: a turn for each i below n, values known, the heap by P -/
theorem zw_for {σ ε : Type} {body : σ → AH → Option ((σ ⊕ ε) × AH)} (n : Nat) (st : Nat → σ) (e : ε) (P : Nat → AH → Prop) {Q : ε × AH → Prop} {s : σ} {h : AH} (hn : n < 10000) (hs : s = st 0) (h0 : P 0 h) (step : ∀ i h, i < n → P i h → zw (body (st i) h) (fun r => r.1 = .inl (st (i + 1)) ∧ P (i + 1) r.2)) (fin : ∀ h, P n h → zw (body (st n) h) (fun r => r.1 = .inr e ∧ Q (e, r.2))) : zw (lpH body FU s h) Q := by
  refine zw_lp n (fun i s h => s = st i ∧ P i h) hn ⟨hs, h0⟩ ?_
  rintro i s h hi ⟨rfl, hp⟩
  rcases Nat.lt_or_ge i n with q | q
  · exact zw_mono (step i h q hp) (fun z hz => Or.inl ⟨_, hz.1, q, rfl, hz.2⟩)
  · have hin : i = n := by omega
    subst hin
    exact zw_mono (fin h hp) (fun z hz => Or.inr ⟨_, hz.1, hz.2⟩)
/-- a loop that reads alone -/
theorem lpP_go {σ ε : Type} {body : σ → Option (σ ⊕ ε)} (n : Nat) (st : Nat → σ) {e : ε} (step : ∀ i, i < n → body (st i) = some (.inl (st (i + 1)))) (fin : body (st n) = some (.inr e)) : ∀ (d i fuel : Nat), i + d = n → d < fuel → lpP body fuel (st i) = some e := by
  intro d
  induction d with
  | zero =>
    intro i fuel hi hf
    obtain ⟨f, rfl⟩ : ∃ f, fuel = f + 1 := ⟨fuel - 1, by omega⟩
    have : i = n := by omega
    subst this
    unfold lpP
    rw [fin]
  | succ d ih =>
    intro i fuel hi hf
    obtain ⟨f, rfl⟩ : ∃ f, fuel = f + 1 := ⟨fuel - 1, by omega⟩
    unfold lpP
    rw [step i (by omega)]
    exact ih (i + 1) f (by omega) (by omega)
theorem lpP_for {σ ε : Type} {body : σ → Option (σ ⊕ ε)} (n : Nat) (st : Nat → σ) {e : ε} {s : σ} (hn : n < 10000) (hs : s = st 0) (step : ∀ i, i < n → body (st i) = some (.inl (st (i + 1)))) (fin : body (st n) = some (.inr e)) : lpP body FU s = some e := by
  subst hs
  exact lpP_go n st step fin n 0 FU (by omega) hn
theorem lpH_go {σ ε : Type} {body : σ → AH → Option ((σ ⊕ ε) × AH)} {h : AH} (n : Nat) (st : Nat → σ) {e : ε} (step : ∀ i, i < n → body (st i) h = some (.inl (st (i + 1)), h)) (fin : body (st n) h = some (.inr e, h)) : ∀ (d i fuel : Nat), i + d = n → d < fuel → lpH body fuel (st i) h = some (e, h) := by
  intro d
  induction d with
  | zero =>
    intro i fuel hi hf
    obtain ⟨f, rfl⟩ : ∃ f, fuel = f + 1 := ⟨fuel - 1, by omega⟩
    have : i = n := by omega
    subst this
    unfold lpH
    rw [fin]
  | succ d ih =>
    intro i fuel hi hf
    obtain ⟨f, rfl⟩ : ∃ f, fuel = f + 1 := ⟨fuel - 1, by omega⟩
    unfold lpH
    rw [step i (by omega)]
    exact ih (i + 1) f (by omega) (by omega)
theorem lpH_for {σ ε : Type} {body : σ → AH → Option ((σ ⊕ ε) × AH)} {h : AH} (n : Nat) (st : Nat → σ) {e : ε} {s : σ} (hn : n < 10000) (hs : s = st 0) (step : ∀ i, i < n → body (st i) h = some (.inl (st (i + 1)), h)) (fin : body (st n) h = some (.inr e, h)) : lpH body FU s h = some (e, h) := by
  subst hs
  exact lpH_go n st step fin n 0 FU (by omega) hn
/-- sums -/
def zs (f : Nat → Int) : Nat → Int
  | 0 => 0
  | n + 1 => zs f n + f n
theorem zs_0 (f : Nat → Int) : zs f 0 = 0 := rfl
theorem zs_s (f : Nat → Int) (n : Nat) : zs f (n + 1) = zs f n + f n := rfl
theorem zs_congr {f g : Nat → Int} {n : Nat} (h : ∀ i, i < n → f i = g i) : zs f n = zs g n := by
  induction n with
  | zero => rfl
  | succ n ih => rw [zs_s, zs_s, ih (fun i hi => h i (by omega)), h n (by omega)]
theorem zs_nn {f : Nat → Int} {n : Nat} (h : ∀ i, i < n → 0 ≤ f i) : 0 ≤ zs f n := by
  induction n with
  | zero => exact Int.le_refl 0
  | succ n ih =>
    rw [zs_s]
    have := ih (fun i hi => h i (by omega))
    have := h n (by omega)
    omega
theorem zs_le {f : Nat → Int} {n : Nat} {B : Int} (h : ∀ i, i < n → f i ≤ B) : zs f n ≤ n * B := by
  induction n with
  | zero => rw [zs_0]; simp
  | succ n ih =>
    rw [zs_s]
    have h1 := ih (fun i hi => h i (by omega))
    have h2 := h n (by omega)
    have e : ((n + 1 : Nat) : Int) * B = n * B + B := by rw [Int.natCast_add, Int.add_mul]; simp
    omega
theorem zs_add (f g : Nat → Int) (n : Nat) : zs (fun i => f i + g i) n = zs f n + zs g n := by
  induction n with
  | zero => rfl
  | succ n ih => rw [zs_s, zs_s, zs_s, ih]; omega
theorem zs_zero {f : Nat → Int} {n : Nat} (h : ∀ i, i < n → f i = 0) : zs f n = 0 := by
  induction n with
  | zero => rfl
  | succ n ih => rw [zs_s, ih (fun i hi => h i (by omega)), h n (by omega)]; rfl
theorem zs_mono {f : Nat → Int} {m n : Nat} (hmn : m ≤ n) (h : ∀ i, m ≤ i → i < n → 0 ≤ f i) : zs f m ≤ zs f n := by
  induction n with
  | zero => have : m = 0 := by omega
            subst this; exact Int.le_refl _
  | succ n ih =>
    rcases Nat.lt_or_ge n m with q | q
    · have : m = n + 1 := by omega
      subst this; exact Int.le_refl _
    · have h1 := ih q (fun i h1 h2 => h i h1 (by omega))
      have h2 := h n q (by omega)
      rw [zs_s]; omega
theorem zs_tail {f : Nat → Int} {m n : Nat} (hmn : m ≤ n) (h : ∀ i, m ≤ i → i < n → f i = 0) : zs f n = zs f m := by
  induction n with
  | zero => have : m = 0 := by omega
            subst this; rfl
  | succ n ih =>
    rcases Nat.lt_or_ge n m with q | q
    · have : m = n + 1 := by omega
      subst this; rfl
    · rw [zs_s, ih q (fun i h1 h2 => h i h1 (by omega)), h n q (by omega), Int.add_zero]
/-- one alone -/
theorem zs_one {f : Nat → Int} {n k : Nat} (hk : k < n) (h : ∀ i, i < n → i ≠ k → f i = 0) : zs f n = f k := by
  induction n with
  | zero => omega
  | succ n ih =>
    rw [zs_s]
    rcases Nat.lt_or_ge k n with q | q
    · rw [ih q (fun i hi hne => h i (by omega) hne), h n (by omega) (by omega), Int.add_zero]
    · have : k = n := by omega
      subst this
      rw [zs_zero (fun i hi => h i (by omega) (by omega)), Int.zero_add]
theorem zs_swap (f : Nat → Nat → Int) (m n : Nat) : zs (fun i => zs (f i) n) m = zs (fun j => zs (fun i => f i j) m) n := by
  induction m with
  | zero => exact (zs_zero (fun _ _ => rfl)).symm
  | succ m ih =>
    rw [zs_s, ih, ← zs_add]
    exact zs_congr (fun i _ => (zs_s _ _).symm)
/-- reads and writes of rows -/
theorem ldI_ok {h : AH} {a n : Nat} {x : Int32} (i : Nat) (hL : LAY a = (1, n)) (hx : x = zi i) (hi : i < n) (hn : Nat.ble n 100000 = true := by rfl) : ldI h a x = some (gI h a i) := by
  have hn' := Nat.le_of_ble_eq_true hn
  subst hx
  unfold ldI
  rw [hL, if_pos rfl, if_neg, zi_natN i (by omega)]
  rintro (q | q)
  · rw [(show (0 : Int32) = zi 0 from zi_lit 0), zi_lt (by omega) (by omega) (by omega) (by omega)] at q
    exact absurd q (by show ¬ (i : Int) < 0; omega)
  · rw [zi_natN i (by omega)] at q
    exact absurd q (by show ¬ n ≤ i; omega)
theorem ldZ_ok {h : AH} {a n : Nat} {x : Int32} (i : Nat) (hL : LAY a = (3, n)) (hx : x = zi i) (hi : i < n) (hn : Nat.ble n 100000 = true := by rfl) : ldZ h a x = some (gI h a i) := by
  have hn' := Nat.le_of_ble_eq_true hn
  subst hx
  unfold ldZ
  rw [hL, if_pos rfl, if_neg, zi_natN i (by omega)]
  rintro (q | q)
  · rw [(show (0 : Int32) = zi 0 from zi_lit 0), zi_lt (by omega) (by omega) (by omega) (by omega)] at q
    exact absurd q (by show ¬ (i : Int) < 0; omega)
  · rw [zi_natN i (by omega)] at q
    exact absurd q (by show ¬ n ≤ i; omega)
theorem ldL_ok {h : AH} {a n : Nat} {x : Int32} (i : Nat) (hL : LAY a = (2, n)) (hx : x = zi i) (hi : i < n) (hn : Nat.ble n 100000 = true := by rfl) : ldL h a x = some (gL h a i) := by
  have hn' := Nat.le_of_ble_eq_true hn
  subst hx
  unfold ldL
  rw [hL, if_pos rfl, if_neg, zi_natN i (by omega)]
  rintro (q | q)
  · rw [(show (0 : Int32) = zi 0 from zi_lit 0), zi_lt (by omega) (by omega) (by omega) (by omega)] at q
    exact absurd q (by show ¬ (i : Int) < 0; omega)
  · rw [zi_natN i (by omega)] at q
    exact absurd q (by show ¬ n ≤ i; omega)
theorem ldR_ok {h : AH} {a n : Nat} {x : Int32} (i : Nat) (hL : LAY a = (4, n)) (hx : x = zi i) (hi : i < n) (hn : Nat.ble n 100000 = true := by rfl) : ldR h a x = some (gR h a i) := by
  have hn' := Nat.le_of_ble_eq_true hn
  subst hx
  unfold ldR
  rw [hL, if_pos rfl, if_neg, zi_natN i (by omega)]
  rintro (q | q)
  · rw [(show (0 : Int32) = zi 0 from zi_lit 0), zi_lt (by omega) (by omega) (by omega) (by omega)] at q
    exact absurd q (by show ¬ (i : Int) < 0; omega)
  · rw [zi_natN i (by omega)] at q
    exact absurd q (by show ¬ n ≤ i; omega)
theorem stI_ok {h : AH} {a n : Nat} {x v : Int32} (i : Nat) (hL : LAY a = (1, n)) (hx : x = zi i) (hi : i < n) (hn : Nat.ble n 100000 = true := by rfl) : stI h a x v = some (sI h a i v) := by
  have hn' := Nat.le_of_ble_eq_true hn
  subst hx
  unfold stI
  rw [hL, if_pos rfl, if_neg, zi_natN i (by omega)]
  rintro (q | q)
  · rw [(show (0 : Int32) = zi 0 from zi_lit 0), zi_lt (by omega) (by omega) (by omega) (by omega)] at q
    exact absurd q (by show ¬ (i : Int) < 0; omega)
  · rw [zi_natN i (by omega)] at q
    exact absurd q (by show ¬ n ≤ i; omega)
theorem stZ_ok {h : AH} {a n : Nat} {x v : Int32} (i : Nat) (hL : LAY a = (3, n)) (hx : x = zi i) (hi : i < n) (hv : v = 0 ∨ v = 1) (hn : Nat.ble n 100000 = true := by rfl) : stZ h a x v = some (sI h a i v) := by
  have hn' := Nat.le_of_ble_eq_true hn
  subst hx
  unfold stZ
  rw [hL, if_pos rfl, if_neg, if_pos hv, zi_natN i (by omega)]
  rintro (q | q)
  · rw [(show (0 : Int32) = zi 0 from zi_lit 0), zi_lt (by omega) (by omega) (by omega) (by omega)] at q
    exact absurd q (by show ¬ (i : Int) < 0; omega)
  · rw [zi_natN i (by omega)] at q
    exact absurd q (by show ¬ n ≤ i; omega)
theorem stL_ok {h : AH} {a n : Nat} {x : Int32} {v : Int64} (i : Nat) (hL : LAY a = (2, n)) (hx : x = zi i) (hi : i < n) (hn : Nat.ble n 100000 = true := by rfl) : stL h a x v = some (sL h a i v) := by
  have hn' := Nat.le_of_ble_eq_true hn
  subst hx
  unfold stL
  rw [hL, if_pos rfl, if_neg, zi_natN i (by omega)]
  rintro (q | q)
  · rw [(show (0 : Int32) = zi 0 from zi_lit 0), zi_lt (by omega) (by omega) (by omega) (by omega)] at q
    exact absurd q (by show ¬ (i : Int) < 0; omega)
  · rw [zi_natN i (by omega)] at q
    exact absurd q (by show ¬ n ≤ i; omega)
