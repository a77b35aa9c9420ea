/-! what the printed functions are made of, and the rules that follow them -/
def bd {α β : Type} (x : Option α) (f : α → Option β) : Option β := match x with
  | none => none
  | some a => f a
theorem bd_some {α β : Type} {x : Option α} {f : α → Option β} {b : β} (h : bd x f = some b) : ∃ a, x = some a ∧ f a = some b := by
  cases x with
  | none => cases h
  | some a => exact ⟨a, rfl, h⟩
theorem bd_mk {α β : Type} (a : α) (f : α → Option β) : bd (some a) f = f a := rfl
theorem if_some {c : Prop} [Decidable c] {β : Type} {k : Option β} {b : β} (h : (if c then k else none) = some b) : c ∧ k = some b := by
  by_cases hc : c
  · rw [if_pos hc] at h; exact ⟨hc, h⟩
  · rw [if_neg hc] at h; cases h
theorem nif_some {c : Prop} [Decidable c] {β : Type} {k : Option β} {b : β} (h : (if c then none else k) = some b) : ¬ c ∧ k = some b := by
  by_cases hc : c
  · rw [if_pos hc] at h; cases h
  · rw [if_neg hc] at h; exact ⟨hc, h⟩
def FU : Nat := 10000
/-- a loop without heap: a body gives the next turn's values or the exit's -/
def lpP {σ ε : Type} (body : σ → Option (σ ⊕ ε)) : Nat → σ → Option ε
  | 0, _ => none
  | n + 1, s => match body s with
    | none => none
    | some (.inl s') => lpP body n s'
    | some (.inr e) => some e
/-- a loop with heap -/
def lpH {σ ε : Type} (body : σ → AH → Option ((σ ⊕ ε) × AH)) : Nat → σ → AH → Option (ε × AH)
  | 0, _, _ => none
  | n + 1, s, h => match body s h with
    | none => none
    | some (.inl s', h') => lpH body n s' h'
    | some (.inr e, h') => some (e, h')
theorem lpP_succ {σ ε : Type} {body : σ → Option (σ ⊕ ε)} {n : Nat} {s : σ} {y : ε} (h : lpP body (n + 1) s = some y) : ∃ x, body s = some x ∧ ((∃ s', x = .inl s' ∧ lpP body n s' = some y) ∨ x = .inr y) := by
  unfold lpP at h
  cases hb : body s with
  | none => rw [hb] at h; cases h
  | some x =>
    rw [hb] at h
    cases x with
    | inl s' => exact ⟨_, rfl, Or.inl ⟨s', rfl, h⟩⟩
    | inr e => cases h; exact ⟨_, rfl, Or.inr rfl⟩
theorem lpH_succ {σ ε : Type} {body : σ → AH → Option ((σ ⊕ ε) × AH)} {n : Nat} {s : σ} {h h' : AH} {y : ε} (e : lpH body (n + 1) s h = some (y, h')) : ∃ x h1, body s h = some (x, h1) ∧ ((∃ s', x = .inl s' ∧ lpH body n s' h1 = some (y, h')) ∨ (x = .inr y ∧ h1 = h')) := by
  unfold lpH at e
  cases hb : body s h with
  | none => rw [hb] at e; cases e
  | some p =>
    obtain ⟨x, h1⟩ := p
    rw [hb] at e
    cases x with
    | inl s' => exact ⟨_, _, rfl, Or.inl ⟨s', rfl, e⟩⟩
    | inr e2 => cases e; exact ⟨_, _, rfl, Or.inr ⟨rfl, rfl⟩⟩
def alenF (a : Nat) : Option Int32 := if (LAY a).1 = 1 ∨ (LAY a).1 = 2 ∨ (LAY a).1 = 3 ∨ (LAY a).1 = 4 then some (Int32.ofNat (LAY a).2) else none
abbrev outB (i : Int32) (n : Nat) : Prop := i < 0 ∨ n ≤ i.toNatClampNeg
def ldI (h : AH) (a : Nat) (i : Int32) : Option Int32 := if (LAY a).1 = 1 then (if outB i (LAY a).2 then none else some (gI h a i.toNatClampNeg)) else none
def ldZ (h : AH) (a : Nat) (i : Int32) : Option Int32 := if (LAY a).1 = 3 then (if outB i (LAY a).2 then none else some (gI h a i.toNatClampNeg)) else none
def ldL (h : AH) (a : Nat) (i : Int32) : Option Int64 := if (LAY a).1 = 2 then (if outB i (LAY a).2 then none else some (gL h a i.toNatClampNeg)) else none
def ldR (h : AH) (a : Nat) (i : Int32) : Option (Option Nat) := if (LAY a).1 = 4 then (if outB i (LAY a).2 then none else some (gR h a i.toNatClampNeg)) else none
def stI (h : AH) (a : Nat) (i x : Int32) : Option AH := if (LAY a).1 = 1 then (if outB i (LAY a).2 then none else some (sI h a i.toNatClampNeg x)) else none
def stZ (h : AH) (a : Nat) (i x : Int32) : Option AH := if (LAY a).1 = 3 then (if outB i (LAY a).2 then none else if x = 0 ∨ x = 1 then some (sI h a i.toNatClampNeg x) else none) else none
def stL (h : AH) (a : Nat) (i : Int32) (x : Int64) : Option AH := if (LAY a).1 = 2 then (if outB i (LAY a).2 then none else some (sL h a i.toNatClampNeg x)) else none
def idivF (x y : Int32) : Option Int32 := if y = 0 then none else some (x / y)
def iremF (x y : Int32) : Option Int32 := if y = 0 then none else some (x - x / y * y)
def ldivF (x y : Int64) : Option Int64 := if y = 0 then none else some (x / y)
def lremF (x y : Int64) : Option Int64 := if y = 0 then none else some (x - x / y * y)
/-- the walk once all cells stand -/
abbrev AR (g : GP) (X : MX) (nc ns : Nat) (Q : State → Prop) (h : AH) (pc : Nat) (lv st : List Value) : Prop := AW g X NT false nc ns Q h pc lv st
theorem NT_le : NT ≤ 100000 := by decide
theorem lay_eq {a k : Nat} (h : (LAY a).1 = k) : LAY a = (k, (LAY a).2) := by rw [← h]
/-- what a field is, by class and constant pool index: g.. read, p.. written -/
def GI (own : String) (idx ci k c z : Nat) : Prop := FL own idx ci k ∧ Nat.ble (k + 1) (clN ci) = true ∧ Nat.ble (ci + 1) 11 = true ∧ (FT ci).getD k (0, 0) = (c, z)
def PI (own : String) (idx ci k c z : Nat) (ty : FieldType) : Prop := GI own idx ci k c z ∧ (clT ci k).2.2.2 = false ∧ parseFieldDescriptor (clT ci k).2.2.1 = some ty
section RR
variable {g : GP} {own : String} {cc : ByteArray} {lev mcR msR : Nat} {ret : Option FieldType} {tb : List ExceptionTableEntry} {X : MX}
variable {nc ns : Nat} {Q : State → Prop} {h : AH} {pc : Nat} {lv st : List Value}
theorem ar_getI (hX : Cx g own cc lev mcR msR ret tb X) {idx ci k a z : Nat} (hf : GI own idx ci k 0 z) (hl : LAY a = (0, ci)) (hd : decode cc pc = .ok (.getfield idx, 3)) (kk : AR g X nc ns Q h (pc + 3) lv (.int (gI h a k) :: st)) : AR g X nc ns Q h pc lv (.ref a :: st) := aw_getI hX hl (LAY_lt hl (by decide)) hf.2.1 hf.2.2.1 hf.1 hf.2.2.2 hd kk
theorem ar_getL (hX : Cx g own cc lev mcR msR ret tb X) {idx ci k a z : Nat} (hf : GI own idx ci k 1 z) (hl : LAY a = (0, ci)) (hd : decode cc pc = .ok (.getfield idx, 3)) (kk : AR g X nc ns Q h (pc + 3) lv (.long (gL h a k) :: st)) : AR g X nc ns Q h pc lv (.ref a :: st) := aw_getL hX hl (LAY_lt hl (by decide)) hf.2.1 hf.2.2.1 hf.1 hf.2.2.2 hd kk
theorem ar_getR (hX : Cx g own cc lev mcR msR ret tb X) {idx ci k a z : Nat} (hf : GI own idx ci k 2 z) (hl : LAY a = (0, ci)) {t : Nat} (hg : gR h a k = some t) (hd : decode cc pc = .ok (.getfield idx, 3)) (kk : AR g X nc ns Q h (pc + 3) lv (.ref t :: st)) : AR g X nc ns Q h pc lv (.ref a :: st) := aw_getR hX hl (LAY_lt hl (by decide)) hf.2.1 hf.2.2.1 hf.1 hf.2.2.2 hd (by rw [hg]; exact kk)
theorem ar_getF (hX : Cx g own cc lev mcR msR ret tb X) (hF : gF g = true) {idx ci k a z : Nat} (hf : GI own idx ci k 3 z) (hl : LAY a = (0, ci)) (hd : decode cc pc = .ok (.getfield idx, 3)) (kk : AR g X nc ns Q h (pc + 3) lv (.ref (a + z) :: st)) : AR g X nc ns Q h pc lv (.ref a :: st) := aw_getF hX hF hl (LAY_lt hl (by decide)) hf.2.1 hf.2.2.1 hf.1 hf.2.2.2 hd kk
theorem ar_putI (hX : Cx g own cc lev mcR msR ret tb X) {idx ci k a : Nat} {v : Int32} (hf : PI own idx ci k 0 0 .int) (hl : LAY a = (0, ci)) (hd : decode cc pc = .ok (.putfield idx, 3)) (kk : AR g X nc ns Q (sI h a k v) (pc + 3) lv st) : AR g X nc ns Q h pc lv (.int v :: .ref a :: st) := aw_putI hX hl (LAY_lt hl (by decide)) NT_le hf.1.2.1 hf.1.2.2.1 hf.1.1 hf.2.1 hf.2.2 hf.1.2.2.2 hd kk
theorem ar_putZ (hX : Cx g own cc lev mcR msR ret tb X) {idx ci k a : Nat} {v : Int32} (hf : PI own idx ci k 0 1 .boolean) (hl : LAY a = (0, ci)) (hz : v = 0 ∨ v = 1) (hd : decode cc pc = .ok (.putfield idx, 3)) (kk : AR g X nc ns Q (sI h a k v) (pc + 3) lv st) : AR g X nc ns Q h pc lv (.int v :: .ref a :: st) := aw_putZ hX hz hl (LAY_lt hl (by decide)) NT_le hf.1.2.1 hf.1.2.2.1 hf.1.1 hf.2.1 hf.2.2 hf.1.2.2.2 hd kk
theorem ar_putL (hX : Cx g own cc lev mcR msR ret tb X) {idx ci k a : Nat} {v : Int64} (hf : PI own idx ci k 1 0 .long) (hl : LAY a = (0, ci)) (hd : decode cc pc = .ok (.putfield idx, 3)) (kk : AR g X nc ns Q (sL h a k v) (pc + 3) lv st) : AR g X nc ns Q h pc lv (.long v :: .ref a :: st) := aw_putL hX hl (LAY_lt hl (by decide)) NT_le hf.1.2.1 hf.1.2.2.1 hf.1.1 hf.2.1 hf.2.2 hf.1.2.2.2 hd kk
theorem ar_putR (hX : Cx g own cc lev mcR msR ret tb X) {idx ci k a : Nat} {cn : String} {t : Nat} (hf : PI own idx ci k 2 0 (.object cn)) (hl : LAY a = (0, ci)) (hd : decode cc pc = .ok (.putfield idx, 3)) (kk : AR g X nc ns Q (sR h a k (some t)) (pc + 3) lv st) : AR g X nc ns Q h pc lv (.ref t :: .ref a :: st) := aw_putR (o := some t) hX hl (LAY_lt hl (by decide)) NT_le hf.1.2.1 hf.1.2.2.1 hf.1.1 hf.2.1 hf.2.2 hf.1.2.2.2 hd kk
theorem ar_alen (hX : Cx g own cc lev mcR msR ret tb X) {a : Nat} {v : Int32} (e : alenF a = some v) (hd : decode cc pc = .ok (.arraylength, 1)) (kk : AR g X nc ns Q h (pc + 1) lv (.int v :: st)) : AR g X nc ns Q h pc lv (.ref a :: st) := by
  obtain ⟨h1, h2⟩ := if_some e
  cases h2
  have hlt : (LAY a).1 < 9 := by omega
  exact aw_alen hX rfl h1 (LAY_lt (lay_eq rfl) hlt) hd kk
theorem ar_iaload (hX : Cx g own cc lev mcR msR ret tb X) {a : Nat} {i v : Int32} (e : ldI h a i = some v) (hd : decode cc pc = .ok (.iaload, 1)) (kk : AR g X nc ns Q h (pc + 1) lv (.int v :: st)) : AR g X nc ns Q h pc lv (.int i :: .ref a :: st) := by
  obtain ⟨h1, h2⟩ := if_some e
  obtain ⟨h3, h4⟩ := nif_some h2
  cases h4
  exact aw_iaload hX (lay_eq h1) (LAY_lt (lay_eq h1) (by decide)) h3 hd kk
theorem ar_baload (hX : Cx g own cc lev mcR msR ret tb X) {a : Nat} {i v : Int32} (e : ldZ h a i = some v) (hd : decode cc pc = .ok (.baload, 1)) (kk : AR g X nc ns Q h (pc + 1) lv (.int v :: st)) : AR g X nc ns Q h pc lv (.int i :: .ref a :: st) := by
  obtain ⟨h1, h2⟩ := if_some e
  obtain ⟨h3, h4⟩ := nif_some h2
  cases h4
  exact aw_baload hX (lay_eq h1) (LAY_lt (lay_eq h1) (by decide)) h3 hd kk
theorem ar_laload (hX : Cx g own cc lev mcR msR ret tb X) {a : Nat} {i : Int32} {v : Int64} (e : ldL h a i = some v) (hd : decode cc pc = .ok (.laload, 1)) (kk : AR g X nc ns Q h (pc + 1) lv (.long v :: st)) : AR g X nc ns Q h pc lv (.int i :: .ref a :: st) := by
  obtain ⟨h1, h2⟩ := if_some e
  obtain ⟨h3, h4⟩ := nif_some h2
  cases h4
  exact aw_laload hX (lay_eq h1) (LAY_lt (lay_eq h1) (by decide)) h3 hd kk
theorem ar_aaload (hX : Cx g own cc lev mcR msR ret tb X) {a : Nat} {i : Int32} {v : Option Nat} (e : ldR h a i = some v) (hd : decode cc pc = .ok (.aaload, 1)) (kk : AR g X nc ns Q h (pc + 1) lv (rfV v :: st)) : AR g X nc ns Q h pc lv (.int i :: .ref a :: st) := by
  obtain ⟨h1, h2⟩ := if_some e
  obtain ⟨h3, h4⟩ := nif_some h2
  cases h4
  exact aw_aaload hX (lay_eq h1) (LAY_lt (lay_eq h1) (by decide)) h3 hd kk
theorem ar_iastore (hX : Cx g own cc lev mcR msR ret tb X) {a : Nat} {i x : Int32} {h1 : AH} (e : stI h a i x = some h1) (hd : decode cc pc = .ok (.iastore, 1)) (kk : AR g X nc ns Q h1 (pc + 1) lv st) : AR g X nc ns Q h pc lv (.int x :: .int i :: .ref a :: st) := by
  obtain ⟨e1, e2⟩ := if_some e
  obtain ⟨e3, e4⟩ := nif_some e2
  cases e4
  exact aw_iastore hX (lay_eq e1) (LAY_lt (lay_eq e1) (by decide)) NT_le e3 hd kk
theorem ar_lastore (hX : Cx g own cc lev mcR msR ret tb X) {a : Nat} {i : Int32} {x : Int64} {h1 : AH} (e : stL h a i x = some h1) (hd : decode cc pc = .ok (.lastore, 1)) (kk : AR g X nc ns Q h1 (pc + 1) lv st) : AR g X nc ns Q h pc lv (.long x :: .int i :: .ref a :: st) := by
  obtain ⟨e1, e2⟩ := if_some e
  obtain ⟨e3, e4⟩ := nif_some e2
  cases e4
  exact aw_lastore hX (lay_eq e1) (LAY_lt (lay_eq e1) (by decide)) NT_le e3 hd kk
theorem ar_bastore (hX : Cx g own cc lev mcR msR ret tb X) {a : Nat} {i x : Int32} {h1 : AH} (e : stZ h a i x = some h1) (hd : decode cc pc = .ok (.bastore, 1)) (kk : AR g X nc ns Q h1 (pc + 1) lv st) : AR g X nc ns Q h pc lv (.int x :: .int i :: .ref a :: st) := by
  obtain ⟨e1, e2⟩ := if_some e
  obtain ⟨e3, e4⟩ := nif_some e2
  obtain ⟨e5, e6⟩ := if_some e4
  cases e6
  exact aw_bastore hX e5 (lay_eq e1) (LAY_lt (lay_eq e1) (by decide)) NT_le e3 hd kk
theorem ar_idiv (hX : Cx g own cc lev mcR msR ret tb X) {x y v : Int32} (e : idivF x y = some v) (hd : decode cc pc = .ok (.idiv, 1)) (kk : AR g X nc ns Q h (pc + 1) lv (.int v :: st)) : AR g X nc ns Q h pc lv (.int y :: .int x :: st) := by
  obtain ⟨h1, h2⟩ := nif_some e
  cases h2
  exact aw_idiv hX h1 hd kk
theorem ar_irem (hX : Cx g own cc lev mcR msR ret tb X) {x y v : Int32} (e : iremF x y = some v) (hd : decode cc pc = .ok (.irem, 1)) (kk : AR g X nc ns Q h (pc + 1) lv (.int v :: st)) : AR g X nc ns Q h pc lv (.int y :: .int x :: st) := by
  obtain ⟨h1, h2⟩ := nif_some e
  cases h2
  exact aw_irem hX h1 hd kk
theorem ar_ldiv (hX : Cx g own cc lev mcR msR ret tb X) {x y v : Int64} (e : ldivF x y = some v) (hd : decode cc pc = .ok (.ldiv, 1)) (kk : AR g X nc ns Q h (pc + 1) lv (.long v :: st)) : AR g X nc ns Q h pc lv (.long y :: .long x :: st) := by
  obtain ⟨h1, h2⟩ := nif_some e
  cases h2
  exact aw_ldiv hX h1 hd kk
theorem ar_lrem (hX : Cx g own cc lev mcR msR ret tb X) {x y v : Int64} (e : lremF x y = some v) (hd : decode cc pc = .ok (.lrem, 1)) (kk : AR g X nc ns Q h (pc + 1) lv (.long v :: st)) : AR g X nc ns Q h pc lv (.long y :: .long x :: st) := by
  obtain ⟨h1, h2⟩ := nif_some e
  cases h2
  exact aw_lrem hX h1 hd kk
/-! Math -/
theorem mm_room {fr lo : Nat} (h1 : 1 ≤ lev) (hst : stW st ≤ 8) (h2 : lev ≤ fr ∧ 41 * lev ≤ lo) : 1 ≤ fr ∧ ((st.map (tr g)).map fun v => v.category).sum + 15 ≤ lo := by
  rw [cat_tr]
  have : stW st = (st.map fun v => v.category).sum := rfl
  omega
theorem ar_imax (hX : Cx g own cc lev mcR msR ret tb X) {idx : Nat} {x y : Int32} (hlk : Cond.methodLink own idx Lib.Math.max.name ∈ W0) (hsc : Cond.static Lib.Math.max.name ∈ W0 ∧ Cond.initialized "java/lang/Math" ∈ W0 ∧ Cond.code Lib.Math.max.name Lib.Math.max.code 2 (some .int) ∈ W0) (h1 : 1 ≤ lev) (hst : stW st ≤ 8) (hc : nc ≤ mcR) (hs : ns ≤ msR) (hd : decode cc pc = .ok (.invokestatic idx, 3)) (kk : AR g X nc ns Q h (pc + 3) lv (.int (if x < y then y else x) :: st)) : AR g X nc ns Q h pc lv (.int y :: .int x :: st) := fun ls H locs hl hW hS => by
  obtain ⟨hfr, hlo, hce, hsl⟩ := hX.2.2.2.2.2.2.2.1
  obtain ⟨r1, r2⟩ := mm_room (g := g) h1 hst ⟨hfr, hlo⟩
  exact va_mmax hX.1 hX.2.1 hl.1.symm hX.2.2.1 (hX.2.2.2.1 _ hlk) (hX.2.2.2.1 _ hsc.1) (hX.2.2.2.1 _ hsc.2.1) (hX.2.2.2.1 _ hsc.2.2) r1 (by omega) (by rw [hce]; exact hc) (by rw [hsl]; exact hs) hd (kk ls H locs hl hW hS)
theorem ar_imin (hX : Cx g own cc lev mcR msR ret tb X) {idx : Nat} {x y : Int32} (hlk : Cond.methodLink own idx Lib.Math.min.name ∈ W0) (hsc : Cond.static Lib.Math.min.name ∈ W0 ∧ Cond.initialized "java/lang/Math" ∈ W0 ∧ Cond.code Lib.Math.min.name Lib.Math.min.code 2 (some .int) ∈ W0) (h1 : 1 ≤ lev) (hst : stW st ≤ 8) (hc : nc ≤ mcR) (hs : ns ≤ msR) (hd : decode cc pc = .ok (.invokestatic idx, 3)) (kk : AR g X nc ns Q h (pc + 3) lv (.int (if y < x then y else x) :: st)) : AR g X nc ns Q h pc lv (.int y :: .int x :: st) := fun ls H locs hl hW hS => by
  obtain ⟨hfr, hlo, hce, hsl⟩ := hX.2.2.2.2.2.2.2.1
  obtain ⟨r1, r2⟩ := mm_room (g := g) h1 hst ⟨hfr, hlo⟩
  exact va_mmin hX.1 hX.2.1 hl.1.symm hX.2.2.1 (hX.2.2.2.1 _ hlk) (hX.2.2.2.1 _ hsc.1) (hX.2.2.2.1 _ hsc.2.1) (hX.2.2.2.1 _ hsc.2.2) r1 (by omega) (by rw [hce]; exact hc) (by rw [hsl]; exact hs) hd (kk ls H locs hl hW hS)
theorem ar_lmax (hX : Cx g own cc lev mcR msR ret tb X) {idx : Nat} {x y : Int64} (hlk : Cond.methodLink own idx Lib.MathLoose.max_long.x ∈ W0) (hsc : Cond.static Lib.MathLoose.max_long.x ∈ W0 ∧ Cond.initialized "java/lang/Math" ∈ W0 ∧ Cond.code Lib.MathLoose.max_long.x Lib.MathLoose.max_long.code 4 (some .long) ∈ W0) (h1 : 1 ≤ lev) (hst : stW st ≤ 8) (hc : nc ≤ mcR) (hs : ns ≤ msR) (hd : decode cc pc = .ok (.invokestatic idx, 3)) (kk : AR g X nc ns Q h (pc + 3) lv (.long (if y < x then x else y) :: st)) : AR g X nc ns Q h pc lv (.long y :: .long x :: st) := fun ls H locs hl hW hS => by
  obtain ⟨hfr, hlo, hce, hsl⟩ := hX.2.2.2.2.2.2.2.1
  obtain ⟨r1, r2⟩ := mm_room (g := g) h1 hst ⟨hfr, hlo⟩
  exact va_mmax_long hX.1 hX.2.1 hl.1.symm hX.2.2.1 (hX.2.2.2.1 _ hlk) (hX.2.2.2.1 _ hsc.1) (hX.2.2.2.1 _ hsc.2.1) (hX.2.2.2.1 _ hsc.2.2) r1 r2 (by rw [hce]; exact hc) (by rw [hsl]; exact hs) hd (kk ls H locs hl hW hS)
theorem ar_lmin (hX : Cx g own cc lev mcR msR ret tb X) {idx : Nat} {x y : Int64} (hlk : Cond.methodLink own idx Lib.MathLoose.min_long.x ∈ W0) (hsc : Cond.static Lib.MathLoose.min_long.x ∈ W0 ∧ Cond.initialized "java/lang/Math" ∈ W0 ∧ Cond.code Lib.MathLoose.min_long.x Lib.MathLoose.min_long.code 4 (some .long) ∈ W0) (h1 : 1 ≤ lev) (hst : stW st ≤ 8) (hc : nc ≤ mcR) (hs : ns ≤ msR) (hd : decode cc pc = .ok (.invokestatic idx, 3)) (kk : AR g X nc ns Q h (pc + 3) lv (.long (if y < x then y else x) :: st)) : AR g X nc ns Q h pc lv (.long y :: .long x :: st) := fun ls H locs hl hW hS => by
  obtain ⟨hfr, hlo, hce, hsl⟩ := hX.2.2.2.2.2.2.2.1
  obtain ⟨r1, r2⟩ := mm_room (g := g) h1 hst ⟨hfr, hlo⟩
  exact va_mmin_long hX.1 hX.2.1 hl.1.symm hX.2.2.1 (hX.2.2.2.1 _ hlk) (hX.2.2.2.1 _ hsc.1) (hX.2.2.2.1 _ hsc.2.1) (hX.2.2.2.1 _ hsc.2.2) r1 r2 (by rw [hce]; exact hc) (by rw [hsl]; exact hs) hd (kk ls H locs hl hW hS)
end RR
