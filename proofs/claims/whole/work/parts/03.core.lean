/-! the abstract state: typed memory by abstract addresses; what a machine's heap must hold for it -/
abbrev AH : Type := (Nat → Nat → Int32) × (Nat → Nat → Int64) × (Nat → Nat → Option Nat)
def gI (h : AH) (a k : Nat) : Int32 := h.1 a k
def gL (h : AH) (a k : Nat) : Int64 := h.2.1 a k
def gR (h : AH) (a k : Nat) : Option Nat := h.2.2 a k
def up2 {α : Type} (f : Nat → Nat → α) (a k : Nat) (v : α) : Nat → Nat → α := fun a' k' => if a' = a ∧ k' = k then v else f a' k'
def sI (h : AH) (a k : Nat) (v : Int32) : AH := (up2 h.1 a k v, h.2)
def sL (h : AH) (a k : Nat) (v : Int64) : AH := (h.1, up2 h.2.1 a k v, h.2.2)
def sR (h : AH) (a k : Nat) (v : Option Nat) : AH := (h.1, h.2.1, up2 h.2.2 a k v)
/-- launch; class ids and slots; ids of the array classes; (base, whether final references are read off the layout); addresses of constants -/
abbrev GP : Type := Launch × va_G × (Nat → ClassId) × (Nat × Bool) × (Nat → Nat) × (Nat → Nat)
def gB (g : GP) : Nat := g.2.2.2.1.1
def gF (g : GP) : Bool := g.2.2.2.1.2
def gA (g : GP) : Nat → Prop := fun q => gB g ≤ q
def ad (g : GP) (a : Nat) : Nat := if a < 100000 then gB g + a else if a < 200000 then g.2.2.2.2.1 (a - 100000) else g.2.2.2.2.2 (a - 200000)
def tr (g : GP) (v : Value) : Value := match v with
  | .ref a => .ref (ad g a)
  | v => v
def rfV (o : Option Nat) : Value := match o with
  | none => .null
  | some x => .ref x
theorem tr_rfV (g : GP) (o : Option Nat) : tr g (rfV o) = va_rf (o.map (ad g)) := by cases o <;> rfl
theorem tr_cat (g : GP) (v : Value) : (tr g v).category = v.category := by cases v <;> rfl
def fieldV (g : GP) (rI : Nat → Int32) (rL : Nat → Int64) (rR : Nat → Option Nat) (a : Nat) (q : Nat × Nat) (k : Nat) : Value := match q.1 with
  | 0 => .int (rI k)
  | 1 => .long (rL k)
  | 2 => va_rf ((rR k).map (ad g))
  | _ => if gF g then .ref (ad g (a + q.2)) else va_rf ((rR k).map (ad g))
def fieldsV (g : GP) (rI : Nat → Int32) (rL : Nat → Int64) (rR : Nat → Option Nat) (a ci : Nat) : List Value := (List.range (FT ci).length).map (fun k => fieldV g rI rL rR a ((FT ci).getD k (0, 0)) k)
def entryR (g : GP) (rI : Nat → Int32) (rL : Nat → Int64) (rR : Nat → Option Nat) (a : Nat) : va_E := match LAY a with
  | (0, ci) => .inr (ci, fieldsV g rI rL rR a ci)
  | (1, n) => .inl (g.2.2.1 0, n, .inl rI)
  | (2, n) => .inl (g.2.2.1 1, n, .inr (.inl rL))
  | (3, n) => .inl (g.2.2.1 2, n, .inl rI)
  | (_, n) => .inl (g.2.2.1 3, n, .inr (.inr (.inr (.inr (fun i => (rR i).map (ad g))))))
def entry (g : GP) (h : AH) (a : Nat) : va_E := entryR g (h.1 a) (h.2.1 a) (h.2.2 a) a
def wsOf (g : GP) (n : Nat) (h : AH) : va_W := (List.range n).map (fun a => (ad g a, entry g h a))
theorem wsOf_get {g : GP} {n : Nat} {h : AH} {a : Nat} (ha : a < n) : (wsOf g n h)[a]? = some (ad g a, entry g h a) := by
  unfold wsOf
  rw [List.getElem?_map, List.getElem?_range ha]
  rfl
theorem wsOf_len (g : GP) (n : Nat) (h : AH) : (wsOf g n h).length = n := by unfold wsOf; simp
theorem wsOf_set {g : GP} {n : Nat} {h h' : AH} {a : Nat} (ha : a < n) {e : va_E} (he : e = entry g h' a) (ho : ∀ b, b ≠ a → entry g h b = entry g h' b) : (wsOf g n h).set a (ad g a, e) = wsOf g n h' := by
  subst he
  apply List.ext_getElem?
  intro i
  rw [List.getElem?_set]
  by_cases hi : a = i
  · subst hi
    rw [if_pos rfl, if_pos (by rw [wsOf_len]; exact ha), wsOf_get ha]
  · rw [if_neg hi]
    rcases Nat.lt_or_ge i n with q | q
    · rw [wsOf_get q, wsOf_get q, ho i (fun z => hi z.symm)]
    · rw [List.getElem?_eq_none (by rw [wsOf_len]; exact q), List.getElem?_eq_none (by rw [wsOf_len]; exact q)]
theorem wsOf_push {g : GP} {n : Nat} {h h' : AH} {e : va_E} (he : e = entry g h' n) (ho : ∀ b, b < n → entry g h b = entry g h' b) : wsOf g n h ++ [(ad g n, e)] = wsOf g (n + 1) h' := by
  subst he
  unfold wsOf
  rw [List.range_succ, List.map_append]
  congr 1
  exact List.map_congr_left fun b hb => by rw [ho b (List.mem_range.mp hb)]
theorem up2_row {α : Type} {f : Nat → Nat → α} {a k : Nat} {v : α} {b : Nat} (h : b ≠ a) : up2 f a k v b = f b := by
  funext j
  unfold up2
  rw [if_neg (fun z => h z.1)]
theorem up2_own {α : Type} {f : Nat → Nat → α} {a k : Nat} {v : α} : up2 f a k v a = fun j => if j = k then v else f a j := by
  funext j
  unfold up2
  by_cases e : j = k
  · rw [if_pos ⟨rfl, e⟩, if_pos e]
  · rw [if_neg (fun z => e z.2), if_neg e]
theorem entry_sI {g : GP} {h : AH} {a k : Nat} {v : Int32} {b : Nat} (hb : b ≠ a) : entry g h b = entry g (sI h a k v) b := by
  unfold entry sI
  dsimp only
  rw [up2_row hb]
theorem entry_sL {g : GP} {h : AH} {a k : Nat} {v : Int64} {b : Nat} (hb : b ≠ a) : entry g h b = entry g (sL h a k v) b := by
  unfold entry sL
  dsimp only
  rw [up2_row hb]
theorem entry_sR {g : GP} {h : AH} {a k : Nat} {v : Option Nat} {b : Nat} (hb : b ≠ a) : entry g h b = entry g (sR h a k v) b := by
  unfold entry sR
  dsimp only
  rw [up2_row hb]
theorem wsOf_D (g : GP) (n : Nat) (h : AH) (hn : n ≤ 100000) : va_D (gA g) (wsOf g n h) := by
  have key : ∀ (i : Nat) (p : Nat × va_E), (wsOf g n h)[i]? = some p → i < n ∧ p.1 = gB g + i := by
    intro i p hi
    have hl : i < n := by
      have := (List.getElem?_eq_some_iff.mp hi).1
      rwa [wsOf_len] at this
    rw [wsOf_get hl] at hi
    cases hi
    refine ⟨hl, ?_⟩
    show ad g i = _
    unfold ad
    rw [if_pos (by omega)]
  refine ⟨fun i j p q hi hj e => ?_, fun k q hk => ?_⟩
  · have h1 := (key i p hi).2
    have h2 := (key j q hj).2
    omega
  · have h1 := (key k q hk).2
    show gB g ≤ q.1
    omega
abbrev tysOf (g : GP) : List (ClassId × FieldType) := [(g.2.2.1 0, .int), (g.2.2.1 1, .long), (g.2.2.1 2, .boolean), (g.2.2.1 3, .object "SeatHall$Plan")]
/-- the machine's surroundings of a method's body -/
abbrev MX : Type := Program × Env × Room × State × MethodId × Array Value × List Frame × Method × Code
abbrev MX.R (X : MX) : Room := X.2.2.1
abbrev MX.s (X : MX) : State := X.2.2.2.1
abbrev MX.m (X : MX) : MethodId := X.2.2.2.2.1
abbrev MX.c (X : MX) : Code := X.2.2.2.2.2.2.2.2
abbrev MX.meth (X : MX) : Method := X.2.2.2.2.2.2.2.1
/-- the cells' picture -/
def Wo (g : GP) (n : Nat) (ex : Bool) (h : AH) (H : Heap) : Prop := va_P g.2.1 classes (wsOf g n h) H ∧ gB g ≤ H.size ∧ (ex = true → H.size = gB g + n)
abbrev jk : Value := .retAddr 0
def lvR (g : GP) (mL : Nat) (lv : List Value) (ls : Array Slot) : Prop := ls.size = mL ∧ lv.length = mL ∧ lv_wf ls ∧ ∀ (i : Nat) (v : Value), lv[i]? = some v → v ≠ jk → ls[i]? = some (.val (tr g v))
def lvl (g : GP) : Nat → List Value → List (Nat × Value)
  | _, [] => []
  | k, v :: r => if v = jk then lvl g (k + 1) r else (k, tr g v) :: lvl g (k + 1) r
theorem lvl_mem (g : GP) : ∀ (lv : List Value) (k : Nat) (q : Nat × Value), q ∈ lvl g k lv ↔ ∃ (j : Nat) (v : Value), lv[j]? = some v ∧ v ≠ jk ∧ q = (k + j, tr g v) := by
  intro lv
  induction lv with
  | nil => intro k q; simp [lvl]
  | cons a r ih =>
    intro k q
    have e : (∃ (j : Nat) (v : Value), (a :: r)[j]? = some v ∧ v ≠ jk ∧ q = (k + j, tr g v)) ↔ (a ≠ jk ∧ q = (k, tr g a)) ∨ ∃ (j : Nat) (v : Value), r[j]? = some v ∧ v ≠ jk ∧ q = (k + 1 + j, tr g v) := by
      constructor
      · rintro ⟨j, v, h1, h2, h3⟩
        cases j with
        | zero => cases h1; exact Or.inl ⟨h2, h3⟩
        | succ j => exact Or.inr ⟨j, v, h1, h2, by rw [h3]; congr 1; omega⟩
      · rintro (⟨h1, h2⟩ | ⟨j, v, h1, h2, h3⟩)
        · exact ⟨0, a, rfl, h1, h2⟩
        · exact ⟨j + 1, v, h1, h2, by rw [h3]; congr 1; omega⟩
    rw [e, lvl]
    by_cases ha : a = jk
    · rw [if_pos ha, ih]
      constructor
      · exact Or.inr
      · rintro (⟨h, -⟩ | h)
        · exact absurd ha h
        · exact h
    · rw [if_neg ha, List.mem_cons, ih]
      constructor
      · rintro (h | h)
        · exact Or.inl ⟨ha, h⟩
        · exact Or.inr h
      · rintro (⟨-, h⟩ | h)
        · exact Or.inl h
        · exact Or.inr h
theorem lvR_has {g : GP} {mL : Nat} {lv : List Value} {ls : Array Slot} (h : lvR g mL lv ls) : lv_has ls mL (lvl g 0 lv) := by
  refine ⟨h.1, h.2.2.1, fun q hq => ?_⟩
  obtain ⟨j, v, h1, h2, rfl⟩ := (lvl_mem g lv 0 q).mp hq
  have := h.2.2.2 j v h1 h2
  simpa using this
def uncV (v : Value) : Value := match v with
  | .long _ => jk
  | .double _ => jk
  | v => v
def unc (lv : List Value) (i : Nat) : List Value := match i with
  | 0 => lv
  | j + 1 => match lv[j]? with
    | some w => lv.set j (uncV w)
    | none => lv
def st1 (lv : List Value) (i : Nat) (v : Value) : List Value := (unc lv i).set i v
def st2 (lv : List Value) (i : Nat) (v : Value) : List Value := ((unc lv i).set i v).set (i + 1) jk
theorem unc_len (lv : List Value) (i : Nat) : (unc lv i).length = lv.length := by
  unfold unc
  split
  · rfl
  · split <;> simp
theorem uncV_ne {v : Value} (h : uncV v ≠ jk) : uncV v = v ∧ v.category ≠ 2 := by
  cases v <;> simp_all [uncV, Value.category]
theorem unc_get {lv : List Value} {i j : Nat} {w : Value} (h : (unc lv i)[j]? = some w) (hw : w ≠ jk) : lv[j]? = some w ∧ (j + 1 = i → w.category ≠ 2) := by
  unfold unc at h
  split at h
  · exact ⟨h, fun z => by omega⟩
  · rename_i j'
    split at h
    · rename_i v hv
      rw [List.getElem?_set] at h
      by_cases e : j' = j
      · subst e
        rw [if_pos rfl] at h
        split at h
        · cases h
          obtain ⟨h1, h2⟩ := uncV_ne hw
          rw [h1]
          exact ⟨hv, fun _ => h2⟩
        · cases h
      · rw [if_neg e] at h
        exact ⟨h, fun z => by omega⟩
    · rename_i hv
      refine ⟨h, fun z => ?_⟩
      have e : j = j' := by omega
      subst e
      rw [h] at hv
      cases hv
theorem st1_R {g : GP} {mL i : Nat} {lv : List Value} {v : Value} {ls : Array Slot} (hlen : lv.length = mL) (hi : i < mL) (h : lv_has ls mL ((i, tr g v) :: (lvl g 0 lv).filter (fun q => !(q.1 == i) && !(q.1 + 1 == i && q.2.category == 2)))) : lvR g mL (st1 lv i v) ls := by
  refine ⟨h.1, by unfold st1; rw [List.length_set, unc_len]; exact hlen, h.2.1, fun j w hj hw => ?_⟩
  unfold st1 at hj
  rw [List.getElem?_set] at hj
  by_cases e : i = j
  · subst e
    rw [if_pos rfl, if_pos (by rw [unc_len, hlen]; exact hi)] at hj
    cases hj
    exact h.2.2 (i, tr g v) List.mem_cons_self
  · rw [if_neg e] at hj
    obtain ⟨h1, h2⟩ := unc_get hj hw
    refine h.2.2 (j, tr g w) (List.mem_cons_of_mem _ (List.mem_filter.mpr ⟨(lvl_mem g lv 0 _).mpr ⟨j, w, h1, hw, by rw [Nat.zero_add]⟩, ?_⟩))
    have a1 : (j == i) = false := beq_eq_false_iff_ne.mpr (fun z => e z.symm)
    show (!(j == i) && !(j + 1 == i && (tr g w).category == 2)) = true
    rw [a1, tr_cat]
    by_cases z : j + 1 = i
    · have := h2 z
      have a2 : (w.category == 2) = false := beq_eq_false_iff_ne.mpr this
      rw [a2]; simp
    · have a2 : (j + 1 == i) = false := beq_eq_false_iff_ne.mpr z
      rw [a2]; rfl
theorem st2_R {g : GP} {mL i : Nat} {lv : List Value} {v : Value} {ls : Array Slot} (hlen : lv.length = mL) (hi : i + 1 < mL) (h : lv_has ls mL ((i, tr g v) :: (lvl g 0 lv).filter (fun q => !(q.1 == i) && (!(q.1 == i + 1) && !(q.1 + 1 == i && q.2.category == 2))))) : lvR g mL (st2 lv i v) ls := by
  refine ⟨h.1, by unfold st2; rw [List.length_set, List.length_set, unc_len]; exact hlen, h.2.1, fun j w hj hw => ?_⟩
  unfold st2 at hj
  rw [List.getElem?_set] at hj
  by_cases e0 : i + 1 = j
  · rw [if_pos e0] at hj
    split at hj
    · cases hj; exact absurd rfl hw
    · cases hj
  · rw [if_neg e0, List.getElem?_set] at hj
    by_cases e : i = j
    · subst e
      rw [if_pos rfl, if_pos (by rw [unc_len, hlen]; omega)] at hj
      cases hj
      exact h.2.2 (i, tr g v) List.mem_cons_self
    · rw [if_neg e] at hj
      obtain ⟨h1, h2⟩ := unc_get hj hw
      refine h.2.2 (j, tr g w) (List.mem_cons_of_mem _ (List.mem_filter.mpr ⟨(lvl_mem g lv 0 _).mpr ⟨j, w, h1, hw, by rw [Nat.zero_add]⟩, ?_⟩))
      have a1 : (j == i) = false := beq_eq_false_iff_ne.mpr (fun z => e z.symm)
      have a3 : (j == i + 1) = false := beq_eq_false_iff_ne.mpr (fun z => e0 z.symm)
      show (!(j == i) && (!(j == i + 1) && !(j + 1 == i && (tr g w).category == 2))) = true
      rw [a1, a3, tr_cat]
      by_cases z : j + 1 = i
      · have := h2 z
        have a2 : (w.category == 2) = false := beq_eq_false_iff_ne.mpr this
        rw [a2]; simp
      · have a2 : (j + 1 == i) = false := beq_eq_false_iff_ne.mpr z
        rw [a2]; rfl
