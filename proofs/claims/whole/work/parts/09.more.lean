/-! options and sums of the printed functions; exceptions that leave a method -/
def mt {α β : Type} (o : Option α) (a : β) (f : α → β) : β := match o with
  | none => a
  | some x => f x
theorem mt_none {α β : Type} {a : Option β} {f : α → Option β} {r : β} (h : mt none a f = some r) : a = some r := h
theorem mt_some {α β : Type} {a : Option β} {f : α → Option β} {x : α} {r : β} (h : mt (some x) a f = some r) : f x = some r := h
theorem uncV_rfV (o : Option Nat) : uncV (rfV o) = rfV o := by cases o <;> rfl
theorem iz {x a b : Int32} (h : a = b) : x + a = x + b := by rw [h]
def sm {α β γ : Type} (y : α ⊕ β) (f : α → γ) (k : β → γ) : γ := match y with
  | .inl a => f a
  | .inr b => k b
theorem sm_inl {α β γ : Type} {f : α → Option γ} {k : β → Option γ} {a : α} {r : γ} (h : sm (.inl a) f k = some r) : f a = some r := h
theorem sm_inr {α β γ : Type} {f : α → Option γ} {k : β → Option γ} {b : β} {r : γ} (h : sm (.inr b) f k = some r) : k b = some r := h
theorem lc_eq {x y : Int64} : lg_cmp x y = 0 ↔ x = y := lg_cmp_eq x y
theorem lc_lt {x y : Int64} : lg_cmp x y < 0 ↔ x < y := lg_cmp_lt x y
theorem lc_gt {x y : Int64} : 0 < lg_cmp x y ↔ y < x := lg_cmp_gt x y
theorem lc_ge {x y : Int64} : 0 ≤ lg_cmp x y ↔ y ≤ x := lg_cmp_ge x y
theorem lc_le {x y : Int64} : lg_cmp x y ≤ 0 ↔ x ≤ y := lg_cmp_le x y
theorem ts_out {x : Int32} (n : Nat) (h : ∀ j : Nat, j < n → ¬ x = Int32.ofNat j) (hn : n < 2 ^ 31 := by decide) : x.toInt < 0 ∨ ((n : Int) - 1) < x.toInt := by
  rcases Int.lt_or_le x.toInt 0 with q | q
  · exact Or.inl q
  · refine Or.inr ?_
    rcases Int.lt_or_le ((n : Int) - 1) x.toInt with z | z
    · exact z
    · exfalso
      refine h x.toInt.toNat (by omega) ?_
      rw [← Int32.toInt_inj, Int32.toInt_ofNat_of_lt (by omega)]
      omega
/-- what is thrown, or returned, and what it costs -/
def xo_V (z : Unit ⊕ Nat) : Option Value ⊕ Nat := sm z (fun _ => .inl none) .inr
def xo_I (z : Int32 ⊕ Nat) : Option Value ⊕ Nat := sm z (fun v => .inl (some (.int v))) .inr
def xo_L (z : Int64 ⊕ Nat) : Option Value ⊕ Nat := sm z (fun v => .inl (some (.long v))) .inr
def xc {α : Type} (z : α ⊕ Nat) : Nat := sm z (fun _ => 0) (fun _ => 1)
def xs {α : Type} (z : α ⊕ Nat) : Nat := sm z (fun _ => 0) (fun _ => 6)
theorem cx_g {g : GP} {own : String} {cc : ByteArray} {lev mcR msR : Nat} {ret : Option FieldType} {tb : List ExceptionTableEntry} {X : MX} (hX : Cx g own cc lev mcR msR ret tb X) : g.1.stackTraces = false := hX.2.2.2.2.2.2.2.2.2.2.2
abbrev xNames : List String := ["java/lang/RuntimeException", "java/lang/Exception"]
def TH (own : String) (ik ic E : Nat) : Prop := Cond.classLink own ik (exN E) ∈ W0 ∧ Cond.initialized (exN E) ∈ W0 ∧ (∀ w ∈ vx_at0 own ic (exN E) xNames, w ∈ W0 ∨ w ∈ fxW) ∧ (∀ w ∈ Cond.classLink own ik (exN E) :: Cond.initialized (exN E) :: vx_at0 own ic (exN E) xNames, vx_ot w = true) ∧ Bundle.fit (exN E) = true
theorem fx_tab {w : Cond} (h : w ∈ fxW) : w.onTables = true := by
  rcases List.mem_append.mp h with h | h
  · obtain ⟨q, -, rfl⟩ := List.mem_map.mp h; rfl
  rcases List.mem_append.mp h with h | h <;> obtain ⟨q, -, rfl⟩ := List.mem_map.mp h <;> rfl
theorem cx_fx {g : GP} {own : String} {cc : ByteArray} {lev mcR msR : Nat} {ret : Option FieldType} {tb : List ExceptionTableEntry} {X : MX} (hX : Cx g own cc lev mcR msR ret tb X) {w : Cond} (h : w ∈ fxW) : w.before X.2.2.2.2.2.1 X.s = true := va_Nw.use (fx_tab h) (hX.2.2.2.2.2.1.1 w h)
section RT
variable {g : GP} {own : String} {cc : ByteArray} {lev mcR msR : Nat} {ret : Option FieldType} {tb : List ExceptionTableEntry} {X : MX}
variable {n : Nat} {nc ns mc ms : Nat} {Q : State → Prop} {h : AH} {pc : Nat} {lv st : List Value}
theorem ar_throw (hX : Cx g own cc lev mcR msR ret [] X) {ik ic E : Nat} (hT : TH own ik ic E) (h6 : 6 ≤ lev) (d0 : decode cc pc = .ok (.new ik, 3)) (d3 : decode cc (pc + 3) = .ok (.dup, 1)) (d4 : decode cc (pc + 4) = .ok (.invokespecial ic, 3)) (d7 : decode cc (pc + 7) = .ok (.athrow, 1)) (h1 : 1 ≤ mcR) (h2 : 6 ≤ msR) : AR g X 0 0 (QQ g X NT false h (.inr E) 1 6) h pc lv [] := fun ls H locs hl hW hS => by
  obtain ⟨hfr, hlo, hce, hsl⟩ := hX.2.2.2.2.2.2.2.1
  have hts := hX.2.2.2.1
  have hF := hX.2.2.2.2.2.1
  refine vx_throw0 (A := gA g) (names := xNames) (mc := 1) (ms := 6) hX.1 hX.2.1 (cx_g hX) hX.2.2.1 hT.2.2.2.2 (by decide) (hts _ hT.1) (hts _ hT.2.1) (fun w hw => (hT.2.2.1 w hw).elim (hts w) (cx_fx hX)) hT.2.2.2.1 hF.2.2.1 hF.2.2.2.1 hS (by rw [hl.1]) (by rw [← show X.c.code = cc from hX.2.1] at d0; rw [← show X.c.code = cc from hX.2.1]; exact d0) d3 d4 d7 (fun x hx => by rw [show X.c.exceptionTable.toList = [] from hX.2.2.2.2.2.2.2.2.2.2.1] at hx; cases hx) ?_ ?_ ?_ ?_ hX.2.2.2.2.2.2.2.2.1 ?_ hS.2.2 (Nat.le_refl _) (Nat.le_refl _)
  · show 2 + 3 < X.R.frames
    omega
  · show 0 + (13 * (2 + 1) + 42) ≤ X.R.locals
    omega
  · show 0 + 1 ≤ X.R.cells
    rw [hce]; exact h1
  · show 0 + 6 ≤ X.R.slots
    rw [hsl]; exact h2
  · intro t ha hz hk
    refine ⟨rfl, ⟨hW.1.kept (fun k x hx => hk x.1 (hW.1 k x hx).lt), Nat.le_trans hW.2.1 hz, fun z => by cases z⟩, Nat.le_trans hS.1 hz, fun q h1 h2 => ?_⟩
    rw [hk q (Nat.lt_of_lt_of_le h1 hS.1)]
    exact hS.2.1 q h1 h2
theorem ctrX_of {y : MethodName} {cy : ByteArray} {mL : Nat} {rt : Option FieldType} {av lv0 : List Value} {h' : AH} {E : Nat} (hlv : arL av mL = lv0) (hle : Nat.ble (arS av).length mL = true) (hy : plainName y.cls = true) (hg : g.1.stackTraces = false)
    (body : ∀ X : MX, Cx g y.cls cy lev 1 6 rt [] X → AW g X n false 0 0 (QQ g X n false h' (.inr E) 1 6) h 0 lv0 []) : vx_Met g.1 y (wsY y cy mL rt) (Rm lev 1 6) (va_Pc (trs g av) (Pre g n false h)) QN (XR g n h' E) 1 6 (gA g) := by
  refine vx_ofW hy rfl (fun p e s m args below meth c s₁ B hml htn hP => ?_)
  obtain ⟨rfl, hWo, hK, hF⟩ := hP
  have hts := atoms_spec (ws := wsY y cy mL rt) B.pre
  have ht : c.exceptionTable.toList = [] := by
    cases hc : c.exceptionTable.toList with
    | nil => rfl
    | cons a r => exact absurd (htn a (by rw [hc]; exact List.mem_cons_self)) id
  have hb := body (p, e, Rm lev 1 6, s, m, (trs g av).toArray, below, meth, c) ⟨B.exec, B.bytes, findClass_of_methodNamed B.named, fun w hw => hts w (List.mem_cons_of_mem _ hw), hK, hF, hWo.2.1, ⟨Nat.le_refl _, Nat.le_refl _, rfl, rfl⟩, B.notSynchronized, B.returns, ht, hg⟩
  rw [lg_entry_eq]
  subst hlv
  have hl : lvR g c.maxLocals (arL av mL) ((lg_sl (trs g av) ++ List.replicate (mL - (lg_sl (trs g av)).length) Slot.unset).toArray) := by rw [hml]; exact lvR_entry hle
  exact hb _ s.heap [] hl hWo va_S.rf
/-- a callee that throws, in a method without a table -/
theorem aw_callVX (hX : Cx g own cc lev mcR msR ret [] X) {y : MethodName} {cy : ByteArray} {mLy levy idx b ci np : Nat} {rt : Option FieldType} {av avr : List Value} {h' : AH} {E : Nat}
    (hct : CtrX g y (wsY y cy mLy rt) levy (.ref b :: av) NT h E h') (hm : MI y cy mLy rt np) (hav : av.reverse = avr) (hnp : av.length = np) (hlk : Cond.methodLink own idx y ∈ W0) (hin : Cond.instanceMethod y ∈ W0) (hse : Cond.selects y.cls y y ∈ W0) (hlt : levy < lev)
    (hl : LAY b = (0, ci)) (hb : b < NT) (hci : Nat.ble (ci + 1) 11 = true) (hcl : clC ci = y.cls) (hst : stW st ≤ 8) (hc : 1 ≤ mcR) (hs : 6 ≤ msR) (hd : decode cc pc = .ok (.invokevirtual idx, 3)) : AR g X 0 0 (QQ g X NT false h' (.inr E) 1 6) h pc lv (avr ++ .ref b :: st) := fun ls H locs hlv hW hS => by
  have hci' := Nat.le_of_ble_eq_true hci
  obtain ⟨hfr, hlo, hce, hsl⟩ := hX.2.2.2.2.2.2.2.1
  have hP := hW.1
  have hrec := va_recv hX.2.2.2.2.1 hP (cl_ok ci hci') (q0 := b) (a := ad g b) (fs := fieldsV g (h.1 b) (h.2.1 b) (h.2.2 b) b ci) ((wsOf_get hb).trans (by rw [entry_obj hl]))
  rw [trs_rev hav]
  have hr := vx_runV (As := trs g av) (ws := wsY y cy mLy rt) (b := ad g b) (C := y.cls) (nL := X.c.maxLocals) (Ts := W0) (n := np) (index := idx) (l := g.1) (e := X.2.1) (R := X.R) (below := X.2.2.2.2.2.2.1) (meth := X.meth) (H := H) (locs := locs) (cells := 0) (slots := 0) (g := F0 X.m pc ls ((trs g av).reverse ++ .ref (ad g b) :: st.map (tr g))) (rest := st.map (tr g)) ⟨hX.1, hX.2.1, rfl, hX.2.2.1, hX.2.2.2.1⟩ hct
    (cwV np hX.2.2.2.1 (w0_goodIn (fun w hw => ?_)) rfl rfl rfl ⟨rfl, hm.2.2.1⟩ (rm_le hlt hm.2.2.2 ⟨hfr, hlo⟩)) ⟨pre_blind _, by rw [← hcl]; exact hrec, fun U hU hWm => ⟨rfl, pre_at hX hW hS hU hWm⟩⟩ rfl (by rw [List.length_map]; exact hnp) hlv.1 rfl (lv_room (by rw [cat_tr]; exact hst)) hd ⟨by rw [hce]; exact hc, by rw [hsl]; exact hs⟩
  · intro T hT Z
    rcases hr T hT Z with ⟨v, st₀, t, T', L, h0, X', hL, e1, e2, hq, sg⟩ | ⟨q, st₀, t, T', L, C, ce, h0, X', hL, e1, e2, ⟨hC, hw, hz, hk⟩, hce2, hcv, hcl2, sg⟩
    · exact absurd hq id
    · rw [h0] at hz hk
      have hS1 : va_S (gA g) X.s.heap T'.heap (locs ++ L) := ⟨Nat.le_trans hS.1 (by rw [e1]; exact hz), fun q h1 h2 => by rw [e1, hk q (Nat.lt_of_lt_of_le h1 hS.1) h2]; exact hS.2.1 q h1 h2, fun q hq => by
        rcases List.mem_append.mp hq with h | h
        · exact hS.2.2 q h
        · exact hL q h⟩
      obtain ⟨t2, a1, b1⟩ := vx_out (Qc := QN) (XC := XR g NT h' E) (mc := 1) (ms := 6) (free := gA g) (args := X.2.2.2.2.2.1) (pc := pc) (ls := ls) (rest := st.map (tr g)) (below := X.2.2.2.2.2.2.1) (fun x hx => by rw [show X.c.exceptionTable.toList = [] from hX.2.2.2.2.2.2.2.2.2.2.1] at hx; cases hx) hX.2.2.2.2.2.2.2.2.1 (by rw [e1]; exact hce2) hcv hcl2 (fun t3 ht3 ha3 => ⟨hC, by rw [ht3, e1]; exact hw, SF hS1 ht3⟩) hS1.2.2 (Nat.le_refl 1) (Nat.le_refl 6) T' rfl X'
      exact ⟨t2, sg.trans a1, b1⟩
  · rcases List.mem_append.mp hw with h | h
    · simp only [List.mem_cons, List.not_mem_nil, or_false] at h
      rcases h with rfl | rfl | rfl | rfl
      · exact hlk
      · exact hin
      · exact hse
      · exact hm.2.1
    · exact wsY_in hm w h
end RT
