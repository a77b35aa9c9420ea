/-! methods with a table of their own: the law's helpers -/
theorem cast_0 : Cond.castable (exN 0) (exN 0) ∈ fxW := List.mem_append.mpr (Or.inr (List.mem_append.mpr (Or.inl (List.mem_map.mpr ⟨("java/util/NoSuchElementException", "java/util/NoSuchElementException"), List.mem_of_getElem? (i := 1) rfl, rfl⟩))))
theorem cast_1 : Cond.castable (exN 1) (exN 1) ∈ fxW := List.mem_append.mpr (Or.inr (List.mem_append.mpr (Or.inl (List.mem_map.mpr ⟨("java/lang/IllegalArgumentException", "java/lang/IllegalArgumentException"), List.mem_of_getElem? (i := 0) rfl, rfl⟩))))
def wsW (y : MethodName) (cy : ByteArray) (mL : Nat) (ret : Option FieldType) (hh : List (Nat × Nat × Nat × Nat)) : List Cond := .codeWith y cy mL ret hh :: W0
def MIW (y : MethodName) (cy : ByteArray) (mL : Nat) (rt : Option FieldType) (np : Nat) (hh : List (Nat × Nat × Nat × Nat)) : Prop := Cond.codeWith y cy mL rt hh ∈ W0 ∧ Cond.initialized y.cls ∈ W0 ∧ (y.cls ≠ "java/lang/invoke/MethodHandle" ∧ y.cls ≠ "java/lang/invoke/VarHandle" ∧ (parseMethodDescriptor y.desc).map (fun d => d.parameters.length) = some np) ∧ mL ≤ 22
theorem wsW_in {y : MethodName} {cy : ByteArray} {mL np : Nat} {rt : Option FieldType} {hh : List (Nat × Nat × Nat × Nat)} (hm : MIW y cy mL rt np hh) : ∀ w ∈ wsW y cy mL rt hh, w ∈ W0 := fun w h => (List.mem_cons.mp h).elim (fun e => by rw [e]; exact hm.1) id
section RW
variable {g : GP} {own : String} {cc : ByteArray} {lev mcR msR : Nat} {ret : Option FieldType} {tb : List ExceptionTableEntry} {X : MX}
variable {n : Nat} {ex : Bool} {nc ns mc ms : Nat} {Q : State → Prop} {h : AH} {pc : Nat} {lv st : List Value}
theorem ctrW_of {y : MethodName} {cy : ByteArray} {mL : Nat} {rt : Option FieldType} {hh : List (Nat × Nat × Nat × Nat)} {av lv0 : List Value} {n' : Nat} {ex' : Bool} {h' : AH} {r : Option Value} (hlv : arL av mL = lv0) (hle : Nat.ble (arS av).length mL = true) (hy : plainName y.cls = true) (hg : g.1.stackTraces = false)
    (body : ∀ X : MX, Cx g y.cls cy lev mc ms rt (tableOf hh) X → AW g X n ex 0 0 (QQ g X n' ex' h' (.inl r) mc ms) h 0 lv0 []) : Ctr g y (wsW y cy mL rt hh) lev mc ms av n ex h r n' ex' h' := by
  refine va_MetW hy rfl (fun p e s m args below meth c s₁ B hml hP => ?_)
  obtain ⟨rfl, hWo, hK, hF⟩ := hP
  have hts := atoms_spec (ws := wsW y cy mL rt hh) B.pre
  have hb := body (p, e, Rm lev mc ms, s, m, (trs g av).toArray, below, meth, c) ⟨B.exec, B.bytes, findClass_of_methodNamed B.named, fun w hw => hts w (List.mem_cons_of_mem _ hw), hK, hF, hWo.2.1, ⟨Nat.le_refl _, Nat.le_refl _, rfl, rfl⟩, B.notSynchronized, B.returns, vx_table (x := y) B (hts _ List.mem_cons_self), hg⟩
  rw [lg_entry_eq]
  subst hlv
  have hl : lvR g c.maxLocals (arL av mL) ((lg_sl (trs g av) ++ List.replicate (mL - (lg_sl (trs g av)).length) Slot.unset).toArray) := by rw [hml]; exact lvR_entry hle
  exact hb _ s.heap [] hl hWo va_S.rf
/-- a handler's start: the exception is on the stack -/
def AWr (g : GP) (X : MX) (nc ns : Nat) (Q : State → Prop) (h : AH) (pc : Nat) (lv : List Value) : Prop :=
  ∀ (ls : Array Slot) (H : Heap) (locs : List Loc) (q : Nat), lvR g X.c.maxLocals lv ls → Wo g NT false h H → va_S (gA g) X.s.heap H locs → WX g X H locs nc ns Q (F0 X.m pc ls [.ref q])
theorem awr_n (hX : Cx g own cc lev mcR msR ret tb X) {q : Fin 4} {i : Nat} {lv2 : List Value} (hq : (q : Nat) = i) (hs1 : st1 lv i jk = lv2) (hn : Nat.ble (i + 1) lv.length = true) (hd2 : decode cc pc = .ok (.astore_n q, 1)) (k : AR g X nc ns Q h (pc + 1) lv2 []) : AWr g X nc ns Q h pc lv := fun ls H locs q' hlv hW hS =>
  lv_astore_n hX.1 hX.2.1 hd2 hq (lvR_has hlv) (by have hn := Nat.le_of_ble_eq_true hn; rw [hlv.2.1] at hn; exact hn) rfl (fun ls2 hl2 => by
    subst hs1
    exact k ls2 H locs (st1_any hlv.2.1 (by have hn := Nat.le_of_ble_eq_true hn; rw [hlv.2.1] at hn; exact hn) hl2) hW hS)
theorem awr_2 (hX : Cx g own cc lev mcR msR ret tb X) {i : Nat} {lv2 : List Value} (hs1 : st1 lv i jk = lv2) (hn : Nat.ble (i + 1) lv.length = true) (hd2 : decode cc pc = .ok (.astore i, 2)) (k : AR g X nc ns Q h (pc + 2) lv2 []) : AWr g X nc ns Q h pc lv := fun ls H locs q' hlv hW hS =>
  lv_astore hX.1 hX.2.1 hd2 (lvR_has hlv) (by have hn := Nat.le_of_ble_eq_true hn; rw [hlv.2.1] at hn; exact hn) rfl (fun ls2 hl2 => by
    subst hs1
    exact k ls2 H locs (st1_any hlv.2.1 (by have hn := Nat.le_of_ble_eq_true hn; rw [hlv.2.1] at hn; exact hn) hl2) hW hS)
/-- a callee throws, and it is caught here: the handler stores it and goes on -/
theorem aw_callC (hX : Cx g own cc lev mcR msR ret tb X) {y : MethodName} {cy : ByteArray} {mLy levy idx b ci np : Nat} {rt : Option FieldType} {av avr : List Value} {h' : AH} {E : Nat}
    (hct : CtrX g y (wsY y cy mLy rt) levy (.ref b :: av) NT h E h') (hm : MI y cy mLy rt np) (hav : av.reverse = avr) (hnp : av.length = np) (hlk : Cond.methodLink own idx y ∈ W0) (hin : Cond.instanceMethod y ∈ W0) (hse : Cond.selects y.cls y y ∈ W0) (hlt : levy < lev)
    (hl : LAY b = (0, ci)) (hb : b < NT) (hci : Nat.ble (ci + 1) 11 = true) (hcl : clC ci = y.cls) (hst : stW st ≤ 8) (hc : nc + 1 ≤ mcR) (hs : ns + 6 ≤ msR) (hd : decode cc pc = .ok (.invokevirtual idx, 3))
    (pre : List ExceptionTableEntry) (x : ExceptionTableEntry) (suf : List ExceptionTableEntry) (htb : tb = pre ++ x :: suf) (hpass : ∀ z ∈ pre, covers z pc = false ∨ (z.catchType ≠ 0 ∧ ∃ nm : String, Cond.classLink own z.catchType nm ∈ W0 ∧ va_Nc (exN E) nm X.s)) (hx : covers x pc = true) (h0 : x.catchType ≠ 0) (hcl2 : Cond.classLink own x.catchType (exN E) ∈ W0) (hcast : Cond.castable (exN E) (exN E) ∈ fxW)
    (k : AWr g X (nc + 1) (ns + 6) Q h' x.handlerPc lv) : AW g X NT false nc ns Q h pc lv (avr ++ .ref b :: st) := fun ls H locs hlv hW hS => by
  have hci' := Nat.le_of_ble_eq_true hci
  obtain ⟨hfr, hlo, hce, hsl⟩ := hX.2.2.2.2.2.2.2.1
  have hP := hW.1
  have hrec := va_recv hX.2.2.2.2.1 hP (cl_ok ci hci') (q0 := b) (a := ad g b) (fs := fieldsV g (h.1 b) (h.2.1 b) (h.2.2 b) b ci) ((wsOf_get hb).trans (by rw [entry_obj hl]))
  rw [trs_rev hav]
  have hr := vx_runV (As := trs g av) (ws := wsY y cy mLy rt) (b := ad g b) (C := y.cls) (nL := X.c.maxLocals) (Ts := W0) (n := np) (index := idx) (l := g.1) (e := X.2.1) (R := X.R) (below := X.2.2.2.2.2.2.1) (meth := X.meth) (H := H) (locs := locs) (cells := nc) (slots := ns) (g := F0 X.m pc ls ((trs g av).reverse ++ .ref (ad g b) :: st.map (tr g))) (rest := st.map (tr g)) ⟨hX.1, hX.2.1, rfl, hX.2.2.1, hX.2.2.2.1⟩ hct
    (cwV np hX.2.2.2.1 (w0_goodIn (fun w hw => ?_)) rfl rfl rfl ⟨rfl, hm.2.2.1⟩ (rm_le hlt hm.2.2.2 ⟨hfr, hlo⟩)) ⟨pre_blind _, by rw [← hcl]; exact hrec, fun U hU hWm => ⟨rfl, pre_at hX hW hS hU hWm⟩⟩ rfl (by rw [List.length_map]; exact hnp) hlv.1 rfl (lv_room (by rw [cat_tr]; exact hst)) hd ⟨by rw [hce]; exact hc, by rw [hsl]; exact hs⟩
  · intro T hT Z
    rcases hr T hT Z with ⟨v, st₀, t, T', L, h0', X', hL, e1, e2, hq', sg⟩ | ⟨q', st₀, t, T', L, C, ce, h0', X', hL, e1, e2, ⟨hC, hw, hz, hk⟩, hce2, hcv, hcl3, sg⟩
    · exact absurd hq' id
    · rw [h0'] at hz hk
      subst hC
      have hS1 : va_S (gA g) X.s.heap T'.heap (locs ++ L) := ⟨Nat.le_trans hS.1 (by rw [e1]; exact hz), fun q h1 h2 => by rw [e1, hk q (Nat.lt_of_lt_of_le h1 hS.1) h2]; exact hS.2.1 q h1 h2, fun q hq => by
        rcases List.mem_append.mp hq with h | h
        · exact hS.2.2 q h
        · exact hL q h⟩
      have hW1 : Wo g NT false h' T'.heap := by rw [e1]; exact hw
      have hcat := vx_catch (p := X.1) (l := g.1) (e := X.2.1) (R := X.R) (args := X.2.2.2.2.2.1) (below := X.2.2.2.2.2.2.1) (meth := X.meth) (c := X.c) (H := T'.heap) (locs := locs ++ L) (cells := nc + 1) (slots := ns + 6) (Q := Q) (pc := pc) (ls := ls) (rest := st.map (tr g)) (q := q') hX.2.2.1 pre x suf (by rw [show X.c.exceptionTable.toList = tb from hX.2.2.2.2.2.2.2.2.2.2.1, htb]) (fun z hz => (hpass z hz).imp id (fun ⟨a, nm, b, c⟩ => ⟨a, nm, hX.2.2.2.1 _ b, c⟩)) hx h0 (hX.2.2.2.1 _ hcl2) (cx_fx hX hcast) (by rw [e1]; exact hce2) hcv hcl3
        (k ls T'.heap (locs ++ L) q' hlv hW1 hS1)
      obtain ⟨t2, a1, b1⟩ := hcat T' rfl X'
      exact ⟨t2, sg.trans a1, b1⟩
  · rcases List.mem_append.mp hw with h | h
    · simp only [List.mem_cons, List.not_mem_nil, or_false] at h
      rcases h with rfl | rfl | rfl | rfl
      · exact hlk
      · exact hin
      · exact hse
      · exact hm.2.1
    · exact wsY_in hm w h
/-- a static call of a method with a table -/
theorem aw_callSW (hX : Cx g own cc lev mcR msR ret tb X) {y : MethodName} {cy : ByteArray} {mLy levy mcy msy idx np : Nat} {rt : Option FieldType} {hh : List (Nat × Nat × Nat × Nat)} {av avr : List Value} {n' : Nat} {ex' : Bool} {h' : AH} {r : Option Value}
    (hct : Ctr g y (wsW y cy mLy rt hh) levy mcy msy av n ex h r n' ex' h') (hm : MIW y cy mLy rt np hh) (hav : av.reverse = avr) (hnp : av.length = np) (hlk : Cond.methodLink own idx y ∈ W0) (hsta : Cond.static y ∈ W0) (hlt : levy < lev)
    (hst : stW st ≤ 8) (hc : nc + mcy ≤ mcR) (hs : ns + msy ≤ msR) (hd : decode cc pc = .ok (.invokestatic idx, 3))
    (k : AW g X n' ex' (nc + mcy) (ns + msy) Q h' (pc + 3) lv (r.toList ++ st)) : AW g X n ex nc ns Q h pc lv (avr ++ st) := fun ls H locs hlv hW hS => by
  obtain ⟨hfr, hlo, hce, hsl⟩ := hX.2.2.2.2.2.2.2.1
  rw [trs_rev hav]
  refine wx_call (mc := mcy) (ms := msy) (r := r) (rest := st.map (tr g)) (vx_runSW (As := trs g av) (ws := wsW y cy mLy rt hh) (nL := X.c.maxLocals) (Ts := W0) (n := np) (index := idx) ⟨hX.1, hX.2.1, rfl, hX.2.2.1, hX.2.2.2.1⟩ hct
    (vx_cwSW np hX.2.2.2.1 (w0_goodIn (fun w hw => ?_)) rfl rfl rfl hm.2.2.1 (rm_le hlt hm.2.2.2 ⟨hfr, hlo⟩)) ⟨pre_blind _, fun U hU hWm => ⟨rfl, pre_at hX hW hS hU hWm⟩⟩ rfl (by rw [List.length_map]; exact hnp) hlv.1 rfl (lv_room (by rw [cat_tr]; exact hst)) hd ⟨by rw [hce]; exact hc, by rw [hsl]; exact hs⟩) hS (fun H1 locs1 hW1 hS1 => ?_)
  · rcases List.mem_append.mp hw with h | h
    · simp only [List.mem_cons, List.not_mem_nil, or_false] at h
      rcases h with rfl | rfl | rfl
      · exact hlk
      · exact hsta
      · exact hm.2.1
    · exact wsW_in hm w h
  · have := k ls H1 locs1 hlv hW1 hS1
    rw [optl] at this
    exact this
theorem aw_widen {nc' ns' : Nat} (h1 : nc ≤ nc') (h2 : ns ≤ ns') (k : AW g X n ex nc' ns' Q h pc lv st) : AW g X n ex nc ns Q h pc lv st := fun ls H locs hl hW hS => W.widen h1 h2 (k ls H locs hl hW hS)
/-- the script's ints -/
def ldS (L : Nat) (xs : Nat → Int32) (i : Int32) : Option Int32 := if outB i L then none else some (xs i.toNatClampNeg)
def SX (g : GP) (X : MX) (L : Nat) (xs : Nat → Int32) : Prop := va_X (g.2.2.2.2.1 99) L xs X.s X.s.heap ∧ g.2.2.2.2.1 99 < X.s.heap.size ∧ ¬ gA g (g.2.2.2.2.1 99)
theorem ad_scr (g : GP) : ad g 100099 = g.2.2.2.2.1 99 := by
  unfold ad
  rw [if_neg (by omega), if_pos (by omega)]
theorem ar_slen (hX : Cx g own cc lev mcR msR ret tb X) {L : Nat} {xs : Nat → Int32} (hx : SX g X L xs) (hd : decode cc pc = .ok (.arraylength, 1)) (kk : AR g X nc ns Q h (pc + 1) lv (.int (Int32.ofNat L) :: st)) : AR g X nc ns Q h pc lv (.ref 100099 :: st) := fun ls H locs hl hW hS => by
  have k := kk ls H locs hl hW hS
  rw [List.map_cons, show tr g (.ref 100099) = .ref (g.2.2.2.2.1 99) by show Value.ref (ad g 100099) = _; rw [ad_scr]]
  exact va_slen hX.1 hX.2.1 hx.1 hx.2.1 hx.2.2 hS hd k
theorem ar_sld (hX : Cx g own cc lev mcR msR ret tb X) {L : Nat} {xs : Nat → Int32} {i v : Int32} (hx : SX g X L xs) (e : ldS L xs i = some v) (hd : decode cc pc = .ok (.iaload, 1)) (kk : AR g X nc ns Q h (pc + 1) lv (.int v :: st)) : AR g X nc ns Q h pc lv (.int i :: .ref 100099 :: st) := fun ls H locs hl hW hS => by
  obtain ⟨e1, e2⟩ := nif_some e
  cases e2
  have k := kk ls H locs hl hW hS
  rw [List.map_cons, List.map_cons, show tr g (.ref 100099) = .ref (g.2.2.2.2.1 99) by show Value.ref (ad g 100099) = _; rw [ad_scr]]
  exact va_sld hX.1 hX.2.1 hx.1 hx.2.1 hx.2.2 hS e1 hd k
end RW
