/-! ends, entries, calls -/
theorem st1_any {g : GP} {mL i : Nat} {lv : List Value} {w : Value} {ls : Array Slot} (hlen : lv.length = mL) (hi : i < mL) (h : lv_has ls mL ((i, w) :: (lvl g 0 lv).filter (fun q => !(q.1 == i) && !(q.1 + 1 == i && q.2.category == 2)))) : lvR g mL (st1 lv i jk) ls := by
  refine ⟨h.1, by unfold st1; rw [List.length_set, unc_len]; exact hlen, h.2.1, fun j w hj hw => ?_⟩
  unfold st1 at hj
  rw [List.getElem?_set] at hj
  by_cases e : i = j
  · subst e
    rw [if_pos rfl, if_pos (by rw [unc_len, hlen]; exact hi)] at hj
    cases hj
    exact absurd rfl hw
  · rw [if_neg e] at hj
    obtain ⟨h1, h2⟩ := unc_get hj hw
    refine h.2.2 (j, tr g w) (List.mem_cons_of_mem _ (List.mem_filter.mpr ⟨(lvl_mem g lv 0 _).mpr ⟨j, w, h1, hw, by rw [Nat.zero_add]⟩, ?_⟩))
    have a1 : (j == i) = false := beq_eq_false_iff_ne.mpr (fun z => e z.symm)
    show (!(j == i) && !(j + 1 == i && (tr g w).category == 2)) = true
    rw [a1, tr_cat]
    by_cases z : j + 1 = i
    · have := h2 z
      have a2 : (w.category == 2) = false := beq_eq_false_iff_ne.mpr this
      rw [a2]; simp
    · have a2 : (j + 1 == i) = false := beq_eq_false_iff_ne.mpr z
      rw [a2]; rfl
def arS (av : List Value) : List Value := av.flatMap (fun v => if v.category = 2 then [v, jk] else [v])
def arL (av : List Value) (mL : Nat) : List Value := arS av ++ List.replicate (mL - (arS av).length) jk
theorem arS_sl (g : GP) : ∀ (av : List Value), (lg_sl (trs g av)).length = (arS av).length ∧ ∀ (i : Nat) (v : Value), (arS av)[i]? = some v → v ≠ jk → (lg_sl (trs g av))[i]? = some (.val (tr g v)) := by
  intro av
  induction av with
  | nil => exact ⟨rfl, fun i v h => by simp [arS] at h⟩
  | cons a r ih =>
    have e1 : arS (a :: r) = (if a.category = 2 then [a, jk] else [a]) ++ arS r := rfl
    have e2 : lg_sl (trs g (a :: r)) = (if (tr g a).category = 2 then [Slot.val (tr g a), .second] else [.val (tr g a)]) ++ lg_sl (trs g r) := rfl
    rw [e1, e2, tr_cat]
    by_cases hc : a.category = 2
    · rw [if_pos hc, if_pos hc]
      refine ⟨by simp [ih.1], fun i v hi hv => ?_⟩
      match i with
      | 0 => cases hi; rfl
      | 1 => cases hi; exact absurd rfl hv
      | i + 2 => exact ih.2 i v hi hv
    · rw [if_neg hc, if_neg hc]
      refine ⟨by simp [ih.1], fun i v hi hv => ?_⟩
      match i with
      | 0 => cases hi; rfl
      | i + 1 => exact ih.2 i v hi hv
theorem lvR_entry {g : GP} {av : List Value} {mL : Nat} (hle : Nat.ble (arS av).length mL = true) : lvR g mL (arL av mL) ((lg_sl (trs g av) ++ List.replicate (mL - (lg_sl (trs g av)).length) Slot.unset).toArray) := by
  have hle' := Nat.le_of_ble_eq_true hle
  obtain ⟨h1, h2⟩ := arS_sl g av
  have he := lv_entry (trs g av) (n := mL) (by rw [h1]; exact hle')
  refine ⟨he.1, by unfold arL; simp; omega, he.2.1, fun i v hi hv => ?_⟩
  unfold arL at hi
  rcases Nat.lt_or_ge i (arS av).length with q | q
  · rw [List.getElem?_append_left q] at hi
    rw [List.getElem?_toArray, List.getElem?_append_left (by rw [h1]; exact q)]
    exact h2 i v hi hv
  · rw [List.getElem?_append_right q] at hi
    have := List.mem_of_getElem? hi
    exact absurd (List.eq_of_mem_replicate this) hv
theorem SF {g : GP} {X : MX} {H : Heap} {locs : List Loc} (hS : va_S (gA g) X.s.heap H locs) {t : State} (ht : t.heap = H) : va_F (gA g) X.s t := by
  unfold va_F
  rw [ht]
  exact ⟨hS.1, hS.2.1⟩
section RC
variable {g : GP} {own : String} {cc : ByteArray} {lev mcR msR : Nat} {ret : Option FieldType} {tb : List ExceptionTableEntry} {X : MX}
variable {n : Nat} {ex : Bool} {nc ns mc ms : Nat} {Q : State → Prop} {h : AH} {pc : Nat} {lv st : List Value}
theorem aw_ireturn {v : Int32} (hX : Cx g own cc lev mcR msR (some .int) tb X) (h1 : nc ≤ mc) (h2 : ns ≤ ms) (hd : decode cc pc = .ok (.ireturn, 1)) : AW g X n ex nc ns (QQ g X n ex h (.inl (some (.int v))) mc ms) h pc lv [.int v] := fun ls H locs hl hW hS =>
  W.widen h1 h2 (W.iret hX.1 hX.2.1 hX.2.2.2.2.2.2.2.2.2.1 (fun t ht _ => ⟨rfl, by rw [ht]; exact hW, SF hS ht⟩) hS.2.2 hd hX.2.2.2.2.2.2.2.2.1)
theorem aw_zreturn {v : Int32} (hX : Cx g own cc lev mcR msR (some .boolean) tb X) (hz : v = 0 ∨ v = 1) (h1 : nc ≤ mc) (h2 : ns ≤ ms) (hd : decode cc pc = .ok (.ireturn, 1)) : AW g X n ex nc ns (QQ g X n ex h (.inl (some (.int v))) mc ms) h pc lv [.int v] := fun ls H locs hl hW hS =>
  W.widen h1 h2 (W.zret hX.1 hX.2.1 hX.2.2.2.2.2.2.2.2.2.1 (by rcases hz with rfl | rfl <;> rfl) (fun t ht _ => ⟨rfl, by rw [ht]; exact hW, SF hS ht⟩) hS.2.2 hd hX.2.2.2.2.2.2.2.2.1)
theorem aw_lreturn {v : Int64} (hX : Cx g own cc lev mcR msR (some .long) tb X) (h1 : nc ≤ mc) (h2 : ns ≤ ms) (hd : decode cc pc = .ok (.lreturn, 1)) : AW g X n ex nc ns (QQ g X n ex h (.inl (some (.long v))) mc ms) h pc lv [.long v] := fun ls H locs hl hW hS =>
  W.widen h1 h2 (W.lret hX.1 hX.2.1 hX.2.2.2.2.2.2.2.2.2.1 (fun t ht _ => ⟨rfl, by rw [ht]; exact hW, SF hS ht⟩) hS.2.2 hd hX.2.2.2.2.2.2.2.2.1)
theorem aw_return (hX : Cx g own cc lev mcR msR none tb X) (h1 : nc ≤ mc) (h2 : ns ≤ ms) (hd : decode cc pc = .ok (.return_, 1)) : AW g X n ex nc ns (QQ g X n ex h (.inl none) mc ms) h pc lv [] := fun ls H locs hl hW hS =>
  W.widen h1 h2 (W.vret hX.1 hX.2.1 hX.2.2.2.2.2.2.2.2.2.1 (fun t ht _ => ⟨rfl, by rw [ht]; exact hW, SF hS ht⟩) hS.2.2 hd hX.2.2.2.2.2.2.2.2.1)
theorem aw_areturn {o : Option Nat} {cn : String} (hX : Cx g own cc lev mcR msR (some (.object cn)) tb X) (h1 : nc ≤ mc) (h2 : ns ≤ ms) (hd : decode cc pc = .ok (.areturn, 1)) : AW g X n ex nc ns (QQ g X n ex h (.inl (some (rfV o))) mc ms) h pc lv [rfV o] := fun ls H locs hl hW hS =>
  W.widen h1 h2 (W.aret hX.1 hX.2.1 hX.2.2.2.2.2.2.2.2.2.1 (Or.inl ⟨cn, rfl⟩) (by cases o with | none => exact Or.inl rfl | some x => exact Or.inr ⟨_, rfl⟩) (fun t ht _ => ⟨rfl, by rw [ht]; exact hW, SF hS ht⟩) hS.2.2 hd hX.2.2.2.2.2.2.2.2.1)
/-! calls -/
theorem w0_goodIn {ws : List Cond} (h : ∀ w ∈ ws, w ∈ W0) : GoodIn W0 ws := fun w hw => ⟨h w hw, good_of_word (w0_good w (h w hw))⟩
theorem pre_blind (av : List Value) : FrameBlind (va_Pc (trs g av) (Pre g n ex h)) := fun a U f mk q => ⟨q.1, q.2.1, va_K.moved (u := U) (U := U.calling f mk a) (Vm.Alike.refl U.vm) q.2.2.1, Fx.same (u := U) rfl q.2.2.2⟩
theorem pre_at (hX : Cx g own cc lev mcR msR ret tb X) {H : Heap} {locs : List Loc} (hW : Wo g n ex h H) (hS : va_S (gA g) X.s.heap H locs) {U : State} (hU : U.heap = H) (hWm : X.s.WarmedH U.vm) : Pre g n ex h U :=
  ⟨by rw [hU]; exact hW, va_K.moved hWm.alike hX.2.2.2.2.1, by rw [hU]; exact (hX.2.2.2.2.2.1.kept hS.2.1).warm hWm⟩
theorem wx_call {H : Heap} {locs : List Loc} {ls : Array Slot} {st0 rest : List Value} {a : Array Value} {n' : Nat} {ex' : Bool} {h' : AH} {r : Option Value} (hr : va_Run X.1 g.1 X.2.1 X.R X.s X.m X.2.2.2.2.2.1 X.2.2.2.2.2.2.1 X.meth X.c H locs nc ns mc ms (F0 X.m pc ls st0) rest (QR g n' ex' h' r a) (gA g)) (hS : va_S (gA g) X.s.heap H locs)
    (kk : ∀ (H1 : Heap) (locs1 : List Loc), Wo g n' ex' h' H1 → va_S (gA g) X.s.heap H1 locs1 → WX g X H1 locs1 (nc + mc) (ns + ms) Q (F0 X.m (pc + 3) ls ((r.map (tr g)).toList ++ rest))) : WX g X H locs nc ns Q (F0 X.m pc ls st0) := by
  intro T hT Z
  obtain ⟨v, st₀, t, T', L, h0, X', hL, e1, e2, ⟨hv, hw, hz, hk⟩, sg⟩ := hr T hT Z
  cases hv
  rw [h0] at hz hk
  obtain ⟨t2, a1, b1⟩ := kk T'.heap (locs ++ L) (by rw [e1]; exact hw)
    ⟨Nat.le_trans hS.1 (by rw [e1]; exact hz), fun q h1 h2 => by rw [e1, hk q (Nat.lt_of_lt_of_le h1 hS.1) h2]; exact hS.2.1 q h1 h2, fun q hq => by
      rcases List.mem_append.mp hq with h | h
      · exact hS.2.2 q h
      · exact hL q h⟩ T' rfl X'
  exact ⟨t2, sg t2 a1, b1⟩
/-- what the tables say of a method -/
def MI (y : MethodName) (cy : ByteArray) (mL : Nat) (rt : Option FieldType) (np : Nat) : Prop := Cond.code y cy mL rt ∈ W0 ∧ Cond.initialized y.cls ∈ W0 ∧ (y.cls ≠ "java/lang/invoke/MethodHandle" ∧ y.cls ≠ "java/lang/invoke/VarHandle" ∧ (parseMethodDescriptor y.desc).map (fun d => d.parameters.length) = some np) ∧ mL ≤ 22
theorem wsY_in {y : MethodName} {cy : ByteArray} {mL np : Nat} {rt : Option FieldType} (hm : MI y cy mL rt np) : ∀ w ∈ wsY y cy mL rt, w ∈ W0 := fun w h => (List.mem_cons.mp h).elim (fun e => by rw [e]; exact hm.1) id
theorem rm_le {levy lev mL fr lo : Nat} (hlt : levy < lev) (hm : mL ≤ 22) (h : lev ≤ fr ∧ 41 * lev ≤ lo) : (Rm levy mc ms).frames + 1 ≤ fr ∧ 8 + (mL + 11) + (Rm levy mc ms).locals ≤ lo := by
  obtain ⟨h1, h2⟩ := h
  refine ⟨Nat.le_trans hlt h1, ?_⟩
  show 8 + (mL + 11) + 41 * levy ≤ lo
  omega
theorem trs_rev {g : GP} {av avr : List Value} (h : av.reverse = avr) (st : List Value) : (avr ++ st).map (tr g) = (trs g av).reverse ++ st.map (tr g) := by
  subst h
  rw [List.map_append, ← List.map_reverse]
theorem cat_tr (g : GP) (st : List Value) : ((st.map (tr g)).map fun v => v.category) = st.map fun v => v.category := by
  rw [List.map_map]
  exact List.map_congr_left fun v _ => tr_cat g v
abbrev stW (st : List Value) : Nat := (st.map fun v => v.category).sum
theorem optl (r : Option Value) (st : List Value) : (r.toList ++ st).map (tr g) = (r.map (tr g)).toList ++ st.map (tr g) := by cases r <;> rfl
theorem aw_callV (hX : Cx g own cc lev mcR msR ret tb X) {y : MethodName} {cy : ByteArray} {mLy levy mcy msy idx b ci np : Nat} {rt : Option FieldType} {av avr : List Value} {n' : Nat} {ex' : Bool} {h' : AH} {r : Option Value}
    (hct : Ctr g y (wsY y cy mLy rt) levy mcy msy (.ref b :: av) n ex h r n' ex' h') (hm : MI y cy mLy rt np) (hav : av.reverse = avr) (hnp : av.length = np) (hlk : Cond.methodLink own idx y ∈ W0) (hin : Cond.instanceMethod y ∈ W0) (hse : Cond.selects y.cls y y ∈ W0) (hlt : levy < lev)
    (hl : LAY b = (0, ci)) (hb : b < n) (hci : Nat.ble (ci + 1) 11 = true) (hcl : clC ci = y.cls) (hst : stW st ≤ 8) (hc : nc + mcy ≤ mcR) (hs : ns + msy ≤ msR) (hd : decode cc pc = .ok (.invokevirtual idx, 3))
    (k : AW g X n' ex' (nc + mcy) (ns + msy) Q h' (pc + 3) lv (r.toList ++ st)) : AW g X n ex nc ns Q h pc lv (avr ++ .ref b :: st) := fun ls H locs hlv hW hS => by
  have hci' := Nat.le_of_ble_eq_true hci
  obtain ⟨hfr, hlo, hce, hsl⟩ := hX.2.2.2.2.2.2.2.1
  have hP := hW.1
  have hrec := va_recv hX.2.2.2.2.1 hP (cl_ok ci hci') (q0 := b) (a := ad g b) (fs := fieldsV g (h.1 b) (h.2.1 b) (h.2.2 b) b ci) ((wsOf_get hb).trans (by rw [entry_obj hl]))
  rw [trs_rev hav]
  refine wx_call (mc := mcy) (ms := msy) (r := r) (rest := st.map (tr g)) (va_runV (As := trs g av) (ws := wsY y cy mLy rt) (b := ad g b) (C := y.cls) (nL := X.c.maxLocals) (Ts := W0) (n := np) (index := idx) ⟨hX.1, hX.2.1, rfl, hX.2.2.1, hX.2.2.2.1⟩ hct
    (cwV np hX.2.2.2.1 (w0_goodIn (fun w hw => ?_)) rfl rfl rfl ⟨rfl, hm.2.2.1⟩ (rm_le hlt hm.2.2.2 ⟨hfr, hlo⟩)) ⟨pre_blind _, by rw [← hcl]; exact hrec, fun U hU hWm => ⟨rfl, pre_at hX hW hS hU hWm⟩⟩ rfl (by rw [List.length_map]; exact hnp) hlv.1 rfl (lv_room (by rw [cat_tr]; exact hst)) hd ⟨by rw [hce]; exact hc, by rw [hsl]; exact hs⟩) hS (fun H1 locs1 hW1 hS1 => ?_)
  · rcases List.mem_append.mp hw with h | h
    · simp only [List.mem_cons, List.not_mem_nil, or_false] at h
      rcases h with rfl | rfl | rfl | rfl
      · exact hlk
      · exact hin
      · exact hse
      · exact hm.2.1
    · exact wsY_in hm w h
  · have := k ls H1 locs1 hlv hW1 hS1
    rw [optl] at this
    exact this
theorem aw_callS (hX : Cx g own cc lev mcR msR ret tb X) {y : MethodName} {cy : ByteArray} {mLy levy mcy msy idx np : Nat} {rt : Option FieldType} {av avr : List Value} {n' : Nat} {ex' : Bool} {h' : AH} {r : Option Value}
    (hct : Ctr g y (wsY y cy mLy rt) levy mcy msy av n ex h r n' ex' h') (hm : MI y cy mLy rt np) (hav : av.reverse = avr) (hnp : av.length = np) (hlk : Cond.methodLink own idx y ∈ W0) (hsta : Cond.static y ∈ W0) (hown : y.cls = own) (hlt : levy < lev)
    (hst : stW st ≤ 8) (hc : nc + mcy ≤ mcR) (hs : ns + msy ≤ msR) (hd : decode cc pc = .ok (.invokestatic idx, 3))
    (k : AW g X n' ex' (nc + mcy) (ns + msy) Q h' (pc + 3) lv (r.toList ++ st)) : AW g X n ex nc ns Q h pc lv (avr ++ st) := fun ls H locs hlv hW hS => by
  obtain ⟨hfr, hlo, hce, hsl⟩ := hX.2.2.2.2.2.2.2.1
  rw [trs_rev hav]
  refine wx_call (mc := mcy) (ms := msy) (r := r) (rest := st.map (tr g)) (va_runS (As := trs g av) (ws := wsY y cy mLy rt) (nL := X.c.maxLocals) (Ts := W0) (n := np) (index := idx) ⟨hX.1, hX.2.1, rfl, hX.2.2.1, hX.2.2.2.1⟩ hct
    (cwS np hX.2.2.2.1 (w0_goodIn (fun w hw => ?_)) rfl rfl rfl ⟨hown, hm.2.2.1⟩ (rm_le hlt hm.2.2.2 ⟨hfr, hlo⟩)) ⟨pre_blind _, fun U hU hWm => ⟨rfl, pre_at hX hW hS hU hWm⟩⟩ rfl (by rw [List.length_map]; exact hnp) hlv.1 rfl (lv_room (by rw [cat_tr]; exact hst)) hd ⟨by rw [hce]; exact hc, by rw [hsl]; exact hs⟩) hS (fun H1 locs1 hW1 hS1 => ?_)
  · rcases List.mem_append.mp hw with h | h
    · simp only [List.mem_cons, List.not_mem_nil, or_false] at h
      rcases h with rfl | rfl | rfl
      · exact hlk
      · exact hsta
      · rw [← hown]; exact hm.2.1
    · exact wsY_in hm w h
  · have := k ls H1 locs1 hlv hW1 hS1
    rw [optl] at this
    exact this
theorem aw_callSN (hX : Cx g own cc lev mcR msR ret tb X) {y : MethodName} {cy : ByteArray} {mLy levy mcy msy idx np : Nat} {host : String} {rt : Option FieldType} {av avr : List Value} {n' : Nat} {ex' : Bool} {h' : AH} {r : Option Value}
    (hct : Ctr g y (wsY y cy mLy rt) levy mcy msy av n ex h r n' ex' h') (hm : MI y cy mLy rt np) (hav : av.reverse = avr) (hnp : av.length = np) (hlk : Cond.methodLinkNest own idx y host ∈ fxW) (hsta : Cond.static y ∈ W0) (hlt : levy < lev)
    (hst : stW st ≤ 8) (hc : nc + mcy ≤ mcR) (hs : ns + msy ≤ msR) (hd : decode cc pc = .ok (.invokestatic idx, 3))
    (k : AW g X n' ex' (nc + mcy) (ns + msy) Q h' (pc + 3) lv (r.toList ++ st)) : AW g X n ex nc ns Q h pc lv (avr ++ st) := fun ls H locs hlv hW hS => by
  obtain ⟨hfr, hlo, hce, hsl⟩ := hX.2.2.2.2.2.2.2.1
  rw [trs_rev hav]
  refine wx_call (mc := mcy) (ms := msy) (r := r) (rest := st.map (tr g)) (va_runSN (As := trs g av) (ws := wsY y cy mLy rt) (nL := X.c.maxLocals) (Ts := W0) (n := np) (index := idx) (host := host) ⟨hX.1, hX.2.1, rfl, hX.2.2.1, hX.2.2.2.1⟩ hct
    ⟨va_cnB np hX.2.2.2.1 (w0_goodIn (wsY_in hm)) rfl rfl rfl (hX.2.2.2.2.2.1.1 _ hlk) (hX.2.2.2.1 _ hm.2.1) hm.2.2.1 (rm_le hlt hm.2.2.2 ⟨hfr, hlo⟩), hX.2.2.2.1 _ hsta, trivial⟩ ⟨pre_blind _, fun U hU hWm => ⟨rfl, pre_at hX hW hS hU hWm⟩⟩ rfl (by rw [List.length_map]; exact hnp) hlv.1 rfl (lv_room (by rw [cat_tr]; exact hst)) hd ⟨by rw [hce]; exact hc, by rw [hsl]; exact hs⟩) hS (fun H1 locs1 hW1 hS1 => ?_)
  have := k ls H1 locs1 hlv hW1 hS1
  rw [optl] at this
  exact this
/-- a body gives a contract -/
theorem ctr_of {y : MethodName} {cy : ByteArray} {mL : Nat} {rt : Option FieldType} {av lv0 : List Value} {n' : Nat} {ex' : Bool} {h' : AH} {r : Option Value} (hlv : arL av mL = lv0) (hle : Nat.ble (arS av).length mL = true) (hy : plainName y.cls = true) (hg : g.1.stackTraces = false) (hB : True)
    (body : ∀ X : MX, Cx g y.cls cy lev mc ms rt [] X → X.meth.name = y.name → AW g X n ex 0 0 (QQ g X n' ex' h' (.inl r) mc ms) h 0 lv0 []) : Ctr g y (wsY y cy mL rt) lev mc ms av n ex h r n' ex' h' := by
  refine Met.ofW hy rfl (fun p e s m args below meth c s₁ B hml hP => ?_)
  obtain ⟨rfl, hWo, hK, hF⟩ := hP
  have hts := atoms_spec (ws := wsY y cy mL rt) B.pre
  have ht : c.exceptionTable.toList = [] := by
    obtain ⟨meth9, c9, h1, h2, -, -, -, -, h7, -⟩ := Cond.code_spec B.named (hts _ List.mem_cons_self)
    cases Option.some.inj (h1.symm.trans B.method)
    cases Option.some.inj (h2.symm.trans (Stand.of_body B).code)
    rw [Array.isEmpty_iff.mp h7]
  have hb := body (p, e, Rm lev mc ms, s, m, (trs g av).toArray, below, meth, c) ⟨B.exec, B.bytes, findClass_of_methodNamed B.named, fun w hw => hts w (List.mem_cons_of_mem _ hw), hK, hF, hWo.2.1, ⟨Nat.le_refl _, Nat.le_refl _, rfl, rfl⟩, B.notSynchronized, B.returns, ht, hg⟩ (name_of_methodNamed B.named B.method).1
  rw [lg_entry_eq]
  subst hlv
  have hl : lvR g c.maxLocals (arL av mL) ((lg_sl (trs g av) ++ List.replicate (mL - (lg_sl (trs g av)).length) Slot.unset).toArray) := by rw [hml]; exact lvR_entry hle
  exact hb _ s.heap [] hl hWo va_S.rf
end RC
