/-! String constants -/
def strLn (i : Nat) : Int32 := Int32.ofNat (strL.getD i 0)
def strCh (i : Nat) (j : Int32) : Option Int32 := if i < nJ then (if outB j (strL.getD i 0) then none else some ((strB.getD i []).getD j.toNatClampNeg 0)) else none
section RS
variable {g : GP} {own : String} {cc : ByteArray} {lev mcR msR : Nat} {ret : Option FieldType} {tb : List ExceptionTableEntry} {X : MX}
variable {nc ns : Nat} {Q : State → Prop} {h : AH} {pc : Nat} {lv st : List Value}
theorem aw_callSX {n : Nat} {ex : Bool} (hX : Cx g own cc lev mcR msR ret tb X) {y : MethodName} {cy : ByteArray} {mLy levy mcy msy idx np : Nat} {rt : Option FieldType} {av avr : List Value} {n' : Nat} {ex' : Bool} {h' : AH} {r : Option Value}
    (hct : Ctr g y (wsY y cy mLy rt) levy mcy msy av n ex h r n' ex' h') (hm : MI y cy mLy rt np) (hav : av.reverse = avr) (hnp : av.length = np) (hlk : Cond.methodLink own idx y ∈ W0) (hsta : Cond.static y ∈ W0) (hlt : levy < lev)
    (hst : stW st ≤ 8) (hc : nc + mcy ≤ mcR) (hs : ns + msy ≤ msR) (hd : decode cc pc = .ok (.invokestatic idx, 3))
    (k : AW g X n' ex' (nc + mcy) (ns + msy) Q h' (pc + 3) lv (r.toList ++ st)) : AW g X n ex nc ns Q h pc lv (avr ++ st) := fun ls H locs hlv hW hS => by
  obtain ⟨hfr, hlo, hce, hsl⟩ := hX.2.2.2.2.2.2.2.1
  rw [trs_rev hav]
  refine wx_call (mc := mcy) (ms := msy) (r := r) (rest := st.map (tr g)) (va_runS (As := trs g av) (ws := wsY y cy mLy rt) (nL := X.c.maxLocals) (Ts := W0) (n := np) (index := idx) ⟨hX.1, hX.2.1, rfl, hX.2.2.1, hX.2.2.2.1⟩ hct
    (va_cwS np hX.2.2.2.1 (w0_goodIn (fun w hw => ?_)) rfl rfl rfl hm.2.2.1 (rm_le hlt hm.2.2.2 ⟨hfr, hlo⟩)) ⟨pre_blind _, fun U hU hWm => ⟨rfl, pre_at hX hW hS hU hWm⟩⟩ rfl (by rw [List.length_map]; exact hnp) hlv.1 rfl (lv_room (by rw [cat_tr]; exact hst)) hd ⟨by rw [hce]; exact hc, by rw [hsl]; exact hs⟩) hS (fun H1 locs1 hW1 hS1 => ?_)
  · rcases List.mem_append.mp hw with h | h
    · simp only [List.mem_cons, List.not_mem_nil, or_false] at h
      rcases h with rfl | rfl | rfl
      · exact hlk
      · exact hsta
      · exact hm.2.1
    · exact wsY_in hm w h
  · have := k ls H1 locs1 hlv hW1 hS1
    rw [optl] at this
    exact this
/-- a body of the JDK gives a contract -/
theorem ctrF_of {n : Nat} {ex : Bool} {mc ms : Nat} {y : MethodName} {cy : ByteArray} {mL : Nat} {rt : Option FieldType} {av lv0 : List Value} {n' : Nat} {ex' : Bool} {h' : AH} {r : Option Value} (hlv : arL av mL = lv0) (hle : Nat.ble (arS av).length mL = true) (hy : plainFor y = true) (hg : g.1.stackTraces = false) (hB : True)
    (body : ∀ X : MX, Cx g y.cls cy lev mc ms rt [] X → X.meth.name = y.name → AW g X n ex 0 0 (QQ g X n' ex' h' (.inl r) mc ms) h 0 lv0 []) : Ctr g y (wsY y cy mL rt) lev mc ms av n ex h r n' ex' h' := by
  refine va_MetF hy rfl (fun p e s m args below meth c s₁ B hml hP => ?_)
  obtain ⟨rfl, hWo, hK, hF⟩ := hP
  have hts := atoms_spec (ws := wsY y cy mL rt) B.pre
  have ht : c.exceptionTable.toList = [] := by
    obtain ⟨meth9, c9, h1, h2, -, -, -, -, h7, -⟩ := Cond.code_spec B.named (hts _ List.mem_cons_self)
    cases Option.some.inj (h1.symm.trans B.method)
    cases Option.some.inj (h2.symm.trans (Stand.of_body B).code)
    rw [Array.isEmpty_iff.mp h7]
  have hb := body (p, e, Rm lev mc ms, s, m, (trs g av).toArray, below, meth, c) ⟨B.exec, B.bytes, findClass_of_methodNamed B.named, fun w hw => hts w (List.mem_cons_of_mem _ hw), hK, hF, hWo.2.1, ⟨Nat.le_refl _, Nat.le_refl _, rfl, rfl⟩, B.notSynchronized, B.returns, ht, hg⟩ (name_of_methodNamed B.named B.method).1
  rw [lg_entry_eq]
  subst hlv
  have hl : lvR g c.maxLocals (arL av mL) ((lg_sl (trs g av) ++ List.replicate (mL - (lg_sl (trs g av)).length) Slot.unset).toArray) := by rw [hml]; exact lvR_entry hle
  exact hb _ s.heap [] hl hWo va_S.rf
theorem ad_str {g : GP} {i : Nat} (h : i < nJ) : ad g (100000 + i) = g.2.2.2.2.1 i := by
  have h' : i < 19 := h
  unfold ad
  rw [if_neg (by omega), if_pos (by omega)]
  rw [show 100000 + i - 100000 = i by omega]
theorem ar_ldcS (hX : Cx g RX3 cc lev mcR msR ret tb X) {i idx : Nat} (hi : strI.getD i 0 = idx) (hJ : i < nJ) (_ : True = True) (hd : decode cc pc = .ok (.ldc idx, 2)) (kk : AR g X nc ns Q h (pc + 2) lv (.ref (100000 + i) :: st)) : AR g X nc ns Q h pc lv st := fun ls H locs hl hW hS => by
  subst hi
  have hR := hX.2.2.2.2.2.1.2.1.1 i hJ
  have k := kk ls H locs hl hW hS
  rw [List.map_cons, show tr g (.ref (100000 + i)) = .ref (g.2.2.2.2.1 i) by show Value.ref (ad g (100000 + i)) = _; rw [ad_str hJ]] at k
  exact va_ldcS hX.1 hX.2.1 hX.2.2.1 hR hd k
def wMem (w : Cond) : Prop := w ∈ W0
theorem ar_getCS (hX : Cx g own cc lev mcR msR ret tb X) {idx : Nat} (hf : Cond.fieldLink own idx "java/lang/String" "COMPACT_STRINGS" "Z" ∈ W0) (hd : decode cc pc = .ok (.getstatic idx, 3)) (kk : AR g X nc ns Q h (pc + 3) lv (.int 1 :: st)) : AR g X nc ns Q h pc lv st := fun ls H locs hl hW hS =>
  va_gets hX.1 hX.2.1 hX.2.2.2.2.2.1.2.2.2.2.1 hS hX.2.2.1 (hX.2.2.2.1 _ hf) (fun _ q => q) hd (kk ls H locs hl hW hS)
theorem tr_fm (g : GP) : tr g (fmA g) = fm g := by
  unfold fmA fm
  split
  · rfl
  · show Value.ref (ad g 200500) = _
    unfold ad
    rw [if_neg (by omega), if_neg (by omega)]
theorem ar_getFm (hX : Cx g own cc lev mcR msR ret tb X) {idx : Nat} (hf : Cond.fieldLink own idx "jdk/internal/util/Preconditions" "SIOOBE_FORMATTER" "Ljava/util/function/BiFunction;" ∈ W0) (hd : decode cc pc = .ok (.getstatic idx, 3)) (kk : AR g X nc ns Q h (pc + 3) lv (fmA g :: st)) : AR g X nc ns Q h pc lv st := fun ls H locs hl hW hS => by
  have k := kk ls H locs hl hW hS
  rw [List.map_cons, tr_fm] at k
  exact va_gets hX.1 hX.2.1 hX.2.2.2.2.2.1.2.2.2.2.2.2.2 hS hX.2.2.1 (hX.2.2.2.1 _ hf) (fun _ q => q) hd k
theorem fmA_cat (g : GP) : (fmA g).category = 1 := by unfold fmA; split <;> rfl
theorem ad_byt {g : GP} {i : Nat} (h : i < nJ) : ad g (200000 + i) = g.2.2.2.2.2 i := by
  have h' : i < 19 := h
  unfold ad
  rw [if_neg (by omega), if_neg (by omega)]
  rw [show 200000 + i - 200000 = i by omega]
theorem ar_strVal (hX : Cx g own cc lev mcR msR ret tb X) {i idx : Nat} (hJ : i < nJ) (hf : Cond.fieldLink own idx "java/lang/String" "value" "[B" ∈ W0) (hd : decode cc pc = .ok (.getfield idx, 3)) (kk : AR g X nc ns Q h (pc + 3) lv (.ref (200000 + i) :: st)) : AR g X nc ns Q h pc lv (.ref (100000 + i) :: st) := fun ls H locs hl hW hS => by
  have k := kk ls H locs hl hW hS
  rw [List.map_cons, show tr g (.ref (200000 + i)) = .ref (g.2.2.2.2.2 i) by show Value.ref (ad g (200000 + i)) = _; rw [ad_byt hJ]] at k
  rw [List.map_cons, show tr g (.ref (100000 + i)) = .ref (g.2.2.2.2.1 i) by show Value.ref (ad g (100000 + i)) = _; rw [ad_str hJ]]
  exact vk_getf hX.1 hX.2.1 (hX.2.2.2.2.2.1.2.1.2.1 i hJ).2.2.1 hS hX.2.2.1 (hX.2.2.2.1 _ hf) (fun _ q => q) hd k
theorem ar_strCod (hX : Cx g own cc lev mcR msR ret tb X) {i idx : Nat} (hJ : i < nJ) (hf : Cond.fieldLink own idx "java/lang/String" "coder" "B" ∈ W0) (hd : decode cc pc = .ok (.getfield idx, 3)) (kk : AR g X nc ns Q h (pc + 3) lv (.int 0 :: st)) : AR g X nc ns Q h pc lv (.ref (100000 + i) :: st) := fun ls H locs hl hW hS => by
  have k := kk ls H locs hl hW hS
  rw [List.map_cons, show tr g (.ref (100000 + i)) = .ref (g.2.2.2.2.1 i) by show Value.ref (ad g (100000 + i)) = _; rw [ad_str hJ]]
  exact vk_getf hX.1 hX.2.1 (hX.2.2.2.2.2.1.2.1.2.1 i hJ).2.1 hS hX.2.2.1 (hX.2.2.2.1 _ hf) (fun _ q => q) hd k
theorem ar_bytLen (hX : Cx g own cc lev mcR msR ret tb X) {i : Nat} (hJ : i < nJ) (hd : decode cc pc = .ok (.arraylength, 1)) (kk : AR g X nc ns Q h (pc + 1) lv (.int (strLn i) :: st)) : AR g X nc ns Q h pc lv (.ref (200000 + i) :: st) := fun ls H locs hl hW hS => by
  have k := kk ls H locs hl hW hS
  rw [List.map_cons, show tr g (.ref (200000 + i)) = .ref (g.2.2.2.2.2 i) by show Value.ref (ad g (200000 + i)) = _; rw [ad_byt hJ]]
  exact va_tlen hX.1 hX.2.1 (hX.2.2.2.2.2.1.2.1.2.1 i hJ).2.2.2 hS rfl hd k
theorem ar_bytLd (hX : Cx g own cc lev mcR msR ret tb X) {i : Nat} {j v : Int32} (e : strCh i j = some v) (hd : decode cc pc = .ok (.baload, 1)) (kk : AR g X nc ns Q h (pc + 1) lv (.int v :: st)) : AR g X nc ns Q h pc lv (.int j :: .ref (200000 + i) :: st) := fun ls H locs hl hW hS => by
  obtain ⟨hJ, e⟩ := if_some e
  obtain ⟨hin, e⟩ := nif_some e
  have k := kk ls H locs hl hW hS
  rw [List.map_cons, List.map_cons, show tr g (.ref (200000 + i)) = .ref (g.2.2.2.2.2 i) by show Value.ref (ad g (200000 + i)) = _; rw [ad_byt hJ]]
  exact va_tb hX.1 hX.2.1 (hX.2.2.2.2.2.1.2.1.2.1 i hJ).2.2.2 hS hin (by cases e; rfl) hd k
/-- a call of a String constant's method -/
theorem ar_callStr (hX : Cx g own cc lev mcR msR ret tb X) {y : MethodName} {cy : ByteArray} {mLy levy idx i np : Nat} {rt : Option FieldType} {av avr : List Value} {r : Option Value} (hJ : i < nJ)
    (hct : Ctr g y (wsY y cy mLy rt) levy 0 0 (.ref (100000 + i) :: av) NT false h r NT false h) (hm : MI y cy mLy rt np) (hav : av.reverse = avr) (hnp : av.length = np) (hlk : Cond.methodLink own idx y ∈ W0) (hin : Cond.instanceMethod y ∈ W0) (hse : Cond.selects y.cls y y ∈ W0) (hlt : levy < lev)
    (hcl : y.cls = "java/lang/String") (hst : stW st ≤ 8) (hc : nc ≤ mcR) (hs : ns ≤ msR) (hd : decode cc pc = .ok (.invokevirtual idx, 3))
    (k : AR g X nc ns Q h (pc + 3) lv (r.toList ++ st)) : AR g X nc ns Q h pc lv (avr ++ .ref (100000 + i) :: st) := fun ls H locs hlv hW hS => by
  obtain ⟨hfr, hlo, hce, hsl⟩ := hX.2.2.2.2.2.2.2.1
  have hrec := vk_recv hX.2.2.2.2.2.1.2.1.2 hJ hS
  rw [← ad_str hJ] at hrec
  rw [trs_rev hav]
  refine wx_call (mc := 0) (ms := 0) (r := r) (rest := st.map (tr g)) (va_runV (As := trs g av) (ws := wsY y cy mLy rt) (b := ad g (100000 + i)) (C := y.cls) (nL := X.c.maxLocals) (Ts := W0) (n := np) (index := idx) ⟨hX.1, hX.2.1, rfl, hX.2.2.1, hX.2.2.2.1⟩ hct
    (cwV np hX.2.2.2.1 (w0_goodIn (fun w hw => ?_)) rfl rfl rfl ⟨rfl, hm.2.2.1⟩ (rm_le hlt hm.2.2.2 ⟨hfr, hlo⟩)) ⟨pre_blind _, by rw [hcl]; exact hrec, fun U hU hWm => ⟨rfl, pre_at hX hW hS hU hWm⟩⟩ rfl (by rw [List.length_map]; exact hnp) hlv.1 rfl (lv_room (by rw [cat_tr]; exact hst)) hd ⟨by rw [hce]; exact hc, by rw [hsl]; exact hs⟩) hS (fun H1 locs1 hW1 hS1 => ?_)
  · rcases List.mem_append.mp hw with h | h
    · simp only [List.mem_cons, List.not_mem_nil, or_false] at h
      rcases h with rfl | rfl | rfl | rfl
      · exact hlk
      · exact hin
      · exact hse
      · exact hm.2.1
    · exact wsY_in hm w h
  · have := k ls H1 locs1 hlv hW1 hS1
    rw [optl] at this
    exact this
/-- a return of a narrow type -/
theorem ar_nreturn {mc ms : Nat} {v : Int32} {ty : FieldType} (hX : Cx g own cc lev mcR msR (some ty) tb X) (hz : narrow ty (.int v) = .int v) (h1 : nc ≤ mc) (h2 : ns ≤ ms) (hd : decode cc pc = .ok (.ireturn, 1)) : AR g X nc ns (QQ g X NT false h (.inl (some (.int v))) mc ms) h pc lv [.int v] := fun ls H locs hl hW hS =>
  W.widen h1 h2 (W.zret hX.1 hX.2.1 hX.2.2.2.2.2.2.2.2.2.1 hz (fun t ht _ => ⟨rfl, by rw [ht]; exact hW, SF hS ht⟩) hS.2.2 hd hX.2.2.2.2.2.2.2.2.1)
end RS
