/-! the constructor of Reader, by program (ctor.py) -/
theorem wc_82 : (Cond.code yX7_init cX7_init 1 none) ∈ W0 := wt1 _ (List.mem_of_getElem? (i := 40) rfl) rfl
theorem wc_83 : (Cond.initialized RX7) ∈ W0 := wt1 _ (List.mem_of_getElem? (i := 3) rfl) rfl
theorem mi_X7_init : MI yX7_init cX7_init 1 none 0 := ⟨wc_82, wc_83, by decide +kernel, by decide⟩
theorem wc_84 : (Cond.code yX8_init cX8_init 1 none) ∈ W0 := wt1 _ (List.mem_of_getElem? (i := 56) rfl) rfl
theorem wc_85 : (Cond.initialized RX8) ∈ W0 := wt1 _ (List.mem_of_getElem? (i := 4) rfl) rfl
theorem mi_X8_init : MI yX8_init cX8_init 1 none 0 := ⟨wc_84, wc_85, by decide +kernel, by decide⟩
theorem wc_86 : (Cond.methodLink RX3 3 Lib.objectInit) ∈ W0 := wt1 _ (List.mem_of_getElem? (i := 35) rfl) rfl
theorem wc_87 : (Cond.classLink RX3 9 (clC 7)) ∈ W0 := wt1 _ (List.mem_of_getElem? (i := 36) rfl) rfl
theorem wc_88 : (Cond.instantiable (clC 7) (clN 7)) ∈ W0 := wt1 _ (List.mem_of_getElem? (i := 37) rfl) rfl
theorem wc_89 : (Cond.initialized (clC 7)) ∈ W0 := wt1 _ (List.mem_of_getElem? (i := 3) rfl) rfl
theorem wc_90 : (Cond.instanceMethod yX7_init) ∈ W0 := wt1 _ (List.mem_of_getElem? (i := 39) rfl) rfl
theorem wc_91 : (Cond.fieldLink RX3 12 (clT 3 0).1 (clT 3 0).2.1 (clT 3 0).2.2.1) ∈ W0 := wt1 _ (List.mem_of_getElem? (i := 147) rfl) rfl
theorem wc_92 : (Cond.fieldLink RX3 18 (clT 3 1).1 (clT 3 1).2.1 (clT 3 1).2.2.1) ∈ W0 := wt1 _ (List.mem_of_getElem? (i := 149) rfl) rfl
theorem wc_93 : (Cond.classLink RX3 22 (clC 8)) ∈ W0 := wt1 _ (List.mem_of_getElem? (i := 52) rfl) rfl
theorem wc_94 : (Cond.instantiable (clC 8) (clN 8)) ∈ W0 := wt1 _ (List.mem_of_getElem? (i := 53) rfl) rfl
theorem wc_95 : (Cond.initialized (clC 8)) ∈ W0 := wt1 _ (List.mem_of_getElem? (i := 4) rfl) rfl
theorem wc_96 : (Cond.methodLink RX3 24 yX8_init) ∈ W0 := wt1 _ (List.mem_of_getElem? (i := 54) rfl) rfl
theorem wc_97 : (Cond.instanceMethod yX8_init) ∈ W0 := wt1 _ (List.mem_of_getElem? (i := 55) rfl) rfl
theorem wc_98 : (Cond.fieldLink RX3 25 (clT 3 2).1 (clT 3 2).2.1 (clT 3 2).2.2.1) ∈ W0 := wt1 _ (List.mem_of_getElem? (i := 150) rfl) rfl
theorem d_X3_init_0 : decode cX3_init 0 = .ok (.aload_n 0, 1) := by decide +kernel
theorem d_X3_init_1 : decode cX3_init 1 = .ok (.invokespecial 3, 3) := by decide +kernel
theorem d_X3_init_4 : decode cX3_init 4 = .ok (.aload_n 0, 1) := by decide +kernel
theorem d_X3_init_5 : decode cX3_init 5 = .ok (.new 9, 3) := by decide +kernel
theorem d_X3_init_8 : decode cX3_init 8 = .ok (.dup, 1) := by decide +kernel
theorem d_X3_init_9 : decode cX3_init 9 = .ok (.invokespecial 11, 3) := by decide +kernel
theorem d_X3_init_12 : decode cX3_init 12 = .ok (.putfield 12, 3) := by decide +kernel
theorem d_X3_init_15 : decode cX3_init 15 = .ok (.aload_n 0, 1) := by decide +kernel
theorem d_X3_init_16 : decode cX3_init 16 = .ok (.sipush 700, 3) := by decide +kernel
theorem d_X3_init_19 : decode cX3_init 19 = .ok (.newarray .int, 2) := by decide +kernel
theorem d_X3_init_21 : decode cX3_init 21 = .ok (.putfield 18, 3) := by decide +kernel
theorem d_X3_init_24 : decode cX3_init 24 = .ok (.aload_n 0, 1) := by decide +kernel
theorem d_X3_init_25 : decode cX3_init 25 = .ok (.new 22, 3) := by decide +kernel
theorem d_X3_init_28 : decode cX3_init 28 = .ok (.dup, 1) := by decide +kernel
theorem d_X3_init_29 : decode cX3_init 29 = .ok (.invokespecial 24, 3) := by decide +kernel
theorem d_X3_init_32 : decode cX3_init 32 = .ok (.putfield 25, 3) := by decide +kernel
theorem d_X3_init_35 : decode cX3_init 35 = .ok (.return_, 1) := by decide +kernel
def c_X3_init_1 (h : AH) : AH := sR (c_X8_init_5 (sR (sR (c_X7_init_2 h) 1 0 (some 2)) 1 1 (some 4))) 1 2 (some 5)
theorem b_X3_init_1 {h : AH} {a : Nat} (ha : 13 ≤ a) (h0 : Blank h a) : Blank (c_X3_init_1 h) a := bk_R (by omega) (b_X8_init_5 (by omega) (bk_R (by omega) (bk_R (by omega) (b_X7_init_2 (by omega) h0))))
theorem k_X3_init_1 {g : GP} (hg : g.1.stackTraces = false) (hF : gF g = false) {h : AH} (hB : ∀ a, 1 < a → Blank h a) : Ctr g yX3_init (wsY yX3_init cX3_init 1 none) 3 11 1564 [.ref 1] 2 true h none 13 true (c_X3_init_1 h) := ctr_of (lv0 := [.ref 1]) rfl rfl (by decide) hg trivial (fun X hX hn => by
  replace hX : Cx g RX3 cX3_init 3 11 1564 none [] X := hX
  replace hn : X.meth.name = "<init>" := hn
  refine aw_aload_n hX (i := 0) rfl rfl d_X3_init_0 ?_
  refine aw_objI hX wc_86 wc_1 wc_2 (by decide) (by decide) d_X3_init_1 ?_
  refine aw_aload_n hX (i := 0) rfl rfl d_X3_init_4 ?_
  refine aw_new hX hF rfl (by decide) rfl (hB 2 (by decide)) wc_87 wc_88 wc_89 (by decide) (by decide) d_X3_init_5 ?_
  refine aw_dup hX rfl d_X3_init_8 ?_
  refine aw_callIN (b := 2) (av := []) (avr := []) (st := [.ref 2, .ref 1]) hX (k_X7_init_2 hg hF (fun a ha => hB a (by omega))) mi_X7_init rfl rfl nx1 wc_90 rfl (by decide) (by decide) (by decide) (by decide) d_X3_init_9 ?_
  refine aw_putFR hX hn hF (ci := 3) (k := 0) (ty := .object "SeatHall$Tape") rfl (by decide) (by decide) rfl rfl wc_91 rfl rfl (by decide +kernel) (fun x => rfl) (fun x => rfl) rfl d_X3_init_12 ?_
  refine aw_aload_n hX (i := 0) rfl rfl d_X3_init_15 ?_
  refine aw_sipush (v := 700) hX (by decide) d_X3_init_16 ?_
  refine aw_newI hX (N := 700) rfl (bk_R (by decide) (b_X7_init_2 (by decide) (hB 4 (by decide)))) (by decide) (by decide) (by decide) (by decide) wc_3 (by decide) (by decide) d_X3_init_19 ?_
  refine aw_putFR hX hn hF (ci := 3) (k := 1) (ty := .array .int) rfl (by decide) (by decide) rfl rfl wc_92 rfl rfl (by decide +kernel) (fun x => rfl) (fun x => rfl) rfl d_X3_init_21 ?_
  refine aw_aload_n hX (i := 0) rfl rfl d_X3_init_24 ?_
  refine aw_new hX hF rfl (by decide) rfl (bk_R (by decide) (bk_R (by decide) (b_X7_init_2 (by decide) (hB 5 (by decide))))) wc_93 wc_94 wc_95 (by decide) (by decide) d_X3_init_25 ?_
  refine aw_dup hX rfl d_X3_init_28 ?_
  refine aw_callI (b := 5) (av := []) (avr := []) (st := [.ref 5, .ref 1]) hX (k_X8_init_5 hg hF (fun a ha => bk_R (by omega) (bk_R (by omega) (b_X7_init_2 (by omega) (hB a (by omega)))))) mi_X8_init rfl rfl wc_96 wc_97 rfl (by decide) (by decide) (by decide) (by decide) d_X3_init_29 ?_
  refine aw_putR (o := some 5) hX (ci := 3) (k := 2) (cn := "SeatHall$Told") rfl (by decide) (by decide) rfl rfl wc_98 rfl (by decide +kernel) rfl d_X3_init_32 ?_
  exact aw_return hX (by decide) (by decide) d_X3_init_35)
