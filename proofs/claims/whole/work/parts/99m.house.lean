/-! the constructor of SeatHall, by program (ctor2.py) -/
theorem we_22 : (Cond.methodLink RX9 1 Lib.objectInit) ∈ W0 := wt1 _ (List.mem_of_getElem? (i := 27) rfl) rfl
theorem we_23 : (Cond.classLink RX9 7 (clC 3)) ∈ W0 := wt1 _ (List.mem_of_getElem? (i := 30) rfl) rfl
theorem we_24 : (Cond.instantiable (clC 3) (clN 3)) ∈ W0 := wt1 _ (List.mem_of_getElem? (i := 31) rfl) rfl
theorem we_25 : (Cond.initialized (clC 3)) ∈ W0 := wt1 _ (List.mem_of_getElem? (i := 2) rfl) rfl
theorem we_26 : (Cond.code yX3_init cX3_init 1 none) ∈ W0 := wt1 _ (List.mem_of_getElem? (i := 34) rfl) rfl
theorem we_27 : (Cond.initialized RX3) ∈ W0 := wt1 _ (List.mem_of_getElem? (i := 2) rfl) rfl
theorem mi_X3_init : MI yX3_init cX3_init 1 none 0 := ⟨we_26, we_27, by decide +kernel, by decide⟩
theorem we_28 : (Cond.instanceMethod yX3_init) ∈ W0 := wt1 _ (List.mem_of_getElem? (i := 33) rfl) rfl
theorem we_29 : (Cond.fieldLink RX9 10 (clT 9 0).1 (clT 9 0).2.1 (clT 9 0).2.2.1) ∈ W0 := wt2 _ (List.mem_of_getElem? (i := 133) rfl) rfl
theorem we_30 : (Cond.fieldLink RX9 16 (clT 3 0).1 (clT 3 0).2.1 (clT 3 0).2.2.1) ∈ W0 := wt1 _ (List.mem_of_getElem? (i := 148) rfl) rfl
theorem we_31 : (Cond.fieldLink RX9 20 (clT 9 1).1 (clT 9 1).2.1 (clT 9 1).2.2.1) ∈ W0 := wt2 _ (List.mem_of_getElem? (i := 134) rfl) rfl
theorem we_32 : (Cond.classLink RX9 21 (clC 0)) ∈ W0 := wt1 _ (List.mem_of_getElem? (i := 179) rfl) rfl
theorem we_33 : (Cond.instantiable (clC 0) (clN 0)) ∈ W0 := wt1 _ (List.mem_of_getElem? (i := 180) rfl) rfl
theorem we_34 : (Cond.initialized (clC 0)) ∈ W0 := wt1 _ (List.mem_of_getElem? (i := 5) rfl) rfl
theorem we_35 : (Cond.code yX0_init cX0_init 2 none) ∈ W0 := wt1 _ (List.mem_of_getElem? (i := 183) rfl) rfl
theorem we_36 : (Cond.initialized RX0) ∈ W0 := wt1 _ (List.mem_of_getElem? (i := 5) rfl) rfl
theorem mi_X0_init : MI yX0_init cX0_init 2 none 0 := ⟨we_35, we_36, by decide +kernel, by decide⟩
theorem we_37 : (Cond.methodLink RX9 23 yX0_init) ∈ W0 := wt1 _ (List.mem_of_getElem? (i := 181) rfl) rfl
theorem we_38 : (Cond.instanceMethod yX0_init) ∈ W0 := wt1 _ (List.mem_of_getElem? (i := 182) rfl) rfl
theorem we_39 : (Cond.fieldLink RX9 24 (clT 9 2).1 (clT 9 2).2.1 (clT 9 2).2.2.1) ∈ W0 := wt2 _ (List.mem_of_getElem? (i := 135) rfl) rfl
theorem we_40 : (Cond.classLink RX9 28 (clC 1)) ∈ W0 := wt2 _ (List.mem_of_getElem? (i := 14) rfl) rfl
theorem we_41 : (Cond.instantiable (clC 1) (clN 1)) ∈ W0 := wt2 _ (List.mem_of_getElem? (i := 15) rfl) rfl
theorem we_42 : (Cond.initialized (clC 1)) ∈ W0 := wt1 _ (List.mem_of_getElem? (i := 7) rfl) rfl
theorem we_43 : (Cond.code yX1_init cX1_init 1 none) ∈ W0 := wt2 _ (List.mem_of_getElem? (i := 18) rfl) rfl
theorem we_44 : (Cond.initialized RX1) ∈ W0 := wt1 _ (List.mem_of_getElem? (i := 7) rfl) rfl
theorem mi_X1_init : MI yX1_init cX1_init 1 none 0 := ⟨we_43, we_44, by decide +kernel, by decide⟩
theorem we_45 : (Cond.instanceMethod yX1_init) ∈ W0 := wt2 _ (List.mem_of_getElem? (i := 17) rfl) rfl
theorem we_46 : (Cond.fieldLink RX9 31 (clT 9 3).1 (clT 9 3).2.1 (clT 9 3).2.2.1) ∈ W0 := wt2 _ (List.mem_of_getElem? (i := 136) rfl) rfl
theorem we_47 : (Cond.classLink RX9 35 (clC 5)) ∈ W0 := wt2 _ (List.mem_of_getElem? (i := 36) rfl) rfl
theorem we_48 : (Cond.instantiable (clC 5) (clN 5)) ∈ W0 := wt2 _ (List.mem_of_getElem? (i := 37) rfl) rfl
theorem we_49 : (Cond.initialized (clC 5)) ∈ W0 := wt1 _ (List.mem_of_getElem? (i := 8) rfl) rfl
theorem we_50 : (Cond.code yX5_init cX5_init 1 none) ∈ W0 := wt2 _ (List.mem_of_getElem? (i := 40) rfl) rfl
theorem we_51 : (Cond.initialized RX5) ∈ W0 := wt1 _ (List.mem_of_getElem? (i := 8) rfl) rfl
theorem mi_X5_init : MI yX5_init cX5_init 1 none 0 := ⟨we_50, we_51, by decide +kernel, by decide⟩
theorem we_52 : (Cond.instanceMethod yX5_init) ∈ W0 := wt2 _ (List.mem_of_getElem? (i := 39) rfl) rfl
theorem we_53 : (Cond.fieldLink RX9 38 (clT 9 4).1 (clT 9 4).2.1 (clT 9 4).2.2.1) ∈ W0 := wt2 _ (List.mem_of_getElem? (i := 137) rfl) rfl
theorem we_54 : (Cond.classLink RX9 42 (clC 6)) ∈ W0 := wt2 _ (List.mem_of_getElem? (i := 72) rfl) rfl
theorem we_55 : (Cond.instantiable (clC 6) (clN 6)) ∈ W0 := wt2 _ (List.mem_of_getElem? (i := 73) rfl) rfl
theorem we_56 : (Cond.initialized (clC 6)) ∈ W0 := wt1 _ (List.mem_of_getElem? (i := 9) rfl) rfl
theorem we_57 : (Cond.code yX6_init cX6_init 1 none) ∈ W0 := wt2 _ (List.mem_of_getElem? (i := 76) rfl) rfl
theorem we_58 : (Cond.initialized RX6) ∈ W0 := wt1 _ (List.mem_of_getElem? (i := 9) rfl) rfl
theorem mi_X6_init : MI yX6_init cX6_init 1 none 0 := ⟨we_57, we_58, by decide +kernel, by decide⟩
theorem we_59 : (Cond.instanceMethod yX6_init) ∈ W0 := wt2 _ (List.mem_of_getElem? (i := 75) rfl) rfl
theorem we_60 : (Cond.fieldLink RX9 45 (clT 9 5).1 (clT 9 5).2.1 (clT 9 5).2.2.1) ∈ W0 := wt2 _ (List.mem_of_getElem? (i := 138) rfl) rfl
theorem we_61 : (Cond.classLink RX9 49 (clC 4)) ∈ W0 := wt2 _ (List.mem_of_getElem? (i := 103) rfl) rfl
theorem we_62 : (Cond.instantiable (clC 4) (clN 4)) ∈ W0 := wt2 _ (List.mem_of_getElem? (i := 104) rfl) rfl
theorem we_63 : (Cond.initialized (clC 4)) ∈ W0 := wt1 _ (List.mem_of_getElem? (i := 10) rfl) rfl
theorem we_64 : (Cond.code yX4_init cX4_init 1 none) ∈ W0 := wt2 _ (List.mem_of_getElem? (i := 107) rfl) rfl
theorem we_65 : (Cond.initialized RX4) ∈ W0 := wt1 _ (List.mem_of_getElem? (i := 10) rfl) rfl
theorem mi_X4_init : MI yX4_init cX4_init 1 none 0 := ⟨we_64, we_65, by decide +kernel, by decide⟩
theorem we_66 : (Cond.instanceMethod yX4_init) ∈ W0 := wt2 _ (List.mem_of_getElem? (i := 106) rfl) rfl
theorem we_67 : (Cond.fieldLink RX9 52 (clT 9 6).1 (clT 9 6).2.1 (clT 9 6).2.2.1) ∈ W0 := wt2 _ (List.mem_of_getElem? (i := 139) rfl) rfl
theorem we_68 : (Cond.fieldLink RX9 56 (clT 9 7).1 (clT 9 7).2.1 (clT 9 7).2.2.1) ∈ W0 := wt2 _ (List.mem_of_getElem? (i := 140) rfl) rfl
theorem we_69 : (Cond.fieldLink RX9 59 (clT 0 1).1 (clT 0 1).2.1 (clT 0 1).2.2.1) ∈ W0 := wt1 _ (List.mem_of_getElem? (i := 237) rfl) rfl
theorem we_70 : (Cond.fieldLink RX9 63 (clT 9 8).1 (clT 9 8).2.1 (clT 9 8).2.2.1) ∈ W0 := wt2 _ (List.mem_of_getElem? (i := 141) rfl) rfl
theorem we_71 : (Cond.classLink RX9 64 (clC 8)) ∈ W0 := wt2 _ (List.mem_of_getElem? (i := 131) rfl) rfl
theorem we_72 : (Cond.methodLink RX9 66 yX8_init) ∈ W0 := wt2 _ (List.mem_of_getElem? (i := 132) rfl) rfl
theorem we_73 : (Cond.fieldLink RX9 67 (clT 9 9).1 (clT 9 9).2.1 (clT 9 9).2.2.1) ∈ W0 := wt2 _ (List.mem_of_getElem? (i := 142) rfl) rfl
theorem we_74 : (Cond.fieldLink RX9 70 (clT 9 10).1 (clT 9 10).2.1 (clT 9 10).2.2.1) ∈ W0 := wt2 _ (List.mem_of_getElem? (i := 143) rfl) rfl
theorem f_X1_init_211 (h : AH) : Fr (fun a _ => 211 ≤ a ∧ a < 215) h (c_X1_init_211 h) := by
  unfold c_X1_init_211
  repeat (first | exact Fr.refl _ _ | refine Fr.sR ?_ (by omega) | refine Fr.sI ?_ (by omega))
theorem f_X5_init_215 (h : AH) : Fr (fun a _ => 215 ≤ a ∧ a < 220) h (c_X5_init_215 h) := by
  unfold c_X5_init_215
  repeat (first | exact Fr.refl _ _ | refine Fr.sR ?_ (by omega) | refine Fr.sI ?_ (by omega))
theorem f_X6_init_220 (h : AH) : Fr (fun a _ => 220 ≤ a ∧ a < 224) h (c_X6_init_220 h) := by
  unfold c_X6_init_220
  repeat (first | exact Fr.refl _ _ | refine Fr.sR ?_ (by omega) | refine Fr.sI ?_ (by omega))
theorem f_X4_init_224 (h : AH) : Fr (fun a _ => 224 ≤ a ∧ a < 228) h (c_X4_init_224 h) := by
  unfold c_X4_init_224
  repeat (first | exact Fr.refl _ _ | refine Fr.sR ?_ (by omega) | refine Fr.sI ?_ (by omega))
theorem f_X4_init_228 (h : AH) : Fr (fun a _ => 228 ≤ a ∧ a < 232) h (c_X4_init_228 h) := by
  unfold c_X4_init_228
  repeat (first | exact Fr.refl _ _ | refine Fr.sR ?_ (by omega) | refine Fr.sI ?_ (by omega))
theorem f_X8_init_232 (h : AH) : Fr (fun a _ => 232 ≤ a ∧ a < 240) h (c_X8_init_232 h) := by
  unfold c_X8_init_232 c_fill
  repeat (first | exact Fr.refl _ _ | refine Fr.sR ?_ (by omega) | refine Fr.sI ?_ (by omega))
theorem d_X9_init_0 : decode cX9_init 0 = .ok (.aload_n 0, 1) := by decide +kernel
theorem d_X9_init_1 : decode cX9_init 1 = .ok (.invokespecial 1, 3) := by decide +kernel
theorem d_X9_init_4 : decode cX9_init 4 = .ok (.aload_n 0, 1) := by decide +kernel
theorem d_X9_init_5 : decode cX9_init 5 = .ok (.new 7, 3) := by decide +kernel
theorem d_X9_init_8 : decode cX9_init 8 = .ok (.dup, 1) := by decide +kernel
theorem d_X9_init_9 : decode cX9_init 9 = .ok (.invokespecial 9, 3) := by decide +kernel
theorem d_X9_init_12 : decode cX9_init 12 = .ok (.putfield 10, 3) := by decide +kernel
theorem d_X9_init_15 : decode cX9_init 15 = .ok (.aload_n 0, 1) := by decide +kernel
theorem d_X9_init_16 : decode cX9_init 16 = .ok (.aload_n 0, 1) := by decide +kernel
theorem d_X9_init_17 : decode cX9_init 17 = .ok (.getfield 10, 3) := by decide +kernel
theorem d_X9_init_20 : decode cX9_init 20 = .ok (.getfield 16, 3) := by decide +kernel
theorem d_X9_init_23 : decode cX9_init 23 = .ok (.putfield 20, 3) := by decide +kernel
theorem d_X9_init_26 : decode cX9_init 26 = .ok (.aload_n 0, 1) := by decide +kernel
theorem d_X9_init_27 : decode cX9_init 27 = .ok (.new 21, 3) := by decide +kernel
theorem d_X9_init_30 : decode cX9_init 30 = .ok (.dup, 1) := by decide +kernel
theorem d_X9_init_31 : decode cX9_init 31 = .ok (.invokespecial 23, 3) := by decide +kernel
theorem d_X9_init_34 : decode cX9_init 34 = .ok (.putfield 24, 3) := by decide +kernel
theorem d_X9_init_37 : decode cX9_init 37 = .ok (.aload_n 0, 1) := by decide +kernel
theorem d_X9_init_38 : decode cX9_init 38 = .ok (.new 28, 3) := by decide +kernel
theorem d_X9_init_41 : decode cX9_init 41 = .ok (.dup, 1) := by decide +kernel
theorem d_X9_init_42 : decode cX9_init 42 = .ok (.invokespecial 30, 3) := by decide +kernel
theorem d_X9_init_45 : decode cX9_init 45 = .ok (.putfield 31, 3) := by decide +kernel
theorem d_X9_init_48 : decode cX9_init 48 = .ok (.aload_n 0, 1) := by decide +kernel
theorem d_X9_init_49 : decode cX9_init 49 = .ok (.new 35, 3) := by decide +kernel
theorem d_X9_init_52 : decode cX9_init 52 = .ok (.dup, 1) := by decide +kernel
theorem d_X9_init_53 : decode cX9_init 53 = .ok (.invokespecial 37, 3) := by decide +kernel
theorem d_X9_init_56 : decode cX9_init 56 = .ok (.putfield 38, 3) := by decide +kernel
theorem d_X9_init_59 : decode cX9_init 59 = .ok (.aload_n 0, 1) := by decide +kernel
theorem d_X9_init_60 : decode cX9_init 60 = .ok (.new 42, 3) := by decide +kernel
theorem d_X9_init_63 : decode cX9_init 63 = .ok (.dup, 1) := by decide +kernel
theorem d_X9_init_64 : decode cX9_init 64 = .ok (.invokespecial 44, 3) := by decide +kernel
theorem d_X9_init_67 : decode cX9_init 67 = .ok (.putfield 45, 3) := by decide +kernel
theorem d_X9_init_70 : decode cX9_init 70 = .ok (.aload_n 0, 1) := by decide +kernel
theorem d_X9_init_71 : decode cX9_init 71 = .ok (.new 49, 3) := by decide +kernel
theorem d_X9_init_74 : decode cX9_init 74 = .ok (.dup, 1) := by decide +kernel
theorem d_X9_init_75 : decode cX9_init 75 = .ok (.invokespecial 51, 3) := by decide +kernel
theorem d_X9_init_78 : decode cX9_init 78 = .ok (.putfield 52, 3) := by decide +kernel
theorem d_X9_init_81 : decode cX9_init 81 = .ok (.aload_n 0, 1) := by decide +kernel
theorem d_X9_init_82 : decode cX9_init 82 = .ok (.new 49, 3) := by decide +kernel
theorem d_X9_init_85 : decode cX9_init 85 = .ok (.dup, 1) := by decide +kernel
theorem d_X9_init_86 : decode cX9_init 86 = .ok (.invokespecial 51, 3) := by decide +kernel
theorem d_X9_init_89 : decode cX9_init 89 = .ok (.putfield 56, 3) := by decide +kernel
theorem d_X9_init_92 : decode cX9_init 92 = .ok (.aload_n 0, 1) := by decide +kernel
theorem d_X9_init_93 : decode cX9_init 93 = .ok (.aload_n 0, 1) := by decide +kernel
theorem d_X9_init_94 : decode cX9_init 94 = .ok (.getfield 24, 3) := by decide +kernel
theorem d_X9_init_97 : decode cX9_init 97 = .ok (.getfield 59, 3) := by decide +kernel
theorem d_X9_init_100 : decode cX9_init 100 = .ok (.putfield 63, 3) := by decide +kernel
theorem d_X9_init_103 : decode cX9_init 103 = .ok (.aload_n 0, 1) := by decide +kernel
theorem d_X9_init_104 : decode cX9_init 104 = .ok (.new 64, 3) := by decide +kernel
theorem d_X9_init_107 : decode cX9_init 107 = .ok (.dup, 1) := by decide +kernel
theorem d_X9_init_108 : decode cX9_init 108 = .ok (.invokespecial 66, 3) := by decide +kernel
theorem d_X9_init_111 : decode cX9_init 111 = .ok (.putfield 67, 3) := by decide +kernel
theorem d_X9_init_114 : decode cX9_init 114 = .ok (.aload_n 0, 1) := by decide +kernel
theorem d_X9_init_115 : decode cX9_init 115 = .ok (.iconst (-1), 1) := by decide +kernel
theorem d_X9_init_116 : decode cX9_init 116 = .ok (.putfield 70, 3) := by decide +kernel
theorem d_X9_init_119 : decode cX9_init 119 = .ok (.return_, 1) := by decide +kernel
def c_X9_init_0 (h : AH) : AH := (sI (sR (c_X8_init_232 (sR (sR (c_X4_init_228 (sR (c_X4_init_224 (sR (c_X6_init_220 (sR (c_X5_init_215 (sR (c_X1_init_211 (sR (c_X0_init_13 (sR (sR (c_X3_init_1 h) 0 0 (some 1)) 0 1 (some 2))) 0 2 (some 13))) 0 3 (some 211))) 0 4 (some 215))) 0 5 (some 220))) 0 6 (some 224))) 0 7 (some 228)) 0 8 (some 15))) 0 9 (some 232)) 0 10 (-1))
theorem b_X9_init_0 {h : AH} {a : Nat} (ha : 240 ≤ a) (h0 : Blank h a) : Blank (c_X9_init_0 h) a := (bk_I (by omega) (bk_R (by omega) (b_X8_init_232 (by omega) (bk_R (by omega) (bk_R (by omega) (b_X4_init_228 (by omega) (bk_R (by omega) (b_X4_init_224 (by omega) (bk_R (by omega) (b_X6_init_220 (by omega) (bk_R (by omega) (b_X5_init_215 (by omega) (bk_R (by omega) (b_X1_init_211 (by omega) (bk_R (by omega) (b_X0_init_13 (by omega) (bk_R (by omega) (bk_R (by omega) (b_X3_init_1 (by omega) h0)))))))))))))))))))
theorem k_X9_init_0 {g : GP} (hg : g.1.stackTraces = false) (hF : gF g = false) {h : AH} (hB : ∀ a, 0 < a → Blank h a) : Ctr g yX9_init (wsY yX9_init cX9_init 1 none) 4 239 12718 [.ref 0] 1 true h none 240 true (c_X9_init_0 h) := ctr_of (lv0 := [.ref 0]) rfl rfl (by decide) hg trivial (fun X hX hn => by
  replace hX : Cx g RX9 cX9_init 4 239 12718 none [] X := hX
  replace hn : X.meth.name = "<init>" := hn
  refine aw_aload_n hX (i := 0) rfl rfl d_X9_init_0 ?_
  refine aw_objI hX we_22 we_1 we_2 (by decide) (by decide) d_X9_init_1 ?_
  refine aw_aload_n hX (i := 0) rfl rfl d_X9_init_4 ?_
  refine aw_new hX hF (ci := 3) rfl (by decide) rfl (hB 1 (by decide)) we_23 we_24 we_25 (by decide) (by decide) d_X9_init_5 ?_
  refine aw_dup hX rfl d_X9_init_8 ?_
  refine aw_callIN (b := 1) (av := []) (avr := []) (st := [.ref 1, .ref 0]) hX (k_X3_init_1 hg hF (fun a ha => (hB a (by omega)))) mi_X3_init rfl rfl nx0 we_28 rfl (by decide) (by decide) (by decide) (by decide) d_X9_init_9 ?_
  refine aw_putFR hX hn hF (ci := 9) (k := 0) (ty := (.object "SeatHall$Reader")) rfl (by decide) (by decide) rfl rfl we_29 rfl rfl (by decide +kernel) (fun x => rfl) (fun x => rfl) rfl d_X9_init_12 ?_
  refine aw_aload_n hX (i := 0) rfl rfl d_X9_init_15 ?_
  refine aw_aload_n hX (i := 0) rfl rfl d_X9_init_16 ?_
  refine aw_getD hX hF (a := 0) (ci := 9) (k := 0) rfl (by decide) rfl rfl we_29 rfl d_X9_init_17 ?_
  rw [show gR (sR (c_X3_init_1 h) 0 0 (some 1)) 0 0 = some 1 from rfl]
  refine aw_getD hX hF (a := 1) (ci := 3) (k := 0) rfl (by decide) rfl rfl we_30 rfl d_X9_init_20 ?_
  rw [show gR (sR (c_X3_init_1 h) 0 0 (some 1)) 1 0 = some 2 from rfl]
  refine aw_putFR hX hn hF (ci := 9) (k := 1) (ty := (.object "SeatHall$Tape")) rfl (by decide) (by decide) rfl rfl we_31 rfl rfl (by decide +kernel) (fun x => rfl) (fun x => rfl) rfl d_X9_init_23 ?_
  refine aw_aload_n hX (i := 0) rfl rfl d_X9_init_26 ?_
  refine aw_new hX hF (ci := 0) rfl (by decide) rfl (bk_R (by decide) (bk_R (by decide) (b_X3_init_1 (by decide) (hB 13 (by decide))))) we_32 we_33 we_34 (by decide) (by decide) d_X9_init_27 ?_
  refine aw_dup hX rfl d_X9_init_30 ?_
  refine aw_callI (b := 13) (av := []) (avr := []) (st := [.ref 13, .ref 0]) hX (k_X0_init_13 hg hF (fun a ha => (bk_R (by omega) (bk_R (by omega) (b_X3_init_1 (by omega) (hB a (by omega))))))) mi_X0_init rfl rfl we_37 we_38 rfl (by decide) (by decide) (by decide) (by decide) d_X9_init_31 ?_
  refine aw_putFR hX hn hF (ci := 9) (k := 2) (ty := (.object "SeatHall$Books")) rfl (by decide) (by decide) rfl rfl we_39 rfl rfl (by decide +kernel) (fun x => rfl) (fun x => rfl) rfl d_X9_init_34 ?_
  refine aw_aload_n hX (i := 0) rfl rfl d_X9_init_37 ?_
  refine aw_new hX hF (ci := 1) rfl (by decide) rfl (bk_R (by decide) (b_X0_init_13 (by decide) (bk_R (by decide) (bk_R (by decide) (b_X3_init_1 (by decide) (hB 211 (by decide))))))) we_40 we_41 we_42 (by decide) (by decide) d_X9_init_38 ?_
  refine aw_dup hX rfl d_X9_init_41 ?_
  refine aw_callIN (b := 211) (av := []) (avr := []) (st := [.ref 211, .ref 0]) hX (k_X1_init_211 hg hF (fun a ha => (bk_R (by omega) (b_X0_init_13 (by omega) (bk_R (by omega) (bk_R (by omega) (b_X3_init_1 (by omega) (hB a (by omega))))))))) mi_X1_init rfl rfl nx3 we_45 rfl (by decide) (by decide) (by decide) (by decide) d_X9_init_42 ?_
  refine aw_putFR hX hn hF (ci := 9) (k := 3) (ty := (.object "SeatHall$Crowd")) rfl (by decide) (by decide) rfl rfl we_46 rfl rfl (by decide +kernel) (fun x => rfl) (fun x => rfl) rfl d_X9_init_45 ?_
  refine aw_aload_n hX (i := 0) rfl rfl d_X9_init_48 ?_
  refine aw_new hX hF (ci := 5) rfl (by decide) rfl (bk_R (by decide) (b_X1_init_211 (by decide) (bk_R (by decide) (b_X0_init_13 (by decide) (bk_R (by decide) (bk_R (by decide) (b_X3_init_1 (by decide) (hB 215 (by decide))))))))) we_47 we_48 we_49 (by decide) (by decide) d_X9_init_49 ?_
  refine aw_dup hX rfl d_X9_init_52 ?_
  refine aw_callIN (b := 215) (av := []) (avr := []) (st := [.ref 215, .ref 0]) hX (k_X5_init_215 hg hF (fun a ha => (bk_R (by omega) (b_X1_init_211 (by omega) (bk_R (by omega) (b_X0_init_13 (by omega) (bk_R (by omega) (bk_R (by omega) (b_X3_init_1 (by omega) (hB a (by omega))))))))))) mi_X5_init rfl rfl nx4 we_52 rfl (by decide) (by decide) (by decide) (by decide) d_X9_init_53 ?_
  refine aw_putFR hX hn hF (ci := 9) (k := 4) (ty := (.object "SeatHall$Search")) rfl (by decide) (by decide) rfl rfl we_53 rfl rfl (by decide +kernel) (fun x => rfl) (fun x => rfl) rfl d_X9_init_56 ?_
  refine aw_aload_n hX (i := 0) rfl rfl d_X9_init_59 ?_
  refine aw_new hX hF (ci := 6) rfl (by decide) rfl (bk_R (by decide) (b_X5_init_215 (by decide) (bk_R (by decide) (b_X1_init_211 (by decide) (bk_R (by decide) (b_X0_init_13 (by decide) (bk_R (by decide) (bk_R (by decide) (b_X3_init_1 (by decide) (hB 220 (by decide))))))))))) we_54 we_55 we_56 (by decide) (by decide) d_X9_init_60 ?_
  refine aw_dup hX rfl d_X9_init_63 ?_
  refine aw_callIN (b := 220) (av := []) (avr := []) (st := [.ref 220, .ref 0]) hX (k_X6_init_220 hg hF (fun a ha => (bk_R (by omega) (b_X5_init_215 (by omega) (bk_R (by omega) (b_X1_init_211 (by omega) (bk_R (by omega) (b_X0_init_13 (by omega) (bk_R (by omega) (bk_R (by omega) (b_X3_init_1 (by omega) (hB a (by omega))))))))))))) mi_X6_init rfl rfl nx5 we_59 rfl (by decide) (by decide) (by decide) (by decide) d_X9_init_64 ?_
  refine aw_putFR hX hn hF (ci := 9) (k := 5) (ty := (.object "SeatHall$Seating")) rfl (by decide) (by decide) rfl rfl we_60 rfl rfl (by decide +kernel) (fun x => rfl) (fun x => rfl) rfl d_X9_init_67 ?_
  refine aw_aload_n hX (i := 0) rfl rfl d_X9_init_70 ?_
  refine aw_new hX hF (ci := 4) rfl (by decide) rfl (bk_R (by decide) (b_X6_init_220 (by decide) (bk_R (by decide) (b_X5_init_215 (by decide) (bk_R (by decide) (b_X1_init_211 (by decide) (bk_R (by decide) (b_X0_init_13 (by decide) (bk_R (by decide) (bk_R (by decide) (b_X3_init_1 (by decide) (hB 224 (by decide))))))))))))) we_61 we_62 we_63 (by decide) (by decide) d_X9_init_71 ?_
  refine aw_dup hX rfl d_X9_init_74 ?_
  refine aw_callIN (b := 224) (av := []) (avr := []) (st := [.ref 224, .ref 0]) hX (k_X4_init_224 hg hF (fun a ha => (bk_R (by omega) (b_X6_init_220 (by omega) (bk_R (by omega) (b_X5_init_215 (by omega) (bk_R (by omega) (b_X1_init_211 (by omega) (bk_R (by omega) (b_X0_init_13 (by omega) (bk_R (by omega) (bk_R (by omega) (b_X3_init_1 (by omega) (hB a (by omega))))))))))))))) mi_X4_init rfl rfl nx6 we_66 rfl (by decide) (by decide) (by decide) (by decide) d_X9_init_75 ?_
  refine aw_putFR hX hn hF (ci := 9) (k := 6) (ty := (.object "SeatHall$Run")) rfl (by decide) (by decide) rfl rfl we_67 rfl rfl (by decide +kernel) (fun x => rfl) (fun x => rfl) rfl d_X9_init_78 ?_
  refine aw_aload_n hX (i := 0) rfl rfl d_X9_init_81 ?_
  refine aw_new hX hF (ci := 4) rfl (by decide) rfl (bk_R (by decide) (b_X4_init_224 (by decide) (bk_R (by decide) (b_X6_init_220 (by decide) (bk_R (by decide) (b_X5_init_215 (by decide) (bk_R (by decide) (b_X1_init_211 (by decide) (bk_R (by decide) (b_X0_init_13 (by decide) (bk_R (by decide) (bk_R (by decide) (b_X3_init_1 (by decide) (hB 228 (by decide))))))))))))))) we_61 we_62 we_63 (by decide) (by decide) d_X9_init_82 ?_
  refine aw_dup hX rfl d_X9_init_85 ?_
  refine aw_callIN (b := 228) (av := []) (avr := []) (st := [.ref 228, .ref 0]) hX (k_X4_init_228 hg hF (fun a ha => (bk_R (by omega) (b_X4_init_224 (by omega) (bk_R (by omega) (b_X6_init_220 (by omega) (bk_R (by omega) (b_X5_init_215 (by omega) (bk_R (by omega) (b_X1_init_211 (by omega) (bk_R (by omega) (b_X0_init_13 (by omega) (bk_R (by omega) (bk_R (by omega) (b_X3_init_1 (by omega) (hB a (by omega))))))))))))))))) mi_X4_init rfl rfl nx6 we_66 rfl (by decide) (by decide) (by decide) (by decide) d_X9_init_86 ?_
  refine aw_putFR hX hn hF (ci := 9) (k := 7) (ty := (.object "SeatHall$Run")) rfl (by decide) (by decide) rfl rfl we_68 rfl rfl (by decide +kernel) (fun x => rfl) (fun x => rfl) rfl d_X9_init_89 ?_
  refine aw_aload_n hX (i := 0) rfl rfl d_X9_init_92 ?_
  refine aw_aload_n hX (i := 0) rfl rfl d_X9_init_93 ?_
  refine aw_getD hX hF (a := 0) (ci := 9) (k := 2) rfl (by decide) rfl rfl we_39 rfl d_X9_init_94 ?_
  rw [show gR (sR (c_X4_init_228 (sR (c_X4_init_224 (sR (c_X6_init_220 (sR (c_X5_init_215 (sR (c_X1_init_211 (sR (c_X0_init_13 (sR (sR (c_X3_init_1 h) 0 0 (some 1)) 0 1 (some 2))) 0 2 (some 13))) 0 3 (some 211))) 0 4 (some 215))) 0 5 (some 220))) 0 6 (some 224))) 0 7 (some 228)) 0 2 = some 13 from (by rw [gR_sR, if_neg (by decide), (f_X4_init_228 _).r (by omega), gR_sR, if_neg (by decide), (f_X4_init_224 _).r (by omega), gR_sR, if_neg (by decide), (f_X6_init_220 _).r (by omega), gR_sR, if_neg (by decide), (f_X5_init_215 _).r (by omega), gR_sR, if_neg (by decide), (f_X1_init_211 _).r (by omega)]; rfl)]
  refine aw_getR hX (a := 13) (ci := 0) (k := 1) rfl (by decide) rfl rfl we_69 rfl d_X9_init_97 ?_
  rw [show gR (sR (c_X4_init_228 (sR (c_X4_init_224 (sR (c_X6_init_220 (sR (c_X5_init_215 (sR (c_X1_init_211 (sR (c_X0_init_13 (sR (sR (c_X3_init_1 h) 0 0 (some 1)) 0 1 (some 2))) 0 2 (some 13))) 0 3 (some 211))) 0 4 (some 215))) 0 5 (some 220))) 0 6 (some 224))) 0 7 (some 228)) 13 1 = some 15 from (by rw [gR_sR, if_neg (by decide), (f_X4_init_228 _).r (by omega), gR_sR, if_neg (by decide), (f_X4_init_224 _).r (by omega), gR_sR, if_neg (by decide), (f_X6_init_220 _).r (by omega), gR_sR, if_neg (by decide), (f_X5_init_215 _).r (by omega), gR_sR, if_neg (by decide), (f_X1_init_211 _).r (by omega), gR_sR, if_neg (by decide), q_X0_init_13]; rfl)]
  refine aw_putR (o := some 15) hX (ci := 9) (k := 8) (cn := "SeatHall$Told") rfl (by decide) (by decide) rfl rfl we_70 rfl (by decide +kernel) rfl d_X9_init_100 ?_
  refine aw_aload_n hX (i := 0) rfl rfl d_X9_init_103 ?_
  refine aw_new hX hF (ci := 8) rfl (by decide) rfl (bk_R (by decide) (bk_R (by decide) (b_X4_init_228 (by decide) (bk_R (by decide) (b_X4_init_224 (by decide) (bk_R (by decide) (b_X6_init_220 (by decide) (bk_R (by decide) (b_X5_init_215 (by decide) (bk_R (by decide) (b_X1_init_211 (by decide) (bk_R (by decide) (b_X0_init_13 (by decide) (bk_R (by decide) (bk_R (by decide) (b_X3_init_1 (by decide) (hB 232 (by decide)))))))))))))))))) we_71 we_6 we_7 (by decide) (by decide) d_X9_init_104 ?_
  refine aw_dup hX rfl d_X9_init_107 ?_
  refine aw_callI (b := 232) (av := []) (avr := []) (st := [.ref 232, .ref 0]) hX (k_X8_init_232 hg hF (fun a ha => (bk_R (by omega) (bk_R (by omega) (b_X4_init_228 (by omega) (bk_R (by omega) (b_X4_init_224 (by omega) (bk_R (by omega) (b_X6_init_220 (by omega) (bk_R (by omega) (b_X5_init_215 (by omega) (bk_R (by omega) (b_X1_init_211 (by omega) (bk_R (by omega) (b_X0_init_13 (by omega) (bk_R (by omega) (bk_R (by omega) (b_X3_init_1 (by omega) (hB a (by omega)))))))))))))))))))) mi_X8_init rfl rfl we_72 we_9 rfl (by decide) (by decide) (by decide) (by decide) d_X9_init_108 ?_
  refine aw_putR (o := some 232) hX (ci := 9) (k := 9) (cn := "SeatHall$Told") rfl (by decide) (by decide) rfl rfl we_73 rfl (by decide +kernel) rfl d_X9_init_111 ?_
  refine aw_aload_n hX (i := 0) rfl rfl d_X9_init_114 ?_
  refine aw_iconst (v := -1) hX (by decide) d_X9_init_115 ?_
  refine aw_putI hX (ci := 9) (k := 10) rfl (by decide) (by decide) rfl rfl we_74 rfl (by decide +kernel) rfl d_X9_init_116 ?_
  exact aw_return hX (by decide) (by decide) d_X9_init_119)
