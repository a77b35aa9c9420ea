/-! the constructor of Books, by program (ctor2.py) -/
theorem we_0 : (Cond.methodLink RX0 3 Lib.objectInit) ∈ W0 := wt1 _ (List.mem_of_getElem? (i := 184) rfl) rfl
theorem we_1 : (Cond.instanceMethod Lib.objectInit) ∈ W0 := wt1 _ (List.mem_of_getElem? (i := 28) rfl) rfl
theorem we_2 : (Cond.code Lib.objectInit ⟨#[0xb1]⟩ 1 none) ∈ W0 := wt1 _ (List.mem_of_getElem? (i := 29) rfl) rfl
theorem we_3 : (Cond.arrayClass .int) ∈ W0 := wt1 _ (List.mem_of_getElem? (i := 51) rfl) rfl
theorem we_4 : (Cond.fieldLink RX0 9 (clT 0 0).1 (clT 0 0).2.1 (clT 0 0).2.2.1) ∈ W0 := wt1 _ (List.mem_of_getElem? (i := 232) rfl) rfl
theorem we_5 : (Cond.classLink RX0 15 (clC 8)) ∈ W0 := wt1 _ (List.mem_of_getElem? (i := 185) rfl) rfl
theorem we_6 : (Cond.instantiable (clC 8) (clN 8)) ∈ W0 := wt1 _ (List.mem_of_getElem? (i := 53) rfl) rfl
theorem we_7 : (Cond.initialized (clC 8)) ∈ W0 := wt1 _ (List.mem_of_getElem? (i := 4) rfl) rfl
theorem we_8 : (Cond.methodLink RX0 17 yX8_init) ∈ W0 := wt1 _ (List.mem_of_getElem? (i := 186) rfl) rfl
theorem we_9 : (Cond.instanceMethod yX8_init) ∈ W0 := wt1 _ (List.mem_of_getElem? (i := 55) rfl) rfl
theorem we_10 : (Cond.fieldLink RX0 18 (clT 0 1).1 (clT 0 1).2.1 (clT 0 1).2.2.1) ∈ W0 := wt1 _ (List.mem_of_getElem? (i := 236) rfl) rfl
theorem we_11 : (Cond.classLink RX0 22 (clC 2)) ∈ W0 := wt1 _ (List.mem_of_getElem? (i := 187) rfl) rfl
theorem we_12 : (Cond.instantiable (clC 2) (clN 2)) ∈ W0 := wt1 _ (List.mem_of_getElem? (i := 188) rfl) rfl
theorem we_13 : (Cond.initialized (clC 2)) ∈ W0 := wt1 _ (List.mem_of_getElem? (i := 6) rfl) rfl
theorem we_14 : (Cond.code yX2_init cX2_init 2 none) ∈ W0 := wt1 _ (List.mem_of_getElem? (i := 191) rfl) rfl
theorem we_15 : (Cond.initialized RX2) ∈ W0 := wt1 _ (List.mem_of_getElem? (i := 6) rfl) rfl
theorem mi_X2_init : MI yX2_init cX2_init 2 none 1 := ⟨we_14, we_15, by decide +kernel, by decide⟩
theorem we_16 : (Cond.methodLink RX0 24 yX2_init) ∈ W0 := wt1 _ (List.mem_of_getElem? (i := 189) rfl) rfl
theorem we_17 : (Cond.instanceMethod yX2_init) ∈ W0 := wt1 _ (List.mem_of_getElem? (i := 190) rfl) rfl
theorem we_18 : (Cond.fieldLink RX0 27 (clT 0 2).1 (clT 0 2).2.1 (clT 0 2).2.2.1) ∈ W0 := wt1 _ (List.mem_of_getElem? (i := 239) rfl) rfl
theorem we_19 : (Cond.classLink RX0 22 "SeatHall$Plan") ∈ W0 := wt1 _ (List.mem_of_getElem? (i := 187) rfl) rfl
theorem we_20 : (Cond.fieldLink RX0 31 (clT 0 3).1 (clT 0 3).2.1 (clT 0 3).2.2.1) ∈ W0 := wt2 _ (List.mem_of_getElem? (i := 1) rfl) rfl
theorem we_21 : (Cond.fieldLink RX0 35 (clT 0 4).1 (clT 0 4).2.1 (clT 0 4).2.2.1) ∈ W0 := wt2 _ (List.mem_of_getElem? (i := 2) rfl) rfl
theorem d_X0_init_0 : decode cX0_init 0 = .ok (.aload_n 0, 1) := by decide +kernel
theorem d_X0_init_1 : decode cX0_init 1 = .ok (.invokespecial 3, 3) := by decide +kernel
theorem d_X0_init_4 : decode cX0_init 4 = .ok (.aload_n 0, 1) := by decide +kernel
theorem d_X0_init_5 : decode cX0_init 5 = .ok (.bipush 6, 2) := by decide +kernel
theorem d_X0_init_7 : decode cX0_init 7 = .ok (.newarray .int, 2) := by decide +kernel
theorem d_X0_init_9 : decode cX0_init 9 = .ok (.putfield 9, 3) := by decide +kernel
theorem d_X0_init_12 : decode cX0_init 12 = .ok (.aload_n 0, 1) := by decide +kernel
theorem d_X0_init_13 : decode cX0_init 13 = .ok (.new 15, 3) := by decide +kernel
theorem d_X0_init_16 : decode cX0_init 16 = .ok (.dup, 1) := by decide +kernel
theorem d_X0_init_17 : decode cX0_init 17 = .ok (.invokespecial 17, 3) := by decide +kernel
theorem d_X0_init_20 : decode cX0_init 20 = .ok (.putfield 18, 3) := by decide +kernel
theorem d_X0_init_23 : decode cX0_init 23 = .ok (.aload_n 0, 1) := by decide +kernel
theorem d_X0_init_24 : decode cX0_init 24 = .ok (.new 22, 3) := by decide +kernel
theorem d_X0_init_27 : decode cX0_init 27 = .ok (.dup, 1) := by decide +kernel
theorem d_X0_init_28 : decode cX0_init 28 = .ok (.iconst 3, 1) := by decide +kernel
theorem d_X0_init_29 : decode cX0_init 29 = .ok (.invokespecial 24, 3) := by decide +kernel
theorem d_X0_init_32 : decode cX0_init 32 = .ok (.putfield 27, 3) := by decide +kernel
theorem d_X0_init_35 : decode cX0_init 35 = .ok (.aload_n 0, 1) := by decide +kernel
theorem d_X0_init_36 : decode cX0_init 36 = .ok (.bipush 30, 2) := by decide +kernel
theorem d_X0_init_38 : decode cX0_init 38 = .ok (.anewarray 22, 3) := by decide +kernel
theorem d_X0_init_41 : decode cX0_init 41 = .ok (.putfield 31, 3) := by decide +kernel
theorem d_X0_init_44 : decode cX0_init 44 = .ok (.aload_n 0, 1) := by decide +kernel
theorem d_X0_init_45 : decode cX0_init 45 = .ok (.bipush 6, 2) := by decide +kernel
theorem d_X0_init_47 : decode cX0_init 47 = .ok (.newarray .int, 2) := by decide +kernel
theorem d_X0_init_49 : decode cX0_init 49 = .ok (.putfield 35, 3) := by decide +kernel
theorem d_X0_init_52 : decode cX0_init 52 = .ok (.iconst 0, 1) := by decide +kernel
theorem d_X0_init_53 : decode cX0_init 53 = .ok (.istore_n 1, 1) := by decide +kernel
theorem d_X0_init_54 : decode cX0_init 54 = .ok (.iload_n 1, 1) := by decide +kernel
theorem d_X0_init_55 : decode cX0_init 55 = .ok (.aload_n 0, 1) := by decide +kernel
theorem d_X0_init_56 : decode cX0_init 56 = .ok (.getfield 31, 3) := by decide +kernel
theorem d_X0_init_59 : decode cX0_init 59 = .ok (.arraylength, 1) := by decide +kernel
theorem d_X0_init_60 : decode cX0_init 60 = .ok (.if_icmp .ge 25, 3) := by decide +kernel
theorem d_X0_init_63 : decode cX0_init 63 = .ok (.aload_n 0, 1) := by decide +kernel
theorem d_X0_init_64 : decode cX0_init 64 = .ok (.getfield 31, 3) := by decide +kernel
theorem d_X0_init_67 : decode cX0_init 67 = .ok (.iload_n 1, 1) := by decide +kernel
theorem d_X0_init_68 : decode cX0_init 68 = .ok (.new 22, 3) := by decide +kernel
theorem d_X0_init_71 : decode cX0_init 71 = .ok (.dup, 1) := by decide +kernel
theorem d_X0_init_72 : decode cX0_init 72 = .ok (.iload_n 1, 1) := by decide +kernel
theorem d_X0_init_73 : decode cX0_init 73 = .ok (.iconst 5, 1) := by decide +kernel
theorem d_X0_init_74 : decode cX0_init 74 = .ok (.irem, 1) := by decide +kernel
theorem d_X0_init_75 : decode cX0_init 75 = .ok (.invokespecial 24, 3) := by decide +kernel
theorem d_X0_init_78 : decode cX0_init 78 = .ok (.aastore, 1) := by decide +kernel
theorem d_X0_init_79 : decode cX0_init 79 = .ok (.iinc 1 1, 3) := by decide +kernel
theorem d_X0_init_82 : decode cX0_init 82 = .ok (.goto (-28), 3) := by decide +kernel
theorem d_X0_init_85 : decode cX0_init 85 = .ok (.return_, 1) := by decide +kernel
def c_X0_init_13_0 (h : AH) : AH := (sR (sR (sR (c_X2_init_23 (sR (c_X8_init_15 (sR h 13 0 (some 14))) 13 1 (some 15))) 13 2 (some 23)) 13 3 (some 29)) 13 4 (some 30))
theorem b_X0_init_13_0 {h : AH} {a : Nat} (ha : 31 ≤ a) (h0 : Blank h a) : Blank (c_X0_init_13_0 h) a := (bk_R (by omega) (bk_R (by omega) (bk_R (by omega) (b_X2_init_23 (by omega) (bk_R (by omega) (b_X8_init_15 (by omega) (bk_R (by omega) h0)))))))
def c_X0_init_13_1 (h : AH) : AH := (sR (c_X2_init_31 h) 29 (0 : Int32).toNatClampNeg (some 31))
theorem b_X0_init_13_1 {h : AH} {a : Nat} (ha : 37 ≤ a) (h0 : Blank h a) : Blank (c_X0_init_13_1 h) a := (bk_R (by omega) (b_X2_init_31 (by omega) h0))
theorem q_X0_init_13_1 {h : AH} {k : Nat} : gR (c_X0_init_13_1 h) 13 k = gR h 13 k := (show Fr (fun a _ => a ≠ 13) h (c_X0_init_13_1 h) by unfold c_X0_init_13_1 c_X2_init_31; repeat (first | exact Fr.refl _ _ | refine Fr.sR ?_ (by omega) | refine Fr.sI ?_ (by omega))).r (fun z => z rfl)
theorem t_X0_init_13_1 {g : GP} (hg : g.1.stackTraces = false) (hF : gF g = false) {X : MX} {h : AH} {Q : State → Prop} (hX : Cx g RX0 cX0_init 3 197 7142 none [] X) (hB : ∀ a, 31 ≤ a → Blank h a) (hq : gR h 13 3 = some 29) (kk : AW g X 37 true 23 424 Q (c_X0_init_13_1 h) 54 [.ref 13, .int 1] []) : AW g X 31 true 17 314 Q h 54 [.ref 13, .int 0] [] := by
  refine aw_iload_n hX (i := 1) rfl rfl d_X0_init_54 ?_
  refine aw_aload_n hX (i := 0) rfl rfl d_X0_init_55 ?_
  refine aw_getD hX hF (a := 13) (ci := 0) (k := 3) rfl (by decide) rfl rfl we_20 rfl d_X0_init_56 ?_
  rw [show gR h 13 3 = some 29 from hq]
  refine aw_alen hX (a := 29) (t := 4) (N := 30) rfl (by decide) (by decide) d_X0_init_59 ?_
  refine aw_icmp_ge (t := 85) hX (by decide) d_X0_init_60 (fun c => absurd c (by decide)) (fun c => ?_)
  refine aw_aload_n hX (i := 0) rfl rfl d_X0_init_63 ?_
  refine aw_getD hX hF (a := 13) (ci := 0) (k := 3) rfl (by decide) rfl rfl we_20 rfl d_X0_init_64 ?_
  rw [show gR h 13 3 = some 29 from hq]
  refine aw_iload_n hX (i := 1) rfl rfl d_X0_init_67 ?_
  refine aw_new hX hF (ci := 2) rfl (by decide) rfl (hB 31 (by decide)) we_11 we_12 we_13 (by decide) (by decide) d_X0_init_68 ?_
  refine aw_dup hX rfl d_X0_init_71 ?_
  refine aw_iload_n hX (i := 1) rfl rfl d_X0_init_72 ?_
  refine aw_iconst (v := 5) hX (by decide) d_X0_init_73 ?_
  refine aw_irem hX (by decide) d_X0_init_74 ?_
  rw [show ((0 : Int32) - 0 / 5 * 5) = 0 from by decide]
  refine aw_callI (b := 31) (av := [.int 0]) (avr := [.int 0]) (st := [.ref 31, .int 0, .ref 29]) hX (k_X2_init_31 hg hF (fun a ha => (hB a (by omega)))) mi_X2_init rfl rfl we_16 we_17 rfl (by decide) (by decide) (by decide) (by decide) d_X0_init_75 ?_
  refine aw_aastore hX (a := 29) (b := 31) rfl (by decide) rfl (by decide) (by decide) (show ¬ (_ ∨ _) by decide) d_X0_init_78 ?_
  refine aw_iinc (i := 1) (lv2 := [.ref 13, .int 1]) hX rfl (by decide) rfl rfl d_X0_init_79 ?_
  refine aw_goto (t := 54) hX (by decide) d_X0_init_82 ?_
  exact kk
def c_X0_init_13_2 (h : AH) : AH := (sR (c_X2_init_37 h) 29 (1 : Int32).toNatClampNeg (some 37))
theorem b_X0_init_13_2 {h : AH} {a : Nat} (ha : 43 ≤ a) (h0 : Blank h a) : Blank (c_X0_init_13_2 h) a := (bk_R (by omega) (b_X2_init_37 (by omega) h0))
theorem q_X0_init_13_2 {h : AH} {k : Nat} : gR (c_X0_init_13_2 h) 13 k = gR h 13 k := (show Fr (fun a _ => a ≠ 13) h (c_X0_init_13_2 h) by unfold c_X0_init_13_2 c_X2_init_37; repeat (first | exact Fr.refl _ _ | refine Fr.sR ?_ (by omega) | refine Fr.sI ?_ (by omega))).r (fun z => z rfl)
theorem t_X0_init_13_2 {g : GP} (hg : g.1.stackTraces = false) (hF : gF g = false) {X : MX} {h : AH} {Q : State → Prop} (hX : Cx g RX0 cX0_init 3 197 7142 none [] X) (hB : ∀ a, 37 ≤ a → Blank h a) (hq : gR h 13 3 = some 29) (kk : AW g X 43 true 29 534 Q (c_X0_init_13_2 h) 54 [.ref 13, .int 2] []) : AW g X 37 true 23 424 Q h 54 [.ref 13, .int 1] [] := by
  refine aw_iload_n hX (i := 1) rfl rfl d_X0_init_54 ?_
  refine aw_aload_n hX (i := 0) rfl rfl d_X0_init_55 ?_
  refine aw_getD hX hF (a := 13) (ci := 0) (k := 3) rfl (by decide) rfl rfl we_20 rfl d_X0_init_56 ?_
  rw [show gR h 13 3 = some 29 from hq]
  refine aw_alen hX (a := 29) (t := 4) (N := 30) rfl (by decide) (by decide) d_X0_init_59 ?_
  refine aw_icmp_ge (t := 85) hX (by decide) d_X0_init_60 (fun c => absurd c (by decide)) (fun c => ?_)
  refine aw_aload_n hX (i := 0) rfl rfl d_X0_init_63 ?_
  refine aw_getD hX hF (a := 13) (ci := 0) (k := 3) rfl (by decide) rfl rfl we_20 rfl d_X0_init_64 ?_
  rw [show gR h 13 3 = some 29 from hq]
  refine aw_iload_n hX (i := 1) rfl rfl d_X0_init_67 ?_
  refine aw_new hX hF (ci := 2) rfl (by decide) rfl (hB 37 (by decide)) we_11 we_12 we_13 (by decide) (by decide) d_X0_init_68 ?_
  refine aw_dup hX rfl d_X0_init_71 ?_
  refine aw_iload_n hX (i := 1) rfl rfl d_X0_init_72 ?_
  refine aw_iconst (v := 5) hX (by decide) d_X0_init_73 ?_
  refine aw_irem hX (by decide) d_X0_init_74 ?_
  rw [show ((1 : Int32) - 1 / 5 * 5) = 1 from by decide]
  refine aw_callI (b := 37) (av := [.int 1]) (avr := [.int 1]) (st := [.ref 37, .int 1, .ref 29]) hX (k_X2_init_37 hg hF (fun a ha => (hB a (by omega)))) mi_X2_init rfl rfl we_16 we_17 rfl (by decide) (by decide) (by decide) (by decide) d_X0_init_75 ?_
  refine aw_aastore hX (a := 29) (b := 37) rfl (by decide) rfl (by decide) (by decide) (show ¬ (_ ∨ _) by decide) d_X0_init_78 ?_
  refine aw_iinc (i := 1) (lv2 := [.ref 13, .int 2]) hX rfl (by decide) rfl rfl d_X0_init_79 ?_
  refine aw_goto (t := 54) hX (by decide) d_X0_init_82 ?_
  exact kk
def c_X0_init_13_3 (h : AH) : AH := (sR (c_X2_init_43 h) 29 (2 : Int32).toNatClampNeg (some 43))
theorem b_X0_init_13_3 {h : AH} {a : Nat} (ha : 49 ≤ a) (h0 : Blank h a) : Blank (c_X0_init_13_3 h) a := (bk_R (by omega) (b_X2_init_43 (by omega) h0))
theorem q_X0_init_13_3 {h : AH} {k : Nat} : gR (c_X0_init_13_3 h) 13 k = gR h 13 k := (show Fr (fun a _ => a ≠ 13) h (c_X0_init_13_3 h) by unfold c_X0_init_13_3 c_X2_init_43; repeat (first | exact Fr.refl _ _ | refine Fr.sR ?_ (by omega) | refine Fr.sI ?_ (by omega))).r (fun z => z rfl)
theorem t_X0_init_13_3 {g : GP} (hg : g.1.stackTraces = false) (hF : gF g = false) {X : MX} {h : AH} {Q : State → Prop} (hX : Cx g RX0 cX0_init 3 197 7142 none [] X) (hB : ∀ a, 43 ≤ a → Blank h a) (hq : gR h 13 3 = some 29) (kk : AW g X 49 true 35 1232 Q (c_X0_init_13_3 h) 54 [.ref 13, .int 3] []) : AW g X 43 true 29 534 Q h 54 [.ref 13, .int 2] [] := by
  refine aw_iload_n hX (i := 1) rfl rfl d_X0_init_54 ?_
  refine aw_aload_n hX (i := 0) rfl rfl d_X0_init_55 ?_
  refine aw_getD hX hF (a := 13) (ci := 0) (k := 3) rfl (by decide) rfl rfl we_20 rfl d_X0_init_56 ?_
  rw [show gR h 13 3 = some 29 from hq]
  refine aw_alen hX (a := 29) (t := 4) (N := 30) rfl (by decide) (by decide) d_X0_init_59 ?_
  refine aw_icmp_ge (t := 85) hX (by decide) d_X0_init_60 (fun c => absurd c (by decide)) (fun c => ?_)
  refine aw_aload_n hX (i := 0) rfl rfl d_X0_init_63 ?_
  refine aw_getD hX hF (a := 13) (ci := 0) (k := 3) rfl (by decide) rfl rfl we_20 rfl d_X0_init_64 ?_
  rw [show gR h 13 3 = some 29 from hq]
  refine aw_iload_n hX (i := 1) rfl rfl d_X0_init_67 ?_
  refine aw_new hX hF (ci := 2) rfl (by decide) rfl (hB 43 (by decide)) we_11 we_12 we_13 (by decide) (by decide) d_X0_init_68 ?_
  refine aw_dup hX rfl d_X0_init_71 ?_
  refine aw_iload_n hX (i := 1) rfl rfl d_X0_init_72 ?_
  refine aw_iconst (v := 5) hX (by decide) d_X0_init_73 ?_
  refine aw_irem hX (by decide) d_X0_init_74 ?_
  rw [show ((2 : Int32) - 2 / 5 * 5) = 2 from by decide]
  refine aw_callI (b := 43) (av := [.int 2]) (avr := [.int 2]) (st := [.ref 43, .int 2, .ref 29]) hX (k_X2_init_43 hg hF (fun a ha => (hB a (by omega)))) mi_X2_init rfl rfl we_16 we_17 rfl (by decide) (by decide) (by decide) (by decide) d_X0_init_75 ?_
  refine aw_aastore hX (a := 29) (b := 43) rfl (by decide) rfl (by decide) (by decide) (show ¬ (_ ∨ _) by decide) d_X0_init_78 ?_
  refine aw_iinc (i := 1) (lv2 := [.ref 13, .int 3]) hX rfl (by decide) rfl rfl d_X0_init_79 ?_
  refine aw_goto (t := 54) hX (by decide) d_X0_init_82 ?_
  exact kk
def c_X0_init_13_4 (h : AH) : AH := (sR (c_X2_init_49 h) 29 (3 : Int32).toNatClampNeg (some 49))
theorem b_X0_init_13_4 {h : AH} {a : Nat} (ha : 55 ≤ a) (h0 : Blank h a) : Blank (c_X0_init_13_4 h) a := (bk_R (by omega) (b_X2_init_49 (by omega) h0))
theorem q_X0_init_13_4 {h : AH} {k : Nat} : gR (c_X0_init_13_4 h) 13 k = gR h 13 k := (show Fr (fun a _ => a ≠ 13) h (c_X0_init_13_4 h) by unfold c_X0_init_13_4 c_X2_init_49; repeat (first | exact Fr.refl _ _ | refine Fr.sR ?_ (by omega) | refine Fr.sI ?_ (by omega))).r (fun z => z rfl)
theorem t_X0_init_13_4 {g : GP} (hg : g.1.stackTraces = false) (hF : gF g = false) {X : MX} {h : AH} {Q : State → Prop} (hX : Cx g RX0 cX0_init 3 197 7142 none [] X) (hB : ∀ a, 49 ≤ a → Blank h a) (hq : gR h 13 3 = some 29) (kk : AW g X 55 true 41 1342 Q (c_X0_init_13_4 h) 54 [.ref 13, .int 4] []) : AW g X 49 true 35 1232 Q h 54 [.ref 13, .int 3] [] := by
  refine aw_iload_n hX (i := 1) rfl rfl d_X0_init_54 ?_
  refine aw_aload_n hX (i := 0) rfl rfl d_X0_init_55 ?_
  refine aw_getD hX hF (a := 13) (ci := 0) (k := 3) rfl (by decide) rfl rfl we_20 rfl d_X0_init_56 ?_
  rw [show gR h 13 3 = some 29 from hq]
  refine aw_alen hX (a := 29) (t := 4) (N := 30) rfl (by decide) (by decide) d_X0_init_59 ?_
  refine aw_icmp_ge (t := 85) hX (by decide) d_X0_init_60 (fun c => absurd c (by decide)) (fun c => ?_)
  refine aw_aload_n hX (i := 0) rfl rfl d_X0_init_63 ?_
  refine aw_getD hX hF (a := 13) (ci := 0) (k := 3) rfl (by decide) rfl rfl we_20 rfl d_X0_init_64 ?_
  rw [show gR h 13 3 = some 29 from hq]
  refine aw_iload_n hX (i := 1) rfl rfl d_X0_init_67 ?_
  refine aw_new hX hF (ci := 2) rfl (by decide) rfl (hB 49 (by decide)) we_11 we_12 we_13 (by decide) (by decide) d_X0_init_68 ?_
  refine aw_dup hX rfl d_X0_init_71 ?_
  refine aw_iload_n hX (i := 1) rfl rfl d_X0_init_72 ?_
  refine aw_iconst (v := 5) hX (by decide) d_X0_init_73 ?_
  refine aw_irem hX (by decide) d_X0_init_74 ?_
  rw [show ((3 : Int32) - 3 / 5 * 5) = 3 from by decide]
  refine aw_callI (b := 49) (av := [.int 3]) (avr := [.int 3]) (st := [.ref 49, .int 3, .ref 29]) hX (k_X2_init_49 hg hF (fun a ha => (hB a (by omega)))) mi_X2_init rfl rfl we_16 we_17 rfl (by decide) (by decide) (by decide) (by decide) d_X0_init_75 ?_
  refine aw_aastore hX (a := 29) (b := 49) rfl (by decide) rfl (by decide) (by decide) (show ¬ (_ ∨ _) by decide) d_X0_init_78 ?_
  refine aw_iinc (i := 1) (lv2 := [.ref 13, .int 4]) hX rfl (by decide) rfl rfl d_X0_init_79 ?_
  refine aw_goto (t := 54) hX (by decide) d_X0_init_82 ?_
  exact kk
def c_X0_init_13_5 (h : AH) : AH := (sR (c_X2_init_55 h) 29 (4 : Int32).toNatClampNeg (some 55))
theorem b_X0_init_13_5 {h : AH} {a : Nat} (ha : 61 ≤ a) (h0 : Blank h a) : Blank (c_X0_init_13_5 h) a := (bk_R (by omega) (b_X2_init_55 (by omega) h0))
theorem q_X0_init_13_5 {h : AH} {k : Nat} : gR (c_X0_init_13_5 h) 13 k = gR h 13 k := (show Fr (fun a _ => a ≠ 13) h (c_X0_init_13_5 h) by unfold c_X0_init_13_5 c_X2_init_55; repeat (first | exact Fr.refl _ _ | refine Fr.sR ?_ (by omega) | refine Fr.sI ?_ (by omega))).r (fun z => z rfl)
theorem t_X0_init_13_5 {g : GP} (hg : g.1.stackTraces = false) (hF : gF g = false) {X : MX} {h : AH} {Q : State → Prop} (hX : Cx g RX0 cX0_init 3 197 7142 none [] X) (hB : ∀ a, 55 ≤ a → Blank h a) (hq : gR h 13 3 = some 29) (kk : AW g X 61 true 47 1452 Q (c_X0_init_13_5 h) 54 [.ref 13, .int 5] []) : AW g X 55 true 41 1342 Q h 54 [.ref 13, .int 4] [] := by
  refine aw_iload_n hX (i := 1) rfl rfl d_X0_init_54 ?_
  refine aw_aload_n hX (i := 0) rfl rfl d_X0_init_55 ?_
  refine aw_getD hX hF (a := 13) (ci := 0) (k := 3) rfl (by decide) rfl rfl we_20 rfl d_X0_init_56 ?_
  rw [show gR h 13 3 = some 29 from hq]
  refine aw_alen hX (a := 29) (t := 4) (N := 30) rfl (by decide) (by decide) d_X0_init_59 ?_
  refine aw_icmp_ge (t := 85) hX (by decide) d_X0_init_60 (fun c => absurd c (by decide)) (fun c => ?_)
  refine aw_aload_n hX (i := 0) rfl rfl d_X0_init_63 ?_
  refine aw_getD hX hF (a := 13) (ci := 0) (k := 3) rfl (by decide) rfl rfl we_20 rfl d_X0_init_64 ?_
  rw [show gR h 13 3 = some 29 from hq]
  refine aw_iload_n hX (i := 1) rfl rfl d_X0_init_67 ?_
  refine aw_new hX hF (ci := 2) rfl (by decide) rfl (hB 55 (by decide)) we_11 we_12 we_13 (by decide) (by decide) d_X0_init_68 ?_
  refine aw_dup hX rfl d_X0_init_71 ?_
  refine aw_iload_n hX (i := 1) rfl rfl d_X0_init_72 ?_
  refine aw_iconst (v := 5) hX (by decide) d_X0_init_73 ?_
  refine aw_irem hX (by decide) d_X0_init_74 ?_
  rw [show ((4 : Int32) - 4 / 5 * 5) = 4 from by decide]
  refine aw_callI (b := 55) (av := [.int 4]) (avr := [.int 4]) (st := [.ref 55, .int 4, .ref 29]) hX (k_X2_init_55 hg hF (fun a ha => (hB a (by omega)))) mi_X2_init rfl rfl we_16 we_17 rfl (by decide) (by decide) (by decide) (by decide) d_X0_init_75 ?_
  refine aw_aastore hX (a := 29) (b := 55) rfl (by decide) rfl (by decide) (by decide) (show ¬ (_ ∨ _) by decide) d_X0_init_78 ?_
  refine aw_iinc (i := 1) (lv2 := [.ref 13, .int 5]) hX rfl (by decide) rfl rfl d_X0_init_79 ?_
  refine aw_goto (t := 54) hX (by decide) d_X0_init_82 ?_
  exact kk
def c_X0_init_13_6 (h : AH) : AH := (sR (c_X2_init_61 h) 29 (5 : Int32).toNatClampNeg (some 61))
theorem b_X0_init_13_6 {h : AH} {a : Nat} (ha : 67 ≤ a) (h0 : Blank h a) : Blank (c_X0_init_13_6 h) a := (bk_R (by omega) (b_X2_init_61 (by omega) h0))
theorem q_X0_init_13_6 {h : AH} {k : Nat} : gR (c_X0_init_13_6 h) 13 k = gR h 13 k := (show Fr (fun a _ => a ≠ 13) h (c_X0_init_13_6 h) by unfold c_X0_init_13_6 c_X2_init_61; repeat (first | exact Fr.refl _ _ | refine Fr.sR ?_ (by omega) | refine Fr.sI ?_ (by omega))).r (fun z => z rfl)
theorem t_X0_init_13_6 {g : GP} (hg : g.1.stackTraces = false) (hF : gF g = false) {X : MX} {h : AH} {Q : State → Prop} (hX : Cx g RX0 cX0_init 3 197 7142 none [] X) (hB : ∀ a, 61 ≤ a → Blank h a) (hq : gR h 13 3 = some 29) (kk : AW g X 67 true 53 1562 Q (c_X0_init_13_6 h) 54 [.ref 13, .int 6] []) : AW g X 61 true 47 1452 Q h 54 [.ref 13, .int 5] [] := by
  refine aw_iload_n hX (i := 1) rfl rfl d_X0_init_54 ?_
  refine aw_aload_n hX (i := 0) rfl rfl d_X0_init_55 ?_
  refine aw_getD hX hF (a := 13) (ci := 0) (k := 3) rfl (by decide) rfl rfl we_20 rfl d_X0_init_56 ?_
  rw [show gR h 13 3 = some 29 from hq]
  refine aw_alen hX (a := 29) (t := 4) (N := 30) rfl (by decide) (by decide) d_X0_init_59 ?_
  refine aw_icmp_ge (t := 85) hX (by decide) d_X0_init_60 (fun c => absurd c (by decide)) (fun c => ?_)
  refine aw_aload_n hX (i := 0) rfl rfl d_X0_init_63 ?_
  refine aw_getD hX hF (a := 13) (ci := 0) (k := 3) rfl (by decide) rfl rfl we_20 rfl d_X0_init_64 ?_
  rw [show gR h 13 3 = some 29 from hq]
  refine aw_iload_n hX (i := 1) rfl rfl d_X0_init_67 ?_
  refine aw_new hX hF (ci := 2) rfl (by decide) rfl (hB 61 (by decide)) we_11 we_12 we_13 (by decide) (by decide) d_X0_init_68 ?_
  refine aw_dup hX rfl d_X0_init_71 ?_
  refine aw_iload_n hX (i := 1) rfl rfl d_X0_init_72 ?_
  refine aw_iconst (v := 5) hX (by decide) d_X0_init_73 ?_
  refine aw_irem hX (by decide) d_X0_init_74 ?_
  rw [show ((5 : Int32) - 5 / 5 * 5) = 0 from by decide]
  refine aw_callI (b := 61) (av := [.int 0]) (avr := [.int 0]) (st := [.ref 61, .int 5, .ref 29]) hX (k_X2_init_61 hg hF (fun a ha => (hB a (by omega)))) mi_X2_init rfl rfl we_16 we_17 rfl (by decide) (by decide) (by decide) (by decide) d_X0_init_75 ?_
  refine aw_aastore hX (a := 29) (b := 61) rfl (by decide) rfl (by decide) (by decide) (show ¬ (_ ∨ _) by decide) d_X0_init_78 ?_
  refine aw_iinc (i := 1) (lv2 := [.ref 13, .int 6]) hX rfl (by decide) rfl rfl d_X0_init_79 ?_
  refine aw_goto (t := 54) hX (by decide) d_X0_init_82 ?_
  exact kk
def c_X0_init_13_7 (h : AH) : AH := (sR (c_X2_init_67 h) 29 (6 : Int32).toNatClampNeg (some 67))
theorem b_X0_init_13_7 {h : AH} {a : Nat} (ha : 73 ≤ a) (h0 : Blank h a) : Blank (c_X0_init_13_7 h) a := (bk_R (by omega) (b_X2_init_67 (by omega) h0))
theorem q_X0_init_13_7 {h : AH} {k : Nat} : gR (c_X0_init_13_7 h) 13 k = gR h 13 k := (show Fr (fun a _ => a ≠ 13) h (c_X0_init_13_7 h) by unfold c_X0_init_13_7 c_X2_init_67; repeat (first | exact Fr.refl _ _ | refine Fr.sR ?_ (by omega) | refine Fr.sI ?_ (by omega))).r (fun z => z rfl)
theorem t_X0_init_13_7 {g : GP} (hg : g.1.stackTraces = false) (hF : gF g = false) {X : MX} {h : AH} {Q : State → Prop} (hX : Cx g RX0 cX0_init 3 197 7142 none [] X) (hB : ∀ a, 67 ≤ a → Blank h a) (hq : gR h 13 3 = some 29) (kk : AW g X 73 true 59 1672 Q (c_X0_init_13_7 h) 54 [.ref 13, .int 7] []) : AW g X 67 true 53 1562 Q h 54 [.ref 13, .int 6] [] := by
  refine aw_iload_n hX (i := 1) rfl rfl d_X0_init_54 ?_
  refine aw_aload_n hX (i := 0) rfl rfl d_X0_init_55 ?_
  refine aw_getD hX hF (a := 13) (ci := 0) (k := 3) rfl (by decide) rfl rfl we_20 rfl d_X0_init_56 ?_
  rw [show gR h 13 3 = some 29 from hq]
  refine aw_alen hX (a := 29) (t := 4) (N := 30) rfl (by decide) (by decide) d_X0_init_59 ?_
  refine aw_icmp_ge (t := 85) hX (by decide) d_X0_init_60 (fun c => absurd c (by decide)) (fun c => ?_)
  refine aw_aload_n hX (i := 0) rfl rfl d_X0_init_63 ?_
  refine aw_getD hX hF (a := 13) (ci := 0) (k := 3) rfl (by decide) rfl rfl we_20 rfl d_X0_init_64 ?_
  rw [show gR h 13 3 = some 29 from hq]
  refine aw_iload_n hX (i := 1) rfl rfl d_X0_init_67 ?_
  refine aw_new hX hF (ci := 2) rfl (by decide) rfl (hB 67 (by decide)) we_11 we_12 we_13 (by decide) (by decide) d_X0_init_68 ?_
  refine aw_dup hX rfl d_X0_init_71 ?_
  refine aw_iload_n hX (i := 1) rfl rfl d_X0_init_72 ?_
  refine aw_iconst (v := 5) hX (by decide) d_X0_init_73 ?_
  refine aw_irem hX (by decide) d_X0_init_74 ?_
  rw [show ((6 : Int32) - 6 / 5 * 5) = 1 from by decide]
  refine aw_callI (b := 67) (av := [.int 1]) (avr := [.int 1]) (st := [.ref 67, .int 6, .ref 29]) hX (k_X2_init_67 hg hF (fun a ha => (hB a (by omega)))) mi_X2_init rfl rfl we_16 we_17 rfl (by decide) (by decide) (by decide) (by decide) d_X0_init_75 ?_
  refine aw_aastore hX (a := 29) (b := 67) rfl (by decide) rfl (by decide) (by decide) (show ¬ (_ ∨ _) by decide) d_X0_init_78 ?_
  refine aw_iinc (i := 1) (lv2 := [.ref 13, .int 7]) hX rfl (by decide) rfl rfl d_X0_init_79 ?_
  refine aw_goto (t := 54) hX (by decide) d_X0_init_82 ?_
  exact kk
def c_X0_init_13_8 (h : AH) : AH := (sR (c_X2_init_73 h) 29 (7 : Int32).toNatClampNeg (some 73))
theorem b_X0_init_13_8 {h : AH} {a : Nat} (ha : 79 ≤ a) (h0 : Blank h a) : Blank (c_X0_init_13_8 h) a := (bk_R (by omega) (b_X2_init_73 (by omega) h0))
theorem q_X0_init_13_8 {h : AH} {k : Nat} : gR (c_X0_init_13_8 h) 13 k = gR h 13 k := (show Fr (fun a _ => a ≠ 13) h (c_X0_init_13_8 h) by unfold c_X0_init_13_8 c_X2_init_73; repeat (first | exact Fr.refl _ _ | refine Fr.sR ?_ (by omega) | refine Fr.sI ?_ (by omega))).r (fun z => z rfl)
theorem t_X0_init_13_8 {g : GP} (hg : g.1.stackTraces = false) (hF : gF g = false) {X : MX} {h : AH} {Q : State → Prop} (hX : Cx g RX0 cX0_init 3 197 7142 none [] X) (hB : ∀ a, 73 ≤ a → Blank h a) (hq : gR h 13 3 = some 29) (kk : AW g X 79 true 65 2370 Q (c_X0_init_13_8 h) 54 [.ref 13, .int 8] []) : AW g X 73 true 59 1672 Q h 54 [.ref 13, .int 7] [] := by
  refine aw_iload_n hX (i := 1) rfl rfl d_X0_init_54 ?_
  refine aw_aload_n hX (i := 0) rfl rfl d_X0_init_55 ?_
  refine aw_getD hX hF (a := 13) (ci := 0) (k := 3) rfl (by decide) rfl rfl we_20 rfl d_X0_init_56 ?_
  rw [show gR h 13 3 = some 29 from hq]
  refine aw_alen hX (a := 29) (t := 4) (N := 30) rfl (by decide) (by decide) d_X0_init_59 ?_
  refine aw_icmp_ge (t := 85) hX (by decide) d_X0_init_60 (fun c => absurd c (by decide)) (fun c => ?_)
  refine aw_aload_n hX (i := 0) rfl rfl d_X0_init_63 ?_
  refine aw_getD hX hF (a := 13) (ci := 0) (k := 3) rfl (by decide) rfl rfl we_20 rfl d_X0_init_64 ?_
  rw [show gR h 13 3 = some 29 from hq]
  refine aw_iload_n hX (i := 1) rfl rfl d_X0_init_67 ?_
  refine aw_new hX hF (ci := 2) rfl (by decide) rfl (hB 73 (by decide)) we_11 we_12 we_13 (by decide) (by decide) d_X0_init_68 ?_
  refine aw_dup hX rfl d_X0_init_71 ?_
  refine aw_iload_n hX (i := 1) rfl rfl d_X0_init_72 ?_
  refine aw_iconst (v := 5) hX (by decide) d_X0_init_73 ?_
  refine aw_irem hX (by decide) d_X0_init_74 ?_
  rw [show ((7 : Int32) - 7 / 5 * 5) = 2 from by decide]
  refine aw_callI (b := 73) (av := [.int 2]) (avr := [.int 2]) (st := [.ref 73, .int 7, .ref 29]) hX (k_X2_init_73 hg hF (fun a ha => (hB a (by omega)))) mi_X2_init rfl rfl we_16 we_17 rfl (by decide) (by decide) (by decide) (by decide) d_X0_init_75 ?_
  refine aw_aastore hX (a := 29) (b := 73) rfl (by decide) rfl (by decide) (by decide) (show ¬ (_ ∨ _) by decide) d_X0_init_78 ?_
  refine aw_iinc (i := 1) (lv2 := [.ref 13, .int 8]) hX rfl (by decide) rfl rfl d_X0_init_79 ?_
  refine aw_goto (t := 54) hX (by decide) d_X0_init_82 ?_
  exact kk
def c_X0_init_13_9 (h : AH) : AH := (sR (c_X2_init_79 h) 29 (8 : Int32).toNatClampNeg (some 79))
theorem b_X0_init_13_9 {h : AH} {a : Nat} (ha : 85 ≤ a) (h0 : Blank h a) : Blank (c_X0_init_13_9 h) a := (bk_R (by omega) (b_X2_init_79 (by omega) h0))
theorem q_X0_init_13_9 {h : AH} {k : Nat} : gR (c_X0_init_13_9 h) 13 k = gR h 13 k := (show Fr (fun a _ => a ≠ 13) h (c_X0_init_13_9 h) by unfold c_X0_init_13_9 c_X2_init_79; repeat (first | exact Fr.refl _ _ | refine Fr.sR ?_ (by omega) | refine Fr.sI ?_ (by omega))).r (fun z => z rfl)
theorem t_X0_init_13_9 {g : GP} (hg : g.1.stackTraces = false) (hF : gF g = false) {X : MX} {h : AH} {Q : State → Prop} (hX : Cx g RX0 cX0_init 3 197 7142 none [] X) (hB : ∀ a, 79 ≤ a → Blank h a) (hq : gR h 13 3 = some 29) (kk : AW g X 85 true 71 2480 Q (c_X0_init_13_9 h) 54 [.ref 13, .int 9] []) : AW g X 79 true 65 2370 Q h 54 [.ref 13, .int 8] [] := by
  refine aw_iload_n hX (i := 1) rfl rfl d_X0_init_54 ?_
  refine aw_aload_n hX (i := 0) rfl rfl d_X0_init_55 ?_
  refine aw_getD hX hF (a := 13) (ci := 0) (k := 3) rfl (by decide) rfl rfl we_20 rfl d_X0_init_56 ?_
  rw [show gR h 13 3 = some 29 from hq]
  refine aw_alen hX (a := 29) (t := 4) (N := 30) rfl (by decide) (by decide) d_X0_init_59 ?_
  refine aw_icmp_ge (t := 85) hX (by decide) d_X0_init_60 (fun c => absurd c (by decide)) (fun c => ?_)
  refine aw_aload_n hX (i := 0) rfl rfl d_X0_init_63 ?_
  refine aw_getD hX hF (a := 13) (ci := 0) (k := 3) rfl (by decide) rfl rfl we_20 rfl d_X0_init_64 ?_
  rw [show gR h 13 3 = some 29 from hq]
  refine aw_iload_n hX (i := 1) rfl rfl d_X0_init_67 ?_
  refine aw_new hX hF (ci := 2) rfl (by decide) rfl (hB 79 (by decide)) we_11 we_12 we_13 (by decide) (by decide) d_X0_init_68 ?_
  refine aw_dup hX rfl d_X0_init_71 ?_
  refine aw_iload_n hX (i := 1) rfl rfl d_X0_init_72 ?_
  refine aw_iconst (v := 5) hX (by decide) d_X0_init_73 ?_
  refine aw_irem hX (by decide) d_X0_init_74 ?_
  rw [show ((8 : Int32) - 8 / 5 * 5) = 3 from by decide]
  refine aw_callI (b := 79) (av := [.int 3]) (avr := [.int 3]) (st := [.ref 79, .int 8, .ref 29]) hX (k_X2_init_79 hg hF (fun a ha => (hB a (by omega)))) mi_X2_init rfl rfl we_16 we_17 rfl (by decide) (by decide) (by decide) (by decide) d_X0_init_75 ?_
  refine aw_aastore hX (a := 29) (b := 79) rfl (by decide) rfl (by decide) (by decide) (show ¬ (_ ∨ _) by decide) d_X0_init_78 ?_
  refine aw_iinc (i := 1) (lv2 := [.ref 13, .int 9]) hX rfl (by decide) rfl rfl d_X0_init_79 ?_
  refine aw_goto (t := 54) hX (by decide) d_X0_init_82 ?_
  exact kk
def c_X0_init_13_10 (h : AH) : AH := (sR (c_X2_init_85 h) 29 (9 : Int32).toNatClampNeg (some 85))
theorem b_X0_init_13_10 {h : AH} {a : Nat} (ha : 91 ≤ a) (h0 : Blank h a) : Blank (c_X0_init_13_10 h) a := (bk_R (by omega) (b_X2_init_85 (by omega) h0))
theorem q_X0_init_13_10 {h : AH} {k : Nat} : gR (c_X0_init_13_10 h) 13 k = gR h 13 k := (show Fr (fun a _ => a ≠ 13) h (c_X0_init_13_10 h) by unfold c_X0_init_13_10 c_X2_init_85; repeat (first | exact Fr.refl _ _ | refine Fr.sR ?_ (by omega) | refine Fr.sI ?_ (by omega))).r (fun z => z rfl)
theorem t_X0_init_13_10 {g : GP} (hg : g.1.stackTraces = false) (hF : gF g = false) {X : MX} {h : AH} {Q : State → Prop} (hX : Cx g RX0 cX0_init 3 197 7142 none [] X) (hB : ∀ a, 85 ≤ a → Blank h a) (hq : gR h 13 3 = some 29) (kk : AW g X 91 true 77 2590 Q (c_X0_init_13_10 h) 54 [.ref 13, .int 10] []) : AW g X 85 true 71 2480 Q h 54 [.ref 13, .int 9] [] := by
  refine aw_iload_n hX (i := 1) rfl rfl d_X0_init_54 ?_
  refine aw_aload_n hX (i := 0) rfl rfl d_X0_init_55 ?_
  refine aw_getD hX hF (a := 13) (ci := 0) (k := 3) rfl (by decide) rfl rfl we_20 rfl d_X0_init_56 ?_
  rw [show gR h 13 3 = some 29 from hq]
  refine aw_alen hX (a := 29) (t := 4) (N := 30) rfl (by decide) (by decide) d_X0_init_59 ?_
  refine aw_icmp_ge (t := 85) hX (by decide) d_X0_init_60 (fun c => absurd c (by decide)) (fun c => ?_)
  refine aw_aload_n hX (i := 0) rfl rfl d_X0_init_63 ?_
  refine aw_getD hX hF (a := 13) (ci := 0) (k := 3) rfl (by decide) rfl rfl we_20 rfl d_X0_init_64 ?_
  rw [show gR h 13 3 = some 29 from hq]
  refine aw_iload_n hX (i := 1) rfl rfl d_X0_init_67 ?_
  refine aw_new hX hF (ci := 2) rfl (by decide) rfl (hB 85 (by decide)) we_11 we_12 we_13 (by decide) (by decide) d_X0_init_68 ?_
  refine aw_dup hX rfl d_X0_init_71 ?_
  refine aw_iload_n hX (i := 1) rfl rfl d_X0_init_72 ?_
  refine aw_iconst (v := 5) hX (by decide) d_X0_init_73 ?_
  refine aw_irem hX (by decide) d_X0_init_74 ?_
  rw [show ((9 : Int32) - 9 / 5 * 5) = 4 from by decide]
  refine aw_callI (b := 85) (av := [.int 4]) (avr := [.int 4]) (st := [.ref 85, .int 9, .ref 29]) hX (k_X2_init_85 hg hF (fun a ha => (hB a (by omega)))) mi_X2_init rfl rfl we_16 we_17 rfl (by decide) (by decide) (by decide) (by decide) d_X0_init_75 ?_
  refine aw_aastore hX (a := 29) (b := 85) rfl (by decide) rfl (by decide) (by decide) (show ¬ (_ ∨ _) by decide) d_X0_init_78 ?_
  refine aw_iinc (i := 1) (lv2 := [.ref 13, .int 10]) hX rfl (by decide) rfl rfl d_X0_init_79 ?_
  refine aw_goto (t := 54) hX (by decide) d_X0_init_82 ?_
  exact kk
def c_X0_init_13_11 (h : AH) : AH := (sR (c_X2_init_91 h) 29 (10 : Int32).toNatClampNeg (some 91))
theorem b_X0_init_13_11 {h : AH} {a : Nat} (ha : 97 ≤ a) (h0 : Blank h a) : Blank (c_X0_init_13_11 h) a := (bk_R (by omega) (b_X2_init_91 (by omega) h0))
theorem q_X0_init_13_11 {h : AH} {k : Nat} : gR (c_X0_init_13_11 h) 13 k = gR h 13 k := (show Fr (fun a _ => a ≠ 13) h (c_X0_init_13_11 h) by unfold c_X0_init_13_11 c_X2_init_91; repeat (first | exact Fr.refl _ _ | refine Fr.sR ?_ (by omega) | refine Fr.sI ?_ (by omega))).r (fun z => z rfl)
theorem t_X0_init_13_11 {g : GP} (hg : g.1.stackTraces = false) (hF : gF g = false) {X : MX} {h : AH} {Q : State → Prop} (hX : Cx g RX0 cX0_init 3 197 7142 none [] X) (hB : ∀ a, 91 ≤ a → Blank h a) (hq : gR h 13 3 = some 29) (kk : AW g X 97 true 83 2700 Q (c_X0_init_13_11 h) 54 [.ref 13, .int 11] []) : AW g X 91 true 77 2590 Q h 54 [.ref 13, .int 10] [] := by
  refine aw_iload_n hX (i := 1) rfl rfl d_X0_init_54 ?_
  refine aw_aload_n hX (i := 0) rfl rfl d_X0_init_55 ?_
  refine aw_getD hX hF (a := 13) (ci := 0) (k := 3) rfl (by decide) rfl rfl we_20 rfl d_X0_init_56 ?_
  rw [show gR h 13 3 = some 29 from hq]
  refine aw_alen hX (a := 29) (t := 4) (N := 30) rfl (by decide) (by decide) d_X0_init_59 ?_
  refine aw_icmp_ge (t := 85) hX (by decide) d_X0_init_60 (fun c => absurd c (by decide)) (fun c => ?_)
  refine aw_aload_n hX (i := 0) rfl rfl d_X0_init_63 ?_
  refine aw_getD hX hF (a := 13) (ci := 0) (k := 3) rfl (by decide) rfl rfl we_20 rfl d_X0_init_64 ?_
  rw [show gR h 13 3 = some 29 from hq]
  refine aw_iload_n hX (i := 1) rfl rfl d_X0_init_67 ?_
  refine aw_new hX hF (ci := 2) rfl (by decide) rfl (hB 91 (by decide)) we_11 we_12 we_13 (by decide) (by decide) d_X0_init_68 ?_
  refine aw_dup hX rfl d_X0_init_71 ?_
  refine aw_iload_n hX (i := 1) rfl rfl d_X0_init_72 ?_
  refine aw_iconst (v := 5) hX (by decide) d_X0_init_73 ?_
  refine aw_irem hX (by decide) d_X0_init_74 ?_
  rw [show ((10 : Int32) - 10 / 5 * 5) = 0 from by decide]
  refine aw_callI (b := 91) (av := [.int 0]) (avr := [.int 0]) (st := [.ref 91, .int 10, .ref 29]) hX (k_X2_init_91 hg hF (fun a ha => (hB a (by omega)))) mi_X2_init rfl rfl we_16 we_17 rfl (by decide) (by decide) (by decide) (by decide) d_X0_init_75 ?_
  refine aw_aastore hX (a := 29) (b := 91) rfl (by decide) rfl (by decide) (by decide) (show ¬ (_ ∨ _) by decide) d_X0_init_78 ?_
  refine aw_iinc (i := 1) (lv2 := [.ref 13, .int 11]) hX rfl (by decide) rfl rfl d_X0_init_79 ?_
  refine aw_goto (t := 54) hX (by decide) d_X0_init_82 ?_
  exact kk
def c_X0_init_13_12 (h : AH) : AH := (sR (c_X2_init_97 h) 29 (11 : Int32).toNatClampNeg (some 97))
theorem b_X0_init_13_12 {h : AH} {a : Nat} (ha : 103 ≤ a) (h0 : Blank h a) : Blank (c_X0_init_13_12 h) a := (bk_R (by omega) (b_X2_init_97 (by omega) h0))
theorem q_X0_init_13_12 {h : AH} {k : Nat} : gR (c_X0_init_13_12 h) 13 k = gR h 13 k := (show Fr (fun a _ => a ≠ 13) h (c_X0_init_13_12 h) by unfold c_X0_init_13_12 c_X2_init_97; repeat (first | exact Fr.refl _ _ | refine Fr.sR ?_ (by omega) | refine Fr.sI ?_ (by omega))).r (fun z => z rfl)
theorem t_X0_init_13_12 {g : GP} (hg : g.1.stackTraces = false) (hF : gF g = false) {X : MX} {h : AH} {Q : State → Prop} (hX : Cx g RX0 cX0_init 3 197 7142 none [] X) (hB : ∀ a, 97 ≤ a → Blank h a) (hq : gR h 13 3 = some 29) (kk : AW g X 103 true 89 2810 Q (c_X0_init_13_12 h) 54 [.ref 13, .int 12] []) : AW g X 97 true 83 2700 Q h 54 [.ref 13, .int 11] [] := by
  refine aw_iload_n hX (i := 1) rfl rfl d_X0_init_54 ?_
  refine aw_aload_n hX (i := 0) rfl rfl d_X0_init_55 ?_
  refine aw_getD hX hF (a := 13) (ci := 0) (k := 3) rfl (by decide) rfl rfl we_20 rfl d_X0_init_56 ?_
  rw [show gR h 13 3 = some 29 from hq]
  refine aw_alen hX (a := 29) (t := 4) (N := 30) rfl (by decide) (by decide) d_X0_init_59 ?_
  refine aw_icmp_ge (t := 85) hX (by decide) d_X0_init_60 (fun c => absurd c (by decide)) (fun c => ?_)
  refine aw_aload_n hX (i := 0) rfl rfl d_X0_init_63 ?_
  refine aw_getD hX hF (a := 13) (ci := 0) (k := 3) rfl (by decide) rfl rfl we_20 rfl d_X0_init_64 ?_
  rw [show gR h 13 3 = some 29 from hq]
  refine aw_iload_n hX (i := 1) rfl rfl d_X0_init_67 ?_
  refine aw_new hX hF (ci := 2) rfl (by decide) rfl (hB 97 (by decide)) we_11 we_12 we_13 (by decide) (by decide) d_X0_init_68 ?_
  refine aw_dup hX rfl d_X0_init_71 ?_
  refine aw_iload_n hX (i := 1) rfl rfl d_X0_init_72 ?_
  refine aw_iconst (v := 5) hX (by decide) d_X0_init_73 ?_
  refine aw_irem hX (by decide) d_X0_init_74 ?_
  rw [show ((11 : Int32) - 11 / 5 * 5) = 1 from by decide]
  refine aw_callI (b := 97) (av := [.int 1]) (avr := [.int 1]) (st := [.ref 97, .int 11, .ref 29]) hX (k_X2_init_97 hg hF (fun a ha => (hB a (by omega)))) mi_X2_init rfl rfl we_16 we_17 rfl (by decide) (by decide) (by decide) (by decide) d_X0_init_75 ?_
  refine aw_aastore hX (a := 29) (b := 97) rfl (by decide) rfl (by decide) (by decide) (show ¬ (_ ∨ _) by decide) d_X0_init_78 ?_
  refine aw_iinc (i := 1) (lv2 := [.ref 13, .int 12]) hX rfl (by decide) rfl rfl d_X0_init_79 ?_
  refine aw_goto (t := 54) hX (by decide) d_X0_init_82 ?_
  exact kk
def c_X0_init_13_13 (h : AH) : AH := (sR (c_X2_init_103 h) 29 (12 : Int32).toNatClampNeg (some 103))
theorem b_X0_init_13_13 {h : AH} {a : Nat} (ha : 109 ≤ a) (h0 : Blank h a) : Blank (c_X0_init_13_13 h) a := (bk_R (by omega) (b_X2_init_103 (by omega) h0))
theorem q_X0_init_13_13 {h : AH} {k : Nat} : gR (c_X0_init_13_13 h) 13 k = gR h 13 k := (show Fr (fun a _ => a ≠ 13) h (c_X0_init_13_13 h) by unfold c_X0_init_13_13 c_X2_init_103; repeat (first | exact Fr.refl _ _ | refine Fr.sR ?_ (by omega) | refine Fr.sI ?_ (by omega))).r (fun z => z rfl)
theorem t_X0_init_13_13 {g : GP} (hg : g.1.stackTraces = false) (hF : gF g = false) {X : MX} {h : AH} {Q : State → Prop} (hX : Cx g RX0 cX0_init 3 197 7142 none [] X) (hB : ∀ a, 103 ≤ a → Blank h a) (hq : gR h 13 3 = some 29) (kk : AW g X 109 true 95 3508 Q (c_X0_init_13_13 h) 54 [.ref 13, .int 13] []) : AW g X 103 true 89 2810 Q h 54 [.ref 13, .int 12] [] := by
  refine aw_iload_n hX (i := 1) rfl rfl d_X0_init_54 ?_
  refine aw_aload_n hX (i := 0) rfl rfl d_X0_init_55 ?_
  refine aw_getD hX hF (a := 13) (ci := 0) (k := 3) rfl (by decide) rfl rfl we_20 rfl d_X0_init_56 ?_
  rw [show gR h 13 3 = some 29 from hq]
  refine aw_alen hX (a := 29) (t := 4) (N := 30) rfl (by decide) (by decide) d_X0_init_59 ?_
  refine aw_icmp_ge (t := 85) hX (by decide) d_X0_init_60 (fun c => absurd c (by decide)) (fun c => ?_)
  refine aw_aload_n hX (i := 0) rfl rfl d_X0_init_63 ?_
  refine aw_getD hX hF (a := 13) (ci := 0) (k := 3) rfl (by decide) rfl rfl we_20 rfl d_X0_init_64 ?_
  rw [show gR h 13 3 = some 29 from hq]
  refine aw_iload_n hX (i := 1) rfl rfl d_X0_init_67 ?_
  refine aw_new hX hF (ci := 2) rfl (by decide) rfl (hB 103 (by decide)) we_11 we_12 we_13 (by decide) (by decide) d_X0_init_68 ?_
  refine aw_dup hX rfl d_X0_init_71 ?_
  refine aw_iload_n hX (i := 1) rfl rfl d_X0_init_72 ?_
  refine aw_iconst (v := 5) hX (by decide) d_X0_init_73 ?_
  refine aw_irem hX (by decide) d_X0_init_74 ?_
  rw [show ((12 : Int32) - 12 / 5 * 5) = 2 from by decide]
  refine aw_callI (b := 103) (av := [.int 2]) (avr := [.int 2]) (st := [.ref 103, .int 12, .ref 29]) hX (k_X2_init_103 hg hF (fun a ha => (hB a (by omega)))) mi_X2_init rfl rfl we_16 we_17 rfl (by decide) (by decide) (by decide) (by decide) d_X0_init_75 ?_
  refine aw_aastore hX (a := 29) (b := 103) rfl (by decide) rfl (by decide) (by decide) (show ¬ (_ ∨ _) by decide) d_X0_init_78 ?_
  refine aw_iinc (i := 1) (lv2 := [.ref 13, .int 13]) hX rfl (by decide) rfl rfl d_X0_init_79 ?_
  refine aw_goto (t := 54) hX (by decide) d_X0_init_82 ?_
  exact kk
def c_X0_init_13_14 (h : AH) : AH := (sR (c_X2_init_109 h) 29 (13 : Int32).toNatClampNeg (some 109))
theorem b_X0_init_13_14 {h : AH} {a : Nat} (ha : 115 ≤ a) (h0 : Blank h a) : Blank (c_X0_init_13_14 h) a := (bk_R (by omega) (b_X2_init_109 (by omega) h0))
theorem q_X0_init_13_14 {h : AH} {k : Nat} : gR (c_X0_init_13_14 h) 13 k = gR h 13 k := (show Fr (fun a _ => a ≠ 13) h (c_X0_init_13_14 h) by unfold c_X0_init_13_14 c_X2_init_109; repeat (first | exact Fr.refl _ _ | refine Fr.sR ?_ (by omega) | refine Fr.sI ?_ (by omega))).r (fun z => z rfl)
theorem t_X0_init_13_14 {g : GP} (hg : g.1.stackTraces = false) (hF : gF g = false) {X : MX} {h : AH} {Q : State → Prop} (hX : Cx g RX0 cX0_init 3 197 7142 none [] X) (hB : ∀ a, 109 ≤ a → Blank h a) (hq : gR h 13 3 = some 29) (kk : AW g X 115 true 101 3618 Q (c_X0_init_13_14 h) 54 [.ref 13, .int 14] []) : AW g X 109 true 95 3508 Q h 54 [.ref 13, .int 13] [] := by
  refine aw_iload_n hX (i := 1) rfl rfl d_X0_init_54 ?_
  refine aw_aload_n hX (i := 0) rfl rfl d_X0_init_55 ?_
  refine aw_getD hX hF (a := 13) (ci := 0) (k := 3) rfl (by decide) rfl rfl we_20 rfl d_X0_init_56 ?_
  rw [show gR h 13 3 = some 29 from hq]
  refine aw_alen hX (a := 29) (t := 4) (N := 30) rfl (by decide) (by decide) d_X0_init_59 ?_
  refine aw_icmp_ge (t := 85) hX (by decide) d_X0_init_60 (fun c => absurd c (by decide)) (fun c => ?_)
  refine aw_aload_n hX (i := 0) rfl rfl d_X0_init_63 ?_
  refine aw_getD hX hF (a := 13) (ci := 0) (k := 3) rfl (by decide) rfl rfl we_20 rfl d_X0_init_64 ?_
  rw [show gR h 13 3 = some 29 from hq]
  refine aw_iload_n hX (i := 1) rfl rfl d_X0_init_67 ?_
  refine aw_new hX hF (ci := 2) rfl (by decide) rfl (hB 109 (by decide)) we_11 we_12 we_13 (by decide) (by decide) d_X0_init_68 ?_
  refine aw_dup hX rfl d_X0_init_71 ?_
  refine aw_iload_n hX (i := 1) rfl rfl d_X0_init_72 ?_
  refine aw_iconst (v := 5) hX (by decide) d_X0_init_73 ?_
  refine aw_irem hX (by decide) d_X0_init_74 ?_
  rw [show ((13 : Int32) - 13 / 5 * 5) = 3 from by decide]
  refine aw_callI (b := 109) (av := [.int 3]) (avr := [.int 3]) (st := [.ref 109, .int 13, .ref 29]) hX (k_X2_init_109 hg hF (fun a ha => (hB a (by omega)))) mi_X2_init rfl rfl we_16 we_17 rfl (by decide) (by decide) (by decide) (by decide) d_X0_init_75 ?_
  refine aw_aastore hX (a := 29) (b := 109) rfl (by decide) rfl (by decide) (by decide) (show ¬ (_ ∨ _) by decide) d_X0_init_78 ?_
  refine aw_iinc (i := 1) (lv2 := [.ref 13, .int 14]) hX rfl (by decide) rfl rfl d_X0_init_79 ?_
  refine aw_goto (t := 54) hX (by decide) d_X0_init_82 ?_
  exact kk
def c_X0_init_13_15 (h : AH) : AH := (sR (c_X2_init_115 h) 29 (14 : Int32).toNatClampNeg (some 115))
theorem b_X0_init_13_15 {h : AH} {a : Nat} (ha : 121 ≤ a) (h0 : Blank h a) : Blank (c_X0_init_13_15 h) a := (bk_R (by omega) (b_X2_init_115 (by omega) h0))
theorem q_X0_init_13_15 {h : AH} {k : Nat} : gR (c_X0_init_13_15 h) 13 k = gR h 13 k := (show Fr (fun a _ => a ≠ 13) h (c_X0_init_13_15 h) by unfold c_X0_init_13_15 c_X2_init_115; repeat (first | exact Fr.refl _ _ | refine Fr.sR ?_ (by omega) | refine Fr.sI ?_ (by omega))).r (fun z => z rfl)
theorem t_X0_init_13_15 {g : GP} (hg : g.1.stackTraces = false) (hF : gF g = false) {X : MX} {h : AH} {Q : State → Prop} (hX : Cx g RX0 cX0_init 3 197 7142 none [] X) (hB : ∀ a, 115 ≤ a → Blank h a) (hq : gR h 13 3 = some 29) (kk : AW g X 121 true 107 3728 Q (c_X0_init_13_15 h) 54 [.ref 13, .int 15] []) : AW g X 115 true 101 3618 Q h 54 [.ref 13, .int 14] [] := by
  refine aw_iload_n hX (i := 1) rfl rfl d_X0_init_54 ?_
  refine aw_aload_n hX (i := 0) rfl rfl d_X0_init_55 ?_
  refine aw_getD hX hF (a := 13) (ci := 0) (k := 3) rfl (by decide) rfl rfl we_20 rfl d_X0_init_56 ?_
  rw [show gR h 13 3 = some 29 from hq]
  refine aw_alen hX (a := 29) (t := 4) (N := 30) rfl (by decide) (by decide) d_X0_init_59 ?_
  refine aw_icmp_ge (t := 85) hX (by decide) d_X0_init_60 (fun c => absurd c (by decide)) (fun c => ?_)
  refine aw_aload_n hX (i := 0) rfl rfl d_X0_init_63 ?_
  refine aw_getD hX hF (a := 13) (ci := 0) (k := 3) rfl (by decide) rfl rfl we_20 rfl d_X0_init_64 ?_
  rw [show gR h 13 3 = some 29 from hq]
  refine aw_iload_n hX (i := 1) rfl rfl d_X0_init_67 ?_
  refine aw_new hX hF (ci := 2) rfl (by decide) rfl (hB 115 (by decide)) we_11 we_12 we_13 (by decide) (by decide) d_X0_init_68 ?_
  refine aw_dup hX rfl d_X0_init_71 ?_
  refine aw_iload_n hX (i := 1) rfl rfl d_X0_init_72 ?_
  refine aw_iconst (v := 5) hX (by decide) d_X0_init_73 ?_
  refine aw_irem hX (by decide) d_X0_init_74 ?_
  rw [show ((14 : Int32) - 14 / 5 * 5) = 4 from by decide]
  refine aw_callI (b := 115) (av := [.int 4]) (avr := [.int 4]) (st := [.ref 115, .int 14, .ref 29]) hX (k_X2_init_115 hg hF (fun a ha => (hB a (by omega)))) mi_X2_init rfl rfl we_16 we_17 rfl (by decide) (by decide) (by decide) (by decide) d_X0_init_75 ?_
  refine aw_aastore hX (a := 29) (b := 115) rfl (by decide) rfl (by decide) (by decide) (show ¬ (_ ∨ _) by decide) d_X0_init_78 ?_
  refine aw_iinc (i := 1) (lv2 := [.ref 13, .int 15]) hX rfl (by decide) rfl rfl d_X0_init_79 ?_
  refine aw_goto (t := 54) hX (by decide) d_X0_init_82 ?_
  exact kk
def c_X0_init_13_16 (h : AH) : AH := (sR (c_X2_init_121 h) 29 (15 : Int32).toNatClampNeg (some 121))
theorem b_X0_init_13_16 {h : AH} {a : Nat} (ha : 127 ≤ a) (h0 : Blank h a) : Blank (c_X0_init_13_16 h) a := (bk_R (by omega) (b_X2_init_121 (by omega) h0))
theorem q_X0_init_13_16 {h : AH} {k : Nat} : gR (c_X0_init_13_16 h) 13 k = gR h 13 k := (show Fr (fun a _ => a ≠ 13) h (c_X0_init_13_16 h) by unfold c_X0_init_13_16 c_X2_init_121; repeat (first | exact Fr.refl _ _ | refine Fr.sR ?_ (by omega) | refine Fr.sI ?_ (by omega))).r (fun z => z rfl)
theorem t_X0_init_13_16 {g : GP} (hg : g.1.stackTraces = false) (hF : gF g = false) {X : MX} {h : AH} {Q : State → Prop} (hX : Cx g RX0 cX0_init 3 197 7142 none [] X) (hB : ∀ a, 121 ≤ a → Blank h a) (hq : gR h 13 3 = some 29) (kk : AW g X 127 true 113 3838 Q (c_X0_init_13_16 h) 54 [.ref 13, .int 16] []) : AW g X 121 true 107 3728 Q h 54 [.ref 13, .int 15] [] := by
  refine aw_iload_n hX (i := 1) rfl rfl d_X0_init_54 ?_
  refine aw_aload_n hX (i := 0) rfl rfl d_X0_init_55 ?_
  refine aw_getD hX hF (a := 13) (ci := 0) (k := 3) rfl (by decide) rfl rfl we_20 rfl d_X0_init_56 ?_
  rw [show gR h 13 3 = some 29 from hq]
  refine aw_alen hX (a := 29) (t := 4) (N := 30) rfl (by decide) (by decide) d_X0_init_59 ?_
  refine aw_icmp_ge (t := 85) hX (by decide) d_X0_init_60 (fun c => absurd c (by decide)) (fun c => ?_)
  refine aw_aload_n hX (i := 0) rfl rfl d_X0_init_63 ?_
  refine aw_getD hX hF (a := 13) (ci := 0) (k := 3) rfl (by decide) rfl rfl we_20 rfl d_X0_init_64 ?_
  rw [show gR h 13 3 = some 29 from hq]
  refine aw_iload_n hX (i := 1) rfl rfl d_X0_init_67 ?_
  refine aw_new hX hF (ci := 2) rfl (by decide) rfl (hB 121 (by decide)) we_11 we_12 we_13 (by decide) (by decide) d_X0_init_68 ?_
  refine aw_dup hX rfl d_X0_init_71 ?_
  refine aw_iload_n hX (i := 1) rfl rfl d_X0_init_72 ?_
  refine aw_iconst (v := 5) hX (by decide) d_X0_init_73 ?_
  refine aw_irem hX (by decide) d_X0_init_74 ?_
  rw [show ((15 : Int32) - 15 / 5 * 5) = 0 from by decide]
  refine aw_callI (b := 121) (av := [.int 0]) (avr := [.int 0]) (st := [.ref 121, .int 15, .ref 29]) hX (k_X2_init_121 hg hF (fun a ha => (hB a (by omega)))) mi_X2_init rfl rfl we_16 we_17 rfl (by decide) (by decide) (by decide) (by decide) d_X0_init_75 ?_
  refine aw_aastore hX (a := 29) (b := 121) rfl (by decide) rfl (by decide) (by decide) (show ¬ (_ ∨ _) by decide) d_X0_init_78 ?_
  refine aw_iinc (i := 1) (lv2 := [.ref 13, .int 16]) hX rfl (by decide) rfl rfl d_X0_init_79 ?_
  refine aw_goto (t := 54) hX (by decide) d_X0_init_82 ?_
  exact kk
def c_X0_init_13_17 (h : AH) : AH := (sR (c_X2_init_127 h) 29 (16 : Int32).toNatClampNeg (some 127))
theorem b_X0_init_13_17 {h : AH} {a : Nat} (ha : 133 ≤ a) (h0 : Blank h a) : Blank (c_X0_init_13_17 h) a := (bk_R (by omega) (b_X2_init_127 (by omega) h0))
theorem q_X0_init_13_17 {h : AH} {k : Nat} : gR (c_X0_init_13_17 h) 13 k = gR h 13 k := (show Fr (fun a _ => a ≠ 13) h (c_X0_init_13_17 h) by unfold c_X0_init_13_17 c_X2_init_127; repeat (first | exact Fr.refl _ _ | refine Fr.sR ?_ (by omega) | refine Fr.sI ?_ (by omega))).r (fun z => z rfl)
theorem t_X0_init_13_17 {g : GP} (hg : g.1.stackTraces = false) (hF : gF g = false) {X : MX} {h : AH} {Q : State → Prop} (hX : Cx g RX0 cX0_init 3 197 7142 none [] X) (hB : ∀ a, 127 ≤ a → Blank h a) (hq : gR h 13 3 = some 29) (kk : AW g X 133 true 119 3948 Q (c_X0_init_13_17 h) 54 [.ref 13, .int 17] []) : AW g X 127 true 113 3838 Q h 54 [.ref 13, .int 16] [] := by
  refine aw_iload_n hX (i := 1) rfl rfl d_X0_init_54 ?_
  refine aw_aload_n hX (i := 0) rfl rfl d_X0_init_55 ?_
  refine aw_getD hX hF (a := 13) (ci := 0) (k := 3) rfl (by decide) rfl rfl we_20 rfl d_X0_init_56 ?_
  rw [show gR h 13 3 = some 29 from hq]
  refine aw_alen hX (a := 29) (t := 4) (N := 30) rfl (by decide) (by decide) d_X0_init_59 ?_
  refine aw_icmp_ge (t := 85) hX (by decide) d_X0_init_60 (fun c => absurd c (by decide)) (fun c => ?_)
  refine aw_aload_n hX (i := 0) rfl rfl d_X0_init_63 ?_
  refine aw_getD hX hF (a := 13) (ci := 0) (k := 3) rfl (by decide) rfl rfl we_20 rfl d_X0_init_64 ?_
  rw [show gR h 13 3 = some 29 from hq]
  refine aw_iload_n hX (i := 1) rfl rfl d_X0_init_67 ?_
  refine aw_new hX hF (ci := 2) rfl (by decide) rfl (hB 127 (by decide)) we_11 we_12 we_13 (by decide) (by decide) d_X0_init_68 ?_
  refine aw_dup hX rfl d_X0_init_71 ?_
  refine aw_iload_n hX (i := 1) rfl rfl d_X0_init_72 ?_
  refine aw_iconst (v := 5) hX (by decide) d_X0_init_73 ?_
  refine aw_irem hX (by decide) d_X0_init_74 ?_
  rw [show ((16 : Int32) - 16 / 5 * 5) = 1 from by decide]
  refine aw_callI (b := 127) (av := [.int 1]) (avr := [.int 1]) (st := [.ref 127, .int 16, .ref 29]) hX (k_X2_init_127 hg hF (fun a ha => (hB a (by omega)))) mi_X2_init rfl rfl we_16 we_17 rfl (by decide) (by decide) (by decide) (by decide) d_X0_init_75 ?_
  refine aw_aastore hX (a := 29) (b := 127) rfl (by decide) rfl (by decide) (by decide) (show ¬ (_ ∨ _) by decide) d_X0_init_78 ?_
  refine aw_iinc (i := 1) (lv2 := [.ref 13, .int 17]) hX rfl (by decide) rfl rfl d_X0_init_79 ?_
  refine aw_goto (t := 54) hX (by decide) d_X0_init_82 ?_
  exact kk
def c_X0_init_13_18 (h : AH) : AH := (sR (c_X2_init_133 h) 29 (17 : Int32).toNatClampNeg (some 133))
theorem b_X0_init_13_18 {h : AH} {a : Nat} (ha : 139 ≤ a) (h0 : Blank h a) : Blank (c_X0_init_13_18 h) a := (bk_R (by omega) (b_X2_init_133 (by omega) h0))
theorem q_X0_init_13_18 {h : AH} {k : Nat} : gR (c_X0_init_13_18 h) 13 k = gR h 13 k := (show Fr (fun a _ => a ≠ 13) h (c_X0_init_13_18 h) by unfold c_X0_init_13_18 c_X2_init_133; repeat (first | exact Fr.refl _ _ | refine Fr.sR ?_ (by omega) | refine Fr.sI ?_ (by omega))).r (fun z => z rfl)
theorem t_X0_init_13_18 {g : GP} (hg : g.1.stackTraces = false) (hF : gF g = false) {X : MX} {h : AH} {Q : State → Prop} (hX : Cx g RX0 cX0_init 3 197 7142 none [] X) (hB : ∀ a, 133 ≤ a → Blank h a) (hq : gR h 13 3 = some 29) (kk : AW g X 139 true 125 4646 Q (c_X0_init_13_18 h) 54 [.ref 13, .int 18] []) : AW g X 133 true 119 3948 Q h 54 [.ref 13, .int 17] [] := by
  refine aw_iload_n hX (i := 1) rfl rfl d_X0_init_54 ?_
  refine aw_aload_n hX (i := 0) rfl rfl d_X0_init_55 ?_
  refine aw_getD hX hF (a := 13) (ci := 0) (k := 3) rfl (by decide) rfl rfl we_20 rfl d_X0_init_56 ?_
  rw [show gR h 13 3 = some 29 from hq]
  refine aw_alen hX (a := 29) (t := 4) (N := 30) rfl (by decide) (by decide) d_X0_init_59 ?_
  refine aw_icmp_ge (t := 85) hX (by decide) d_X0_init_60 (fun c => absurd c (by decide)) (fun c => ?_)
  refine aw_aload_n hX (i := 0) rfl rfl d_X0_init_63 ?_
  refine aw_getD hX hF (a := 13) (ci := 0) (k := 3) rfl (by decide) rfl rfl we_20 rfl d_X0_init_64 ?_
  rw [show gR h 13 3 = some 29 from hq]
  refine aw_iload_n hX (i := 1) rfl rfl d_X0_init_67 ?_
  refine aw_new hX hF (ci := 2) rfl (by decide) rfl (hB 133 (by decide)) we_11 we_12 we_13 (by decide) (by decide) d_X0_init_68 ?_
  refine aw_dup hX rfl d_X0_init_71 ?_
  refine aw_iload_n hX (i := 1) rfl rfl d_X0_init_72 ?_
  refine aw_iconst (v := 5) hX (by decide) d_X0_init_73 ?_
  refine aw_irem hX (by decide) d_X0_init_74 ?_
  rw [show ((17 : Int32) - 17 / 5 * 5) = 2 from by decide]
  refine aw_callI (b := 133) (av := [.int 2]) (avr := [.int 2]) (st := [.ref 133, .int 17, .ref 29]) hX (k_X2_init_133 hg hF (fun a ha => (hB a (by omega)))) mi_X2_init rfl rfl we_16 we_17 rfl (by decide) (by decide) (by decide) (by decide) d_X0_init_75 ?_
  refine aw_aastore hX (a := 29) (b := 133) rfl (by decide) rfl (by decide) (by decide) (show ¬ (_ ∨ _) by decide) d_X0_init_78 ?_
  refine aw_iinc (i := 1) (lv2 := [.ref 13, .int 18]) hX rfl (by decide) rfl rfl d_X0_init_79 ?_
  refine aw_goto (t := 54) hX (by decide) d_X0_init_82 ?_
  exact kk
def c_X0_init_13_19 (h : AH) : AH := (sR (c_X2_init_139 h) 29 (18 : Int32).toNatClampNeg (some 139))
theorem b_X0_init_13_19 {h : AH} {a : Nat} (ha : 145 ≤ a) (h0 : Blank h a) : Blank (c_X0_init_13_19 h) a := (bk_R (by omega) (b_X2_init_139 (by omega) h0))
theorem q_X0_init_13_19 {h : AH} {k : Nat} : gR (c_X0_init_13_19 h) 13 k = gR h 13 k := (show Fr (fun a _ => a ≠ 13) h (c_X0_init_13_19 h) by unfold c_X0_init_13_19 c_X2_init_139; repeat (first | exact Fr.refl _ _ | refine Fr.sR ?_ (by omega) | refine Fr.sI ?_ (by omega))).r (fun z => z rfl)
theorem t_X0_init_13_19 {g : GP} (hg : g.1.stackTraces = false) (hF : gF g = false) {X : MX} {h : AH} {Q : State → Prop} (hX : Cx g RX0 cX0_init 3 197 7142 none [] X) (hB : ∀ a, 139 ≤ a → Blank h a) (hq : gR h 13 3 = some 29) (kk : AW g X 145 true 131 4756 Q (c_X0_init_13_19 h) 54 [.ref 13, .int 19] []) : AW g X 139 true 125 4646 Q h 54 [.ref 13, .int 18] [] := by
  refine aw_iload_n hX (i := 1) rfl rfl d_X0_init_54 ?_
  refine aw_aload_n hX (i := 0) rfl rfl d_X0_init_55 ?_
  refine aw_getD hX hF (a := 13) (ci := 0) (k := 3) rfl (by decide) rfl rfl we_20 rfl d_X0_init_56 ?_
  rw [show gR h 13 3 = some 29 from hq]
  refine aw_alen hX (a := 29) (t := 4) (N := 30) rfl (by decide) (by decide) d_X0_init_59 ?_
  refine aw_icmp_ge (t := 85) hX (by decide) d_X0_init_60 (fun c => absurd c (by decide)) (fun c => ?_)
  refine aw_aload_n hX (i := 0) rfl rfl d_X0_init_63 ?_
  refine aw_getD hX hF (a := 13) (ci := 0) (k := 3) rfl (by decide) rfl rfl we_20 rfl d_X0_init_64 ?_
  rw [show gR h 13 3 = some 29 from hq]
  refine aw_iload_n hX (i := 1) rfl rfl d_X0_init_67 ?_
  refine aw_new hX hF (ci := 2) rfl (by decide) rfl (hB 139 (by decide)) we_11 we_12 we_13 (by decide) (by decide) d_X0_init_68 ?_
  refine aw_dup hX rfl d_X0_init_71 ?_
  refine aw_iload_n hX (i := 1) rfl rfl d_X0_init_72 ?_
  refine aw_iconst (v := 5) hX (by decide) d_X0_init_73 ?_
  refine aw_irem hX (by decide) d_X0_init_74 ?_
  rw [show ((18 : Int32) - 18 / 5 * 5) = 3 from by decide]
  refine aw_callI (b := 139) (av := [.int 3]) (avr := [.int 3]) (st := [.ref 139, .int 18, .ref 29]) hX (k_X2_init_139 hg hF (fun a ha => (hB a (by omega)))) mi_X2_init rfl rfl we_16 we_17 rfl (by decide) (by decide) (by decide) (by decide) d_X0_init_75 ?_
  refine aw_aastore hX (a := 29) (b := 139) rfl (by decide) rfl (by decide) (by decide) (show ¬ (_ ∨ _) by decide) d_X0_init_78 ?_
  refine aw_iinc (i := 1) (lv2 := [.ref 13, .int 19]) hX rfl (by decide) rfl rfl d_X0_init_79 ?_
  refine aw_goto (t := 54) hX (by decide) d_X0_init_82 ?_
  exact kk
def c_X0_init_13_20 (h : AH) : AH := (sR (c_X2_init_145 h) 29 (19 : Int32).toNatClampNeg (some 145))
theorem b_X0_init_13_20 {h : AH} {a : Nat} (ha : 151 ≤ a) (h0 : Blank h a) : Blank (c_X0_init_13_20 h) a := (bk_R (by omega) (b_X2_init_145 (by omega) h0))
theorem q_X0_init_13_20 {h : AH} {k : Nat} : gR (c_X0_init_13_20 h) 13 k = gR h 13 k := (show Fr (fun a _ => a ≠ 13) h (c_X0_init_13_20 h) by unfold c_X0_init_13_20 c_X2_init_145; repeat (first | exact Fr.refl _ _ | refine Fr.sR ?_ (by omega) | refine Fr.sI ?_ (by omega))).r (fun z => z rfl)
theorem t_X0_init_13_20 {g : GP} (hg : g.1.stackTraces = false) (hF : gF g = false) {X : MX} {h : AH} {Q : State → Prop} (hX : Cx g RX0 cX0_init 3 197 7142 none [] X) (hB : ∀ a, 145 ≤ a → Blank h a) (hq : gR h 13 3 = some 29) (kk : AW g X 151 true 137 4866 Q (c_X0_init_13_20 h) 54 [.ref 13, .int 20] []) : AW g X 145 true 131 4756 Q h 54 [.ref 13, .int 19] [] := by
  refine aw_iload_n hX (i := 1) rfl rfl d_X0_init_54 ?_
  refine aw_aload_n hX (i := 0) rfl rfl d_X0_init_55 ?_
  refine aw_getD hX hF (a := 13) (ci := 0) (k := 3) rfl (by decide) rfl rfl we_20 rfl d_X0_init_56 ?_
  rw [show gR h 13 3 = some 29 from hq]
  refine aw_alen hX (a := 29) (t := 4) (N := 30) rfl (by decide) (by decide) d_X0_init_59 ?_
  refine aw_icmp_ge (t := 85) hX (by decide) d_X0_init_60 (fun c => absurd c (by decide)) (fun c => ?_)
  refine aw_aload_n hX (i := 0) rfl rfl d_X0_init_63 ?_
  refine aw_getD hX hF (a := 13) (ci := 0) (k := 3) rfl (by decide) rfl rfl we_20 rfl d_X0_init_64 ?_
  rw [show gR h 13 3 = some 29 from hq]
  refine aw_iload_n hX (i := 1) rfl rfl d_X0_init_67 ?_
  refine aw_new hX hF (ci := 2) rfl (by decide) rfl (hB 145 (by decide)) we_11 we_12 we_13 (by decide) (by decide) d_X0_init_68 ?_
  refine aw_dup hX rfl d_X0_init_71 ?_
  refine aw_iload_n hX (i := 1) rfl rfl d_X0_init_72 ?_
  refine aw_iconst (v := 5) hX (by decide) d_X0_init_73 ?_
  refine aw_irem hX (by decide) d_X0_init_74 ?_
  rw [show ((19 : Int32) - 19 / 5 * 5) = 4 from by decide]
  refine aw_callI (b := 145) (av := [.int 4]) (avr := [.int 4]) (st := [.ref 145, .int 19, .ref 29]) hX (k_X2_init_145 hg hF (fun a ha => (hB a (by omega)))) mi_X2_init rfl rfl we_16 we_17 rfl (by decide) (by decide) (by decide) (by decide) d_X0_init_75 ?_
  refine aw_aastore hX (a := 29) (b := 145) rfl (by decide) rfl (by decide) (by decide) (show ¬ (_ ∨ _) by decide) d_X0_init_78 ?_
  refine aw_iinc (i := 1) (lv2 := [.ref 13, .int 20]) hX rfl (by decide) rfl rfl d_X0_init_79 ?_
  refine aw_goto (t := 54) hX (by decide) d_X0_init_82 ?_
  exact kk
def c_X0_init_13_21 (h : AH) : AH := (sR (c_X2_init_151 h) 29 (20 : Int32).toNatClampNeg (some 151))
theorem b_X0_init_13_21 {h : AH} {a : Nat} (ha : 157 ≤ a) (h0 : Blank h a) : Blank (c_X0_init_13_21 h) a := (bk_R (by omega) (b_X2_init_151 (by omega) h0))
theorem q_X0_init_13_21 {h : AH} {k : Nat} : gR (c_X0_init_13_21 h) 13 k = gR h 13 k := (show Fr (fun a _ => a ≠ 13) h (c_X0_init_13_21 h) by unfold c_X0_init_13_21 c_X2_init_151; repeat (first | exact Fr.refl _ _ | refine Fr.sR ?_ (by omega) | refine Fr.sI ?_ (by omega))).r (fun z => z rfl)
theorem t_X0_init_13_21 {g : GP} (hg : g.1.stackTraces = false) (hF : gF g = false) {X : MX} {h : AH} {Q : State → Prop} (hX : Cx g RX0 cX0_init 3 197 7142 none [] X) (hB : ∀ a, 151 ≤ a → Blank h a) (hq : gR h 13 3 = some 29) (kk : AW g X 157 true 143 4976 Q (c_X0_init_13_21 h) 54 [.ref 13, .int 21] []) : AW g X 151 true 137 4866 Q h 54 [.ref 13, .int 20] [] := by
  refine aw_iload_n hX (i := 1) rfl rfl d_X0_init_54 ?_
  refine aw_aload_n hX (i := 0) rfl rfl d_X0_init_55 ?_
  refine aw_getD hX hF (a := 13) (ci := 0) (k := 3) rfl (by decide) rfl rfl we_20 rfl d_X0_init_56 ?_
  rw [show gR h 13 3 = some 29 from hq]
  refine aw_alen hX (a := 29) (t := 4) (N := 30) rfl (by decide) (by decide) d_X0_init_59 ?_
  refine aw_icmp_ge (t := 85) hX (by decide) d_X0_init_60 (fun c => absurd c (by decide)) (fun c => ?_)
  refine aw_aload_n hX (i := 0) rfl rfl d_X0_init_63 ?_
  refine aw_getD hX hF (a := 13) (ci := 0) (k := 3) rfl (by decide) rfl rfl we_20 rfl d_X0_init_64 ?_
  rw [show gR h 13 3 = some 29 from hq]
  refine aw_iload_n hX (i := 1) rfl rfl d_X0_init_67 ?_
  refine aw_new hX hF (ci := 2) rfl (by decide) rfl (hB 151 (by decide)) we_11 we_12 we_13 (by decide) (by decide) d_X0_init_68 ?_
  refine aw_dup hX rfl d_X0_init_71 ?_
  refine aw_iload_n hX (i := 1) rfl rfl d_X0_init_72 ?_
  refine aw_iconst (v := 5) hX (by decide) d_X0_init_73 ?_
  refine aw_irem hX (by decide) d_X0_init_74 ?_
  rw [show ((20 : Int32) - 20 / 5 * 5) = 0 from by decide]
  refine aw_callI (b := 151) (av := [.int 0]) (avr := [.int 0]) (st := [.ref 151, .int 20, .ref 29]) hX (k_X2_init_151 hg hF (fun a ha => (hB a (by omega)))) mi_X2_init rfl rfl we_16 we_17 rfl (by decide) (by decide) (by decide) (by decide) d_X0_init_75 ?_
  refine aw_aastore hX (a := 29) (b := 151) rfl (by decide) rfl (by decide) (by decide) (show ¬ (_ ∨ _) by decide) d_X0_init_78 ?_
  refine aw_iinc (i := 1) (lv2 := [.ref 13, .int 21]) hX rfl (by decide) rfl rfl d_X0_init_79 ?_
  refine aw_goto (t := 54) hX (by decide) d_X0_init_82 ?_
  exact kk
def c_X0_init_13_22 (h : AH) : AH := (sR (c_X2_init_157 h) 29 (21 : Int32).toNatClampNeg (some 157))
theorem b_X0_init_13_22 {h : AH} {a : Nat} (ha : 163 ≤ a) (h0 : Blank h a) : Blank (c_X0_init_13_22 h) a := (bk_R (by omega) (b_X2_init_157 (by omega) h0))
theorem q_X0_init_13_22 {h : AH} {k : Nat} : gR (c_X0_init_13_22 h) 13 k = gR h 13 k := (show Fr (fun a _ => a ≠ 13) h (c_X0_init_13_22 h) by unfold c_X0_init_13_22 c_X2_init_157; repeat (first | exact Fr.refl _ _ | refine Fr.sR ?_ (by omega) | refine Fr.sI ?_ (by omega))).r (fun z => z rfl)
theorem t_X0_init_13_22 {g : GP} (hg : g.1.stackTraces = false) (hF : gF g = false) {X : MX} {h : AH} {Q : State → Prop} (hX : Cx g RX0 cX0_init 3 197 7142 none [] X) (hB : ∀ a, 157 ≤ a → Blank h a) (hq : gR h 13 3 = some 29) (kk : AW g X 163 true 149 5086 Q (c_X0_init_13_22 h) 54 [.ref 13, .int 22] []) : AW g X 157 true 143 4976 Q h 54 [.ref 13, .int 21] [] := by
  refine aw_iload_n hX (i := 1) rfl rfl d_X0_init_54 ?_
  refine aw_aload_n hX (i := 0) rfl rfl d_X0_init_55 ?_
  refine aw_getD hX hF (a := 13) (ci := 0) (k := 3) rfl (by decide) rfl rfl we_20 rfl d_X0_init_56 ?_
  rw [show gR h 13 3 = some 29 from hq]
  refine aw_alen hX (a := 29) (t := 4) (N := 30) rfl (by decide) (by decide) d_X0_init_59 ?_
  refine aw_icmp_ge (t := 85) hX (by decide) d_X0_init_60 (fun c => absurd c (by decide)) (fun c => ?_)
  refine aw_aload_n hX (i := 0) rfl rfl d_X0_init_63 ?_
  refine aw_getD hX hF (a := 13) (ci := 0) (k := 3) rfl (by decide) rfl rfl we_20 rfl d_X0_init_64 ?_
  rw [show gR h 13 3 = some 29 from hq]
  refine aw_iload_n hX (i := 1) rfl rfl d_X0_init_67 ?_
  refine aw_new hX hF (ci := 2) rfl (by decide) rfl (hB 157 (by decide)) we_11 we_12 we_13 (by decide) (by decide) d_X0_init_68 ?_
  refine aw_dup hX rfl d_X0_init_71 ?_
  refine aw_iload_n hX (i := 1) rfl rfl d_X0_init_72 ?_
  refine aw_iconst (v := 5) hX (by decide) d_X0_init_73 ?_
  refine aw_irem hX (by decide) d_X0_init_74 ?_
  rw [show ((21 : Int32) - 21 / 5 * 5) = 1 from by decide]
  refine aw_callI (b := 157) (av := [.int 1]) (avr := [.int 1]) (st := [.ref 157, .int 21, .ref 29]) hX (k_X2_init_157 hg hF (fun a ha => (hB a (by omega)))) mi_X2_init rfl rfl we_16 we_17 rfl (by decide) (by decide) (by decide) (by decide) d_X0_init_75 ?_
  refine aw_aastore hX (a := 29) (b := 157) rfl (by decide) rfl (by decide) (by decide) (show ¬ (_ ∨ _) by decide) d_X0_init_78 ?_
  refine aw_iinc (i := 1) (lv2 := [.ref 13, .int 22]) hX rfl (by decide) rfl rfl d_X0_init_79 ?_
  refine aw_goto (t := 54) hX (by decide) d_X0_init_82 ?_
  exact kk
def c_X0_init_13_23 (h : AH) : AH := (sR (c_X2_init_163 h) 29 (22 : Int32).toNatClampNeg (some 163))
theorem b_X0_init_13_23 {h : AH} {a : Nat} (ha : 169 ≤ a) (h0 : Blank h a) : Blank (c_X0_init_13_23 h) a := (bk_R (by omega) (b_X2_init_163 (by omega) h0))
theorem q_X0_init_13_23 {h : AH} {k : Nat} : gR (c_X0_init_13_23 h) 13 k = gR h 13 k := (show Fr (fun a _ => a ≠ 13) h (c_X0_init_13_23 h) by unfold c_X0_init_13_23 c_X2_init_163; repeat (first | exact Fr.refl _ _ | refine Fr.sR ?_ (by omega) | refine Fr.sI ?_ (by omega))).r (fun z => z rfl)
theorem t_X0_init_13_23 {g : GP} (hg : g.1.stackTraces = false) (hF : gF g = false) {X : MX} {h : AH} {Q : State → Prop} (hX : Cx g RX0 cX0_init 3 197 7142 none [] X) (hB : ∀ a, 163 ≤ a → Blank h a) (hq : gR h 13 3 = some 29) (kk : AW g X 169 true 155 5784 Q (c_X0_init_13_23 h) 54 [.ref 13, .int 23] []) : AW g X 163 true 149 5086 Q h 54 [.ref 13, .int 22] [] := by
  refine aw_iload_n hX (i := 1) rfl rfl d_X0_init_54 ?_
  refine aw_aload_n hX (i := 0) rfl rfl d_X0_init_55 ?_
  refine aw_getD hX hF (a := 13) (ci := 0) (k := 3) rfl (by decide) rfl rfl we_20 rfl d_X0_init_56 ?_
  rw [show gR h 13 3 = some 29 from hq]
  refine aw_alen hX (a := 29) (t := 4) (N := 30) rfl (by decide) (by decide) d_X0_init_59 ?_
  refine aw_icmp_ge (t := 85) hX (by decide) d_X0_init_60 (fun c => absurd c (by decide)) (fun c => ?_)
  refine aw_aload_n hX (i := 0) rfl rfl d_X0_init_63 ?_
  refine aw_getD hX hF (a := 13) (ci := 0) (k := 3) rfl (by decide) rfl rfl we_20 rfl d_X0_init_64 ?_
  rw [show gR h 13 3 = some 29 from hq]
  refine aw_iload_n hX (i := 1) rfl rfl d_X0_init_67 ?_
  refine aw_new hX hF (ci := 2) rfl (by decide) rfl (hB 163 (by decide)) we_11 we_12 we_13 (by decide) (by decide) d_X0_init_68 ?_
  refine aw_dup hX rfl d_X0_init_71 ?_
  refine aw_iload_n hX (i := 1) rfl rfl d_X0_init_72 ?_
  refine aw_iconst (v := 5) hX (by decide) d_X0_init_73 ?_
  refine aw_irem hX (by decide) d_X0_init_74 ?_
  rw [show ((22 : Int32) - 22 / 5 * 5) = 2 from by decide]
  refine aw_callI (b := 163) (av := [.int 2]) (avr := [.int 2]) (st := [.ref 163, .int 22, .ref 29]) hX (k_X2_init_163 hg hF (fun a ha => (hB a (by omega)))) mi_X2_init rfl rfl we_16 we_17 rfl (by decide) (by decide) (by decide) (by decide) d_X0_init_75 ?_
  refine aw_aastore hX (a := 29) (b := 163) rfl (by decide) rfl (by decide) (by decide) (show ¬ (_ ∨ _) by decide) d_X0_init_78 ?_
  refine aw_iinc (i := 1) (lv2 := [.ref 13, .int 23]) hX rfl (by decide) rfl rfl d_X0_init_79 ?_
  refine aw_goto (t := 54) hX (by decide) d_X0_init_82 ?_
  exact kk
def c_X0_init_13_24 (h : AH) : AH := (sR (c_X2_init_169 h) 29 (23 : Int32).toNatClampNeg (some 169))
theorem b_X0_init_13_24 {h : AH} {a : Nat} (ha : 175 ≤ a) (h0 : Blank h a) : Blank (c_X0_init_13_24 h) a := (bk_R (by omega) (b_X2_init_169 (by omega) h0))
theorem q_X0_init_13_24 {h : AH} {k : Nat} : gR (c_X0_init_13_24 h) 13 k = gR h 13 k := (show Fr (fun a _ => a ≠ 13) h (c_X0_init_13_24 h) by unfold c_X0_init_13_24 c_X2_init_169; repeat (first | exact Fr.refl _ _ | refine Fr.sR ?_ (by omega) | refine Fr.sI ?_ (by omega))).r (fun z => z rfl)
theorem t_X0_init_13_24 {g : GP} (hg : g.1.stackTraces = false) (hF : gF g = false) {X : MX} {h : AH} {Q : State → Prop} (hX : Cx g RX0 cX0_init 3 197 7142 none [] X) (hB : ∀ a, 169 ≤ a → Blank h a) (hq : gR h 13 3 = some 29) (kk : AW g X 175 true 161 5894 Q (c_X0_init_13_24 h) 54 [.ref 13, .int 24] []) : AW g X 169 true 155 5784 Q h 54 [.ref 13, .int 23] [] := by
  refine aw_iload_n hX (i := 1) rfl rfl d_X0_init_54 ?_
  refine aw_aload_n hX (i := 0) rfl rfl d_X0_init_55 ?_
  refine aw_getD hX hF (a := 13) (ci := 0) (k := 3) rfl (by decide) rfl rfl we_20 rfl d_X0_init_56 ?_
  rw [show gR h 13 3 = some 29 from hq]
  refine aw_alen hX (a := 29) (t := 4) (N := 30) rfl (by decide) (by decide) d_X0_init_59 ?_
  refine aw_icmp_ge (t := 85) hX (by decide) d_X0_init_60 (fun c => absurd c (by decide)) (fun c => ?_)
  refine aw_aload_n hX (i := 0) rfl rfl d_X0_init_63 ?_
  refine aw_getD hX hF (a := 13) (ci := 0) (k := 3) rfl (by decide) rfl rfl we_20 rfl d_X0_init_64 ?_
  rw [show gR h 13 3 = some 29 from hq]
  refine aw_iload_n hX (i := 1) rfl rfl d_X0_init_67 ?_
  refine aw_new hX hF (ci := 2) rfl (by decide) rfl (hB 169 (by decide)) we_11 we_12 we_13 (by decide) (by decide) d_X0_init_68 ?_
  refine aw_dup hX rfl d_X0_init_71 ?_
  refine aw_iload_n hX (i := 1) rfl rfl d_X0_init_72 ?_
  refine aw_iconst (v := 5) hX (by decide) d_X0_init_73 ?_
  refine aw_irem hX (by decide) d_X0_init_74 ?_
  rw [show ((23 : Int32) - 23 / 5 * 5) = 3 from by decide]
  refine aw_callI (b := 169) (av := [.int 3]) (avr := [.int 3]) (st := [.ref 169, .int 23, .ref 29]) hX (k_X2_init_169 hg hF (fun a ha => (hB a (by omega)))) mi_X2_init rfl rfl we_16 we_17 rfl (by decide) (by decide) (by decide) (by decide) d_X0_init_75 ?_
  refine aw_aastore hX (a := 29) (b := 169) rfl (by decide) rfl (by decide) (by decide) (show ¬ (_ ∨ _) by decide) d_X0_init_78 ?_
  refine aw_iinc (i := 1) (lv2 := [.ref 13, .int 24]) hX rfl (by decide) rfl rfl d_X0_init_79 ?_
  refine aw_goto (t := 54) hX (by decide) d_X0_init_82 ?_
  exact kk
def c_X0_init_13_25 (h : AH) : AH := (sR (c_X2_init_175 h) 29 (24 : Int32).toNatClampNeg (some 175))
theorem b_X0_init_13_25 {h : AH} {a : Nat} (ha : 181 ≤ a) (h0 : Blank h a) : Blank (c_X0_init_13_25 h) a := (bk_R (by omega) (b_X2_init_175 (by omega) h0))
theorem q_X0_init_13_25 {h : AH} {k : Nat} : gR (c_X0_init_13_25 h) 13 k = gR h 13 k := (show Fr (fun a _ => a ≠ 13) h (c_X0_init_13_25 h) by unfold c_X0_init_13_25 c_X2_init_175; repeat (first | exact Fr.refl _ _ | refine Fr.sR ?_ (by omega) | refine Fr.sI ?_ (by omega))).r (fun z => z rfl)
theorem t_X0_init_13_25 {g : GP} (hg : g.1.stackTraces = false) (hF : gF g = false) {X : MX} {h : AH} {Q : State → Prop} (hX : Cx g RX0 cX0_init 3 197 7142 none [] X) (hB : ∀ a, 175 ≤ a → Blank h a) (hq : gR h 13 3 = some 29) (kk : AW g X 181 true 167 6004 Q (c_X0_init_13_25 h) 54 [.ref 13, .int 25] []) : AW g X 175 true 161 5894 Q h 54 [.ref 13, .int 24] [] := by
  refine aw_iload_n hX (i := 1) rfl rfl d_X0_init_54 ?_
  refine aw_aload_n hX (i := 0) rfl rfl d_X0_init_55 ?_
  refine aw_getD hX hF (a := 13) (ci := 0) (k := 3) rfl (by decide) rfl rfl we_20 rfl d_X0_init_56 ?_
  rw [show gR h 13 3 = some 29 from hq]
  refine aw_alen hX (a := 29) (t := 4) (N := 30) rfl (by decide) (by decide) d_X0_init_59 ?_
  refine aw_icmp_ge (t := 85) hX (by decide) d_X0_init_60 (fun c => absurd c (by decide)) (fun c => ?_)
  refine aw_aload_n hX (i := 0) rfl rfl d_X0_init_63 ?_
  refine aw_getD hX hF (a := 13) (ci := 0) (k := 3) rfl (by decide) rfl rfl we_20 rfl d_X0_init_64 ?_
  rw [show gR h 13 3 = some 29 from hq]
  refine aw_iload_n hX (i := 1) rfl rfl d_X0_init_67 ?_
  refine aw_new hX hF (ci := 2) rfl (by decide) rfl (hB 175 (by decide)) we_11 we_12 we_13 (by decide) (by decide) d_X0_init_68 ?_
  refine aw_dup hX rfl d_X0_init_71 ?_
  refine aw_iload_n hX (i := 1) rfl rfl d_X0_init_72 ?_
  refine aw_iconst (v := 5) hX (by decide) d_X0_init_73 ?_
  refine aw_irem hX (by decide) d_X0_init_74 ?_
  rw [show ((24 : Int32) - 24 / 5 * 5) = 4 from by decide]
  refine aw_callI (b := 175) (av := [.int 4]) (avr := [.int 4]) (st := [.ref 175, .int 24, .ref 29]) hX (k_X2_init_175 hg hF (fun a ha => (hB a (by omega)))) mi_X2_init rfl rfl we_16 we_17 rfl (by decide) (by decide) (by decide) (by decide) d_X0_init_75 ?_
  refine aw_aastore hX (a := 29) (b := 175) rfl (by decide) rfl (by decide) (by decide) (show ¬ (_ ∨ _) by decide) d_X0_init_78 ?_
  refine aw_iinc (i := 1) (lv2 := [.ref 13, .int 25]) hX rfl (by decide) rfl rfl d_X0_init_79 ?_
  refine aw_goto (t := 54) hX (by decide) d_X0_init_82 ?_
  exact kk
def c_X0_init_13_26 (h : AH) : AH := (sR (c_X2_init_181 h) 29 (25 : Int32).toNatClampNeg (some 181))
theorem b_X0_init_13_26 {h : AH} {a : Nat} (ha : 187 ≤ a) (h0 : Blank h a) : Blank (c_X0_init_13_26 h) a := (bk_R (by omega) (b_X2_init_181 (by omega) h0))
theorem q_X0_init_13_26 {h : AH} {k : Nat} : gR (c_X0_init_13_26 h) 13 k = gR h 13 k := (show Fr (fun a _ => a ≠ 13) h (c_X0_init_13_26 h) by unfold c_X0_init_13_26 c_X2_init_181; repeat (first | exact Fr.refl _ _ | refine Fr.sR ?_ (by omega) | refine Fr.sI ?_ (by omega))).r (fun z => z rfl)
theorem t_X0_init_13_26 {g : GP} (hg : g.1.stackTraces = false) (hF : gF g = false) {X : MX} {h : AH} {Q : State → Prop} (hX : Cx g RX0 cX0_init 3 197 7142 none [] X) (hB : ∀ a, 181 ≤ a → Blank h a) (hq : gR h 13 3 = some 29) (kk : AW g X 187 true 173 6114 Q (c_X0_init_13_26 h) 54 [.ref 13, .int 26] []) : AW g X 181 true 167 6004 Q h 54 [.ref 13, .int 25] [] := by
  refine aw_iload_n hX (i := 1) rfl rfl d_X0_init_54 ?_
  refine aw_aload_n hX (i := 0) rfl rfl d_X0_init_55 ?_
  refine aw_getD hX hF (a := 13) (ci := 0) (k := 3) rfl (by decide) rfl rfl we_20 rfl d_X0_init_56 ?_
  rw [show gR h 13 3 = some 29 from hq]
  refine aw_alen hX (a := 29) (t := 4) (N := 30) rfl (by decide) (by decide) d_X0_init_59 ?_
  refine aw_icmp_ge (t := 85) hX (by decide) d_X0_init_60 (fun c => absurd c (by decide)) (fun c => ?_)
  refine aw_aload_n hX (i := 0) rfl rfl d_X0_init_63 ?_
  refine aw_getD hX hF (a := 13) (ci := 0) (k := 3) rfl (by decide) rfl rfl we_20 rfl d_X0_init_64 ?_
  rw [show gR h 13 3 = some 29 from hq]
  refine aw_iload_n hX (i := 1) rfl rfl d_X0_init_67 ?_
  refine aw_new hX hF (ci := 2) rfl (by decide) rfl (hB 181 (by decide)) we_11 we_12 we_13 (by decide) (by decide) d_X0_init_68 ?_
  refine aw_dup hX rfl d_X0_init_71 ?_
  refine aw_iload_n hX (i := 1) rfl rfl d_X0_init_72 ?_
  refine aw_iconst (v := 5) hX (by decide) d_X0_init_73 ?_
  refine aw_irem hX (by decide) d_X0_init_74 ?_
  rw [show ((25 : Int32) - 25 / 5 * 5) = 0 from by decide]
  refine aw_callI (b := 181) (av := [.int 0]) (avr := [.int 0]) (st := [.ref 181, .int 25, .ref 29]) hX (k_X2_init_181 hg hF (fun a ha => (hB a (by omega)))) mi_X2_init rfl rfl we_16 we_17 rfl (by decide) (by decide) (by decide) (by decide) d_X0_init_75 ?_
  refine aw_aastore hX (a := 29) (b := 181) rfl (by decide) rfl (by decide) (by decide) (show ¬ (_ ∨ _) by decide) d_X0_init_78 ?_
  refine aw_iinc (i := 1) (lv2 := [.ref 13, .int 26]) hX rfl (by decide) rfl rfl d_X0_init_79 ?_
  refine aw_goto (t := 54) hX (by decide) d_X0_init_82 ?_
  exact kk
def c_X0_init_13_27 (h : AH) : AH := (sR (c_X2_init_187 h) 29 (26 : Int32).toNatClampNeg (some 187))
theorem b_X0_init_13_27 {h : AH} {a : Nat} (ha : 193 ≤ a) (h0 : Blank h a) : Blank (c_X0_init_13_27 h) a := (bk_R (by omega) (b_X2_init_187 (by omega) h0))
theorem q_X0_init_13_27 {h : AH} {k : Nat} : gR (c_X0_init_13_27 h) 13 k = gR h 13 k := (show Fr (fun a _ => a ≠ 13) h (c_X0_init_13_27 h) by unfold c_X0_init_13_27 c_X2_init_187; repeat (first | exact Fr.refl _ _ | refine Fr.sR ?_ (by omega) | refine Fr.sI ?_ (by omega))).r (fun z => z rfl)
theorem t_X0_init_13_27 {g : GP} (hg : g.1.stackTraces = false) (hF : gF g = false) {X : MX} {h : AH} {Q : State → Prop} (hX : Cx g RX0 cX0_init 3 197 7142 none [] X) (hB : ∀ a, 187 ≤ a → Blank h a) (hq : gR h 13 3 = some 29) (kk : AW g X 193 true 179 6224 Q (c_X0_init_13_27 h) 54 [.ref 13, .int 27] []) : AW g X 187 true 173 6114 Q h 54 [.ref 13, .int 26] [] := by
  refine aw_iload_n hX (i := 1) rfl rfl d_X0_init_54 ?_
  refine aw_aload_n hX (i := 0) rfl rfl d_X0_init_55 ?_
  refine aw_getD hX hF (a := 13) (ci := 0) (k := 3) rfl (by decide) rfl rfl we_20 rfl d_X0_init_56 ?_
  rw [show gR h 13 3 = some 29 from hq]
  refine aw_alen hX (a := 29) (t := 4) (N := 30) rfl (by decide) (by decide) d_X0_init_59 ?_
  refine aw_icmp_ge (t := 85) hX (by decide) d_X0_init_60 (fun c => absurd c (by decide)) (fun c => ?_)
  refine aw_aload_n hX (i := 0) rfl rfl d_X0_init_63 ?_
  refine aw_getD hX hF (a := 13) (ci := 0) (k := 3) rfl (by decide) rfl rfl we_20 rfl d_X0_init_64 ?_
  rw [show gR h 13 3 = some 29 from hq]
  refine aw_iload_n hX (i := 1) rfl rfl d_X0_init_67 ?_
  refine aw_new hX hF (ci := 2) rfl (by decide) rfl (hB 187 (by decide)) we_11 we_12 we_13 (by decide) (by decide) d_X0_init_68 ?_
  refine aw_dup hX rfl d_X0_init_71 ?_
  refine aw_iload_n hX (i := 1) rfl rfl d_X0_init_72 ?_
  refine aw_iconst (v := 5) hX (by decide) d_X0_init_73 ?_
  refine aw_irem hX (by decide) d_X0_init_74 ?_
  rw [show ((26 : Int32) - 26 / 5 * 5) = 1 from by decide]
  refine aw_callI (b := 187) (av := [.int 1]) (avr := [.int 1]) (st := [.ref 187, .int 26, .ref 29]) hX (k_X2_init_187 hg hF (fun a ha => (hB a (by omega)))) mi_X2_init rfl rfl we_16 we_17 rfl (by decide) (by decide) (by decide) (by decide) d_X0_init_75 ?_
  refine aw_aastore hX (a := 29) (b := 187) rfl (by decide) rfl (by decide) (by decide) (show ¬ (_ ∨ _) by decide) d_X0_init_78 ?_
  refine aw_iinc (i := 1) (lv2 := [.ref 13, .int 27]) hX rfl (by decide) rfl rfl d_X0_init_79 ?_
  refine aw_goto (t := 54) hX (by decide) d_X0_init_82 ?_
  exact kk
def c_X0_init_13_28 (h : AH) : AH := (sR (c_X2_init_193 h) 29 (27 : Int32).toNatClampNeg (some 193))
theorem b_X0_init_13_28 {h : AH} {a : Nat} (ha : 199 ≤ a) (h0 : Blank h a) : Blank (c_X0_init_13_28 h) a := (bk_R (by omega) (b_X2_init_193 (by omega) h0))
theorem q_X0_init_13_28 {h : AH} {k : Nat} : gR (c_X0_init_13_28 h) 13 k = gR h 13 k := (show Fr (fun a _ => a ≠ 13) h (c_X0_init_13_28 h) by unfold c_X0_init_13_28 c_X2_init_193; repeat (first | exact Fr.refl _ _ | refine Fr.sR ?_ (by omega) | refine Fr.sI ?_ (by omega))).r (fun z => z rfl)
theorem t_X0_init_13_28 {g : GP} (hg : g.1.stackTraces = false) (hF : gF g = false) {X : MX} {h : AH} {Q : State → Prop} (hX : Cx g RX0 cX0_init 3 197 7142 none [] X) (hB : ∀ a, 193 ≤ a → Blank h a) (hq : gR h 13 3 = some 29) (kk : AW g X 199 true 185 6922 Q (c_X0_init_13_28 h) 54 [.ref 13, .int 28] []) : AW g X 193 true 179 6224 Q h 54 [.ref 13, .int 27] [] := by
  refine aw_iload_n hX (i := 1) rfl rfl d_X0_init_54 ?_
  refine aw_aload_n hX (i := 0) rfl rfl d_X0_init_55 ?_
  refine aw_getD hX hF (a := 13) (ci := 0) (k := 3) rfl (by decide) rfl rfl we_20 rfl d_X0_init_56 ?_
  rw [show gR h 13 3 = some 29 from hq]
  refine aw_alen hX (a := 29) (t := 4) (N := 30) rfl (by decide) (by decide) d_X0_init_59 ?_
  refine aw_icmp_ge (t := 85) hX (by decide) d_X0_init_60 (fun c => absurd c (by decide)) (fun c => ?_)
  refine aw_aload_n hX (i := 0) rfl rfl d_X0_init_63 ?_
  refine aw_getD hX hF (a := 13) (ci := 0) (k := 3) rfl (by decide) rfl rfl we_20 rfl d_X0_init_64 ?_
  rw [show gR h 13 3 = some 29 from hq]
  refine aw_iload_n hX (i := 1) rfl rfl d_X0_init_67 ?_
  refine aw_new hX hF (ci := 2) rfl (by decide) rfl (hB 193 (by decide)) we_11 we_12 we_13 (by decide) (by decide) d_X0_init_68 ?_
  refine aw_dup hX rfl d_X0_init_71 ?_
  refine aw_iload_n hX (i := 1) rfl rfl d_X0_init_72 ?_
  refine aw_iconst (v := 5) hX (by decide) d_X0_init_73 ?_
  refine aw_irem hX (by decide) d_X0_init_74 ?_
  rw [show ((27 : Int32) - 27 / 5 * 5) = 2 from by decide]
  refine aw_callI (b := 193) (av := [.int 2]) (avr := [.int 2]) (st := [.ref 193, .int 27, .ref 29]) hX (k_X2_init_193 hg hF (fun a ha => (hB a (by omega)))) mi_X2_init rfl rfl we_16 we_17 rfl (by decide) (by decide) (by decide) (by decide) d_X0_init_75 ?_
  refine aw_aastore hX (a := 29) (b := 193) rfl (by decide) rfl (by decide) (by decide) (show ¬ (_ ∨ _) by decide) d_X0_init_78 ?_
  refine aw_iinc (i := 1) (lv2 := [.ref 13, .int 28]) hX rfl (by decide) rfl rfl d_X0_init_79 ?_
  refine aw_goto (t := 54) hX (by decide) d_X0_init_82 ?_
  exact kk
def c_X0_init_13_29 (h : AH) : AH := (sR (c_X2_init_199 h) 29 (28 : Int32).toNatClampNeg (some 199))
theorem b_X0_init_13_29 {h : AH} {a : Nat} (ha : 205 ≤ a) (h0 : Blank h a) : Blank (c_X0_init_13_29 h) a := (bk_R (by omega) (b_X2_init_199 (by omega) h0))
theorem q_X0_init_13_29 {h : AH} {k : Nat} : gR (c_X0_init_13_29 h) 13 k = gR h 13 k := (show Fr (fun a _ => a ≠ 13) h (c_X0_init_13_29 h) by unfold c_X0_init_13_29 c_X2_init_199; repeat (first | exact Fr.refl _ _ | refine Fr.sR ?_ (by omega) | refine Fr.sI ?_ (by omega))).r (fun z => z rfl)
theorem t_X0_init_13_29 {g : GP} (hg : g.1.stackTraces = false) (hF : gF g = false) {X : MX} {h : AH} {Q : State → Prop} (hX : Cx g RX0 cX0_init 3 197 7142 none [] X) (hB : ∀ a, 199 ≤ a → Blank h a) (hq : gR h 13 3 = some 29) (kk : AW g X 205 true 191 7032 Q (c_X0_init_13_29 h) 54 [.ref 13, .int 29] []) : AW g X 199 true 185 6922 Q h 54 [.ref 13, .int 28] [] := by
  refine aw_iload_n hX (i := 1) rfl rfl d_X0_init_54 ?_
  refine aw_aload_n hX (i := 0) rfl rfl d_X0_init_55 ?_
  refine aw_getD hX hF (a := 13) (ci := 0) (k := 3) rfl (by decide) rfl rfl we_20 rfl d_X0_init_56 ?_
  rw [show gR h 13 3 = some 29 from hq]
  refine aw_alen hX (a := 29) (t := 4) (N := 30) rfl (by decide) (by decide) d_X0_init_59 ?_
  refine aw_icmp_ge (t := 85) hX (by decide) d_X0_init_60 (fun c => absurd c (by decide)) (fun c => ?_)
  refine aw_aload_n hX (i := 0) rfl rfl d_X0_init_63 ?_
  refine aw_getD hX hF (a := 13) (ci := 0) (k := 3) rfl (by decide) rfl rfl we_20 rfl d_X0_init_64 ?_
  rw [show gR h 13 3 = some 29 from hq]
  refine aw_iload_n hX (i := 1) rfl rfl d_X0_init_67 ?_
  refine aw_new hX hF (ci := 2) rfl (by decide) rfl (hB 199 (by decide)) we_11 we_12 we_13 (by decide) (by decide) d_X0_init_68 ?_
  refine aw_dup hX rfl d_X0_init_71 ?_
  refine aw_iload_n hX (i := 1) rfl rfl d_X0_init_72 ?_
  refine aw_iconst (v := 5) hX (by decide) d_X0_init_73 ?_
  refine aw_irem hX (by decide) d_X0_init_74 ?_
  rw [show ((28 : Int32) - 28 / 5 * 5) = 3 from by decide]
  refine aw_callI (b := 199) (av := [.int 3]) (avr := [.int 3]) (st := [.ref 199, .int 28, .ref 29]) hX (k_X2_init_199 hg hF (fun a ha => (hB a (by omega)))) mi_X2_init rfl rfl we_16 we_17 rfl (by decide) (by decide) (by decide) (by decide) d_X0_init_75 ?_
  refine aw_aastore hX (a := 29) (b := 199) rfl (by decide) rfl (by decide) (by decide) (show ¬ (_ ∨ _) by decide) d_X0_init_78 ?_
  refine aw_iinc (i := 1) (lv2 := [.ref 13, .int 29]) hX rfl (by decide) rfl rfl d_X0_init_79 ?_
  refine aw_goto (t := 54) hX (by decide) d_X0_init_82 ?_
  exact kk
def c_X0_init_13_30 (h : AH) : AH := (sR (c_X2_init_205 h) 29 (29 : Int32).toNatClampNeg (some 205))
theorem b_X0_init_13_30 {h : AH} {a : Nat} (ha : 211 ≤ a) (h0 : Blank h a) : Blank (c_X0_init_13_30 h) a := (bk_R (by omega) (b_X2_init_205 (by omega) h0))
theorem q_X0_init_13_30 {h : AH} {k : Nat} : gR (c_X0_init_13_30 h) 13 k = gR h 13 k := (show Fr (fun a _ => a ≠ 13) h (c_X0_init_13_30 h) by unfold c_X0_init_13_30 c_X2_init_205; repeat (first | exact Fr.refl _ _ | refine Fr.sR ?_ (by omega) | refine Fr.sI ?_ (by omega))).r (fun z => z rfl)
theorem t_X0_init_13_30 {g : GP} (hg : g.1.stackTraces = false) (hF : gF g = false) {X : MX} {h : AH} {Q : State → Prop} (hX : Cx g RX0 cX0_init 3 197 7142 none [] X) (hB : ∀ a, 205 ≤ a → Blank h a) (hq : gR h 13 3 = some 29) (kk : AW g X 211 true 197 7142 Q (c_X0_init_13_30 h) 54 [.ref 13, .int 30] []) : AW g X 205 true 191 7032 Q h 54 [.ref 13, .int 29] [] := by
  refine aw_iload_n hX (i := 1) rfl rfl d_X0_init_54 ?_
  refine aw_aload_n hX (i := 0) rfl rfl d_X0_init_55 ?_
  refine aw_getD hX hF (a := 13) (ci := 0) (k := 3) rfl (by decide) rfl rfl we_20 rfl d_X0_init_56 ?_
  rw [show gR h 13 3 = some 29 from hq]
  refine aw_alen hX (a := 29) (t := 4) (N := 30) rfl (by decide) (by decide) d_X0_init_59 ?_
  refine aw_icmp_ge (t := 85) hX (by decide) d_X0_init_60 (fun c => absurd c (by decide)) (fun c => ?_)
  refine aw_aload_n hX (i := 0) rfl rfl d_X0_init_63 ?_
  refine aw_getD hX hF (a := 13) (ci := 0) (k := 3) rfl (by decide) rfl rfl we_20 rfl d_X0_init_64 ?_
  rw [show gR h 13 3 = some 29 from hq]
  refine aw_iload_n hX (i := 1) rfl rfl d_X0_init_67 ?_
  refine aw_new hX hF (ci := 2) rfl (by decide) rfl (hB 205 (by decide)) we_11 we_12 we_13 (by decide) (by decide) d_X0_init_68 ?_
  refine aw_dup hX rfl d_X0_init_71 ?_
  refine aw_iload_n hX (i := 1) rfl rfl d_X0_init_72 ?_
  refine aw_iconst (v := 5) hX (by decide) d_X0_init_73 ?_
  refine aw_irem hX (by decide) d_X0_init_74 ?_
  rw [show ((29 : Int32) - 29 / 5 * 5) = 4 from by decide]
  refine aw_callI (b := 205) (av := [.int 4]) (avr := [.int 4]) (st := [.ref 205, .int 29, .ref 29]) hX (k_X2_init_205 hg hF (fun a ha => (hB a (by omega)))) mi_X2_init rfl rfl we_16 we_17 rfl (by decide) (by decide) (by decide) (by decide) d_X0_init_75 ?_
  refine aw_aastore hX (a := 29) (b := 205) rfl (by decide) rfl (by decide) (by decide) (show ¬ (_ ∨ _) by decide) d_X0_init_78 ?_
  refine aw_iinc (i := 1) (lv2 := [.ref 13, .int 30]) hX rfl (by decide) rfl rfl d_X0_init_79 ?_
  refine aw_goto (t := 54) hX (by decide) d_X0_init_82 ?_
  exact kk
def c_X0_init_13 (h : AH) : AH := (c_X0_init_13_30 (c_X0_init_13_29 (c_X0_init_13_28 (c_X0_init_13_27 (c_X0_init_13_26 (c_X0_init_13_25 (c_X0_init_13_24 (c_X0_init_13_23 (c_X0_init_13_22 (c_X0_init_13_21 (c_X0_init_13_20 (c_X0_init_13_19 (c_X0_init_13_18 (c_X0_init_13_17 (c_X0_init_13_16 (c_X0_init_13_15 (c_X0_init_13_14 (c_X0_init_13_13 (c_X0_init_13_12 (c_X0_init_13_11 (c_X0_init_13_10 (c_X0_init_13_9 (c_X0_init_13_8 (c_X0_init_13_7 (c_X0_init_13_6 (c_X0_init_13_5 (c_X0_init_13_4 (c_X0_init_13_3 (c_X0_init_13_2 (c_X0_init_13_1 (c_X0_init_13_0 h)))))))))))))))))))))))))))))))
theorem b_X0_init_13 {h : AH} {a : Nat} (ha : 211 ≤ a) (h0 : Blank h a) : Blank (c_X0_init_13 h) a := (b_X0_init_13_30 (by omega) (b_X0_init_13_29 (by omega) (b_X0_init_13_28 (by omega) (b_X0_init_13_27 (by omega) (b_X0_init_13_26 (by omega) (b_X0_init_13_25 (by omega) (b_X0_init_13_24 (by omega) (b_X0_init_13_23 (by omega) (b_X0_init_13_22 (by omega) (b_X0_init_13_21 (by omega) (b_X0_init_13_20 (by omega) (b_X0_init_13_19 (by omega) (b_X0_init_13_18 (by omega) (b_X0_init_13_17 (by omega) (b_X0_init_13_16 (by omega) (b_X0_init_13_15 (by omega) (b_X0_init_13_14 (by omega) (b_X0_init_13_13 (by omega) (b_X0_init_13_12 (by omega) (b_X0_init_13_11 (by omega) (b_X0_init_13_10 (by omega) (b_X0_init_13_9 (by omega) (b_X0_init_13_8 (by omega) (b_X0_init_13_7 (by omega) (b_X0_init_13_6 (by omega) (b_X0_init_13_5 (by omega) (b_X0_init_13_4 (by omega) (b_X0_init_13_3 (by omega) (b_X0_init_13_2 (by omega) (b_X0_init_13_1 (by omega) (b_X0_init_13_0 (by omega) h0)))))))))))))))))))))))))))))))
theorem q_X0_init_13 {h : AH} {k : Nat} : gR (c_X0_init_13 h) 13 k = gR (c_X0_init_13_0 h) 13 k := q_X0_init_13_30.trans (q_X0_init_13_29.trans (q_X0_init_13_28.trans (q_X0_init_13_27.trans (q_X0_init_13_26.trans (q_X0_init_13_25.trans (q_X0_init_13_24.trans (q_X0_init_13_23.trans (q_X0_init_13_22.trans (q_X0_init_13_21.trans (q_X0_init_13_20.trans (q_X0_init_13_19.trans (q_X0_init_13_18.trans (q_X0_init_13_17.trans (q_X0_init_13_16.trans (q_X0_init_13_15.trans (q_X0_init_13_14.trans (q_X0_init_13_13.trans (q_X0_init_13_12.trans (q_X0_init_13_11.trans (q_X0_init_13_10.trans (q_X0_init_13_9.trans (q_X0_init_13_8.trans (q_X0_init_13_7.trans (q_X0_init_13_6.trans (q_X0_init_13_5.trans (q_X0_init_13_4.trans (q_X0_init_13_3.trans (q_X0_init_13_2.trans (q_X0_init_13_1)))))))))))))))))))))))))))))
theorem k_X0_init_13 {g : GP} (hg : g.1.stackTraces = false) (hF : gF g = false) {h : AH} (hB : ∀ a, 13 < a → Blank h a) : Ctr g yX0_init (wsY yX0_init cX0_init 2 none) 3 197 7142 [.ref 13] 14 true h none 211 true (c_X0_init_13 h) := ctr_of (lv0 := [.ref 13, jk]) rfl rfl (by decide) hg trivial (fun X hX hn => by
  replace hX : Cx g RX0 cX0_init 3 197 7142 none [] X := hX
  replace hn : X.meth.name = "<init>" := hn
  refine aw_aload_n hX (i := 0) rfl rfl d_X0_init_0 ?_
  refine aw_objI hX we_0 we_1 we_2 (by decide) (by decide) d_X0_init_1 ?_
  refine aw_aload_n hX (i := 0) rfl rfl d_X0_init_4 ?_
  refine aw_bipush (v := 6) hX (by decide) d_X0_init_5 ?_
  refine aw_newI hX (N := 6) rfl (hB 14 (by decide)) (by decide) (by decide) (by decide) (by decide) we_3 (by decide) (by decide) d_X0_init_7 ?_
  refine aw_putFR hX hn hF (ci := 0) (k := 0) (ty := (.array .int)) rfl (by decide) (by decide) rfl rfl we_4 rfl rfl (by decide +kernel) (fun x => rfl) (fun x => rfl) rfl d_X0_init_9 ?_
  refine aw_aload_n hX (i := 0) rfl rfl d_X0_init_12 ?_
  refine aw_new hX hF (ci := 8) rfl (by decide) rfl (bk_R (by decide) (hB 15 (by decide))) we_5 we_6 we_7 (by decide) (by decide) d_X0_init_13 ?_
  refine aw_dup hX rfl d_X0_init_16 ?_
  refine aw_callI (b := 15) (av := []) (avr := []) (st := [.ref 15, .ref 13]) hX (k_X8_init_15 hg hF (fun a ha => (bk_R (by omega) (hB a (by omega))))) mi_X8_init rfl rfl we_8 we_9 rfl (by decide) (by decide) (by decide) (by decide) d_X0_init_17 ?_
  refine aw_putR (o := some 15) hX (ci := 0) (k := 1) (cn := "SeatHall$Told") rfl (by decide) (by decide) rfl rfl we_10 rfl (by decide +kernel) rfl d_X0_init_20 ?_
  refine aw_aload_n hX (i := 0) rfl rfl d_X0_init_23 ?_
  refine aw_new hX hF (ci := 2) rfl (by decide) rfl (bk_R (by decide) (b_X8_init_15 (by decide) (bk_R (by decide) (hB 23 (by decide))))) we_11 we_12 we_13 (by decide) (by decide) d_X0_init_24 ?_
  refine aw_dup hX rfl d_X0_init_27 ?_
  refine aw_iconst (v := 3) hX (by decide) d_X0_init_28 ?_
  refine aw_callI (b := 23) (av := [.int 3]) (avr := [.int 3]) (st := [.ref 23, .ref 13]) hX (k_X2_init_23 hg hF (fun a ha => (bk_R (by omega) (b_X8_init_15 (by omega) (bk_R (by omega) (hB a (by omega))))))) mi_X2_init rfl rfl we_16 we_17 rfl (by decide) (by decide) (by decide) (by decide) d_X0_init_29 ?_
  refine aw_putFR hX hn hF (ci := 0) (k := 2) (ty := (.object "SeatHall$Plan")) rfl (by decide) (by decide) rfl rfl we_18 rfl rfl (by decide +kernel) (fun x => rfl) (fun x => rfl) rfl d_X0_init_32 ?_
  refine aw_aload_n hX (i := 0) rfl rfl d_X0_init_35 ?_
  refine aw_bipush (v := 30) hX (by decide) d_X0_init_36 ?_
  refine aw_anew hX (N := 30) rfl (bk_R (by decide) (b_X2_init_23 (by decide) (bk_R (by decide) (b_X8_init_15 (by decide) (bk_R (by decide) (hB 29 (by decide))))))) (by decide) (by decide) (by decide) (by decide) we_19 (by decide) (by decide) d_X0_init_38 ?_
  refine aw_putFR hX hn hF (ci := 0) (k := 3) (ty := (.array (.object "SeatHall$Plan"))) rfl (by decide) (by decide) rfl rfl we_20 rfl rfl (by decide +kernel) (fun x => rfl) (fun x => rfl) rfl d_X0_init_41 ?_
  refine aw_aload_n hX (i := 0) rfl rfl d_X0_init_44 ?_
  refine aw_bipush (v := 6) hX (by decide) d_X0_init_45 ?_
  refine aw_newI hX (N := 6) rfl (bk_R (by decide) (bk_R (by decide) (b_X2_init_23 (by decide) (bk_R (by decide) (b_X8_init_15 (by decide) (bk_R (by decide) (hB 30 (by decide)))))))) (by decide) (by decide) (by decide) (by decide) we_3 (by decide) (by decide) d_X0_init_47 ?_
  refine aw_putFR hX hn hF (ci := 0) (k := 4) (ty := (.array .int)) rfl (by decide) (by decide) rfl rfl we_21 rfl rfl (by decide +kernel) (fun x => rfl) (fun x => rfl) rfl d_X0_init_49 ?_
  refine aw_iconst (v := 0) hX (by decide) d_X0_init_52 ?_
  refine aw_istore_n (i := 1) (lv2 := [.ref 13, .int 0]) hX rfl rfl rfl d_X0_init_53 ?_
  refine t_X0_init_13_1 (h := (c_X0_init_13_0 h)) hg hF hX (fun a ha => (b_X0_init_13_0 (by omega) (hB a (by omega)))) rfl ?_
  refine t_X0_init_13_2 (h := (c_X0_init_13_1 (c_X0_init_13_0 h))) hg hF hX (fun a ha => (b_X0_init_13_1 (by omega) (b_X0_init_13_0 (by omega) (hB a (by omega))))) (by show gR (c_X0_init_13_1 (c_X0_init_13_0 h)) 13 3 = some 29; rw [q_X0_init_13_1]; rfl) ?_
  refine t_X0_init_13_3 (h := (c_X0_init_13_2 (c_X0_init_13_1 (c_X0_init_13_0 h)))) hg hF hX (fun a ha => (b_X0_init_13_2 (by omega) (b_X0_init_13_1 (by omega) (b_X0_init_13_0 (by omega) (hB a (by omega)))))) (by show gR (c_X0_init_13_2 (c_X0_init_13_1 (c_X0_init_13_0 h))) 13 3 = some 29; rw [q_X0_init_13_2, q_X0_init_13_1]; rfl) ?_
  refine t_X0_init_13_4 (h := (c_X0_init_13_3 (c_X0_init_13_2 (c_X0_init_13_1 (c_X0_init_13_0 h))))) hg hF hX (fun a ha => (b_X0_init_13_3 (by omega) (b_X0_init_13_2 (by omega) (b_X0_init_13_1 (by omega) (b_X0_init_13_0 (by omega) (hB a (by omega))))))) (by show gR (c_X0_init_13_3 (c_X0_init_13_2 (c_X0_init_13_1 (c_X0_init_13_0 h)))) 13 3 = some 29; rw [q_X0_init_13_3, q_X0_init_13_2, q_X0_init_13_1]; rfl) ?_
  refine t_X0_init_13_5 (h := (c_X0_init_13_4 (c_X0_init_13_3 (c_X0_init_13_2 (c_X0_init_13_1 (c_X0_init_13_0 h)))))) hg hF hX (fun a ha => (b_X0_init_13_4 (by omega) (b_X0_init_13_3 (by omega) (b_X0_init_13_2 (by omega) (b_X0_init_13_1 (by omega) (b_X0_init_13_0 (by omega) (hB a (by omega)))))))) (by show gR (c_X0_init_13_4 (c_X0_init_13_3 (c_X0_init_13_2 (c_X0_init_13_1 (c_X0_init_13_0 h))))) 13 3 = some 29; rw [q_X0_init_13_4, q_X0_init_13_3, q_X0_init_13_2, q_X0_init_13_1]; rfl) ?_
  refine t_X0_init_13_6 (h := (c_X0_init_13_5 (c_X0_init_13_4 (c_X0_init_13_3 (c_X0_init_13_2 (c_X0_init_13_1 (c_X0_init_13_0 h))))))) hg hF hX (fun a ha => (b_X0_init_13_5 (by omega) (b_X0_init_13_4 (by omega) (b_X0_init_13_3 (by omega) (b_X0_init_13_2 (by omega) (b_X0_init_13_1 (by omega) (b_X0_init_13_0 (by omega) (hB a (by omega))))))))) (by show gR (c_X0_init_13_5 (c_X0_init_13_4 (c_X0_init_13_3 (c_X0_init_13_2 (c_X0_init_13_1 (c_X0_init_13_0 h)))))) 13 3 = some 29; rw [q_X0_init_13_5, q_X0_init_13_4, q_X0_init_13_3, q_X0_init_13_2, q_X0_init_13_1]; rfl) ?_
  refine t_X0_init_13_7 (h := (c_X0_init_13_6 (c_X0_init_13_5 (c_X0_init_13_4 (c_X0_init_13_3 (c_X0_init_13_2 (c_X0_init_13_1 (c_X0_init_13_0 h)))))))) hg hF hX (fun a ha => (b_X0_init_13_6 (by omega) (b_X0_init_13_5 (by omega) (b_X0_init_13_4 (by omega) (b_X0_init_13_3 (by omega) (b_X0_init_13_2 (by omega) (b_X0_init_13_1 (by omega) (b_X0_init_13_0 (by omega) (hB a (by omega)))))))))) (by show gR (c_X0_init_13_6 (c_X0_init_13_5 (c_X0_init_13_4 (c_X0_init_13_3 (c_X0_init_13_2 (c_X0_init_13_1 (c_X0_init_13_0 h))))))) 13 3 = some 29; rw [q_X0_init_13_6, q_X0_init_13_5, q_X0_init_13_4, q_X0_init_13_3, q_X0_init_13_2, q_X0_init_13_1]; rfl) ?_
  refine t_X0_init_13_8 (h := (c_X0_init_13_7 (c_X0_init_13_6 (c_X0_init_13_5 (c_X0_init_13_4 (c_X0_init_13_3 (c_X0_init_13_2 (c_X0_init_13_1 (c_X0_init_13_0 h))))))))) hg hF hX (fun a ha => (b_X0_init_13_7 (by omega) (b_X0_init_13_6 (by omega) (b_X0_init_13_5 (by omega) (b_X0_init_13_4 (by omega) (b_X0_init_13_3 (by omega) (b_X0_init_13_2 (by omega) (b_X0_init_13_1 (by omega) (b_X0_init_13_0 (by omega) (hB a (by omega))))))))))) (by show gR (c_X0_init_13_7 (c_X0_init_13_6 (c_X0_init_13_5 (c_X0_init_13_4 (c_X0_init_13_3 (c_X0_init_13_2 (c_X0_init_13_1 (c_X0_init_13_0 h)))))))) 13 3 = some 29; rw [q_X0_init_13_7, q_X0_init_13_6, q_X0_init_13_5, q_X0_init_13_4, q_X0_init_13_3, q_X0_init_13_2, q_X0_init_13_1]; rfl) ?_
  refine t_X0_init_13_9 (h := (c_X0_init_13_8 (c_X0_init_13_7 (c_X0_init_13_6 (c_X0_init_13_5 (c_X0_init_13_4 (c_X0_init_13_3 (c_X0_init_13_2 (c_X0_init_13_1 (c_X0_init_13_0 h)))))))))) hg hF hX (fun a ha => (b_X0_init_13_8 (by omega) (b_X0_init_13_7 (by omega) (b_X0_init_13_6 (by omega) (b_X0_init_13_5 (by omega) (b_X0_init_13_4 (by omega) (b_X0_init_13_3 (by omega) (b_X0_init_13_2 (by omega) (b_X0_init_13_1 (by omega) (b_X0_init_13_0 (by omega) (hB a (by omega)))))))))))) (by show gR (c_X0_init_13_8 (c_X0_init_13_7 (c_X0_init_13_6 (c_X0_init_13_5 (c_X0_init_13_4 (c_X0_init_13_3 (c_X0_init_13_2 (c_X0_init_13_1 (c_X0_init_13_0 h))))))))) 13 3 = some 29; rw [q_X0_init_13_8, q_X0_init_13_7, q_X0_init_13_6, q_X0_init_13_5, q_X0_init_13_4, q_X0_init_13_3, q_X0_init_13_2, q_X0_init_13_1]; rfl) ?_
  refine t_X0_init_13_10 (h := (c_X0_init_13_9 (c_X0_init_13_8 (c_X0_init_13_7 (c_X0_init_13_6 (c_X0_init_13_5 (c_X0_init_13_4 (c_X0_init_13_3 (c_X0_init_13_2 (c_X0_init_13_1 (c_X0_init_13_0 h))))))))))) hg hF hX (fun a ha => (b_X0_init_13_9 (by omega) (b_X0_init_13_8 (by omega) (b_X0_init_13_7 (by omega) (b_X0_init_13_6 (by omega) (b_X0_init_13_5 (by omega) (b_X0_init_13_4 (by omega) (b_X0_init_13_3 (by omega) (b_X0_init_13_2 (by omega) (b_X0_init_13_1 (by omega) (b_X0_init_13_0 (by omega) (hB a (by omega))))))))))))) (by show gR (c_X0_init_13_9 (c_X0_init_13_8 (c_X0_init_13_7 (c_X0_init_13_6 (c_X0_init_13_5 (c_X0_init_13_4 (c_X0_init_13_3 (c_X0_init_13_2 (c_X0_init_13_1 (c_X0_init_13_0 h)))))))))) 13 3 = some 29; rw [q_X0_init_13_9, q_X0_init_13_8, q_X0_init_13_7, q_X0_init_13_6, q_X0_init_13_5, q_X0_init_13_4, q_X0_init_13_3, q_X0_init_13_2, q_X0_init_13_1]; rfl) ?_
  refine t_X0_init_13_11 (h := (c_X0_init_13_10 (c_X0_init_13_9 (c_X0_init_13_8 (c_X0_init_13_7 (c_X0_init_13_6 (c_X0_init_13_5 (c_X0_init_13_4 (c_X0_init_13_3 (c_X0_init_13_2 (c_X0_init_13_1 (c_X0_init_13_0 h)))))))))))) hg hF hX (fun a ha => (b_X0_init_13_10 (by omega) (b_X0_init_13_9 (by omega) (b_X0_init_13_8 (by omega) (b_X0_init_13_7 (by omega) (b_X0_init_13_6 (by omega) (b_X0_init_13_5 (by omega) (b_X0_init_13_4 (by omega) (b_X0_init_13_3 (by omega) (b_X0_init_13_2 (by omega) (b_X0_init_13_1 (by omega) (b_X0_init_13_0 (by omega) (hB a (by omega)))))))))))))) (by show gR (c_X0_init_13_10 (c_X0_init_13_9 (c_X0_init_13_8 (c_X0_init_13_7 (c_X0_init_13_6 (c_X0_init_13_5 (c_X0_init_13_4 (c_X0_init_13_3 (c_X0_init_13_2 (c_X0_init_13_1 (c_X0_init_13_0 h))))))))))) 13 3 = some 29; rw [q_X0_init_13_10, q_X0_init_13_9, q_X0_init_13_8, q_X0_init_13_7, q_X0_init_13_6, q_X0_init_13_5, q_X0_init_13_4, q_X0_init_13_3, q_X0_init_13_2, q_X0_init_13_1]; rfl) ?_
  refine t_X0_init_13_12 (h := (c_X0_init_13_11 (c_X0_init_13_10 (c_X0_init_13_9 (c_X0_init_13_8 (c_X0_init_13_7 (c_X0_init_13_6 (c_X0_init_13_5 (c_X0_init_13_4 (c_X0_init_13_3 (c_X0_init_13_2 (c_X0_init_13_1 (c_X0_init_13_0 h))))))))))))) hg hF hX (fun a ha => (b_X0_init_13_11 (by omega) (b_X0_init_13_10 (by omega) (b_X0_init_13_9 (by omega) (b_X0_init_13_8 (by omega) (b_X0_init_13_7 (by omega) (b_X0_init_13_6 (by omega) (b_X0_init_13_5 (by omega) (b_X0_init_13_4 (by omega) (b_X0_init_13_3 (by omega) (b_X0_init_13_2 (by omega) (b_X0_init_13_1 (by omega) (b_X0_init_13_0 (by omega) (hB a (by omega))))))))))))))) (by show gR (c_X0_init_13_11 (c_X0_init_13_10 (c_X0_init_13_9 (c_X0_init_13_8 (c_X0_init_13_7 (c_X0_init_13_6 (c_X0_init_13_5 (c_X0_init_13_4 (c_X0_init_13_3 (c_X0_init_13_2 (c_X0_init_13_1 (c_X0_init_13_0 h)))))))))))) 13 3 = some 29; rw [q_X0_init_13_11, q_X0_init_13_10, q_X0_init_13_9, q_X0_init_13_8, q_X0_init_13_7, q_X0_init_13_6, q_X0_init_13_5, q_X0_init_13_4, q_X0_init_13_3, q_X0_init_13_2, q_X0_init_13_1]; rfl) ?_
  refine t_X0_init_13_13 (h := (c_X0_init_13_12 (c_X0_init_13_11 (c_X0_init_13_10 (c_X0_init_13_9 (c_X0_init_13_8 (c_X0_init_13_7 (c_X0_init_13_6 (c_X0_init_13_5 (c_X0_init_13_4 (c_X0_init_13_3 (c_X0_init_13_2 (c_X0_init_13_1 (c_X0_init_13_0 h)))))))))))))) hg hF hX (fun a ha => (b_X0_init_13_12 (by omega) (b_X0_init_13_11 (by omega) (b_X0_init_13_10 (by omega) (b_X0_init_13_9 (by omega) (b_X0_init_13_8 (by omega) (b_X0_init_13_7 (by omega) (b_X0_init_13_6 (by omega) (b_X0_init_13_5 (by omega) (b_X0_init_13_4 (by omega) (b_X0_init_13_3 (by omega) (b_X0_init_13_2 (by omega) (b_X0_init_13_1 (by omega) (b_X0_init_13_0 (by omega) (hB a (by omega)))))))))))))))) (by show gR (c_X0_init_13_12 (c_X0_init_13_11 (c_X0_init_13_10 (c_X0_init_13_9 (c_X0_init_13_8 (c_X0_init_13_7 (c_X0_init_13_6 (c_X0_init_13_5 (c_X0_init_13_4 (c_X0_init_13_3 (c_X0_init_13_2 (c_X0_init_13_1 (c_X0_init_13_0 h))))))))))))) 13 3 = some 29; rw [q_X0_init_13_12, q_X0_init_13_11, q_X0_init_13_10, q_X0_init_13_9, q_X0_init_13_8, q_X0_init_13_7, q_X0_init_13_6, q_X0_init_13_5, q_X0_init_13_4, q_X0_init_13_3, q_X0_init_13_2, q_X0_init_13_1]; rfl) ?_
  refine t_X0_init_13_14 (h := (c_X0_init_13_13 (c_X0_init_13_12 (c_X0_init_13_11 (c_X0_init_13_10 (c_X0_init_13_9 (c_X0_init_13_8 (c_X0_init_13_7 (c_X0_init_13_6 (c_X0_init_13_5 (c_X0_init_13_4 (c_X0_init_13_3 (c_X0_init_13_2 (c_X0_init_13_1 (c_X0_init_13_0 h))))))))))))))) hg hF hX (fun a ha => (b_X0_init_13_13 (by omega) (b_X0_init_13_12 (by omega) (b_X0_init_13_11 (by omega) (b_X0_init_13_10 (by omega) (b_X0_init_13_9 (by omega) (b_X0_init_13_8 (by omega) (b_X0_init_13_7 (by omega) (b_X0_init_13_6 (by omega) (b_X0_init_13_5 (by omega) (b_X0_init_13_4 (by omega) (b_X0_init_13_3 (by omega) (b_X0_init_13_2 (by omega) (b_X0_init_13_1 (by omega) (b_X0_init_13_0 (by omega) (hB a (by omega))))))))))))))))) (by show gR (c_X0_init_13_13 (c_X0_init_13_12 (c_X0_init_13_11 (c_X0_init_13_10 (c_X0_init_13_9 (c_X0_init_13_8 (c_X0_init_13_7 (c_X0_init_13_6 (c_X0_init_13_5 (c_X0_init_13_4 (c_X0_init_13_3 (c_X0_init_13_2 (c_X0_init_13_1 (c_X0_init_13_0 h)))))))))))))) 13 3 = some 29; rw [q_X0_init_13_13, q_X0_init_13_12, q_X0_init_13_11, q_X0_init_13_10, q_X0_init_13_9, q_X0_init_13_8, q_X0_init_13_7, q_X0_init_13_6, q_X0_init_13_5, q_X0_init_13_4, q_X0_init_13_3, q_X0_init_13_2, q_X0_init_13_1]; rfl) ?_
  refine t_X0_init_13_15 (h := (c_X0_init_13_14 (c_X0_init_13_13 (c_X0_init_13_12 (c_X0_init_13_11 (c_X0_init_13_10 (c_X0_init_13_9 (c_X0_init_13_8 (c_X0_init_13_7 (c_X0_init_13_6 (c_X0_init_13_5 (c_X0_init_13_4 (c_X0_init_13_3 (c_X0_init_13_2 (c_X0_init_13_1 (c_X0_init_13_0 h)))))))))))))))) hg hF hX (fun a ha => (b_X0_init_13_14 (by omega) (b_X0_init_13_13 (by omega) (b_X0_init_13_12 (by omega) (b_X0_init_13_11 (by omega) (b_X0_init_13_10 (by omega) (b_X0_init_13_9 (by omega) (b_X0_init_13_8 (by omega) (b_X0_init_13_7 (by omega) (b_X0_init_13_6 (by omega) (b_X0_init_13_5 (by omega) (b_X0_init_13_4 (by omega) (b_X0_init_13_3 (by omega) (b_X0_init_13_2 (by omega) (b_X0_init_13_1 (by omega) (b_X0_init_13_0 (by omega) (hB a (by omega)))))))))))))))))) (by show gR (c_X0_init_13_14 (c_X0_init_13_13 (c_X0_init_13_12 (c_X0_init_13_11 (c_X0_init_13_10 (c_X0_init_13_9 (c_X0_init_13_8 (c_X0_init_13_7 (c_X0_init_13_6 (c_X0_init_13_5 (c_X0_init_13_4 (c_X0_init_13_3 (c_X0_init_13_2 (c_X0_init_13_1 (c_X0_init_13_0 h))))))))))))))) 13 3 = some 29; rw [q_X0_init_13_14, q_X0_init_13_13, q_X0_init_13_12, q_X0_init_13_11, q_X0_init_13_10, q_X0_init_13_9, q_X0_init_13_8, q_X0_init_13_7, q_X0_init_13_6, q_X0_init_13_5, q_X0_init_13_4, q_X0_init_13_3, q_X0_init_13_2, q_X0_init_13_1]; rfl) ?_
  refine t_X0_init_13_16 (h := (c_X0_init_13_15 (c_X0_init_13_14 (c_X0_init_13_13 (c_X0_init_13_12 (c_X0_init_13_11 (c_X0_init_13_10 (c_X0_init_13_9 (c_X0_init_13_8 (c_X0_init_13_7 (c_X0_init_13_6 (c_X0_init_13_5 (c_X0_init_13_4 (c_X0_init_13_3 (c_X0_init_13_2 (c_X0_init_13_1 (c_X0_init_13_0 h))))))))))))))))) hg hF hX (fun a ha => (b_X0_init_13_15 (by omega) (b_X0_init_13_14 (by omega) (b_X0_init_13_13 (by omega) (b_X0_init_13_12 (by omega) (b_X0_init_13_11 (by omega) (b_X0_init_13_10 (by omega) (b_X0_init_13_9 (by omega) (b_X0_init_13_8 (by omega) (b_X0_init_13_7 (by omega) (b_X0_init_13_6 (by omega) (b_X0_init_13_5 (by omega) (b_X0_init_13_4 (by omega) (b_X0_init_13_3 (by omega) (b_X0_init_13_2 (by omega) (b_X0_init_13_1 (by omega) (b_X0_init_13_0 (by omega) (hB a (by omega))))))))))))))))))) (by show gR (c_X0_init_13_15 (c_X0_init_13_14 (c_X0_init_13_13 (c_X0_init_13_12 (c_X0_init_13_11 (c_X0_init_13_10 (c_X0_init_13_9 (c_X0_init_13_8 (c_X0_init_13_7 (c_X0_init_13_6 (c_X0_init_13_5 (c_X0_init_13_4 (c_X0_init_13_3 (c_X0_init_13_2 (c_X0_init_13_1 (c_X0_init_13_0 h)))))))))))))))) 13 3 = some 29; rw [q_X0_init_13_15, q_X0_init_13_14, q_X0_init_13_13, q_X0_init_13_12, q_X0_init_13_11, q_X0_init_13_10, q_X0_init_13_9, q_X0_init_13_8, q_X0_init_13_7, q_X0_init_13_6, q_X0_init_13_5, q_X0_init_13_4, q_X0_init_13_3, q_X0_init_13_2, q_X0_init_13_1]; rfl) ?_
  refine t_X0_init_13_17 (h := (c_X0_init_13_16 (c_X0_init_13_15 (c_X0_init_13_14 (c_X0_init_13_13 (c_X0_init_13_12 (c_X0_init_13_11 (c_X0_init_13_10 (c_X0_init_13_9 (c_X0_init_13_8 (c_X0_init_13_7 (c_X0_init_13_6 (c_X0_init_13_5 (c_X0_init_13_4 (c_X0_init_13_3 (c_X0_init_13_2 (c_X0_init_13_1 (c_X0_init_13_0 h)))))))))))))))))) hg hF hX (fun a ha => (b_X0_init_13_16 (by omega) (b_X0_init_13_15 (by omega) (b_X0_init_13_14 (by omega) (b_X0_init_13_13 (by omega) (b_X0_init_13_12 (by omega) (b_X0_init_13_11 (by omega) (b_X0_init_13_10 (by omega) (b_X0_init_13_9 (by omega) (b_X0_init_13_8 (by omega) (b_X0_init_13_7 (by omega) (b_X0_init_13_6 (by omega) (b_X0_init_13_5 (by omega) (b_X0_init_13_4 (by omega) (b_X0_init_13_3 (by omega) (b_X0_init_13_2 (by omega) (b_X0_init_13_1 (by omega) (b_X0_init_13_0 (by omega) (hB a (by omega)))))))))))))))))))) (by show gR (c_X0_init_13_16 (c_X0_init_13_15 (c_X0_init_13_14 (c_X0_init_13_13 (c_X0_init_13_12 (c_X0_init_13_11 (c_X0_init_13_10 (c_X0_init_13_9 (c_X0_init_13_8 (c_X0_init_13_7 (c_X0_init_13_6 (c_X0_init_13_5 (c_X0_init_13_4 (c_X0_init_13_3 (c_X0_init_13_2 (c_X0_init_13_1 (c_X0_init_13_0 h))))))))))))))))) 13 3 = some 29; rw [q_X0_init_13_16, q_X0_init_13_15, q_X0_init_13_14, q_X0_init_13_13, q_X0_init_13_12, q_X0_init_13_11, q_X0_init_13_10, q_X0_init_13_9, q_X0_init_13_8, q_X0_init_13_7, q_X0_init_13_6, q_X0_init_13_5, q_X0_init_13_4, q_X0_init_13_3, q_X0_init_13_2, q_X0_init_13_1]; rfl) ?_
  refine t_X0_init_13_18 (h := (c_X0_init_13_17 (c_X0_init_13_16 (c_X0_init_13_15 (c_X0_init_13_14 (c_X0_init_13_13 (c_X0_init_13_12 (c_X0_init_13_11 (c_X0_init_13_10 (c_X0_init_13_9 (c_X0_init_13_8 (c_X0_init_13_7 (c_X0_init_13_6 (c_X0_init_13_5 (c_X0_init_13_4 (c_X0_init_13_3 (c_X0_init_13_2 (c_X0_init_13_1 (c_X0_init_13_0 h))))))))))))))))))) hg hF hX (fun a ha => (b_X0_init_13_17 (by omega) (b_X0_init_13_16 (by omega) (b_X0_init_13_15 (by omega) (b_X0_init_13_14 (by omega) (b_X0_init_13_13 (by omega) (b_X0_init_13_12 (by omega) (b_X0_init_13_11 (by omega) (b_X0_init_13_10 (by omega) (b_X0_init_13_9 (by omega) (b_X0_init_13_8 (by omega) (b_X0_init_13_7 (by omega) (b_X0_init_13_6 (by omega) (b_X0_init_13_5 (by omega) (b_X0_init_13_4 (by omega) (b_X0_init_13_3 (by omega) (b_X0_init_13_2 (by omega) (b_X0_init_13_1 (by omega) (b_X0_init_13_0 (by omega) (hB a (by omega))))))))))))))))))))) (by show gR (c_X0_init_13_17 (c_X0_init_13_16 (c_X0_init_13_15 (c_X0_init_13_14 (c_X0_init_13_13 (c_X0_init_13_12 (c_X0_init_13_11 (c_X0_init_13_10 (c_X0_init_13_9 (c_X0_init_13_8 (c_X0_init_13_7 (c_X0_init_13_6 (c_X0_init_13_5 (c_X0_init_13_4 (c_X0_init_13_3 (c_X0_init_13_2 (c_X0_init_13_1 (c_X0_init_13_0 h)))))))))))))))))) 13 3 = some 29; rw [q_X0_init_13_17, q_X0_init_13_16, q_X0_init_13_15, q_X0_init_13_14, q_X0_init_13_13, q_X0_init_13_12, q_X0_init_13_11, q_X0_init_13_10, q_X0_init_13_9, q_X0_init_13_8, q_X0_init_13_7, q_X0_init_13_6, q_X0_init_13_5, q_X0_init_13_4, q_X0_init_13_3, q_X0_init_13_2, q_X0_init_13_1]; rfl) ?_
  refine t_X0_init_13_19 (h := (c_X0_init_13_18 (c_X0_init_13_17 (c_X0_init_13_16 (c_X0_init_13_15 (c_X0_init_13_14 (c_X0_init_13_13 (c_X0_init_13_12 (c_X0_init_13_11 (c_X0_init_13_10 (c_X0_init_13_9 (c_X0_init_13_8 (c_X0_init_13_7 (c_X0_init_13_6 (c_X0_init_13_5 (c_X0_init_13_4 (c_X0_init_13_3 (c_X0_init_13_2 (c_X0_init_13_1 (c_X0_init_13_0 h)))))))))))))))))))) hg hF hX (fun a ha => (b_X0_init_13_18 (by omega) (b_X0_init_13_17 (by omega) (b_X0_init_13_16 (by omega) (b_X0_init_13_15 (by omega) (b_X0_init_13_14 (by omega) (b_X0_init_13_13 (by omega) (b_X0_init_13_12 (by omega) (b_X0_init_13_11 (by omega) (b_X0_init_13_10 (by omega) (b_X0_init_13_9 (by omega) (b_X0_init_13_8 (by omega) (b_X0_init_13_7 (by omega) (b_X0_init_13_6 (by omega) (b_X0_init_13_5 (by omega) (b_X0_init_13_4 (by omega) (b_X0_init_13_3 (by omega) (b_X0_init_13_2 (by omega) (b_X0_init_13_1 (by omega) (b_X0_init_13_0 (by omega) (hB a (by omega)))))))))))))))))))))) (by show gR (c_X0_init_13_18 (c_X0_init_13_17 (c_X0_init_13_16 (c_X0_init_13_15 (c_X0_init_13_14 (c_X0_init_13_13 (c_X0_init_13_12 (c_X0_init_13_11 (c_X0_init_13_10 (c_X0_init_13_9 (c_X0_init_13_8 (c_X0_init_13_7 (c_X0_init_13_6 (c_X0_init_13_5 (c_X0_init_13_4 (c_X0_init_13_3 (c_X0_init_13_2 (c_X0_init_13_1 (c_X0_init_13_0 h))))))))))))))))))) 13 3 = some 29; rw [q_X0_init_13_18, q_X0_init_13_17, q_X0_init_13_16, q_X0_init_13_15, q_X0_init_13_14, q_X0_init_13_13, q_X0_init_13_12, q_X0_init_13_11, q_X0_init_13_10, q_X0_init_13_9, q_X0_init_13_8, q_X0_init_13_7, q_X0_init_13_6, q_X0_init_13_5, q_X0_init_13_4, q_X0_init_13_3, q_X0_init_13_2, q_X0_init_13_1]; rfl) ?_
  refine t_X0_init_13_20 (h := (c_X0_init_13_19 (c_X0_init_13_18 (c_X0_init_13_17 (c_X0_init_13_16 (c_X0_init_13_15 (c_X0_init_13_14 (c_X0_init_13_13 (c_X0_init_13_12 (c_X0_init_13_11 (c_X0_init_13_10 (c_X0_init_13_9 (c_X0_init_13_8 (c_X0_init_13_7 (c_X0_init_13_6 (c_X0_init_13_5 (c_X0_init_13_4 (c_X0_init_13_3 (c_X0_init_13_2 (c_X0_init_13_1 (c_X0_init_13_0 h))))))))))))))))))))) hg hF hX (fun a ha => (b_X0_init_13_19 (by omega) (b_X0_init_13_18 (by omega) (b_X0_init_13_17 (by omega) (b_X0_init_13_16 (by omega) (b_X0_init_13_15 (by omega) (b_X0_init_13_14 (by omega) (b_X0_init_13_13 (by omega) (b_X0_init_13_12 (by omega) (b_X0_init_13_11 (by omega) (b_X0_init_13_10 (by omega) (b_X0_init_13_9 (by omega) (b_X0_init_13_8 (by omega) (b_X0_init_13_7 (by omega) (b_X0_init_13_6 (by omega) (b_X0_init_13_5 (by omega) (b_X0_init_13_4 (by omega) (b_X0_init_13_3 (by omega) (b_X0_init_13_2 (by omega) (b_X0_init_13_1 (by omega) (b_X0_init_13_0 (by omega) (hB a (by omega))))))))))))))))))))))) (by show gR (c_X0_init_13_19 (c_X0_init_13_18 (c_X0_init_13_17 (c_X0_init_13_16 (c_X0_init_13_15 (c_X0_init_13_14 (c_X0_init_13_13 (c_X0_init_13_12 (c_X0_init_13_11 (c_X0_init_13_10 (c_X0_init_13_9 (c_X0_init_13_8 (c_X0_init_13_7 (c_X0_init_13_6 (c_X0_init_13_5 (c_X0_init_13_4 (c_X0_init_13_3 (c_X0_init_13_2 (c_X0_init_13_1 (c_X0_init_13_0 h)))))))))))))))))))) 13 3 = some 29; rw [q_X0_init_13_19, q_X0_init_13_18, q_X0_init_13_17, q_X0_init_13_16, q_X0_init_13_15, q_X0_init_13_14, q_X0_init_13_13, q_X0_init_13_12, q_X0_init_13_11, q_X0_init_13_10, q_X0_init_13_9, q_X0_init_13_8, q_X0_init_13_7, q_X0_init_13_6, q_X0_init_13_5, q_X0_init_13_4, q_X0_init_13_3, q_X0_init_13_2, q_X0_init_13_1]; rfl) ?_
  refine t_X0_init_13_21 (h := (c_X0_init_13_20 (c_X0_init_13_19 (c_X0_init_13_18 (c_X0_init_13_17 (c_X0_init_13_16 (c_X0_init_13_15 (c_X0_init_13_14 (c_X0_init_13_13 (c_X0_init_13_12 (c_X0_init_13_11 (c_X0_init_13_10 (c_X0_init_13_9 (c_X0_init_13_8 (c_X0_init_13_7 (c_X0_init_13_6 (c_X0_init_13_5 (c_X0_init_13_4 (c_X0_init_13_3 (c_X0_init_13_2 (c_X0_init_13_1 (c_X0_init_13_0 h)))))))))))))))))))))) hg hF hX (fun a ha => (b_X0_init_13_20 (by omega) (b_X0_init_13_19 (by omega) (b_X0_init_13_18 (by omega) (b_X0_init_13_17 (by omega) (b_X0_init_13_16 (by omega) (b_X0_init_13_15 (by omega) (b_X0_init_13_14 (by omega) (b_X0_init_13_13 (by omega) (b_X0_init_13_12 (by omega) (b_X0_init_13_11 (by omega) (b_X0_init_13_10 (by omega) (b_X0_init_13_9 (by omega) (b_X0_init_13_8 (by omega) (b_X0_init_13_7 (by omega) (b_X0_init_13_6 (by omega) (b_X0_init_13_5 (by omega) (b_X0_init_13_4 (by omega) (b_X0_init_13_3 (by omega) (b_X0_init_13_2 (by omega) (b_X0_init_13_1 (by omega) (b_X0_init_13_0 (by omega) (hB a (by omega)))))))))))))))))))))))) (by show gR (c_X0_init_13_20 (c_X0_init_13_19 (c_X0_init_13_18 (c_X0_init_13_17 (c_X0_init_13_16 (c_X0_init_13_15 (c_X0_init_13_14 (c_X0_init_13_13 (c_X0_init_13_12 (c_X0_init_13_11 (c_X0_init_13_10 (c_X0_init_13_9 (c_X0_init_13_8 (c_X0_init_13_7 (c_X0_init_13_6 (c_X0_init_13_5 (c_X0_init_13_4 (c_X0_init_13_3 (c_X0_init_13_2 (c_X0_init_13_1 (c_X0_init_13_0 h))))))))))))))))))))) 13 3 = some 29; rw [q_X0_init_13_20, q_X0_init_13_19, q_X0_init_13_18, q_X0_init_13_17, q_X0_init_13_16, q_X0_init_13_15, q_X0_init_13_14, q_X0_init_13_13, q_X0_init_13_12, q_X0_init_13_11, q_X0_init_13_10, q_X0_init_13_9, q_X0_init_13_8, q_X0_init_13_7, q_X0_init_13_6, q_X0_init_13_5, q_X0_init_13_4, q_X0_init_13_3, q_X0_init_13_2, q_X0_init_13_1]; rfl) ?_
  refine t_X0_init_13_22 (h := (c_X0_init_13_21 (c_X0_init_13_20 (c_X0_init_13_19 (c_X0_init_13_18 (c_X0_init_13_17 (c_X0_init_13_16 (c_X0_init_13_15 (c_X0_init_13_14 (c_X0_init_13_13 (c_X0_init_13_12 (c_X0_init_13_11 (c_X0_init_13_10 (c_X0_init_13_9 (c_X0_init_13_8 (c_X0_init_13_7 (c_X0_init_13_6 (c_X0_init_13_5 (c_X0_init_13_4 (c_X0_init_13_3 (c_X0_init_13_2 (c_X0_init_13_1 (c_X0_init_13_0 h))))))))))))))))))))))) hg hF hX (fun a ha => (b_X0_init_13_21 (by omega) (b_X0_init_13_20 (by omega) (b_X0_init_13_19 (by omega) (b_X0_init_13_18 (by omega) (b_X0_init_13_17 (by omega) (b_X0_init_13_16 (by omega) (b_X0_init_13_15 (by omega) (b_X0_init_13_14 (by omega) (b_X0_init_13_13 (by omega) (b_X0_init_13_12 (by omega) (b_X0_init_13_11 (by omega) (b_X0_init_13_10 (by omega) (b_X0_init_13_9 (by omega) (b_X0_init_13_8 (by omega) (b_X0_init_13_7 (by omega) (b_X0_init_13_6 (by omega) (b_X0_init_13_5 (by omega) (b_X0_init_13_4 (by omega) (b_X0_init_13_3 (by omega) (b_X0_init_13_2 (by omega) (b_X0_init_13_1 (by omega) (b_X0_init_13_0 (by omega) (hB a (by omega))))))))))))))))))))))))) (by show gR (c_X0_init_13_21 (c_X0_init_13_20 (c_X0_init_13_19 (c_X0_init_13_18 (c_X0_init_13_17 (c_X0_init_13_16 (c_X0_init_13_15 (c_X0_init_13_14 (c_X0_init_13_13 (c_X0_init_13_12 (c_X0_init_13_11 (c_X0_init_13_10 (c_X0_init_13_9 (c_X0_init_13_8 (c_X0_init_13_7 (c_X0_init_13_6 (c_X0_init_13_5 (c_X0_init_13_4 (c_X0_init_13_3 (c_X0_init_13_2 (c_X0_init_13_1 (c_X0_init_13_0 h)))))))))))))))))))))) 13 3 = some 29; rw [q_X0_init_13_21, q_X0_init_13_20, q_X0_init_13_19, q_X0_init_13_18, q_X0_init_13_17, q_X0_init_13_16, q_X0_init_13_15, q_X0_init_13_14, q_X0_init_13_13, q_X0_init_13_12, q_X0_init_13_11, q_X0_init_13_10, q_X0_init_13_9, q_X0_init_13_8, q_X0_init_13_7, q_X0_init_13_6, q_X0_init_13_5, q_X0_init_13_4, q_X0_init_13_3, q_X0_init_13_2, q_X0_init_13_1]; rfl) ?_
  refine t_X0_init_13_23 (h := (c_X0_init_13_22 (c_X0_init_13_21 (c_X0_init_13_20 (c_X0_init_13_19 (c_X0_init_13_18 (c_X0_init_13_17 (c_X0_init_13_16 (c_X0_init_13_15 (c_X0_init_13_14 (c_X0_init_13_13 (c_X0_init_13_12 (c_X0_init_13_11 (c_X0_init_13_10 (c_X0_init_13_9 (c_X0_init_13_8 (c_X0_init_13_7 (c_X0_init_13_6 (c_X0_init_13_5 (c_X0_init_13_4 (c_X0_init_13_3 (c_X0_init_13_2 (c_X0_init_13_1 (c_X0_init_13_0 h)))))))))))))))))))))))) hg hF hX (fun a ha => (b_X0_init_13_22 (by omega) (b_X0_init_13_21 (by omega) (b_X0_init_13_20 (by omega) (b_X0_init_13_19 (by omega) (b_X0_init_13_18 (by omega) (b_X0_init_13_17 (by omega) (b_X0_init_13_16 (by omega) (b_X0_init_13_15 (by omega) (b_X0_init_13_14 (by omega) (b_X0_init_13_13 (by omega) (b_X0_init_13_12 (by omega) (b_X0_init_13_11 (by omega) (b_X0_init_13_10 (by omega) (b_X0_init_13_9 (by omega) (b_X0_init_13_8 (by omega) (b_X0_init_13_7 (by omega) (b_X0_init_13_6 (by omega) (b_X0_init_13_5 (by omega) (b_X0_init_13_4 (by omega) (b_X0_init_13_3 (by omega) (b_X0_init_13_2 (by omega) (b_X0_init_13_1 (by omega) (b_X0_init_13_0 (by omega) (hB a (by omega)))))))))))))))))))))))))) (by show gR (c_X0_init_13_22 (c_X0_init_13_21 (c_X0_init_13_20 (c_X0_init_13_19 (c_X0_init_13_18 (c_X0_init_13_17 (c_X0_init_13_16 (c_X0_init_13_15 (c_X0_init_13_14 (c_X0_init_13_13 (c_X0_init_13_12 (c_X0_init_13_11 (c_X0_init_13_10 (c_X0_init_13_9 (c_X0_init_13_8 (c_X0_init_13_7 (c_X0_init_13_6 (c_X0_init_13_5 (c_X0_init_13_4 (c_X0_init_13_3 (c_X0_init_13_2 (c_X0_init_13_1 (c_X0_init_13_0 h))))))))))))))))))))))) 13 3 = some 29; rw [q_X0_init_13_22, q_X0_init_13_21, q_X0_init_13_20, q_X0_init_13_19, q_X0_init_13_18, q_X0_init_13_17, q_X0_init_13_16, q_X0_init_13_15, q_X0_init_13_14, q_X0_init_13_13, q_X0_init_13_12, q_X0_init_13_11, q_X0_init_13_10, q_X0_init_13_9, q_X0_init_13_8, q_X0_init_13_7, q_X0_init_13_6, q_X0_init_13_5, q_X0_init_13_4, q_X0_init_13_3, q_X0_init_13_2, q_X0_init_13_1]; rfl) ?_
  refine t_X0_init_13_24 (h := (c_X0_init_13_23 (c_X0_init_13_22 (c_X0_init_13_21 (c_X0_init_13_20 (c_X0_init_13_19 (c_X0_init_13_18 (c_X0_init_13_17 (c_X0_init_13_16 (c_X0_init_13_15 (c_X0_init_13_14 (c_X0_init_13_13 (c_X0_init_13_12 (c_X0_init_13_11 (c_X0_init_13_10 (c_X0_init_13_9 (c_X0_init_13_8 (c_X0_init_13_7 (c_X0_init_13_6 (c_X0_init_13_5 (c_X0_init_13_4 (c_X0_init_13_3 (c_X0_init_13_2 (c_X0_init_13_1 (c_X0_init_13_0 h))))))))))))))))))))))))) hg hF hX (fun a ha => (b_X0_init_13_23 (by omega) (b_X0_init_13_22 (by omega) (b_X0_init_13_21 (by omega) (b_X0_init_13_20 (by omega) (b_X0_init_13_19 (by omega) (b_X0_init_13_18 (by omega) (b_X0_init_13_17 (by omega) (b_X0_init_13_16 (by omega) (b_X0_init_13_15 (by omega) (b_X0_init_13_14 (by omega) (b_X0_init_13_13 (by omega) (b_X0_init_13_12 (by omega) (b_X0_init_13_11 (by omega) (b_X0_init_13_10 (by omega) (b_X0_init_13_9 (by omega) (b_X0_init_13_8 (by omega) (b_X0_init_13_7 (by omega) (b_X0_init_13_6 (by omega) (b_X0_init_13_5 (by omega) (b_X0_init_13_4 (by omega) (b_X0_init_13_3 (by omega) (b_X0_init_13_2 (by omega) (b_X0_init_13_1 (by omega) (b_X0_init_13_0 (by omega) (hB a (by omega))))))))))))))))))))))))))) (by show gR (c_X0_init_13_23 (c_X0_init_13_22 (c_X0_init_13_21 (c_X0_init_13_20 (c_X0_init_13_19 (c_X0_init_13_18 (c_X0_init_13_17 (c_X0_init_13_16 (c_X0_init_13_15 (c_X0_init_13_14 (c_X0_init_13_13 (c_X0_init_13_12 (c_X0_init_13_11 (c_X0_init_13_10 (c_X0_init_13_9 (c_X0_init_13_8 (c_X0_init_13_7 (c_X0_init_13_6 (c_X0_init_13_5 (c_X0_init_13_4 (c_X0_init_13_3 (c_X0_init_13_2 (c_X0_init_13_1 (c_X0_init_13_0 h)))))))))))))))))))))))) 13 3 = some 29; rw [q_X0_init_13_23, q_X0_init_13_22, q_X0_init_13_21, q_X0_init_13_20, q_X0_init_13_19, q_X0_init_13_18, q_X0_init_13_17, q_X0_init_13_16, q_X0_init_13_15, q_X0_init_13_14, q_X0_init_13_13, q_X0_init_13_12, q_X0_init_13_11, q_X0_init_13_10, q_X0_init_13_9, q_X0_init_13_8, q_X0_init_13_7, q_X0_init_13_6, q_X0_init_13_5, q_X0_init_13_4, q_X0_init_13_3, q_X0_init_13_2, q_X0_init_13_1]; rfl) ?_
  refine t_X0_init_13_25 (h := (c_X0_init_13_24 (c_X0_init_13_23 (c_X0_init_13_22 (c_X0_init_13_21 (c_X0_init_13_20 (c_X0_init_13_19 (c_X0_init_13_18 (c_X0_init_13_17 (c_X0_init_13_16 (c_X0_init_13_15 (c_X0_init_13_14 (c_X0_init_13_13 (c_X0_init_13_12 (c_X0_init_13_11 (c_X0_init_13_10 (c_X0_init_13_9 (c_X0_init_13_8 (c_X0_init_13_7 (c_X0_init_13_6 (c_X0_init_13_5 (c_X0_init_13_4 (c_X0_init_13_3 (c_X0_init_13_2 (c_X0_init_13_1 (c_X0_init_13_0 h)))))))))))))))))))))))))) hg hF hX (fun a ha => (b_X0_init_13_24 (by omega) (b_X0_init_13_23 (by omega) (b_X0_init_13_22 (by omega) (b_X0_init_13_21 (by omega) (b_X0_init_13_20 (by omega) (b_X0_init_13_19 (by omega) (b_X0_init_13_18 (by omega) (b_X0_init_13_17 (by omega) (b_X0_init_13_16 (by omega) (b_X0_init_13_15 (by omega) (b_X0_init_13_14 (by omega) (b_X0_init_13_13 (by omega) (b_X0_init_13_12 (by omega) (b_X0_init_13_11 (by omega) (b_X0_init_13_10 (by omega) (b_X0_init_13_9 (by omega) (b_X0_init_13_8 (by omega) (b_X0_init_13_7 (by omega) (b_X0_init_13_6 (by omega) (b_X0_init_13_5 (by omega) (b_X0_init_13_4 (by omega) (b_X0_init_13_3 (by omega) (b_X0_init_13_2 (by omega) (b_X0_init_13_1 (by omega) (b_X0_init_13_0 (by omega) (hB a (by omega)))))))))))))))))))))))))))) (by show gR (c_X0_init_13_24 (c_X0_init_13_23 (c_X0_init_13_22 (c_X0_init_13_21 (c_X0_init_13_20 (c_X0_init_13_19 (c_X0_init_13_18 (c_X0_init_13_17 (c_X0_init_13_16 (c_X0_init_13_15 (c_X0_init_13_14 (c_X0_init_13_13 (c_X0_init_13_12 (c_X0_init_13_11 (c_X0_init_13_10 (c_X0_init_13_9 (c_X0_init_13_8 (c_X0_init_13_7 (c_X0_init_13_6 (c_X0_init_13_5 (c_X0_init_13_4 (c_X0_init_13_3 (c_X0_init_13_2 (c_X0_init_13_1 (c_X0_init_13_0 h))))))))))))))))))))))))) 13 3 = some 29; rw [q_X0_init_13_24, q_X0_init_13_23, q_X0_init_13_22, q_X0_init_13_21, q_X0_init_13_20, q_X0_init_13_19, q_X0_init_13_18, q_X0_init_13_17, q_X0_init_13_16, q_X0_init_13_15, q_X0_init_13_14, q_X0_init_13_13, q_X0_init_13_12, q_X0_init_13_11, q_X0_init_13_10, q_X0_init_13_9, q_X0_init_13_8, q_X0_init_13_7, q_X0_init_13_6, q_X0_init_13_5, q_X0_init_13_4, q_X0_init_13_3, q_X0_init_13_2, q_X0_init_13_1]; rfl) ?_
  refine t_X0_init_13_26 (h := (c_X0_init_13_25 (c_X0_init_13_24 (c_X0_init_13_23 (c_X0_init_13_22 (c_X0_init_13_21 (c_X0_init_13_20 (c_X0_init_13_19 (c_X0_init_13_18 (c_X0_init_13_17 (c_X0_init_13_16 (c_X0_init_13_15 (c_X0_init_13_14 (c_X0_init_13_13 (c_X0_init_13_12 (c_X0_init_13_11 (c_X0_init_13_10 (c_X0_init_13_9 (c_X0_init_13_8 (c_X0_init_13_7 (c_X0_init_13_6 (c_X0_init_13_5 (c_X0_init_13_4 (c_X0_init_13_3 (c_X0_init_13_2 (c_X0_init_13_1 (c_X0_init_13_0 h))))))))))))))))))))))))))) hg hF hX (fun a ha => (b_X0_init_13_25 (by omega) (b_X0_init_13_24 (by omega) (b_X0_init_13_23 (by omega) (b_X0_init_13_22 (by omega) (b_X0_init_13_21 (by omega) (b_X0_init_13_20 (by omega) (b_X0_init_13_19 (by omega) (b_X0_init_13_18 (by omega) (b_X0_init_13_17 (by omega) (b_X0_init_13_16 (by omega) (b_X0_init_13_15 (by omega) (b_X0_init_13_14 (by omega) (b_X0_init_13_13 (by omega) (b_X0_init_13_12 (by omega) (b_X0_init_13_11 (by omega) (b_X0_init_13_10 (by omega) (b_X0_init_13_9 (by omega) (b_X0_init_13_8 (by omega) (b_X0_init_13_7 (by omega) (b_X0_init_13_6 (by omega) (b_X0_init_13_5 (by omega) (b_X0_init_13_4 (by omega) (b_X0_init_13_3 (by omega) (b_X0_init_13_2 (by omega) (b_X0_init_13_1 (by omega) (b_X0_init_13_0 (by omega) (hB a (by omega))))))))))))))))))))))))))))) (by show gR (c_X0_init_13_25 (c_X0_init_13_24 (c_X0_init_13_23 (c_X0_init_13_22 (c_X0_init_13_21 (c_X0_init_13_20 (c_X0_init_13_19 (c_X0_init_13_18 (c_X0_init_13_17 (c_X0_init_13_16 (c_X0_init_13_15 (c_X0_init_13_14 (c_X0_init_13_13 (c_X0_init_13_12 (c_X0_init_13_11 (c_X0_init_13_10 (c_X0_init_13_9 (c_X0_init_13_8 (c_X0_init_13_7 (c_X0_init_13_6 (c_X0_init_13_5 (c_X0_init_13_4 (c_X0_init_13_3 (c_X0_init_13_2 (c_X0_init_13_1 (c_X0_init_13_0 h)))))))))))))))))))))))))) 13 3 = some 29; rw [q_X0_init_13_25, q_X0_init_13_24, q_X0_init_13_23, q_X0_init_13_22, q_X0_init_13_21, q_X0_init_13_20, q_X0_init_13_19, q_X0_init_13_18, q_X0_init_13_17, q_X0_init_13_16, q_X0_init_13_15, q_X0_init_13_14, q_X0_init_13_13, q_X0_init_13_12, q_X0_init_13_11, q_X0_init_13_10, q_X0_init_13_9, q_X0_init_13_8, q_X0_init_13_7, q_X0_init_13_6, q_X0_init_13_5, q_X0_init_13_4, q_X0_init_13_3, q_X0_init_13_2, q_X0_init_13_1]; rfl) ?_
  refine t_X0_init_13_27 (h := (c_X0_init_13_26 (c_X0_init_13_25 (c_X0_init_13_24 (c_X0_init_13_23 (c_X0_init_13_22 (c_X0_init_13_21 (c_X0_init_13_20 (c_X0_init_13_19 (c_X0_init_13_18 (c_X0_init_13_17 (c_X0_init_13_16 (c_X0_init_13_15 (c_X0_init_13_14 (c_X0_init_13_13 (c_X0_init_13_12 (c_X0_init_13_11 (c_X0_init_13_10 (c_X0_init_13_9 (c_X0_init_13_8 (c_X0_init_13_7 (c_X0_init_13_6 (c_X0_init_13_5 (c_X0_init_13_4 (c_X0_init_13_3 (c_X0_init_13_2 (c_X0_init_13_1 (c_X0_init_13_0 h)))))))))))))))))))))))))))) hg hF hX (fun a ha => (b_X0_init_13_26 (by omega) (b_X0_init_13_25 (by omega) (b_X0_init_13_24 (by omega) (b_X0_init_13_23 (by omega) (b_X0_init_13_22 (by omega) (b_X0_init_13_21 (by omega) (b_X0_init_13_20 (by omega) (b_X0_init_13_19 (by omega) (b_X0_init_13_18 (by omega) (b_X0_init_13_17 (by omega) (b_X0_init_13_16 (by omega) (b_X0_init_13_15 (by omega) (b_X0_init_13_14 (by omega) (b_X0_init_13_13 (by omega) (b_X0_init_13_12 (by omega) (b_X0_init_13_11 (by omega) (b_X0_init_13_10 (by omega) (b_X0_init_13_9 (by omega) (b_X0_init_13_8 (by omega) (b_X0_init_13_7 (by omega) (b_X0_init_13_6 (by omega) (b_X0_init_13_5 (by omega) (b_X0_init_13_4 (by omega) (b_X0_init_13_3 (by omega) (b_X0_init_13_2 (by omega) (b_X0_init_13_1 (by omega) (b_X0_init_13_0 (by omega) (hB a (by omega)))))))))))))))))))))))))))))) (by show gR (c_X0_init_13_26 (c_X0_init_13_25 (c_X0_init_13_24 (c_X0_init_13_23 (c_X0_init_13_22 (c_X0_init_13_21 (c_X0_init_13_20 (c_X0_init_13_19 (c_X0_init_13_18 (c_X0_init_13_17 (c_X0_init_13_16 (c_X0_init_13_15 (c_X0_init_13_14 (c_X0_init_13_13 (c_X0_init_13_12 (c_X0_init_13_11 (c_X0_init_13_10 (c_X0_init_13_9 (c_X0_init_13_8 (c_X0_init_13_7 (c_X0_init_13_6 (c_X0_init_13_5 (c_X0_init_13_4 (c_X0_init_13_3 (c_X0_init_13_2 (c_X0_init_13_1 (c_X0_init_13_0 h))))))))))))))))))))))))))) 13 3 = some 29; rw [q_X0_init_13_26, q_X0_init_13_25, q_X0_init_13_24, q_X0_init_13_23, q_X0_init_13_22, q_X0_init_13_21, q_X0_init_13_20, q_X0_init_13_19, q_X0_init_13_18, q_X0_init_13_17, q_X0_init_13_16, q_X0_init_13_15, q_X0_init_13_14, q_X0_init_13_13, q_X0_init_13_12, q_X0_init_13_11, q_X0_init_13_10, q_X0_init_13_9, q_X0_init_13_8, q_X0_init_13_7, q_X0_init_13_6, q_X0_init_13_5, q_X0_init_13_4, q_X0_init_13_3, q_X0_init_13_2, q_X0_init_13_1]; rfl) ?_
  refine t_X0_init_13_28 (h := (c_X0_init_13_27 (c_X0_init_13_26 (c_X0_init_13_25 (c_X0_init_13_24 (c_X0_init_13_23 (c_X0_init_13_22 (c_X0_init_13_21 (c_X0_init_13_20 (c_X0_init_13_19 (c_X0_init_13_18 (c_X0_init_13_17 (c_X0_init_13_16 (c_X0_init_13_15 (c_X0_init_13_14 (c_X0_init_13_13 (c_X0_init_13_12 (c_X0_init_13_11 (c_X0_init_13_10 (c_X0_init_13_9 (c_X0_init_13_8 (c_X0_init_13_7 (c_X0_init_13_6 (c_X0_init_13_5 (c_X0_init_13_4 (c_X0_init_13_3 (c_X0_init_13_2 (c_X0_init_13_1 (c_X0_init_13_0 h))))))))))))))))))))))))))))) hg hF hX (fun a ha => (b_X0_init_13_27 (by omega) (b_X0_init_13_26 (by omega) (b_X0_init_13_25 (by omega) (b_X0_init_13_24 (by omega) (b_X0_init_13_23 (by omega) (b_X0_init_13_22 (by omega) (b_X0_init_13_21 (by omega) (b_X0_init_13_20 (by omega) (b_X0_init_13_19 (by omega) (b_X0_init_13_18 (by omega) (b_X0_init_13_17 (by omega) (b_X0_init_13_16 (by omega) (b_X0_init_13_15 (by omega) (b_X0_init_13_14 (by omega) (b_X0_init_13_13 (by omega) (b_X0_init_13_12 (by omega) (b_X0_init_13_11 (by omega) (b_X0_init_13_10 (by omega) (b_X0_init_13_9 (by omega) (b_X0_init_13_8 (by omega) (b_X0_init_13_7 (by omega) (b_X0_init_13_6 (by omega) (b_X0_init_13_5 (by omega) (b_X0_init_13_4 (by omega) (b_X0_init_13_3 (by omega) (b_X0_init_13_2 (by omega) (b_X0_init_13_1 (by omega) (b_X0_init_13_0 (by omega) (hB a (by omega))))))))))))))))))))))))))))))) (by show gR (c_X0_init_13_27 (c_X0_init_13_26 (c_X0_init_13_25 (c_X0_init_13_24 (c_X0_init_13_23 (c_X0_init_13_22 (c_X0_init_13_21 (c_X0_init_13_20 (c_X0_init_13_19 (c_X0_init_13_18 (c_X0_init_13_17 (c_X0_init_13_16 (c_X0_init_13_15 (c_X0_init_13_14 (c_X0_init_13_13 (c_X0_init_13_12 (c_X0_init_13_11 (c_X0_init_13_10 (c_X0_init_13_9 (c_X0_init_13_8 (c_X0_init_13_7 (c_X0_init_13_6 (c_X0_init_13_5 (c_X0_init_13_4 (c_X0_init_13_3 (c_X0_init_13_2 (c_X0_init_13_1 (c_X0_init_13_0 h)))))))))))))))))))))))))))) 13 3 = some 29; rw [q_X0_init_13_27, q_X0_init_13_26, q_X0_init_13_25, q_X0_init_13_24, q_X0_init_13_23, q_X0_init_13_22, q_X0_init_13_21, q_X0_init_13_20, q_X0_init_13_19, q_X0_init_13_18, q_X0_init_13_17, q_X0_init_13_16, q_X0_init_13_15, q_X0_init_13_14, q_X0_init_13_13, q_X0_init_13_12, q_X0_init_13_11, q_X0_init_13_10, q_X0_init_13_9, q_X0_init_13_8, q_X0_init_13_7, q_X0_init_13_6, q_X0_init_13_5, q_X0_init_13_4, q_X0_init_13_3, q_X0_init_13_2, q_X0_init_13_1]; rfl) ?_
  refine t_X0_init_13_29 (h := (c_X0_init_13_28 (c_X0_init_13_27 (c_X0_init_13_26 (c_X0_init_13_25 (c_X0_init_13_24 (c_X0_init_13_23 (c_X0_init_13_22 (c_X0_init_13_21 (c_X0_init_13_20 (c_X0_init_13_19 (c_X0_init_13_18 (c_X0_init_13_17 (c_X0_init_13_16 (c_X0_init_13_15 (c_X0_init_13_14 (c_X0_init_13_13 (c_X0_init_13_12 (c_X0_init_13_11 (c_X0_init_13_10 (c_X0_init_13_9 (c_X0_init_13_8 (c_X0_init_13_7 (c_X0_init_13_6 (c_X0_init_13_5 (c_X0_init_13_4 (c_X0_init_13_3 (c_X0_init_13_2 (c_X0_init_13_1 (c_X0_init_13_0 h)))))))))))))))))))))))))))))) hg hF hX (fun a ha => (b_X0_init_13_28 (by omega) (b_X0_init_13_27 (by omega) (b_X0_init_13_26 (by omega) (b_X0_init_13_25 (by omega) (b_X0_init_13_24 (by omega) (b_X0_init_13_23 (by omega) (b_X0_init_13_22 (by omega) (b_X0_init_13_21 (by omega) (b_X0_init_13_20 (by omega) (b_X0_init_13_19 (by omega) (b_X0_init_13_18 (by omega) (b_X0_init_13_17 (by omega) (b_X0_init_13_16 (by omega) (b_X0_init_13_15 (by omega) (b_X0_init_13_14 (by omega) (b_X0_init_13_13 (by omega) (b_X0_init_13_12 (by omega) (b_X0_init_13_11 (by omega) (b_X0_init_13_10 (by omega) (b_X0_init_13_9 (by omega) (b_X0_init_13_8 (by omega) (b_X0_init_13_7 (by omega) (b_X0_init_13_6 (by omega) (b_X0_init_13_5 (by omega) (b_X0_init_13_4 (by omega) (b_X0_init_13_3 (by omega) (b_X0_init_13_2 (by omega) (b_X0_init_13_1 (by omega) (b_X0_init_13_0 (by omega) (hB a (by omega)))))))))))))))))))))))))))))))) (by show gR (c_X0_init_13_28 (c_X0_init_13_27 (c_X0_init_13_26 (c_X0_init_13_25 (c_X0_init_13_24 (c_X0_init_13_23 (c_X0_init_13_22 (c_X0_init_13_21 (c_X0_init_13_20 (c_X0_init_13_19 (c_X0_init_13_18 (c_X0_init_13_17 (c_X0_init_13_16 (c_X0_init_13_15 (c_X0_init_13_14 (c_X0_init_13_13 (c_X0_init_13_12 (c_X0_init_13_11 (c_X0_init_13_10 (c_X0_init_13_9 (c_X0_init_13_8 (c_X0_init_13_7 (c_X0_init_13_6 (c_X0_init_13_5 (c_X0_init_13_4 (c_X0_init_13_3 (c_X0_init_13_2 (c_X0_init_13_1 (c_X0_init_13_0 h))))))))))))))))))))))))))))) 13 3 = some 29; rw [q_X0_init_13_28, q_X0_init_13_27, q_X0_init_13_26, q_X0_init_13_25, q_X0_init_13_24, q_X0_init_13_23, q_X0_init_13_22, q_X0_init_13_21, q_X0_init_13_20, q_X0_init_13_19, q_X0_init_13_18, q_X0_init_13_17, q_X0_init_13_16, q_X0_init_13_15, q_X0_init_13_14, q_X0_init_13_13, q_X0_init_13_12, q_X0_init_13_11, q_X0_init_13_10, q_X0_init_13_9, q_X0_init_13_8, q_X0_init_13_7, q_X0_init_13_6, q_X0_init_13_5, q_X0_init_13_4, q_X0_init_13_3, q_X0_init_13_2, q_X0_init_13_1]; rfl) ?_
  refine t_X0_init_13_30 (h := (c_X0_init_13_29 (c_X0_init_13_28 (c_X0_init_13_27 (c_X0_init_13_26 (c_X0_init_13_25 (c_X0_init_13_24 (c_X0_init_13_23 (c_X0_init_13_22 (c_X0_init_13_21 (c_X0_init_13_20 (c_X0_init_13_19 (c_X0_init_13_18 (c_X0_init_13_17 (c_X0_init_13_16 (c_X0_init_13_15 (c_X0_init_13_14 (c_X0_init_13_13 (c_X0_init_13_12 (c_X0_init_13_11 (c_X0_init_13_10 (c_X0_init_13_9 (c_X0_init_13_8 (c_X0_init_13_7 (c_X0_init_13_6 (c_X0_init_13_5 (c_X0_init_13_4 (c_X0_init_13_3 (c_X0_init_13_2 (c_X0_init_13_1 (c_X0_init_13_0 h))))))))))))))))))))))))))))))) hg hF hX (fun a ha => (b_X0_init_13_29 (by omega) (b_X0_init_13_28 (by omega) (b_X0_init_13_27 (by omega) (b_X0_init_13_26 (by omega) (b_X0_init_13_25 (by omega) (b_X0_init_13_24 (by omega) (b_X0_init_13_23 (by omega) (b_X0_init_13_22 (by omega) (b_X0_init_13_21 (by omega) (b_X0_init_13_20 (by omega) (b_X0_init_13_19 (by omega) (b_X0_init_13_18 (by omega) (b_X0_init_13_17 (by omega) (b_X0_init_13_16 (by omega) (b_X0_init_13_15 (by omega) (b_X0_init_13_14 (by omega) (b_X0_init_13_13 (by omega) (b_X0_init_13_12 (by omega) (b_X0_init_13_11 (by omega) (b_X0_init_13_10 (by omega) (b_X0_init_13_9 (by omega) (b_X0_init_13_8 (by omega) (b_X0_init_13_7 (by omega) (b_X0_init_13_6 (by omega) (b_X0_init_13_5 (by omega) (b_X0_init_13_4 (by omega) (b_X0_init_13_3 (by omega) (b_X0_init_13_2 (by omega) (b_X0_init_13_1 (by omega) (b_X0_init_13_0 (by omega) (hB a (by omega))))))))))))))))))))))))))))))))) (by show gR (c_X0_init_13_29 (c_X0_init_13_28 (c_X0_init_13_27 (c_X0_init_13_26 (c_X0_init_13_25 (c_X0_init_13_24 (c_X0_init_13_23 (c_X0_init_13_22 (c_X0_init_13_21 (c_X0_init_13_20 (c_X0_init_13_19 (c_X0_init_13_18 (c_X0_init_13_17 (c_X0_init_13_16 (c_X0_init_13_15 (c_X0_init_13_14 (c_X0_init_13_13 (c_X0_init_13_12 (c_X0_init_13_11 (c_X0_init_13_10 (c_X0_init_13_9 (c_X0_init_13_8 (c_X0_init_13_7 (c_X0_init_13_6 (c_X0_init_13_5 (c_X0_init_13_4 (c_X0_init_13_3 (c_X0_init_13_2 (c_X0_init_13_1 (c_X0_init_13_0 h)))))))))))))))))))))))))))))) 13 3 = some 29; rw [q_X0_init_13_29, q_X0_init_13_28, q_X0_init_13_27, q_X0_init_13_26, q_X0_init_13_25, q_X0_init_13_24, q_X0_init_13_23, q_X0_init_13_22, q_X0_init_13_21, q_X0_init_13_20, q_X0_init_13_19, q_X0_init_13_18, q_X0_init_13_17, q_X0_init_13_16, q_X0_init_13_15, q_X0_init_13_14, q_X0_init_13_13, q_X0_init_13_12, q_X0_init_13_11, q_X0_init_13_10, q_X0_init_13_9, q_X0_init_13_8, q_X0_init_13_7, q_X0_init_13_6, q_X0_init_13_5, q_X0_init_13_4, q_X0_init_13_3, q_X0_init_13_2, q_X0_init_13_1]; rfl) ?_
  refine aw_iload_n hX (i := 1) rfl rfl d_X0_init_54 ?_
  refine aw_aload_n hX (i := 0) rfl rfl d_X0_init_55 ?_
  refine aw_getD hX hF (a := 13) (ci := 0) (k := 3) rfl (by decide) rfl rfl we_20 rfl d_X0_init_56 ?_
  rw [show gR (c_X0_init_13_30 (c_X0_init_13_29 (c_X0_init_13_28 (c_X0_init_13_27 (c_X0_init_13_26 (c_X0_init_13_25 (c_X0_init_13_24 (c_X0_init_13_23 (c_X0_init_13_22 (c_X0_init_13_21 (c_X0_init_13_20 (c_X0_init_13_19 (c_X0_init_13_18 (c_X0_init_13_17 (c_X0_init_13_16 (c_X0_init_13_15 (c_X0_init_13_14 (c_X0_init_13_13 (c_X0_init_13_12 (c_X0_init_13_11 (c_X0_init_13_10 (c_X0_init_13_9 (c_X0_init_13_8 (c_X0_init_13_7 (c_X0_init_13_6 (c_X0_init_13_5 (c_X0_init_13_4 (c_X0_init_13_3 (c_X0_init_13_2 (c_X0_init_13_1 (c_X0_init_13_0 h))))))))))))))))))))))))))))))) 13 3 = some 29 from (by show gR (c_X0_init_13_30 (c_X0_init_13_29 (c_X0_init_13_28 (c_X0_init_13_27 (c_X0_init_13_26 (c_X0_init_13_25 (c_X0_init_13_24 (c_X0_init_13_23 (c_X0_init_13_22 (c_X0_init_13_21 (c_X0_init_13_20 (c_X0_init_13_19 (c_X0_init_13_18 (c_X0_init_13_17 (c_X0_init_13_16 (c_X0_init_13_15 (c_X0_init_13_14 (c_X0_init_13_13 (c_X0_init_13_12 (c_X0_init_13_11 (c_X0_init_13_10 (c_X0_init_13_9 (c_X0_init_13_8 (c_X0_init_13_7 (c_X0_init_13_6 (c_X0_init_13_5 (c_X0_init_13_4 (c_X0_init_13_3 (c_X0_init_13_2 (c_X0_init_13_1 (c_X0_init_13_0 h))))))))))))))))))))))))))))))) 13 3 = some 29; rw [q_X0_init_13_30, q_X0_init_13_29, q_X0_init_13_28, q_X0_init_13_27, q_X0_init_13_26, q_X0_init_13_25, q_X0_init_13_24, q_X0_init_13_23, q_X0_init_13_22, q_X0_init_13_21, q_X0_init_13_20, q_X0_init_13_19, q_X0_init_13_18, q_X0_init_13_17, q_X0_init_13_16, q_X0_init_13_15, q_X0_init_13_14, q_X0_init_13_13, q_X0_init_13_12, q_X0_init_13_11, q_X0_init_13_10, q_X0_init_13_9, q_X0_init_13_8, q_X0_init_13_7, q_X0_init_13_6, q_X0_init_13_5, q_X0_init_13_4, q_X0_init_13_3, q_X0_init_13_2, q_X0_init_13_1]; rfl)]
  refine aw_alen hX (a := 29) (t := 4) (N := 30) rfl (by decide) (by decide) d_X0_init_59 ?_
  refine aw_icmp_ge (t := 85) hX (by decide) d_X0_init_60 (fun c => ?_) (fun c => absurd (by decide) c)
  exact aw_return hX (by decide) (by decide) d_X0_init_85)
