/-! constructors in a straight line, by program (ctor.py) -/
theorem bk_R {h : AH} {a k b : Nat} {v : Option Nat} (hb : b ≠ a) (h0 : Blank h b) : Blank (sR h a k v) b := ⟨h0.1, h0.2.1, fun j => by show up2 h.2.2 a k v b j = none; rw [up2_row hb]; exact h0.2.2 j⟩
theorem bk_I {h : AH} {a k b : Nat} {v : Int32} (hb : b ≠ a) (h0 : Blank h b) : Blank (sI h a k v) b := ⟨fun j => by show up2 h.1 a k v b j = 0; rw [up2_row hb]; exact h0.1 j, h0.2.1, h0.2.2⟩
theorem wc_0 : (Cond.methodLink RX7 3 Lib.objectInit) ∈ W0 := wt1 _ (List.mem_of_getElem? (i := 41) rfl) rfl
theorem wc_1 : (Cond.instanceMethod Lib.objectInit) ∈ W0 := wt1 _ (List.mem_of_getElem? (i := 28) rfl) rfl
theorem wc_2 : (Cond.code Lib.objectInit ⟨#[0xb1]⟩ 1 none) ∈ W0 := wt1 _ (List.mem_of_getElem? (i := 29) rfl) rfl
theorem wc_3 : (Cond.arrayClass .int) ∈ W0 := wt1 _ (List.mem_of_getElem? (i := 51) rfl) rfl
theorem wc_4 : (Cond.fieldLink RX7 9 (clT 7 0).1 (clT 7 0).2.1 (clT 7 0).2.2.1) ∈ W0 := wt1 _ (List.mem_of_getElem? (i := 42) rfl) rfl
theorem wc_5 : (Cond.methodLink RX1 3 Lib.objectInit) ∈ W0 := wt2 _ (List.mem_of_getElem? (i := 19) rfl) rfl
theorem wc_6 : (Cond.arrayClass .long) ∈ W0 := wt1 _ (List.mem_of_getElem? (i := 230) rfl) rfl
theorem wc_7 : (Cond.fieldLink RX1 9 (clT 1 0).1 (clT 1 0).2.1 (clT 1 0).2.2.1) ∈ W0 := wt2 _ (List.mem_of_getElem? (i := 20) rfl) rfl
theorem wc_8 : (Cond.fieldLink RX1 15 (clT 1 3).1 (clT 1 3).2.1 (clT 1 3).2.2.1) ∈ W0 := wt2 _ (List.mem_of_getElem? (i := 23) rfl) rfl
theorem wc_9 : (Cond.fieldLink RX1 19 (clT 1 4).1 (clT 1 4).2.1 (clT 1 4).2.2.1) ∈ W0 := wt2 _ (List.mem_of_getElem? (i := 24) rfl) rfl
theorem wc_10 : (Cond.methodLink RX5 3 Lib.objectInit) ∈ W0 := wt2 _ (List.mem_of_getElem? (i := 41) rfl) rfl
theorem wc_11 : (Cond.fieldLink RX5 9 (clT 5 0).1 (clT 5 0).2.1 (clT 5 0).2.2.1) ∈ W0 := wt2 _ (List.mem_of_getElem? (i := 42) rfl) rfl
theorem wc_12 : (Cond.fieldLink RX5 15 (clT 5 1).1 (clT 5 1).2.1 (clT 5 1).2.2.1) ∈ W0 := wt2 _ (List.mem_of_getElem? (i := 43) rfl) rfl
theorem wc_13 : (Cond.fieldLink RX5 18 (clT 5 2).1 (clT 5 2).2.1 (clT 5 2).2.2.1) ∈ W0 := wt2 _ (List.mem_of_getElem? (i := 44) rfl) rfl
theorem wc_14 : (Cond.fieldLink RX5 21 (clT 5 3).1 (clT 5 3).2.1 (clT 5 3).2.2.1) ∈ W0 := wt2 _ (List.mem_of_getElem? (i := 45) rfl) rfl
theorem wc_15 : (Cond.methodLink RX6 3 Lib.objectInit) ∈ W0 := wt2 _ (List.mem_of_getElem? (i := 77) rfl) rfl
theorem wc_16 : (Cond.fieldLink RX6 9 (clT 6 2).1 (clT 6 2).2.1 (clT 6 2).2.2.1) ∈ W0 := wt2 _ (List.mem_of_getElem? (i := 82) rfl) rfl
theorem wc_17 : (Cond.fieldLink RX6 15 (clT 6 3).1 (clT 6 3).2.1 (clT 6 3).2.2.1) ∈ W0 := wt2 _ (List.mem_of_getElem? (i := 84) rfl) rfl
theorem wc_18 : (Cond.fieldLink RX6 18 (clT 6 4).1 (clT 6 4).2.1 (clT 6 4).2.2.1) ∈ W0 := wt2 _ (List.mem_of_getElem? (i := 85) rfl) rfl
theorem wc_19 : (Cond.methodLink RX4 3 Lib.objectInit) ∈ W0 := wt2 _ (List.mem_of_getElem? (i := 108) rfl) rfl
theorem wc_20 : (Cond.fieldLink RX4 9 (clT 4 3).1 (clT 4 3).2.1 (clT 4 3).2.2.1) ∈ W0 := wt2 _ (List.mem_of_getElem? (i := 114) rfl) rfl
theorem wc_21 : (Cond.fieldLink RX4 15 (clT 4 4).1 (clT 4 4).2.1 (clT 4 4).2.2.1) ∈ W0 := wt2 _ (List.mem_of_getElem? (i := 115) rfl) rfl
theorem wc_22 : (Cond.fieldLink RX4 18 (clT 4 5).1 (clT 4 5).2.1 (clT 4 5).2.2.1) ∈ W0 := wt2 _ (List.mem_of_getElem? (i := 116) rfl) rfl
theorem d_X7_init_0 : decode cX7_init 0 = .ok (.aload_n 0, 1) := by decide +kernel
theorem d_X7_init_1 : decode cX7_init 1 = .ok (.invokespecial 3, 3) := by decide +kernel
theorem d_X7_init_4 : decode cX7_init 4 = .ok (.aload_n 0, 1) := by decide +kernel
theorem d_X7_init_5 : decode cX7_init 5 = .ok (.sipush 700, 3) := by decide +kernel
theorem d_X7_init_8 : decode cX7_init 8 = .ok (.newarray .int, 2) := by decide +kernel
theorem d_X7_init_10 : decode cX7_init 10 = .ok (.putfield 9, 3) := by decide +kernel
theorem d_X7_init_13 : decode cX7_init 13 = .ok (.return_, 1) := by decide +kernel
def c_X7_init_2 (h : AH) : AH := (sR h 2 0 (some 3))
theorem k_X7_init_2 {g : GP} (hg : g.1.stackTraces = false) (hF : gF g = false) {h : AH} (hB : ∀ a, 2 < a → Blank h a) : Ctr g yX7_init (wsY yX7_init cX7_init 1 none) 1 1 700 [.ref 2] 3 true h none 4 true (c_X7_init_2 h) := ctr_of (lv0 := [.ref 2]) rfl rfl (by decide) hg trivial (fun X hX hn => by
  replace hX : Cx g RX7 cX7_init 1 1 700 none [] X := hX
  replace hn : X.meth.name = "<init>" := hn
  refine aw_aload_n hX (i := 0) rfl rfl d_X7_init_0 ?_
  refine aw_objI hX wc_0 wc_1 wc_2 (by decide) (by decide) d_X7_init_1 ?_
  refine aw_aload_n hX (i := 0) rfl rfl d_X7_init_4 ?_
  refine aw_sipush (v := 700) hX (by decide) d_X7_init_5 ?_
  refine aw_newI hX (N := 700) rfl (hB 3 (by decide)) (by decide) (by decide) (by decide) (by decide) wc_3 (by decide) (by decide) d_X7_init_8 ?_
  refine aw_putFR hX hn hF (ci := 7) (k := 0) (ty := (.array .int)) rfl (by decide) (by decide) rfl rfl wc_4 rfl rfl (by decide +kernel) (fun x => rfl) (fun x => rfl) rfl d_X7_init_10 ?_
  exact aw_return hX (by decide) (by decide) d_X7_init_13)
theorem d_X1_init_0 : decode cX1_init 0 = .ok (.aload_n 0, 1) := by decide +kernel
theorem d_X1_init_1 : decode cX1_init 1 = .ok (.invokespecial 3, 3) := by decide +kernel
theorem d_X1_init_4 : decode cX1_init 4 = .ok (.aload_n 0, 1) := by decide +kernel
theorem d_X1_init_5 : decode cX1_init 5 = .ok (.sipush 401, 3) := by decide +kernel
theorem d_X1_init_8 : decode cX1_init 8 = .ok (.newarray .long, 2) := by decide +kernel
theorem d_X1_init_10 : decode cX1_init 10 = .ok (.putfield 9, 3) := by decide +kernel
theorem d_X1_init_13 : decode cX1_init 13 = .ok (.aload_n 0, 1) := by decide +kernel
theorem d_X1_init_14 : decode cX1_init 14 = .ok (.sipush 2406, 3) := by decide +kernel
theorem d_X1_init_17 : decode cX1_init 17 = .ok (.newarray .int, 2) := by decide +kernel
theorem d_X1_init_19 : decode cX1_init 19 = .ok (.putfield 15, 3) := by decide +kernel
theorem d_X1_init_22 : decode cX1_init 22 = .ok (.aload_n 0, 1) := by decide +kernel
theorem d_X1_init_23 : decode cX1_init 23 = .ok (.bipush 6, 2) := by decide +kernel
theorem d_X1_init_25 : decode cX1_init 25 = .ok (.newarray .int, 2) := by decide +kernel
theorem d_X1_init_27 : decode cX1_init 27 = .ok (.putfield 19, 3) := by decide +kernel
theorem d_X1_init_30 : decode cX1_init 30 = .ok (.return_, 1) := by decide +kernel
def c_X1_init_211 (h : AH) : AH := (sR (sR (sR h 211 0 (some 212)) 211 3 (some 213)) 211 4 (some 214))
theorem k_X1_init_211 {g : GP} (hg : g.1.stackTraces = false) (hF : gF g = false) {h : AH} (hB : ∀ a, 211 < a → Blank h a) : Ctr g yX1_init (wsY yX1_init cX1_init 1 none) 1 3 2813 [.ref 211] 212 true h none 215 true (c_X1_init_211 h) := ctr_of (lv0 := [.ref 211]) rfl rfl (by decide) hg trivial (fun X hX hn => by
  replace hX : Cx g RX1 cX1_init 1 3 2813 none [] X := hX
  replace hn : X.meth.name = "<init>" := hn
  refine aw_aload_n hX (i := 0) rfl rfl d_X1_init_0 ?_
  refine aw_objI hX wc_5 wc_1 wc_2 (by decide) (by decide) d_X1_init_1 ?_
  refine aw_aload_n hX (i := 0) rfl rfl d_X1_init_4 ?_
  refine aw_sipush (v := 401) hX (by decide) d_X1_init_5 ?_
  refine aw_newL hX (N := 401) rfl (hB 212 (by decide)) (by decide) (by decide) (by decide) (by decide) wc_6 (by decide) (by decide) d_X1_init_8 ?_
  refine aw_putFR hX hn hF (ci := 1) (k := 0) (ty := (.array .long)) rfl (by decide) (by decide) rfl rfl wc_7 rfl rfl (by decide +kernel) (fun x => rfl) (fun x => rfl) rfl d_X1_init_10 ?_
  refine aw_aload_n hX (i := 0) rfl rfl d_X1_init_13 ?_
  refine aw_sipush (v := 2406) hX (by decide) d_X1_init_14 ?_
  refine aw_newI hX (N := 2406) rfl (bk_R (by decide) (hB 213 (by decide))) (by decide) (by decide) (by decide) (by decide) wc_3 (by decide) (by decide) d_X1_init_17 ?_
  refine aw_putFR hX hn hF (ci := 1) (k := 3) (ty := (.array .int)) rfl (by decide) (by decide) rfl rfl wc_8 rfl rfl (by decide +kernel) (fun x => rfl) (fun x => rfl) rfl d_X1_init_19 ?_
  refine aw_aload_n hX (i := 0) rfl rfl d_X1_init_22 ?_
  refine aw_bipush (v := 6) hX (by decide) d_X1_init_23 ?_
  refine aw_newI hX (N := 6) rfl (bk_R (by decide) (bk_R (by decide) (hB 214 (by decide)))) (by decide) (by decide) (by decide) (by decide) wc_3 (by decide) (by decide) d_X1_init_25 ?_
  refine aw_putFR hX hn hF (ci := 1) (k := 4) (ty := (.array .int)) rfl (by decide) (by decide) rfl rfl wc_9 rfl rfl (by decide +kernel) (fun x => rfl) (fun x => rfl) rfl d_X1_init_27 ?_
  exact aw_return hX (by decide) (by decide) d_X1_init_30)
theorem d_X5_init_0 : decode cX5_init 0 = .ok (.aload_n 0, 1) := by decide +kernel
theorem d_X5_init_1 : decode cX5_init 1 = .ok (.invokespecial 3, 3) := by decide +kernel
theorem d_X5_init_4 : decode cX5_init 4 = .ok (.aload_n 0, 1) := by decide +kernel
theorem d_X5_init_5 : decode cX5_init 5 = .ok (.iconst 5, 1) := by decide +kernel
theorem d_X5_init_6 : decode cX5_init 6 = .ok (.newarray .int, 2) := by decide +kernel
theorem d_X5_init_8 : decode cX5_init 8 = .ok (.putfield 9, 3) := by decide +kernel
theorem d_X5_init_11 : decode cX5_init 11 = .ok (.aload_n 0, 1) := by decide +kernel
theorem d_X5_init_12 : decode cX5_init 12 = .ok (.bipush 6, 2) := by decide +kernel
theorem d_X5_init_14 : decode cX5_init 14 = .ok (.newarray .int, 2) := by decide +kernel
theorem d_X5_init_16 : decode cX5_init 16 = .ok (.putfield 15, 3) := by decide +kernel
theorem d_X5_init_19 : decode cX5_init 19 = .ok (.aload_n 0, 1) := by decide +kernel
theorem d_X5_init_20 : decode cX5_init 20 = .ok (.bipush 16, 2) := by decide +kernel
theorem d_X5_init_22 : decode cX5_init 22 = .ok (.newarray .int, 2) := by decide +kernel
theorem d_X5_init_24 : decode cX5_init 24 = .ok (.putfield 18, 3) := by decide +kernel
theorem d_X5_init_27 : decode cX5_init 27 = .ok (.aload_n 0, 1) := by decide +kernel
theorem d_X5_init_28 : decode cX5_init 28 = .ok (.iconst 5, 1) := by decide +kernel
theorem d_X5_init_29 : decode cX5_init 29 = .ok (.newarray .long, 2) := by decide +kernel
theorem d_X5_init_31 : decode cX5_init 31 = .ok (.putfield 21, 3) := by decide +kernel
theorem d_X5_init_34 : decode cX5_init 34 = .ok (.return_, 1) := by decide +kernel
def c_X5_init_215 (h : AH) : AH := (sR (sR (sR (sR h 215 0 (some 216)) 215 1 (some 217)) 215 2 (some 218)) 215 3 (some 219))
theorem k_X5_init_215 {g : GP} (hg : g.1.stackTraces = false) (hF : gF g = false) {h : AH} (hB : ∀ a, 215 < a → Blank h a) : Ctr g yX5_init (wsY yX5_init cX5_init 1 none) 1 4 32 [.ref 215] 216 true h none 220 true (c_X5_init_215 h) := ctr_of (lv0 := [.ref 215]) rfl rfl (by decide) hg trivial (fun X hX hn => by
  replace hX : Cx g RX5 cX5_init 1 4 32 none [] X := hX
  replace hn : X.meth.name = "<init>" := hn
  refine aw_aload_n hX (i := 0) rfl rfl d_X5_init_0 ?_
  refine aw_objI hX wc_10 wc_1 wc_2 (by decide) (by decide) d_X5_init_1 ?_
  refine aw_aload_n hX (i := 0) rfl rfl d_X5_init_4 ?_
  refine aw_iconst (v := 5) hX (by decide) d_X5_init_5 ?_
  refine aw_newI hX (N := 5) rfl (hB 216 (by decide)) (by decide) (by decide) (by decide) (by decide) wc_3 (by decide) (by decide) d_X5_init_6 ?_
  refine aw_putFR hX hn hF (ci := 5) (k := 0) (ty := (.array .int)) rfl (by decide) (by decide) rfl rfl wc_11 rfl rfl (by decide +kernel) (fun x => rfl) (fun x => rfl) rfl d_X5_init_8 ?_
  refine aw_aload_n hX (i := 0) rfl rfl d_X5_init_11 ?_
  refine aw_bipush (v := 6) hX (by decide) d_X5_init_12 ?_
  refine aw_newI hX (N := 6) rfl (bk_R (by decide) (hB 217 (by decide))) (by decide) (by decide) (by decide) (by decide) wc_3 (by decide) (by decide) d_X5_init_14 ?_
  refine aw_putFR hX hn hF (ci := 5) (k := 1) (ty := (.array .int)) rfl (by decide) (by decide) rfl rfl wc_12 rfl rfl (by decide +kernel) (fun x => rfl) (fun x => rfl) rfl d_X5_init_16 ?_
  refine aw_aload_n hX (i := 0) rfl rfl d_X5_init_19 ?_
  refine aw_bipush (v := 16) hX (by decide) d_X5_init_20 ?_
  refine aw_newI hX (N := 16) rfl (bk_R (by decide) (bk_R (by decide) (hB 218 (by decide)))) (by decide) (by decide) (by decide) (by decide) wc_3 (by decide) (by decide) d_X5_init_22 ?_
  refine aw_putFR hX hn hF (ci := 5) (k := 2) (ty := (.array .int)) rfl (by decide) (by decide) rfl rfl wc_13 rfl rfl (by decide +kernel) (fun x => rfl) (fun x => rfl) rfl d_X5_init_24 ?_
  refine aw_aload_n hX (i := 0) rfl rfl d_X5_init_27 ?_
  refine aw_iconst (v := 5) hX (by decide) d_X5_init_28 ?_
  refine aw_newL hX (N := 5) rfl (bk_R (by decide) (bk_R (by decide) (bk_R (by decide) (hB 219 (by decide))))) (by decide) (by decide) (by decide) (by decide) wc_6 (by decide) (by decide) d_X5_init_29 ?_
  refine aw_putFR hX hn hF (ci := 5) (k := 3) (ty := (.array .long)) rfl (by decide) (by decide) rfl rfl wc_14 rfl rfl (by decide +kernel) (fun x => rfl) (fun x => rfl) rfl d_X5_init_31 ?_
  exact aw_return hX (by decide) (by decide) d_X5_init_34)
theorem d_X6_init_0 : decode cX6_init 0 = .ok (.aload_n 0, 1) := by decide +kernel
theorem d_X6_init_1 : decode cX6_init 1 = .ok (.invokespecial 3, 3) := by decide +kernel
theorem d_X6_init_4 : decode cX6_init 4 = .ok (.aload_n 0, 1) := by decide +kernel
theorem d_X6_init_5 : decode cX6_init 5 = .ok (.iconst 5, 1) := by decide +kernel
theorem d_X6_init_6 : decode cX6_init 6 = .ok (.newarray .int, 2) := by decide +kernel
theorem d_X6_init_8 : decode cX6_init 8 = .ok (.putfield 9, 3) := by decide +kernel
theorem d_X6_init_11 : decode cX6_init 11 = .ok (.aload_n 0, 1) := by decide +kernel
theorem d_X6_init_12 : decode cX6_init 12 = .ok (.iconst 5, 1) := by decide +kernel
theorem d_X6_init_13 : decode cX6_init 13 = .ok (.newarray .int, 2) := by decide +kernel
theorem d_X6_init_15 : decode cX6_init 15 = .ok (.putfield 15, 3) := by decide +kernel
theorem d_X6_init_18 : decode cX6_init 18 = .ok (.aload_n 0, 1) := by decide +kernel
theorem d_X6_init_19 : decode cX6_init 19 = .ok (.iconst 4, 1) := by decide +kernel
theorem d_X6_init_20 : decode cX6_init 20 = .ok (.newarray .int, 2) := by decide +kernel
theorem d_X6_init_22 : decode cX6_init 22 = .ok (.putfield 18, 3) := by decide +kernel
theorem d_X6_init_25 : decode cX6_init 25 = .ok (.return_, 1) := by decide +kernel
def c_X6_init_220 (h : AH) : AH := (sR (sR (sR h 220 2 (some 221)) 220 3 (some 222)) 220 4 (some 223))
theorem k_X6_init_220 {g : GP} (hg : g.1.stackTraces = false) (hF : gF g = false) {h : AH} (hB : ∀ a, 220 < a → Blank h a) : Ctr g yX6_init (wsY yX6_init cX6_init 1 none) 1 3 14 [.ref 220] 221 true h none 224 true (c_X6_init_220 h) := ctr_of (lv0 := [.ref 220]) rfl rfl (by decide) hg trivial (fun X hX hn => by
  replace hX : Cx g RX6 cX6_init 1 3 14 none [] X := hX
  replace hn : X.meth.name = "<init>" := hn
  refine aw_aload_n hX (i := 0) rfl rfl d_X6_init_0 ?_
  refine aw_objI hX wc_15 wc_1 wc_2 (by decide) (by decide) d_X6_init_1 ?_
  refine aw_aload_n hX (i := 0) rfl rfl d_X6_init_4 ?_
  refine aw_iconst (v := 5) hX (by decide) d_X6_init_5 ?_
  refine aw_newI hX (N := 5) rfl (hB 221 (by decide)) (by decide) (by decide) (by decide) (by decide) wc_3 (by decide) (by decide) d_X6_init_6 ?_
  refine aw_putFR hX hn hF (ci := 6) (k := 2) (ty := (.array .int)) rfl (by decide) (by decide) rfl rfl wc_16 rfl rfl (by decide +kernel) (fun x => rfl) (fun x => rfl) rfl d_X6_init_8 ?_
  refine aw_aload_n hX (i := 0) rfl rfl d_X6_init_11 ?_
  refine aw_iconst (v := 5) hX (by decide) d_X6_init_12 ?_
  refine aw_newI hX (N := 5) rfl (bk_R (by decide) (hB 222 (by decide))) (by decide) (by decide) (by decide) (by decide) wc_3 (by decide) (by decide) d_X6_init_13 ?_
  refine aw_putFR hX hn hF (ci := 6) (k := 3) (ty := (.array .int)) rfl (by decide) (by decide) rfl rfl wc_17 rfl rfl (by decide +kernel) (fun x => rfl) (fun x => rfl) rfl d_X6_init_15 ?_
  refine aw_aload_n hX (i := 0) rfl rfl d_X6_init_18 ?_
  refine aw_iconst (v := 4) hX (by decide) d_X6_init_19 ?_
  refine aw_newI hX (N := 4) rfl (bk_R (by decide) (bk_R (by decide) (hB 223 (by decide)))) (by decide) (by decide) (by decide) (by decide) wc_3 (by decide) (by decide) d_X6_init_20 ?_
  refine aw_putFR hX hn hF (ci := 6) (k := 4) (ty := (.array .int)) rfl (by decide) (by decide) rfl rfl wc_18 rfl rfl (by decide +kernel) (fun x => rfl) (fun x => rfl) rfl d_X6_init_22 ?_
  exact aw_return hX (by decide) (by decide) d_X6_init_25)
theorem d_X4_init_0 : decode cX4_init 0 = .ok (.aload_n 0, 1) := by decide +kernel
theorem d_X4_init_1 : decode cX4_init 1 = .ok (.invokespecial 3, 3) := by decide +kernel
theorem d_X4_init_4 : decode cX4_init 4 = .ok (.aload_n 0, 1) := by decide +kernel
theorem d_X4_init_5 : decode cX4_init 5 = .ok (.sipush 360, 3) := by decide +kernel
theorem d_X4_init_8 : decode cX4_init 8 = .ok (.newarray .int, 2) := by decide +kernel
theorem d_X4_init_10 : decode cX4_init 10 = .ok (.putfield 9, 3) := by decide +kernel
theorem d_X4_init_13 : decode cX4_init 13 = .ok (.aload_n 0, 1) := by decide +kernel
theorem d_X4_init_14 : decode cX4_init 14 = .ok (.bipush 96, 2) := by decide +kernel
theorem d_X4_init_16 : decode cX4_init 16 = .ok (.newarray .int, 2) := by decide +kernel
theorem d_X4_init_18 : decode cX4_init 18 = .ok (.putfield 15, 3) := by decide +kernel
theorem d_X4_init_21 : decode cX4_init 21 = .ok (.aload_n 0, 1) := by decide +kernel
theorem d_X4_init_22 : decode cX4_init 22 = .ok (.bipush 16, 2) := by decide +kernel
theorem d_X4_init_24 : decode cX4_init 24 = .ok (.newarray .int, 2) := by decide +kernel
theorem d_X4_init_26 : decode cX4_init 26 = .ok (.putfield 18, 3) := by decide +kernel
theorem d_X4_init_29 : decode cX4_init 29 = .ok (.return_, 1) := by decide +kernel
def c_X4_init_224 (h : AH) : AH := (sR (sR (sR h 224 3 (some 225)) 224 4 (some 226)) 224 5 (some 227))
theorem k_X4_init_224 {g : GP} (hg : g.1.stackTraces = false) (hF : gF g = false) {h : AH} (hB : ∀ a, 224 < a → Blank h a) : Ctr g yX4_init (wsY yX4_init cX4_init 1 none) 1 3 472 [.ref 224] 225 true h none 228 true (c_X4_init_224 h) := ctr_of (lv0 := [.ref 224]) rfl rfl (by decide) hg trivial (fun X hX hn => by
  replace hX : Cx g RX4 cX4_init 1 3 472 none [] X := hX
  replace hn : X.meth.name = "<init>" := hn
  refine aw_aload_n hX (i := 0) rfl rfl d_X4_init_0 ?_
  refine aw_objI hX wc_19 wc_1 wc_2 (by decide) (by decide) d_X4_init_1 ?_
  refine aw_aload_n hX (i := 0) rfl rfl d_X4_init_4 ?_
  refine aw_sipush (v := 360) hX (by decide) d_X4_init_5 ?_
  refine aw_newI hX (N := 360) rfl (hB 225 (by decide)) (by decide) (by decide) (by decide) (by decide) wc_3 (by decide) (by decide) d_X4_init_8 ?_
  refine aw_putFR hX hn hF (ci := 4) (k := 3) (ty := (.array .int)) rfl (by decide) (by decide) rfl rfl wc_20 rfl rfl (by decide +kernel) (fun x => rfl) (fun x => rfl) rfl d_X4_init_10 ?_
  refine aw_aload_n hX (i := 0) rfl rfl d_X4_init_13 ?_
  refine aw_bipush (v := 96) hX (by decide) d_X4_init_14 ?_
  refine aw_newI hX (N := 96) rfl (bk_R (by decide) (hB 226 (by decide))) (by decide) (by decide) (by decide) (by decide) wc_3 (by decide) (by decide) d_X4_init_16 ?_
  refine aw_putFR hX hn hF (ci := 4) (k := 4) (ty := (.array .int)) rfl (by decide) (by decide) rfl rfl wc_21 rfl rfl (by decide +kernel) (fun x => rfl) (fun x => rfl) rfl d_X4_init_18 ?_
  refine aw_aload_n hX (i := 0) rfl rfl d_X4_init_21 ?_
  refine aw_bipush (v := 16) hX (by decide) d_X4_init_22 ?_
  refine aw_newI hX (N := 16) rfl (bk_R (by decide) (bk_R (by decide) (hB 227 (by decide)))) (by decide) (by decide) (by decide) (by decide) wc_3 (by decide) (by decide) d_X4_init_24 ?_
  refine aw_putFR hX hn hF (ci := 4) (k := 5) (ty := (.array .int)) rfl (by decide) (by decide) rfl rfl wc_22 rfl rfl (by decide +kernel) (fun x => rfl) (fun x => rfl) rfl d_X4_init_26 ?_
  exact aw_return hX (by decide) (by decide) d_X4_init_29)
def c_X4_init_228 (h : AH) : AH := (sR (sR (sR h 228 3 (some 229)) 228 4 (some 230)) 228 5 (some 231))
theorem k_X4_init_228 {g : GP} (hg : g.1.stackTraces = false) (hF : gF g = false) {h : AH} (hB : ∀ a, 228 < a → Blank h a) : Ctr g yX4_init (wsY yX4_init cX4_init 1 none) 1 3 472 [.ref 228] 229 true h none 232 true (c_X4_init_228 h) := ctr_of (lv0 := [.ref 228]) rfl rfl (by decide) hg trivial (fun X hX hn => by
  replace hX : Cx g RX4 cX4_init 1 3 472 none [] X := hX
  replace hn : X.meth.name = "<init>" := hn
  refine aw_aload_n hX (i := 0) rfl rfl d_X4_init_0 ?_
  refine aw_objI hX wc_19 wc_1 wc_2 (by decide) (by decide) d_X4_init_1 ?_
  refine aw_aload_n hX (i := 0) rfl rfl d_X4_init_4 ?_
  refine aw_sipush (v := 360) hX (by decide) d_X4_init_5 ?_
  refine aw_newI hX (N := 360) rfl (hB 229 (by decide)) (by decide) (by decide) (by decide) (by decide) wc_3 (by decide) (by decide) d_X4_init_8 ?_
  refine aw_putFR hX hn hF (ci := 4) (k := 3) (ty := (.array .int)) rfl (by decide) (by decide) rfl rfl wc_20 rfl rfl (by decide +kernel) (fun x => rfl) (fun x => rfl) rfl d_X4_init_10 ?_
  refine aw_aload_n hX (i := 0) rfl rfl d_X4_init_13 ?_
  refine aw_bipush (v := 96) hX (by decide) d_X4_init_14 ?_
  refine aw_newI hX (N := 96) rfl (bk_R (by decide) (hB 230 (by decide))) (by decide) (by decide) (by decide) (by decide) wc_3 (by decide) (by decide) d_X4_init_16 ?_
  refine aw_putFR hX hn hF (ci := 4) (k := 4) (ty := (.array .int)) rfl (by decide) (by decide) rfl rfl wc_21 rfl rfl (by decide +kernel) (fun x => rfl) (fun x => rfl) rfl d_X4_init_18 ?_
  refine aw_aload_n hX (i := 0) rfl rfl d_X4_init_21 ?_
  refine aw_bipush (v := 16) hX (by decide) d_X4_init_22 ?_
  refine aw_newI hX (N := 16) rfl (bk_R (by decide) (bk_R (by decide) (hB 231 (by decide)))) (by decide) (by decide) (by decide) (by decide) wc_3 (by decide) (by decide) d_X4_init_24 ?_
  refine aw_putFR hX hn hF (ci := 4) (k := 5) (ty := (.array .int)) rfl (by decide) (by decide) rfl rfl wc_22 rfl rfl (by decide +kernel) (fun x => rfl) (fun x => rfl) rfl d_X4_init_26 ?_
  exact aw_return hX (by decide) (by decide) d_X4_init_29)
