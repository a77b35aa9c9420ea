/-! Plan's constructor at its places, by program (ctor.py) -/
theorem wc_32 : (Cond.methodLink RX2 3 Lib.objectInit) ∈ W0 := wt1 _ (List.mem_of_getElem? (i := 192) rfl) rfl
theorem wc_33 : (Cond.fieldLink RX2 9 (clT 2 3).1 (clT 2 3).2.1 (clT 2 3).2.2.1) ∈ W0 := wt1 _ (List.mem_of_getElem? (i := 196) rfl) rfl
theorem wc_34 : (Cond.fieldLink RX2 15 (clT 2 4).1 (clT 2 4).2.1 (clT 2 4).2.2.1) ∈ W0 := wt1 _ (List.mem_of_getElem? (i := 197) rfl) rfl
theorem wc_35 : (Cond.fieldLink RX2 19 (clT 2 6).1 (clT 2 6).2.1 (clT 2 6).2.2.1) ∈ W0 := wt1 _ (List.mem_of_getElem? (i := 199) rfl) rfl
theorem wc_36 : (Cond.fieldLink RX2 22 (clT 2 0).1 (clT 2 0).2.1 (clT 2 0).2.2.1) ∈ W0 := wt1 _ (List.mem_of_getElem? (i := 193) rfl) rfl
theorem wc_37 : (Cond.fieldLink RX2 26 (clT 2 1).1 (clT 2 1).2.1 (clT 2 1).2.2.1) ∈ W0 := wt1 _ (List.mem_of_getElem? (i := 194) rfl) rfl
theorem wc_38 : (Cond.fieldLink RX2 29 (clT 2 2).1 (clT 2 2).2.1 (clT 2 2).2.2.1) ∈ W0 := wt1 _ (List.mem_of_getElem? (i := 195) rfl) rfl
theorem wc_39 : (Cond.fieldLink RX2 32 (clT 2 5).1 (clT 2 5).2.1 (clT 2 5).2.2.1) ∈ W0 := wt1 _ (List.mem_of_getElem? (i := 198) rfl) rfl
theorem d_X2_init_0 : decode cX2_init 0 = .ok (.aload_n 0, 1) := by decide +kernel
theorem d_X2_init_1 : decode cX2_init 1 = .ok (.invokespecial 3, 3) := by decide +kernel
theorem d_X2_init_4 : decode cX2_init 4 = .ok (.aload_n 0, 1) := by decide +kernel
theorem d_X2_init_5 : decode cX2_init 5 = .ok (.bipush 16, 2) := by decide +kernel
theorem d_X2_init_7 : decode cX2_init 7 = .ok (.newarray .int, 2) := by decide +kernel
theorem d_X2_init_9 : decode cX2_init 9 = .ok (.putfield 9, 3) := by decide +kernel
theorem d_X2_init_12 : decode cX2_init 12 = .ok (.aload_n 0, 1) := by decide +kernel
theorem d_X2_init_13 : decode cX2_init 13 = .ok (.bipush 16, 2) := by decide +kernel
theorem d_X2_init_15 : decode cX2_init 15 = .ok (.newarray .long, 2) := by decide +kernel
theorem d_X2_init_17 : decode cX2_init 17 = .ok (.putfield 15, 3) := by decide +kernel
theorem d_X2_init_20 : decode cX2_init 20 = .ok (.aload_n 0, 1) := by decide +kernel
theorem d_X2_init_21 : decode cX2_init 21 = .ok (.bipush 17, 2) := by decide +kernel
theorem d_X2_init_23 : decode cX2_init 23 = .ok (.newarray .long, 2) := by decide +kernel
theorem d_X2_init_25 : decode cX2_init 25 = .ok (.putfield 19, 3) := by decide +kernel
theorem d_X2_init_28 : decode cX2_init 28 = .ok (.aload_n 0, 1) := by decide +kernel
theorem d_X2_init_29 : decode cX2_init 29 = .ok (.iload_n 1, 1) := by decide +kernel
theorem d_X2_init_30 : decode cX2_init 30 = .ok (.putfield 22, 3) := by decide +kernel
theorem d_X2_init_33 : decode cX2_init 33 = .ok (.aload_n 0, 1) := by decide +kernel
theorem d_X2_init_34 : decode cX2_init 34 = .ok (.iload_n 1, 1) := by decide +kernel
theorem d_X2_init_35 : decode cX2_init 35 = .ok (.iconst 2, 1) := by decide +kernel
theorem d_X2_init_36 : decode cX2_init 36 = .ok (.if_icmp .ne 8, 3) := by decide +kernel
theorem d_X2_init_39 : decode cX2_init 39 = .ok (.bipush 13, 2) := by decide +kernel
theorem d_X2_init_41 : decode cX2_init 41 = .ok (.goto 4, 3) := by decide +kernel
theorem d_X2_init_44 : decode cX2_init 44 = .ok (.iconst 1, 1) := by decide +kernel
theorem d_X2_init_45 : decode cX2_init 45 = .ok (.putfield 26, 3) := by decide +kernel
theorem d_X2_init_48 : decode cX2_init 48 = .ok (.aload_n 0, 1) := by decide +kernel
theorem d_X2_init_49 : decode cX2_init 49 = .ok (.iload_n 1, 1) := by decide +kernel
theorem d_X2_init_50 : decode cX2_init 50 = .ok (.iconst 2, 1) := by decide +kernel
theorem d_X2_init_51 : decode cX2_init 51 = .ok (.if_icmp .ne 9, 3) := by decide +kernel
theorem d_X2_init_54 : decode cX2_init 54 = .ok (.sipush 208, 3) := by decide +kernel
theorem d_X2_init_57 : decode cX2_init 57 = .ok (.goto 5, 3) := by decide +kernel
theorem d_X2_init_60 : decode cX2_init 60 = .ok (.bipush 16, 2) := by decide +kernel
theorem d_X2_init_62 : decode cX2_init 62 = .ok (.newarray .long, 2) := by decide +kernel
theorem d_X2_init_64 : decode cX2_init 64 = .ok (.putfield 29, 3) := by decide +kernel
theorem d_X2_init_67 : decode cX2_init 67 = .ok (.aload_n 0, 1) := by decide +kernel
theorem d_X2_init_68 : decode cX2_init 68 = .ok (.iload_n 1, 1) := by decide +kernel
theorem d_X2_init_69 : decode cX2_init 69 = .ok (.iconst 2, 1) := by decide +kernel
theorem d_X2_init_70 : decode cX2_init 70 = .ok (.if_icmp .ne 9, 3) := by decide +kernel
theorem d_X2_init_73 : decode cX2_init 73 = .ok (.sipush 429, 3) := by decide +kernel
theorem d_X2_init_76 : decode cX2_init 76 = .ok (.goto 5, 3) := by decide +kernel
theorem d_X2_init_79 : decode cX2_init 79 = .ok (.bipush 33, 2) := by decide +kernel
theorem d_X2_init_81 : decode cX2_init 81 = .ok (.newarray .long, 2) := by decide +kernel
theorem d_X2_init_83 : decode cX2_init 83 = .ok (.putfield 32, 3) := by decide +kernel
theorem d_X2_init_86 : decode cX2_init 86 = .ok (.return_, 1) := by decide +kernel
def c_X2_init_23 (h : AH) : AH := (sR (sR (sI (sI (sR (sR (sR h 23 3 (some 24)) 23 4 (some 25)) 23 6 (some 26)) 23 0 3) 23 1 1) 23 2 (some 27)) 23 5 (some 28))
theorem b_X2_init_23 {h : AH} {a : Nat} (ha : 29 ≤ a) (h0 : Blank h a) : Blank (c_X2_init_23 h) a := (bk_R (by omega) (bk_R (by omega) (bk_I (by omega) (bk_I (by omega) (bk_R (by omega) (bk_R (by omega) (bk_R (by omega) h0)))))))
theorem k_X2_init_23 {g : GP} (hg : g.1.stackTraces = false) (hF : gF g = false) {h : AH} (hB : ∀ a, 23 < a → Blank h a) : Ctr g yX2_init (wsY yX2_init cX2_init 2 none) 1 5 98 [.ref 23, .int 3] 24 true h none 29 true (c_X2_init_23 h) := ctr_of (lv0 := [.ref 23, .int 3]) rfl rfl (by decide) hg trivial (fun X hX hn => by
  replace hX : Cx g RX2 cX2_init 1 5 98 none [] X := hX
  replace hn : X.meth.name = "<init>" := hn
  refine aw_aload_n hX (i := 0) rfl rfl d_X2_init_0 ?_
  refine aw_objI hX wc_32 wc_1 wc_2 (by decide) (by decide) d_X2_init_1 ?_
  refine aw_aload_n hX (i := 0) rfl rfl d_X2_init_4 ?_
  refine aw_bipush (v := 16) hX (by decide) d_X2_init_5 ?_
  refine aw_newI hX (N := 16) rfl (hB 24 (by decide)) (by decide) (by decide) (by decide) (by decide) wc_3 (by decide) (by decide) d_X2_init_7 ?_
  refine aw_putFR hX hn hF (ci := 2) (k := 3) (ty := (.array .int)) rfl (by decide) (by decide) rfl rfl wc_33 rfl rfl (by decide +kernel) (fun x => rfl) (fun x => rfl) rfl d_X2_init_9 ?_
  refine aw_aload_n hX (i := 0) rfl rfl d_X2_init_12 ?_
  refine aw_bipush (v := 16) hX (by decide) d_X2_init_13 ?_
  refine aw_newL hX (N := 16) rfl (bk_R (by decide) (hB 25 (by decide))) (by decide) (by decide) (by decide) (by decide) wc_6 (by decide) (by decide) d_X2_init_15 ?_
  refine aw_putFR hX hn hF (ci := 2) (k := 4) (ty := (.array .long)) rfl (by decide) (by decide) rfl rfl wc_34 rfl rfl (by decide +kernel) (fun x => rfl) (fun x => rfl) rfl d_X2_init_17 ?_
  refine aw_aload_n hX (i := 0) rfl rfl d_X2_init_20 ?_
  refine aw_bipush (v := 17) hX (by decide) d_X2_init_21 ?_
  refine aw_newL hX (N := 17) rfl (bk_R (by decide) (bk_R (by decide) (hB 26 (by decide)))) (by decide) (by decide) (by decide) (by decide) wc_6 (by decide) (by decide) d_X2_init_23 ?_
  refine aw_putFR hX hn hF (ci := 2) (k := 6) (ty := (.array .long)) rfl (by decide) (by decide) rfl rfl wc_35 rfl rfl (by decide +kernel) (fun x => rfl) (fun x => rfl) rfl d_X2_init_25 ?_
  refine aw_aload_n hX (i := 0) rfl rfl d_X2_init_28 ?_
  refine aw_iload_n hX (i := 1) rfl rfl d_X2_init_29 ?_
  refine aw_putFI hX hn (ci := 2) (k := 0) rfl (by decide) (by decide) rfl rfl wc_36 rfl rfl (by decide +kernel) rfl d_X2_init_30 ?_
  refine aw_aload_n hX (i := 0) rfl rfl d_X2_init_33 ?_
  refine aw_iload_n hX (i := 1) rfl rfl d_X2_init_34 ?_
  refine aw_iconst (v := 2) hX (by decide) d_X2_init_35 ?_
  refine aw_icmp_ne (t := 44) hX (by decide) d_X2_init_36 (fun c => ?_) (fun c => absurd c (by decide))
  refine aw_iconst (v := 1) hX (by decide) d_X2_init_44 ?_
  refine aw_putFI hX hn (ci := 2) (k := 1) rfl (by decide) (by decide) rfl rfl wc_37 rfl rfl (by decide +kernel) rfl d_X2_init_45 ?_
  refine aw_aload_n hX (i := 0) rfl rfl d_X2_init_48 ?_
  refine aw_iload_n hX (i := 1) rfl rfl d_X2_init_49 ?_
  refine aw_iconst (v := 2) hX (by decide) d_X2_init_50 ?_
  refine aw_icmp_ne (t := 60) hX (by decide) d_X2_init_51 (fun c => ?_) (fun c => absurd c (by decide))
  refine aw_bipush (v := 16) hX (by decide) d_X2_init_60 ?_
  refine aw_newL hX (N := 16) rfl (bk_I (by decide) (bk_I (by decide) (bk_R (by decide) (bk_R (by decide) (bk_R (by decide) (hB 27 (by decide))))))) (by decide) (by decide) (by decide) (by decide) wc_6 (by decide) (by decide) d_X2_init_62 ?_
  refine aw_putFR hX hn hF (ci := 2) (k := 2) (ty := (.array .long)) rfl (by decide) (by decide) rfl rfl wc_38 rfl rfl (by decide +kernel) (fun x => rfl) (fun x => rfl) rfl d_X2_init_64 ?_
  refine aw_aload_n hX (i := 0) rfl rfl d_X2_init_67 ?_
  refine aw_iload_n hX (i := 1) rfl rfl d_X2_init_68 ?_
  refine aw_iconst (v := 2) hX (by decide) d_X2_init_69 ?_
  refine aw_icmp_ne (t := 79) hX (by decide) d_X2_init_70 (fun c => ?_) (fun c => absurd c (by decide))
  refine aw_bipush (v := 33) hX (by decide) d_X2_init_79 ?_
  refine aw_newL hX (N := 33) rfl (bk_R (by decide) (bk_I (by decide) (bk_I (by decide) (bk_R (by decide) (bk_R (by decide) (bk_R (by decide) (hB 28 (by decide)))))))) (by decide) (by decide) (by decide) (by decide) wc_6 (by decide) (by decide) d_X2_init_81 ?_
  refine aw_putFR hX hn hF (ci := 2) (k := 5) (ty := (.array .long)) rfl (by decide) (by decide) rfl rfl wc_39 rfl rfl (by decide +kernel) (fun x => rfl) (fun x => rfl) rfl d_X2_init_83 ?_
  exact aw_return hX (by decide) (by decide) d_X2_init_86)
def c_X2_init_31 (h : AH) : AH := (sR (sR (sI (sI (sR (sR (sR h 31 3 (some 32)) 31 4 (some 33)) 31 6 (some 34)) 31 0 0) 31 1 1) 31 2 (some 35)) 31 5 (some 36))
theorem b_X2_init_31 {h : AH} {a : Nat} (ha : 37 ≤ a) (h0 : Blank h a) : Blank (c_X2_init_31 h) a := (bk_R (by omega) (bk_R (by omega) (bk_I (by omega) (bk_I (by omega) (bk_R (by omega) (bk_R (by omega) (bk_R (by omega) h0)))))))
theorem k_X2_init_31 {g : GP} (hg : g.1.stackTraces = false) (hF : gF g = false) {h : AH} (hB : ∀ a, 31 < a → Blank h a) : Ctr g yX2_init (wsY yX2_init cX2_init 2 none) 1 5 98 [.ref 31, .int 0] 32 true h none 37 true (c_X2_init_31 h) := ctr_of (lv0 := [.ref 31, .int 0]) rfl rfl (by decide) hg trivial (fun X hX hn => by
  replace hX : Cx g RX2 cX2_init 1 5 98 none [] X := hX
  replace hn : X.meth.name = "<init>" := hn
  refine aw_aload_n hX (i := 0) rfl rfl d_X2_init_0 ?_
  refine aw_objI hX wc_32 wc_1 wc_2 (by decide) (by decide) d_X2_init_1 ?_
  refine aw_aload_n hX (i := 0) rfl rfl d_X2_init_4 ?_
  refine aw_bipush (v := 16) hX (by decide) d_X2_init_5 ?_
  refine aw_newI hX (N := 16) rfl (hB 32 (by decide)) (by decide) (by decide) (by decide) (by decide) wc_3 (by decide) (by decide) d_X2_init_7 ?_
  refine aw_putFR hX hn hF (ci := 2) (k := 3) (ty := (.array .int)) rfl (by decide) (by decide) rfl rfl wc_33 rfl rfl (by decide +kernel) (fun x => rfl) (fun x => rfl) rfl d_X2_init_9 ?_
  refine aw_aload_n hX (i := 0) rfl rfl d_X2_init_12 ?_
  refine aw_bipush (v := 16) hX (by decide) d_X2_init_13 ?_
  refine aw_newL hX (N := 16) rfl (bk_R (by decide) (hB 33 (by decide))) (by decide) (by decide) (by decide) (by decide) wc_6 (by decide) (by decide) d_X2_init_15 ?_
  refine aw_putFR hX hn hF (ci := 2) (k := 4) (ty := (.array .long)) rfl (by decide) (by decide) rfl rfl wc_34 rfl rfl (by decide +kernel) (fun x => rfl) (fun x => rfl) rfl d_X2_init_17 ?_
  refine aw_aload_n hX (i := 0) rfl rfl d_X2_init_20 ?_
  refine aw_bipush (v := 17) hX (by decide) d_X2_init_21 ?_
  refine aw_newL hX (N := 17) rfl (bk_R (by decide) (bk_R (by decide) (hB 34 (by decide)))) (by decide) (by decide) (by decide) (by decide) wc_6 (by decide) (by decide) d_X2_init_23 ?_
  refine aw_putFR hX hn hF (ci := 2) (k := 6) (ty := (.array .long)) rfl (by decide) (by decide) rfl rfl wc_35 rfl rfl (by decide +kernel) (fun x => rfl) (fun x => rfl) rfl d_X2_init_25 ?_
  refine aw_aload_n hX (i := 0) rfl rfl d_X2_init_28 ?_
  refine aw_iload_n hX (i := 1) rfl rfl d_X2_init_29 ?_
  refine aw_putFI hX hn (ci := 2) (k := 0) rfl (by decide) (by decide) rfl rfl wc_36 rfl rfl (by decide +kernel) rfl d_X2_init_30 ?_
  refine aw_aload_n hX (i := 0) rfl rfl d_X2_init_33 ?_
  refine aw_iload_n hX (i := 1) rfl rfl d_X2_init_34 ?_
  refine aw_iconst (v := 2) hX (by decide) d_X2_init_35 ?_
  refine aw_icmp_ne (t := 44) hX (by decide) d_X2_init_36 (fun c => ?_) (fun c => absurd c (by decide))
  refine aw_iconst (v := 1) hX (by decide) d_X2_init_44 ?_
  refine aw_putFI hX hn (ci := 2) (k := 1) rfl (by decide) (by decide) rfl rfl wc_37 rfl rfl (by decide +kernel) rfl d_X2_init_45 ?_
  refine aw_aload_n hX (i := 0) rfl rfl d_X2_init_48 ?_
  refine aw_iload_n hX (i := 1) rfl rfl d_X2_init_49 ?_
  refine aw_iconst (v := 2) hX (by decide) d_X2_init_50 ?_
  refine aw_icmp_ne (t := 60) hX (by decide) d_X2_init_51 (fun c => ?_) (fun c => absurd c (by decide))
  refine aw_bipush (v := 16) hX (by decide) d_X2_init_60 ?_
  refine aw_newL hX (N := 16) rfl (bk_I (by decide) (bk_I (by decide) (bk_R (by decide) (bk_R (by decide) (bk_R (by decide) (hB 35 (by decide))))))) (by decide) (by decide) (by decide) (by decide) wc_6 (by decide) (by decide) d_X2_init_62 ?_
  refine aw_putFR hX hn hF (ci := 2) (k := 2) (ty := (.array .long)) rfl (by decide) (by decide) rfl rfl wc_38 rfl rfl (by decide +kernel) (fun x => rfl) (fun x => rfl) rfl d_X2_init_64 ?_
  refine aw_aload_n hX (i := 0) rfl rfl d_X2_init_67 ?_
  refine aw_iload_n hX (i := 1) rfl rfl d_X2_init_68 ?_
  refine aw_iconst (v := 2) hX (by decide) d_X2_init_69 ?_
  refine aw_icmp_ne (t := 79) hX (by decide) d_X2_init_70 (fun c => ?_) (fun c => absurd c (by decide))
  refine aw_bipush (v := 33) hX (by decide) d_X2_init_79 ?_
  refine aw_newL hX (N := 33) rfl (bk_R (by decide) (bk_I (by decide) (bk_I (by decide) (bk_R (by decide) (bk_R (by decide) (bk_R (by decide) (hB 36 (by decide)))))))) (by decide) (by decide) (by decide) (by decide) wc_6 (by decide) (by decide) d_X2_init_81 ?_
  refine aw_putFR hX hn hF (ci := 2) (k := 5) (ty := (.array .long)) rfl (by decide) (by decide) rfl rfl wc_39 rfl rfl (by decide +kernel) (fun x => rfl) (fun x => rfl) rfl d_X2_init_83 ?_
  exact aw_return hX (by decide) (by decide) d_X2_init_86)
def c_X2_init_37 (h : AH) : AH := (sR (sR (sI (sI (sR (sR (sR h 37 3 (some 38)) 37 4 (some 39)) 37 6 (some 40)) 37 0 1) 37 1 1) 37 2 (some 41)) 37 5 (some 42))
theorem b_X2_init_37 {h : AH} {a : Nat} (ha : 43 ≤ a) (h0 : Blank h a) : Blank (c_X2_init_37 h) a := (bk_R (by omega) (bk_R (by omega) (bk_I (by omega) (bk_I (by omega) (bk_R (by omega) (bk_R (by omega) (bk_R (by omega) h0)))))))
theorem k_X2_init_37 {g : GP} (hg : g.1.stackTraces = false) (hF : gF g = false) {h : AH} (hB : ∀ a, 37 < a → Blank h a) : Ctr g yX2_init (wsY yX2_init cX2_init 2 none) 1 5 98 [.ref 37, .int 1] 38 true h none 43 true (c_X2_init_37 h) := ctr_of (lv0 := [.ref 37, .int 1]) rfl rfl (by decide) hg trivial (fun X hX hn => by
  replace hX : Cx g RX2 cX2_init 1 5 98 none [] X := hX
  replace hn : X.meth.name = "<init>" := hn
  refine aw_aload_n hX (i := 0) rfl rfl d_X2_init_0 ?_
  refine aw_objI hX wc_32 wc_1 wc_2 (by decide) (by decide) d_X2_init_1 ?_
  refine aw_aload_n hX (i := 0) rfl rfl d_X2_init_4 ?_
  refine aw_bipush (v := 16) hX (by decide) d_X2_init_5 ?_
  refine aw_newI hX (N := 16) rfl (hB 38 (by decide)) (by decide) (by decide) (by decide) (by decide) wc_3 (by decide) (by decide) d_X2_init_7 ?_
  refine aw_putFR hX hn hF (ci := 2) (k := 3) (ty := (.array .int)) rfl (by decide) (by decide) rfl rfl wc_33 rfl rfl (by decide +kernel) (fun x => rfl) (fun x => rfl) rfl d_X2_init_9 ?_
  refine aw_aload_n hX (i := 0) rfl rfl d_X2_init_12 ?_
  refine aw_bipush (v := 16) hX (by decide) d_X2_init_13 ?_
  refine aw_newL hX (N := 16) rfl (bk_R (by decide) (hB 39 (by decide))) (by decide) (by decide) (by decide) (by decide) wc_6 (by decide) (by decide) d_X2_init_15 ?_
  refine aw_putFR hX hn hF (ci := 2) (k := 4) (ty := (.array .long)) rfl (by decide) (by decide) rfl rfl wc_34 rfl rfl (by decide +kernel) (fun x => rfl) (fun x => rfl) rfl d_X2_init_17 ?_
  refine aw_aload_n hX (i := 0) rfl rfl d_X2_init_20 ?_
  refine aw_bipush (v := 17) hX (by decide) d_X2_init_21 ?_
  refine aw_newL hX (N := 17) rfl (bk_R (by decide) (bk_R (by decide) (hB 40 (by decide)))) (by decide) (by decide) (by decide) (by decide) wc_6 (by decide) (by decide) d_X2_init_23 ?_
  refine aw_putFR hX hn hF (ci := 2) (k := 6) (ty := (.array .long)) rfl (by decide) (by decide) rfl rfl wc_35 rfl rfl (by decide +kernel) (fun x => rfl) (fun x => rfl) rfl d_X2_init_25 ?_
  refine aw_aload_n hX (i := 0) rfl rfl d_X2_init_28 ?_
  refine aw_iload_n hX (i := 1) rfl rfl d_X2_init_29 ?_
  refine aw_putFI hX hn (ci := 2) (k := 0) rfl (by decide) (by decide) rfl rfl wc_36 rfl rfl (by decide +kernel) rfl d_X2_init_30 ?_
  refine aw_aload_n hX (i := 0) rfl rfl d_X2_init_33 ?_
  refine aw_iload_n hX (i := 1) rfl rfl d_X2_init_34 ?_
  refine aw_iconst (v := 2) hX (by decide) d_X2_init_35 ?_
  refine aw_icmp_ne (t := 44) hX (by decide) d_X2_init_36 (fun c => ?_) (fun c => absurd c (by decide))
  refine aw_iconst (v := 1) hX (by decide) d_X2_init_44 ?_
  refine aw_putFI hX hn (ci := 2) (k := 1) rfl (by decide) (by decide) rfl rfl wc_37 rfl rfl (by decide +kernel) rfl d_X2_init_45 ?_
  refine aw_aload_n hX (i := 0) rfl rfl d_X2_init_48 ?_
  refine aw_iload_n hX (i := 1) rfl rfl d_X2_init_49 ?_
  refine aw_iconst (v := 2) hX (by decide) d_X2_init_50 ?_
  refine aw_icmp_ne (t := 60) hX (by decide) d_X2_init_51 (fun c => ?_) (fun c => absurd c (by decide))
  refine aw_bipush (v := 16) hX (by decide) d_X2_init_60 ?_
  refine aw_newL hX (N := 16) rfl (bk_I (by decide) (bk_I (by decide) (bk_R (by decide) (bk_R (by decide) (bk_R (by decide) (hB 41 (by decide))))))) (by decide) (by decide) (by decide) (by decide) wc_6 (by decide) (by decide) d_X2_init_62 ?_
  refine aw_putFR hX hn hF (ci := 2) (k := 2) (ty := (.array .long)) rfl (by decide) (by decide) rfl rfl wc_38 rfl rfl (by decide +kernel) (fun x => rfl) (fun x => rfl) rfl d_X2_init_64 ?_
  refine aw_aload_n hX (i := 0) rfl rfl d_X2_init_67 ?_
  refine aw_iload_n hX (i := 1) rfl rfl d_X2_init_68 ?_
  refine aw_iconst (v := 2) hX (by decide) d_X2_init_69 ?_
  refine aw_icmp_ne (t := 79) hX (by decide) d_X2_init_70 (fun c => ?_) (fun c => absurd c (by decide))
  refine aw_bipush (v := 33) hX (by decide) d_X2_init_79 ?_
  refine aw_newL hX (N := 33) rfl (bk_R (by decide) (bk_I (by decide) (bk_I (by decide) (bk_R (by decide) (bk_R (by decide) (bk_R (by decide) (hB 42 (by decide)))))))) (by decide) (by decide) (by decide) (by decide) wc_6 (by decide) (by decide) d_X2_init_81 ?_
  refine aw_putFR hX hn hF (ci := 2) (k := 5) (ty := (.array .long)) rfl (by decide) (by decide) rfl rfl wc_39 rfl rfl (by decide +kernel) (fun x => rfl) (fun x => rfl) rfl d_X2_init_83 ?_
  exact aw_return hX (by decide) (by decide) d_X2_init_86)
def c_X2_init_43 (h : AH) : AH := (sR (sR (sI (sI (sR (sR (sR h 43 3 (some 44)) 43 4 (some 45)) 43 6 (some 46)) 43 0 2) 43 1 13) 43 2 (some 47)) 43 5 (some 48))
theorem b_X2_init_43 {h : AH} {a : Nat} (ha : 49 ≤ a) (h0 : Blank h a) : Blank (c_X2_init_43 h) a := (bk_R (by omega) (bk_R (by omega) (bk_I (by omega) (bk_I (by omega) (bk_R (by omega) (bk_R (by omega) (bk_R (by omega) h0)))))))
theorem k_X2_init_43 {g : GP} (hg : g.1.stackTraces = false) (hF : gF g = false) {h : AH} (hB : ∀ a, 43 < a → Blank h a) : Ctr g yX2_init (wsY yX2_init cX2_init 2 none) 1 5 686 [.ref 43, .int 2] 44 true h none 49 true (c_X2_init_43 h) := ctr_of (lv0 := [.ref 43, .int 2]) rfl rfl (by decide) hg trivial (fun X hX hn => by
  replace hX : Cx g RX2 cX2_init 1 5 686 none [] X := hX
  replace hn : X.meth.name = "<init>" := hn
  refine aw_aload_n hX (i := 0) rfl rfl d_X2_init_0 ?_
  refine aw_objI hX wc_32 wc_1 wc_2 (by decide) (by decide) d_X2_init_1 ?_
  refine aw_aload_n hX (i := 0) rfl rfl d_X2_init_4 ?_
  refine aw_bipush (v := 16) hX (by decide) d_X2_init_5 ?_
  refine aw_newI hX (N := 16) rfl (hB 44 (by decide)) (by decide) (by decide) (by decide) (by decide) wc_3 (by decide) (by decide) d_X2_init_7 ?_
  refine aw_putFR hX hn hF (ci := 2) (k := 3) (ty := (.array .int)) rfl (by decide) (by decide) rfl rfl wc_33 rfl rfl (by decide +kernel) (fun x => rfl) (fun x => rfl) rfl d_X2_init_9 ?_
  refine aw_aload_n hX (i := 0) rfl rfl d_X2_init_12 ?_
  refine aw_bipush (v := 16) hX (by decide) d_X2_init_13 ?_
  refine aw_newL hX (N := 16) rfl (bk_R (by decide) (hB 45 (by decide))) (by decide) (by decide) (by decide) (by decide) wc_6 (by decide) (by decide) d_X2_init_15 ?_
  refine aw_putFR hX hn hF (ci := 2) (k := 4) (ty := (.array .long)) rfl (by decide) (by decide) rfl rfl wc_34 rfl rfl (by decide +kernel) (fun x => rfl) (fun x => rfl) rfl d_X2_init_17 ?_
  refine aw_aload_n hX (i := 0) rfl rfl d_X2_init_20 ?_
  refine aw_bipush (v := 17) hX (by decide) d_X2_init_21 ?_
  refine aw_newL hX (N := 17) rfl (bk_R (by decide) (bk_R (by decide) (hB 46 (by decide)))) (by decide) (by decide) (by decide) (by decide) wc_6 (by decide) (by decide) d_X2_init_23 ?_
  refine aw_putFR hX hn hF (ci := 2) (k := 6) (ty := (.array .long)) rfl (by decide) (by decide) rfl rfl wc_35 rfl rfl (by decide +kernel) (fun x => rfl) (fun x => rfl) rfl d_X2_init_25 ?_
  refine aw_aload_n hX (i := 0) rfl rfl d_X2_init_28 ?_
  refine aw_iload_n hX (i := 1) rfl rfl d_X2_init_29 ?_
  refine aw_putFI hX hn (ci := 2) (k := 0) rfl (by decide) (by decide) rfl rfl wc_36 rfl rfl (by decide +kernel) rfl d_X2_init_30 ?_
  refine aw_aload_n hX (i := 0) rfl rfl d_X2_init_33 ?_
  refine aw_iload_n hX (i := 1) rfl rfl d_X2_init_34 ?_
  refine aw_iconst (v := 2) hX (by decide) d_X2_init_35 ?_
  refine aw_icmp_ne (t := 44) hX (by decide) d_X2_init_36 (fun c => absurd rfl c) (fun c => ?_)
  refine aw_bipush (v := 13) hX (by decide) d_X2_init_39 ?_
  refine aw_goto (t := 45) hX (by decide) d_X2_init_41 ?_
  refine aw_putFI hX hn (ci := 2) (k := 1) rfl (by decide) (by decide) rfl rfl wc_37 rfl rfl (by decide +kernel) rfl d_X2_init_45 ?_
  refine aw_aload_n hX (i := 0) rfl rfl d_X2_init_48 ?_
  refine aw_iload_n hX (i := 1) rfl rfl d_X2_init_49 ?_
  refine aw_iconst (v := 2) hX (by decide) d_X2_init_50 ?_
  refine aw_icmp_ne (t := 60) hX (by decide) d_X2_init_51 (fun c => absurd rfl c) (fun c => ?_)
  refine aw_sipush (v := 208) hX (by decide) d_X2_init_54 ?_
  refine aw_goto (t := 62) hX (by decide) d_X2_init_57 ?_
  refine aw_newL hX (N := 208) rfl (bk_I (by decide) (bk_I (by decide) (bk_R (by decide) (bk_R (by decide) (bk_R (by decide) (hB 47 (by decide))))))) (by decide) (by decide) (by decide) (by decide) wc_6 (by decide) (by decide) d_X2_init_62 ?_
  refine aw_putFR hX hn hF (ci := 2) (k := 2) (ty := (.array .long)) rfl (by decide) (by decide) rfl rfl wc_38 rfl rfl (by decide +kernel) (fun x => rfl) (fun x => rfl) rfl d_X2_init_64 ?_
  refine aw_aload_n hX (i := 0) rfl rfl d_X2_init_67 ?_
  refine aw_iload_n hX (i := 1) rfl rfl d_X2_init_68 ?_
  refine aw_iconst (v := 2) hX (by decide) d_X2_init_69 ?_
  refine aw_icmp_ne (t := 79) hX (by decide) d_X2_init_70 (fun c => absurd rfl c) (fun c => ?_)
  refine aw_sipush (v := 429) hX (by decide) d_X2_init_73 ?_
  refine aw_goto (t := 81) hX (by decide) d_X2_init_76 ?_
  refine aw_newL hX (N := 429) rfl (bk_R (by decide) (bk_I (by decide) (bk_I (by decide) (bk_R (by decide) (bk_R (by decide) (bk_R (by decide) (hB 48 (by decide)))))))) (by decide) (by decide) (by decide) (by decide) wc_6 (by decide) (by decide) d_X2_init_81 ?_
  refine aw_putFR hX hn hF (ci := 2) (k := 5) (ty := (.array .long)) rfl (by decide) (by decide) rfl rfl wc_39 rfl rfl (by decide +kernel) (fun x => rfl) (fun x => rfl) rfl d_X2_init_83 ?_
  exact aw_return hX (by decide) (by decide) d_X2_init_86)
def c_X2_init_49 (h : AH) : AH := (sR (sR (sI (sI (sR (sR (sR h 49 3 (some 50)) 49 4 (some 51)) 49 6 (some 52)) 49 0 3) 49 1 1) 49 2 (some 53)) 49 5 (some 54))
theorem b_X2_init_49 {h : AH} {a : Nat} (ha : 55 ≤ a) (h0 : Blank h a) : Blank (c_X2_init_49 h) a := (bk_R (by omega) (bk_R (by omega) (bk_I (by omega) (bk_I (by omega) (bk_R (by omega) (bk_R (by omega) (bk_R (by omega) h0)))))))
theorem k_X2_init_49 {g : GP} (hg : g.1.stackTraces = false) (hF : gF g = false) {h : AH} (hB : ∀ a, 49 < a → Blank h a) : Ctr g yX2_init (wsY yX2_init cX2_init 2 none) 1 5 98 [.ref 49, .int 3] 50 true h none 55 true (c_X2_init_49 h) := ctr_of (lv0 := [.ref 49, .int 3]) rfl rfl (by decide) hg trivial (fun X hX hn => by
  replace hX : Cx g RX2 cX2_init 1 5 98 none [] X := hX
  replace hn : X.meth.name = "<init>" := hn
  refine aw_aload_n hX (i := 0) rfl rfl d_X2_init_0 ?_
  refine aw_objI hX wc_32 wc_1 wc_2 (by decide) (by decide) d_X2_init_1 ?_
  refine aw_aload_n hX (i := 0) rfl rfl d_X2_init_4 ?_
  refine aw_bipush (v := 16) hX (by decide) d_X2_init_5 ?_
  refine aw_newI hX (N := 16) rfl (hB 50 (by decide)) (by decide) (by decide) (by decide) (by decide) wc_3 (by decide) (by decide) d_X2_init_7 ?_
  refine aw_putFR hX hn hF (ci := 2) (k := 3) (ty := (.array .int)) rfl (by decide) (by decide) rfl rfl wc_33 rfl rfl (by decide +kernel) (fun x => rfl) (fun x => rfl) rfl d_X2_init_9 ?_
  refine aw_aload_n hX (i := 0) rfl rfl d_X2_init_12 ?_
  refine aw_bipush (v := 16) hX (by decide) d_X2_init_13 ?_
  refine aw_newL hX (N := 16) rfl (bk_R (by decide) (hB 51 (by decide))) (by decide) (by decide) (by decide) (by decide) wc_6 (by decide) (by decide) d_X2_init_15 ?_
  refine aw_putFR hX hn hF (ci := 2) (k := 4) (ty := (.array .long)) rfl (by decide) (by decide) rfl rfl wc_34 rfl rfl (by decide +kernel) (fun x => rfl) (fun x => rfl) rfl d_X2_init_17 ?_
  refine aw_aload_n hX (i := 0) rfl rfl d_X2_init_20 ?_
  refine aw_bipush (v := 17) hX (by decide) d_X2_init_21 ?_
  refine aw_newL hX (N := 17) rfl (bk_R (by decide) (bk_R (by decide) (hB 52 (by decide)))) (by decide) (by decide) (by decide) (by decide) wc_6 (by decide) (by decide) d_X2_init_23 ?_
  refine aw_putFR hX hn hF (ci := 2) (k := 6) (ty := (.array .long)) rfl (by decide) (by decide) rfl rfl wc_35 rfl rfl (by decide +kernel) (fun x => rfl) (fun x => rfl) rfl d_X2_init_25 ?_
  refine aw_aload_n hX (i := 0) rfl rfl d_X2_init_28 ?_
  refine aw_iload_n hX (i := 1) rfl rfl d_X2_init_29 ?_
  refine aw_putFI hX hn (ci := 2) (k := 0) rfl (by decide) (by decide) rfl rfl wc_36 rfl rfl (by decide +kernel) rfl d_X2_init_30 ?_
  refine aw_aload_n hX (i := 0) rfl rfl d_X2_init_33 ?_
  refine aw_iload_n hX (i := 1) rfl rfl d_X2_init_34 ?_
  refine aw_iconst (v := 2) hX (by decide) d_X2_init_35 ?_
  refine aw_icmp_ne (t := 44) hX (by decide) d_X2_init_36 (fun c => ?_) (fun c => absurd c (by decide))
  refine aw_iconst (v := 1) hX (by decide) d_X2_init_44 ?_
  refine aw_putFI hX hn (ci := 2) (k := 1) rfl (by decide) (by decide) rfl rfl wc_37 rfl rfl (by decide +kernel) rfl d_X2_init_45 ?_
  refine aw_aload_n hX (i := 0) rfl rfl d_X2_init_48 ?_
  refine aw_iload_n hX (i := 1) rfl rfl d_X2_init_49 ?_
  refine aw_iconst (v := 2) hX (by decide) d_X2_init_50 ?_
  refine aw_icmp_ne (t := 60) hX (by decide) d_X2_init_51 (fun c => ?_) (fun c => absurd c (by decide))
  refine aw_bipush (v := 16) hX (by decide) d_X2_init_60 ?_
  refine aw_newL hX (N := 16) rfl (bk_I (by decide) (bk_I (by decide) (bk_R (by decide) (bk_R (by decide) (bk_R (by decide) (hB 53 (by decide))))))) (by decide) (by decide) (by decide) (by decide) wc_6 (by decide) (by decide) d_X2_init_62 ?_
  refine aw_putFR hX hn hF (ci := 2) (k := 2) (ty := (.array .long)) rfl (by decide) (by decide) rfl rfl wc_38 rfl rfl (by decide +kernel) (fun x => rfl) (fun x => rfl) rfl d_X2_init_64 ?_
  refine aw_aload_n hX (i := 0) rfl rfl d_X2_init_67 ?_
  refine aw_iload_n hX (i := 1) rfl rfl d_X2_init_68 ?_
  refine aw_iconst (v := 2) hX (by decide) d_X2_init_69 ?_
  refine aw_icmp_ne (t := 79) hX (by decide) d_X2_init_70 (fun c => ?_) (fun c => absurd c (by decide))
  refine aw_bipush (v := 33) hX (by decide) d_X2_init_79 ?_
  refine aw_newL hX (N := 33) rfl (bk_R (by decide) (bk_I (by decide) (bk_I (by decide) (bk_R (by decide) (bk_R (by decide) (bk_R (by decide) (hB 54 (by decide)))))))) (by decide) (by decide) (by decide) (by decide) wc_6 (by decide) (by decide) d_X2_init_81 ?_
  refine aw_putFR hX hn hF (ci := 2) (k := 5) (ty := (.array .long)) rfl (by decide) (by decide) rfl rfl wc_39 rfl rfl (by decide +kernel) (fun x => rfl) (fun x => rfl) rfl d_X2_init_83 ?_
  exact aw_return hX (by decide) (by decide) d_X2_init_86)
def c_X2_init_55 (h : AH) : AH := (sR (sR (sI (sI (sR (sR (sR h 55 3 (some 56)) 55 4 (some 57)) 55 6 (some 58)) 55 0 4) 55 1 1) 55 2 (some 59)) 55 5 (some 60))
theorem b_X2_init_55 {h : AH} {a : Nat} (ha : 61 ≤ a) (h0 : Blank h a) : Blank (c_X2_init_55 h) a := (bk_R (by omega) (bk_R (by omega) (bk_I (by omega) (bk_I (by omega) (bk_R (by omega) (bk_R (by omega) (bk_R (by omega) h0)))))))
theorem k_X2_init_55 {g : GP} (hg : g.1.stackTraces = false) (hF : gF g = false) {h : AH} (hB : ∀ a, 55 < a → Blank h a) : Ctr g yX2_init (wsY yX2_init cX2_init 2 none) 1 5 98 [.ref 55, .int 4] 56 true h none 61 true (c_X2_init_55 h) := ctr_of (lv0 := [.ref 55, .int 4]) rfl rfl (by decide) hg trivial (fun X hX hn => by
  replace hX : Cx g RX2 cX2_init 1 5 98 none [] X := hX
  replace hn : X.meth.name = "<init>" := hn
  refine aw_aload_n hX (i := 0) rfl rfl d_X2_init_0 ?_
  refine aw_objI hX wc_32 wc_1 wc_2 (by decide) (by decide) d_X2_init_1 ?_
  refine aw_aload_n hX (i := 0) rfl rfl d_X2_init_4 ?_
  refine aw_bipush (v := 16) hX (by decide) d_X2_init_5 ?_
  refine aw_newI hX (N := 16) rfl (hB 56 (by decide)) (by decide) (by decide) (by decide) (by decide) wc_3 (by decide) (by decide) d_X2_init_7 ?_
  refine aw_putFR hX hn hF (ci := 2) (k := 3) (ty := (.array .int)) rfl (by decide) (by decide) rfl rfl wc_33 rfl rfl (by decide +kernel) (fun x => rfl) (fun x => rfl) rfl d_X2_init_9 ?_
  refine aw_aload_n hX (i := 0) rfl rfl d_X2_init_12 ?_
  refine aw_bipush (v := 16) hX (by decide) d_X2_init_13 ?_
  refine aw_newL hX (N := 16) rfl (bk_R (by decide) (hB 57 (by decide))) (by decide) (by decide) (by decide) (by decide) wc_6 (by decide) (by decide) d_X2_init_15 ?_
  refine aw_putFR hX hn hF (ci := 2) (k := 4) (ty := (.array .long)) rfl (by decide) (by decide) rfl rfl wc_34 rfl rfl (by decide +kernel) (fun x => rfl) (fun x => rfl) rfl d_X2_init_17 ?_
  refine aw_aload_n hX (i := 0) rfl rfl d_X2_init_20 ?_
  refine aw_bipush (v := 17) hX (by decide) d_X2_init_21 ?_
  refine aw_newL hX (N := 17) rfl (bk_R (by decide) (bk_R (by decide) (hB 58 (by decide)))) (by decide) (by decide) (by decide) (by decide) wc_6 (by decide) (by decide) d_X2_init_23 ?_
  refine aw_putFR hX hn hF (ci := 2) (k := 6) (ty := (.array .long)) rfl (by decide) (by decide) rfl rfl wc_35 rfl rfl (by decide +kernel) (fun x => rfl) (fun x => rfl) rfl d_X2_init_25 ?_
  refine aw_aload_n hX (i := 0) rfl rfl d_X2_init_28 ?_
  refine aw_iload_n hX (i := 1) rfl rfl d_X2_init_29 ?_
  refine aw_putFI hX hn (ci := 2) (k := 0) rfl (by decide) (by decide) rfl rfl wc_36 rfl rfl (by decide +kernel) rfl d_X2_init_30 ?_
  refine aw_aload_n hX (i := 0) rfl rfl d_X2_init_33 ?_
  refine aw_iload_n hX (i := 1) rfl rfl d_X2_init_34 ?_
  refine aw_iconst (v := 2) hX (by decide) d_X2_init_35 ?_
  refine aw_icmp_ne (t := 44) hX (by decide) d_X2_init_36 (fun c => ?_) (fun c => absurd c (by decide))
  refine aw_iconst (v := 1) hX (by decide) d_X2_init_44 ?_
  refine aw_putFI hX hn (ci := 2) (k := 1) rfl (by decide) (by decide) rfl rfl wc_37 rfl rfl (by decide +kernel) rfl d_X2_init_45 ?_
  refine aw_aload_n hX (i := 0) rfl rfl d_X2_init_48 ?_
  refine aw_iload_n hX (i := 1) rfl rfl d_X2_init_49 ?_
  refine aw_iconst (v := 2) hX (by decide) d_X2_init_50 ?_
  refine aw_icmp_ne (t := 60) hX (by decide) d_X2_init_51 (fun c => ?_) (fun c => absurd c (by decide))
  refine aw_bipush (v := 16) hX (by decide) d_X2_init_60 ?_
  refine aw_newL hX (N := 16) rfl (bk_I (by decide) (bk_I (by decide) (bk_R (by decide) (bk_R (by decide) (bk_R (by decide) (hB 59 (by decide))))))) (by decide) (by decide) (by decide) (by decide) wc_6 (by decide) (by decide) d_X2_init_62 ?_
  refine aw_putFR hX hn hF (ci := 2) (k := 2) (ty := (.array .long)) rfl (by decide) (by decide) rfl rfl wc_38 rfl rfl (by decide +kernel) (fun x => rfl) (fun x => rfl) rfl d_X2_init_64 ?_
  refine aw_aload_n hX (i := 0) rfl rfl d_X2_init_67 ?_
  refine aw_iload_n hX (i := 1) rfl rfl d_X2_init_68 ?_
  refine aw_iconst (v := 2) hX (by decide) d_X2_init_69 ?_
  refine aw_icmp_ne (t := 79) hX (by decide) d_X2_init_70 (fun c => ?_) (fun c => absurd c (by decide))
  refine aw_bipush (v := 33) hX (by decide) d_X2_init_79 ?_
  refine aw_newL hX (N := 33) rfl (bk_R (by decide) (bk_I (by decide) (bk_I (by decide) (bk_R (by decide) (bk_R (by decide) (bk_R (by decide) (hB 60 (by decide)))))))) (by decide) (by decide) (by decide) (by decide) wc_6 (by decide) (by decide) d_X2_init_81 ?_
  refine aw_putFR hX hn hF (ci := 2) (k := 5) (ty := (.array .long)) rfl (by decide) (by decide) rfl rfl wc_39 rfl rfl (by decide +kernel) (fun x => rfl) (fun x => rfl) rfl d_X2_init_83 ?_
  exact aw_return hX (by decide) (by decide) d_X2_init_86)
def c_X2_init_61 (h : AH) : AH := (sR (sR (sI (sI (sR (sR (sR h 61 3 (some 62)) 61 4 (some 63)) 61 6 (some 64)) 61 0 0) 61 1 1) 61 2 (some 65)) 61 5 (some 66))
theorem b_X2_init_61 {h : AH} {a : Nat} (ha : 67 ≤ a) (h0 : Blank h a) : Blank (c_X2_init_61 h) a := (bk_R (by omega) (bk_R (by omega) (bk_I (by omega) (bk_I (by omega) (bk_R (by omega) (bk_R (by omega) (bk_R (by omega) h0)))))))
theorem k_X2_init_61 {g : GP} (hg : g.1.stackTraces = false) (hF : gF g = false) {h : AH} (hB : ∀ a, 61 < a → Blank h a) : Ctr g yX2_init (wsY yX2_init cX2_init 2 none) 1 5 98 [.ref 61, .int 0] 62 true h none 67 true (c_X2_init_61 h) := ctr_of (lv0 := [.ref 61, .int 0]) rfl rfl (by decide) hg trivial (fun X hX hn => by
  replace hX : Cx g RX2 cX2_init 1 5 98 none [] X := hX
  replace hn : X.meth.name = "<init>" := hn
  refine aw_aload_n hX (i := 0) rfl rfl d_X2_init_0 ?_
  refine aw_objI hX wc_32 wc_1 wc_2 (by decide) (by decide) d_X2_init_1 ?_
  refine aw_aload_n hX (i := 0) rfl rfl d_X2_init_4 ?_
  refine aw_bipush (v := 16) hX (by decide) d_X2_init_5 ?_
  refine aw_newI hX (N := 16) rfl (hB 62 (by decide)) (by decide) (by decide) (by decide) (by decide) wc_3 (by decide) (by decide) d_X2_init_7 ?_
  refine aw_putFR hX hn hF (ci := 2) (k := 3) (ty := (.array .int)) rfl (by decide) (by decide) rfl rfl wc_33 rfl rfl (by decide +kernel) (fun x => rfl) (fun x => rfl) rfl d_X2_init_9 ?_
  refine aw_aload_n hX (i := 0) rfl rfl d_X2_init_12 ?_
  refine aw_bipush (v := 16) hX (by decide) d_X2_init_13 ?_
  refine aw_newL hX (N := 16) rfl (bk_R (by decide) (hB 63 (by decide))) (by decide) (by decide) (by decide) (by decide) wc_6 (by decide) (by decide) d_X2_init_15 ?_
  refine aw_putFR hX hn hF (ci := 2) (k := 4) (ty := (.array .long)) rfl (by decide) (by decide) rfl rfl wc_34 rfl rfl (by decide +kernel) (fun x => rfl) (fun x => rfl) rfl d_X2_init_17 ?_
  refine aw_aload_n hX (i := 0) rfl rfl d_X2_init_20 ?_
  refine aw_bipush (v := 17) hX (by decide) d_X2_init_21 ?_
  refine aw_newL hX (N := 17) rfl (bk_R (by decide) (bk_R (by decide) (hB 64 (by decide)))) (by decide) (by decide) (by decide) (by decide) wc_6 (by decide) (by decide) d_X2_init_23 ?_
  refine aw_putFR hX hn hF (ci := 2) (k := 6) (ty := (.array .long)) rfl (by decide) (by decide) rfl rfl wc_35 rfl rfl (by decide +kernel) (fun x => rfl) (fun x => rfl) rfl d_X2_init_25 ?_
  refine aw_aload_n hX (i := 0) rfl rfl d_X2_init_28 ?_
  refine aw_iload_n hX (i := 1) rfl rfl d_X2_init_29 ?_
  refine aw_putFI hX hn (ci := 2) (k := 0) rfl (by decide) (by decide) rfl rfl wc_36 rfl rfl (by decide +kernel) rfl d_X2_init_30 ?_
  refine aw_aload_n hX (i := 0) rfl rfl d_X2_init_33 ?_
  refine aw_iload_n hX (i := 1) rfl rfl d_X2_init_34 ?_
  refine aw_iconst (v := 2) hX (by decide) d_X2_init_35 ?_
  refine aw_icmp_ne (t := 44) hX (by decide) d_X2_init_36 (fun c => ?_) (fun c => absurd c (by decide))
  refine aw_iconst (v := 1) hX (by decide) d_X2_init_44 ?_
  refine aw_putFI hX hn (ci := 2) (k := 1) rfl (by decide) (by decide) rfl rfl wc_37 rfl rfl (by decide +kernel) rfl d_X2_init_45 ?_
  refine aw_aload_n hX (i := 0) rfl rfl d_X2_init_48 ?_
  refine aw_iload_n hX (i := 1) rfl rfl d_X2_init_49 ?_
  refine aw_iconst (v := 2) hX (by decide) d_X2_init_50 ?_
  refine aw_icmp_ne (t := 60) hX (by decide) d_X2_init_51 (fun c => ?_) (fun c => absurd c (by decide))
  refine aw_bipush (v := 16) hX (by decide) d_X2_init_60 ?_
  refine aw_newL hX (N := 16) rfl (bk_I (by decide) (bk_I (by decide) (bk_R (by decide) (bk_R (by decide) (bk_R (by decide) (hB 65 (by decide))))))) (by decide) (by decide) (by decide) (by decide) wc_6 (by decide) (by decide) d_X2_init_62 ?_
  refine aw_putFR hX hn hF (ci := 2) (k := 2) (ty := (.array .long)) rfl (by decide) (by decide) rfl rfl wc_38 rfl rfl (by decide +kernel) (fun x => rfl) (fun x => rfl) rfl d_X2_init_64 ?_
  refine aw_aload_n hX (i := 0) rfl rfl d_X2_init_67 ?_
  refine aw_iload_n hX (i := 1) rfl rfl d_X2_init_68 ?_
  refine aw_iconst (v := 2) hX (by decide) d_X2_init_69 ?_
  refine aw_icmp_ne (t := 79) hX (by decide) d_X2_init_70 (fun c => ?_) (fun c => absurd c (by decide))
  refine aw_bipush (v := 33) hX (by decide) d_X2_init_79 ?_
  refine aw_newL hX (N := 33) rfl (bk_R (by decide) (bk_I (by decide) (bk_I (by decide) (bk_R (by decide) (bk_R (by decide) (bk_R (by decide) (hB 66 (by decide)))))))) (by decide) (by decide) (by decide) (by decide) wc_6 (by decide) (by decide) d_X2_init_81 ?_
  refine aw_putFR hX hn hF (ci := 2) (k := 5) (ty := (.array .long)) rfl (by decide) (by decide) rfl rfl wc_39 rfl rfl (by decide +kernel) (fun x => rfl) (fun x => rfl) rfl d_X2_init_83 ?_
  exact aw_return hX (by decide) (by decide) d_X2_init_86)
def c_X2_init_67 (h : AH) : AH := (sR (sR (sI (sI (sR (sR (sR h 67 3 (some 68)) 67 4 (some 69)) 67 6 (some 70)) 67 0 1) 67 1 1) 67 2 (some 71)) 67 5 (some 72))
theorem b_X2_init_67 {h : AH} {a : Nat} (ha : 73 ≤ a) (h0 : Blank h a) : Blank (c_X2_init_67 h) a := (bk_R (by omega) (bk_R (by omega) (bk_I (by omega) (bk_I (by omega) (bk_R (by omega) (bk_R (by omega) (bk_R (by omega) h0)))))))
theorem k_X2_init_67 {g : GP} (hg : g.1.stackTraces = false) (hF : gF g = false) {h : AH} (hB : ∀ a, 67 < a → Blank h a) : Ctr g yX2_init (wsY yX2_init cX2_init 2 none) 1 5 98 [.ref 67, .int 1] 68 true h none 73 true (c_X2_init_67 h) := ctr_of (lv0 := [.ref 67, .int 1]) rfl rfl (by decide) hg trivial (fun X hX hn => by
  replace hX : Cx g RX2 cX2_init 1 5 98 none [] X := hX
  replace hn : X.meth.name = "<init>" := hn
  refine aw_aload_n hX (i := 0) rfl rfl d_X2_init_0 ?_
  refine aw_objI hX wc_32 wc_1 wc_2 (by decide) (by decide) d_X2_init_1 ?_
  refine aw_aload_n hX (i := 0) rfl rfl d_X2_init_4 ?_
  refine aw_bipush (v := 16) hX (by decide) d_X2_init_5 ?_
  refine aw_newI hX (N := 16) rfl (hB 68 (by decide)) (by decide) (by decide) (by decide) (by decide) wc_3 (by decide) (by decide) d_X2_init_7 ?_
  refine aw_putFR hX hn hF (ci := 2) (k := 3) (ty := (.array .int)) rfl (by decide) (by decide) rfl rfl wc_33 rfl rfl (by decide +kernel) (fun x => rfl) (fun x => rfl) rfl d_X2_init_9 ?_
  refine aw_aload_n hX (i := 0) rfl rfl d_X2_init_12 ?_
  refine aw_bipush (v := 16) hX (by decide) d_X2_init_13 ?_
  refine aw_newL hX (N := 16) rfl (bk_R (by decide) (hB 69 (by decide))) (by decide) (by decide) (by decide) (by decide) wc_6 (by decide) (by decide) d_X2_init_15 ?_
  refine aw_putFR hX hn hF (ci := 2) (k := 4) (ty := (.array .long)) rfl (by decide) (by decide) rfl rfl wc_34 rfl rfl (by decide +kernel) (fun x => rfl) (fun x => rfl) rfl d_X2_init_17 ?_
  refine aw_aload_n hX (i := 0) rfl rfl d_X2_init_20 ?_
  refine aw_bipush (v := 17) hX (by decide) d_X2_init_21 ?_
  refine aw_newL hX (N := 17) rfl (bk_R (by decide) (bk_R (by decide) (hB 70 (by decide)))) (by decide) (by decide) (by decide) (by decide) wc_6 (by decide) (by decide) d_X2_init_23 ?_
  refine aw_putFR hX hn hF (ci := 2) (k := 6) (ty := (.array .long)) rfl (by decide) (by decide) rfl rfl wc_35 rfl rfl (by decide +kernel) (fun x => rfl) (fun x => rfl) rfl d_X2_init_25 ?_
  refine aw_aload_n hX (i := 0) rfl rfl d_X2_init_28 ?_
  refine aw_iload_n hX (i := 1) rfl rfl d_X2_init_29 ?_
  refine aw_putFI hX hn (ci := 2) (k := 0) rfl (by decide) (by decide) rfl rfl wc_36 rfl rfl (by decide +kernel) rfl d_X2_init_30 ?_
  refine aw_aload_n hX (i := 0) rfl rfl d_X2_init_33 ?_
  refine aw_iload_n hX (i := 1) rfl rfl d_X2_init_34 ?_
  refine aw_iconst (v := 2) hX (by decide) d_X2_init_35 ?_
  refine aw_icmp_ne (t := 44) hX (by decide) d_X2_init_36 (fun c => ?_) (fun c => absurd c (by decide))
  refine aw_iconst (v := 1) hX (by decide) d_X2_init_44 ?_
  refine aw_putFI hX hn (ci := 2) (k := 1) rfl (by decide) (by decide) rfl rfl wc_37 rfl rfl (by decide +kernel) rfl d_X2_init_45 ?_
  refine aw_aload_n hX (i := 0) rfl rfl d_X2_init_48 ?_
  refine aw_iload_n hX (i := 1) rfl rfl d_X2_init_49 ?_
  refine aw_iconst (v := 2) hX (by decide) d_X2_init_50 ?_
  refine aw_icmp_ne (t := 60) hX (by decide) d_X2_init_51 (fun c => ?_) (fun c => absurd c (by decide))
  refine aw_bipush (v := 16) hX (by decide) d_X2_init_60 ?_
  refine aw_newL hX (N := 16) rfl (bk_I (by decide) (bk_I (by decide) (bk_R (by decide) (bk_R (by decide) (bk_R (by decide) (hB 71 (by decide))))))) (by decide) (by decide) (by decide) (by decide) wc_6 (by decide) (by decide) d_X2_init_62 ?_
  refine aw_putFR hX hn hF (ci := 2) (k := 2) (ty := (.array .long)) rfl (by decide) (by decide) rfl rfl wc_38 rfl rfl (by decide +kernel) (fun x => rfl) (fun x => rfl) rfl d_X2_init_64 ?_
  refine aw_aload_n hX (i := 0) rfl rfl d_X2_init_67 ?_
  refine aw_iload_n hX (i := 1) rfl rfl d_X2_init_68 ?_
  refine aw_iconst (v := 2) hX (by decide) d_X2_init_69 ?_
  refine aw_icmp_ne (t := 79) hX (by decide) d_X2_init_70 (fun c => ?_) (fun c => absurd c (by decide))
  refine aw_bipush (v := 33) hX (by decide) d_X2_init_79 ?_
  refine aw_newL hX (N := 33) rfl (bk_R (by decide) (bk_I (by decide) (bk_I (by decide) (bk_R (by decide) (bk_R (by decide) (bk_R (by decide) (hB 72 (by decide)))))))) (by decide) (by decide) (by decide) (by decide) wc_6 (by decide) (by decide) d_X2_init_81 ?_
  refine aw_putFR hX hn hF (ci := 2) (k := 5) (ty := (.array .long)) rfl (by decide) (by decide) rfl rfl wc_39 rfl rfl (by decide +kernel) (fun x => rfl) (fun x => rfl) rfl d_X2_init_83 ?_
  exact aw_return hX (by decide) (by decide) d_X2_init_86)
def c_X2_init_73 (h : AH) : AH := (sR (sR (sI (sI (sR (sR (sR h 73 3 (some 74)) 73 4 (some 75)) 73 6 (some 76)) 73 0 2) 73 1 13) 73 2 (some 77)) 73 5 (some 78))
theorem b_X2_init_73 {h : AH} {a : Nat} (ha : 79 ≤ a) (h0 : Blank h a) : Blank (c_X2_init_73 h) a := (bk_R (by omega) (bk_R (by omega) (bk_I (by omega) (bk_I (by omega) (bk_R (by omega) (bk_R (by omega) (bk_R (by omega) h0)))))))
theorem k_X2_init_73 {g : GP} (hg : g.1.stackTraces = false) (hF : gF g = false) {h : AH} (hB : ∀ a, 73 < a → Blank h a) : Ctr g yX2_init (wsY yX2_init cX2_init 2 none) 1 5 686 [.ref 73, .int 2] 74 true h none 79 true (c_X2_init_73 h) := ctr_of (lv0 := [.ref 73, .int 2]) rfl rfl (by decide) hg trivial (fun X hX hn => by
  replace hX : Cx g RX2 cX2_init 1 5 686 none [] X := hX
  replace hn : X.meth.name = "<init>" := hn
  refine aw_aload_n hX (i := 0) rfl rfl d_X2_init_0 ?_
  refine aw_objI hX wc_32 wc_1 wc_2 (by decide) (by decide) d_X2_init_1 ?_
  refine aw_aload_n hX (i := 0) rfl rfl d_X2_init_4 ?_
  refine aw_bipush (v := 16) hX (by decide) d_X2_init_5 ?_
  refine aw_newI hX (N := 16) rfl (hB 74 (by decide)) (by decide) (by decide) (by decide) (by decide) wc_3 (by decide) (by decide) d_X2_init_7 ?_
  refine aw_putFR hX hn hF (ci := 2) (k := 3) (ty := (.array .int)) rfl (by decide) (by decide) rfl rfl wc_33 rfl rfl (by decide +kernel) (fun x => rfl) (fun x => rfl) rfl d_X2_init_9 ?_
  refine aw_aload_n hX (i := 0) rfl rfl d_X2_init_12 ?_
  refine aw_bipush (v := 16) hX (by decide) d_X2_init_13 ?_
  refine aw_newL hX (N := 16) rfl (bk_R (by decide) (hB 75 (by decide))) (by decide) (by decide) (by decide) (by decide) wc_6 (by decide) (by decide) d_X2_init_15 ?_
  refine aw_putFR hX hn hF (ci := 2) (k := 4) (ty := (.array .long)) rfl (by decide) (by decide) rfl rfl wc_34 rfl rfl (by decide +kernel) (fun x => rfl) (fun x => rfl) rfl d_X2_init_17 ?_
  refine aw_aload_n hX (i := 0) rfl rfl d_X2_init_20 ?_
  refine aw_bipush (v := 17) hX (by decide) d_X2_init_21 ?_
  refine aw_newL hX (N := 17) rfl (bk_R (by decide) (bk_R (by decide) (hB 76 (by decide)))) (by decide) (by decide) (by decide) (by decide) wc_6 (by decide) (by decide) d_X2_init_23 ?_
  refine aw_putFR hX hn hF (ci := 2) (k := 6) (ty := (.array .long)) rfl (by decide) (by decide) rfl rfl wc_35 rfl rfl (by decide +kernel) (fun x => rfl) (fun x => rfl) rfl d_X2_init_25 ?_
  refine aw_aload_n hX (i := 0) rfl rfl d_X2_init_28 ?_
  refine aw_iload_n hX (i := 1) rfl rfl d_X2_init_29 ?_
  refine aw_putFI hX hn (ci := 2) (k := 0) rfl (by decide) (by decide) rfl rfl wc_36 rfl rfl (by decide +kernel) rfl d_X2_init_30 ?_
  refine aw_aload_n hX (i := 0) rfl rfl d_X2_init_33 ?_
  refine aw_iload_n hX (i := 1) rfl rfl d_X2_init_34 ?_
  refine aw_iconst (v := 2) hX (by decide) d_X2_init_35 ?_
  refine aw_icmp_ne (t := 44) hX (by decide) d_X2_init_36 (fun c => absurd rfl c) (fun c => ?_)
  refine aw_bipush (v := 13) hX (by decide) d_X2_init_39 ?_
  refine aw_goto (t := 45) hX (by decide) d_X2_init_41 ?_
  refine aw_putFI hX hn (ci := 2) (k := 1) rfl (by decide) (by decide) rfl rfl wc_37 rfl rfl (by decide +kernel) rfl d_X2_init_45 ?_
  refine aw_aload_n hX (i := 0) rfl rfl d_X2_init_48 ?_
  refine aw_iload_n hX (i := 1) rfl rfl d_X2_init_49 ?_
  refine aw_iconst (v := 2) hX (by decide) d_X2_init_50 ?_
  refine aw_icmp_ne (t := 60) hX (by decide) d_X2_init_51 (fun c => absurd rfl c) (fun c => ?_)
  refine aw_sipush (v := 208) hX (by decide) d_X2_init_54 ?_
  refine aw_goto (t := 62) hX (by decide) d_X2_init_57 ?_
  refine aw_newL hX (N := 208) rfl (bk_I (by decide) (bk_I (by decide) (bk_R (by decide) (bk_R (by decide) (bk_R (by decide) (hB 77 (by decide))))))) (by decide) (by decide) (by decide) (by decide) wc_6 (by decide) (by decide) d_X2_init_62 ?_
  refine aw_putFR hX hn hF (ci := 2) (k := 2) (ty := (.array .long)) rfl (by decide) (by decide) rfl rfl wc_38 rfl rfl (by decide +kernel) (fun x => rfl) (fun x => rfl) rfl d_X2_init_64 ?_
  refine aw_aload_n hX (i := 0) rfl rfl d_X2_init_67 ?_
  refine aw_iload_n hX (i := 1) rfl rfl d_X2_init_68 ?_
  refine aw_iconst (v := 2) hX (by decide) d_X2_init_69 ?_
  refine aw_icmp_ne (t := 79) hX (by decide) d_X2_init_70 (fun c => absurd rfl c) (fun c => ?_)
  refine aw_sipush (v := 429) hX (by decide) d_X2_init_73 ?_
  refine aw_goto (t := 81) hX (by decide) d_X2_init_76 ?_
  refine aw_newL hX (N := 429) rfl (bk_R (by decide) (bk_I (by decide) (bk_I (by decide) (bk_R (by decide) (bk_R (by decide) (bk_R (by decide) (hB 78 (by decide)))))))) (by decide) (by decide) (by decide) (by decide) wc_6 (by decide) (by decide) d_X2_init_81 ?_
  refine aw_putFR hX hn hF (ci := 2) (k := 5) (ty := (.array .long)) rfl (by decide) (by decide) rfl rfl wc_39 rfl rfl (by decide +kernel) (fun x => rfl) (fun x => rfl) rfl d_X2_init_83 ?_
  exact aw_return hX (by decide) (by decide) d_X2_init_86)
def c_X2_init_79 (h : AH) : AH := (sR (sR (sI (sI (sR (sR (sR h 79 3 (some 80)) 79 4 (some 81)) 79 6 (some 82)) 79 0 3) 79 1 1) 79 2 (some 83)) 79 5 (some 84))
theorem b_X2_init_79 {h : AH} {a : Nat} (ha : 85 ≤ a) (h0 : Blank h a) : Blank (c_X2_init_79 h) a := (bk_R (by omega) (bk_R (by omega) (bk_I (by omega) (bk_I (by omega) (bk_R (by omega) (bk_R (by omega) (bk_R (by omega) h0)))))))
theorem k_X2_init_79 {g : GP} (hg : g.1.stackTraces = false) (hF : gF g = false) {h : AH} (hB : ∀ a, 79 < a → Blank h a) : Ctr g yX2_init (wsY yX2_init cX2_init 2 none) 1 5 98 [.ref 79, .int 3] 80 true h none 85 true (c_X2_init_79 h) := ctr_of (lv0 := [.ref 79, .int 3]) rfl rfl (by decide) hg trivial (fun X hX hn => by
  replace hX : Cx g RX2 cX2_init 1 5 98 none [] X := hX
  replace hn : X.meth.name = "<init>" := hn
  refine aw_aload_n hX (i := 0) rfl rfl d_X2_init_0 ?_
  refine aw_objI hX wc_32 wc_1 wc_2 (by decide) (by decide) d_X2_init_1 ?_
  refine aw_aload_n hX (i := 0) rfl rfl d_X2_init_4 ?_
  refine aw_bipush (v := 16) hX (by decide) d_X2_init_5 ?_
  refine aw_newI hX (N := 16) rfl (hB 80 (by decide)) (by decide) (by decide) (by decide) (by decide) wc_3 (by decide) (by decide) d_X2_init_7 ?_
  refine aw_putFR hX hn hF (ci := 2) (k := 3) (ty := (.array .int)) rfl (by decide) (by decide) rfl rfl wc_33 rfl rfl (by decide +kernel) (fun x => rfl) (fun x => rfl) rfl d_X2_init_9 ?_
  refine aw_aload_n hX (i := 0) rfl rfl d_X2_init_12 ?_
  refine aw_bipush (v := 16) hX (by decide) d_X2_init_13 ?_
  refine aw_newL hX (N := 16) rfl (bk_R (by decide) (hB 81 (by decide))) (by decide) (by decide) (by decide) (by decide) wc_6 (by decide) (by decide) d_X2_init_15 ?_
  refine aw_putFR hX hn hF (ci := 2) (k := 4) (ty := (.array .long)) rfl (by decide) (by decide) rfl rfl wc_34 rfl rfl (by decide +kernel) (fun x => rfl) (fun x => rfl) rfl d_X2_init_17 ?_
  refine aw_aload_n hX (i := 0) rfl rfl d_X2_init_20 ?_
  refine aw_bipush (v := 17) hX (by decide) d_X2_init_21 ?_
  refine aw_newL hX (N := 17) rfl (bk_R (by decide) (bk_R (by decide) (hB 82 (by decide)))) (by decide) (by decide) (by decide) (by decide) wc_6 (by decide) (by decide) d_X2_init_23 ?_
  refine aw_putFR hX hn hF (ci := 2) (k := 6) (ty := (.array .long)) rfl (by decide) (by decide) rfl rfl wc_35 rfl rfl (by decide +kernel) (fun x => rfl) (fun x => rfl) rfl d_X2_init_25 ?_
  refine aw_aload_n hX (i := 0) rfl rfl d_X2_init_28 ?_
  refine aw_iload_n hX (i := 1) rfl rfl d_X2_init_29 ?_
  refine aw_putFI hX hn (ci := 2) (k := 0) rfl (by decide) (by decide) rfl rfl wc_36 rfl rfl (by decide +kernel) rfl d_X2_init_30 ?_
  refine aw_aload_n hX (i := 0) rfl rfl d_X2_init_33 ?_
  refine aw_iload_n hX (i := 1) rfl rfl d_X2_init_34 ?_
  refine aw_iconst (v := 2) hX (by decide) d_X2_init_35 ?_
  refine aw_icmp_ne (t := 44) hX (by decide) d_X2_init_36 (fun c => ?_) (fun c => absurd c (by decide))
  refine aw_iconst (v := 1) hX (by decide) d_X2_init_44 ?_
  refine aw_putFI hX hn (ci := 2) (k := 1) rfl (by decide) (by decide) rfl rfl wc_37 rfl rfl (by decide +kernel) rfl d_X2_init_45 ?_
  refine aw_aload_n hX (i := 0) rfl rfl d_X2_init_48 ?_
  refine aw_iload_n hX (i := 1) rfl rfl d_X2_init_49 ?_
  refine aw_iconst (v := 2) hX (by decide) d_X2_init_50 ?_
  refine aw_icmp_ne (t := 60) hX (by decide) d_X2_init_51 (fun c => ?_) (fun c => absurd c (by decide))
  refine aw_bipush (v := 16) hX (by decide) d_X2_init_60 ?_
  refine aw_newL hX (N := 16) rfl (bk_I (by decide) (bk_I (by decide) (bk_R (by decide) (bk_R (by decide) (bk_R (by decide) (hB 83 (by decide))))))) (by decide) (by decide) (by decide) (by decide) wc_6 (by decide) (by decide) d_X2_init_62 ?_
  refine aw_putFR hX hn hF (ci := 2) (k := 2) (ty := (.array .long)) rfl (by decide) (by decide) rfl rfl wc_38 rfl rfl (by decide +kernel) (fun x => rfl) (fun x => rfl) rfl d_X2_init_64 ?_
  refine aw_aload_n hX (i := 0) rfl rfl d_X2_init_67 ?_
  refine aw_iload_n hX (i := 1) rfl rfl d_X2_init_68 ?_
  refine aw_iconst (v := 2) hX (by decide) d_X2_init_69 ?_
  refine aw_icmp_ne (t := 79) hX (by decide) d_X2_init_70 (fun c => ?_) (fun c => absurd c (by decide))
  refine aw_bipush (v := 33) hX (by decide) d_X2_init_79 ?_
  refine aw_newL hX (N := 33) rfl (bk_R (by decide) (bk_I (by decide) (bk_I (by decide) (bk_R (by decide) (bk_R (by decide) (bk_R (by decide) (hB 84 (by decide)))))))) (by decide) (by decide) (by decide) (by decide) wc_6 (by decide) (by decide) d_X2_init_81 ?_
  refine aw_putFR hX hn hF (ci := 2) (k := 5) (ty := (.array .long)) rfl (by decide) (by decide) rfl rfl wc_39 rfl rfl (by decide +kernel) (fun x => rfl) (fun x => rfl) rfl d_X2_init_83 ?_
  exact aw_return hX (by decide) (by decide) d_X2_init_86)
def c_X2_init_85 (h : AH) : AH := (sR (sR (sI (sI (sR (sR (sR h 85 3 (some 86)) 85 4 (some 87)) 85 6 (some 88)) 85 0 4) 85 1 1) 85 2 (some 89)) 85 5 (some 90))
theorem b_X2_init_85 {h : AH} {a : Nat} (ha : 91 ≤ a) (h0 : Blank h a) : Blank (c_X2_init_85 h) a := (bk_R (by omega) (bk_R (by omega) (bk_I (by omega) (bk_I (by omega) (bk_R (by omega) (bk_R (by omega) (bk_R (by omega) h0)))))))
theorem k_X2_init_85 {g : GP} (hg : g.1.stackTraces = false) (hF : gF g = false) {h : AH} (hB : ∀ a, 85 < a → Blank h a) : Ctr g yX2_init (wsY yX2_init cX2_init 2 none) 1 5 98 [.ref 85, .int 4] 86 true h none 91 true (c_X2_init_85 h) := ctr_of (lv0 := [.ref 85, .int 4]) rfl rfl (by decide) hg trivial (fun X hX hn => by
  replace hX : Cx g RX2 cX2_init 1 5 98 none [] X := hX
  replace hn : X.meth.name = "<init>" := hn
  refine aw_aload_n hX (i := 0) rfl rfl d_X2_init_0 ?_
  refine aw_objI hX wc_32 wc_1 wc_2 (by decide) (by decide) d_X2_init_1 ?_
  refine aw_aload_n hX (i := 0) rfl rfl d_X2_init_4 ?_
  refine aw_bipush (v := 16) hX (by decide) d_X2_init_5 ?_
  refine aw_newI hX (N := 16) rfl (hB 86 (by decide)) (by decide) (by decide) (by decide) (by decide) wc_3 (by decide) (by decide) d_X2_init_7 ?_
  refine aw_putFR hX hn hF (ci := 2) (k := 3) (ty := (.array .int)) rfl (by decide) (by decide) rfl rfl wc_33 rfl rfl (by decide +kernel) (fun x => rfl) (fun x => rfl) rfl d_X2_init_9 ?_
  refine aw_aload_n hX (i := 0) rfl rfl d_X2_init_12 ?_
  refine aw_bipush (v := 16) hX (by decide) d_X2_init_13 ?_
  refine aw_newL hX (N := 16) rfl (bk_R (by decide) (hB 87 (by decide))) (by decide) (by decide) (by decide) (by decide) wc_6 (by decide) (by decide) d_X2_init_15 ?_
  refine aw_putFR hX hn hF (ci := 2) (k := 4) (ty := (.array .long)) rfl (by decide) (by decide) rfl rfl wc_34 rfl rfl (by decide +kernel) (fun x => rfl) (fun x => rfl) rfl d_X2_init_17 ?_
  refine aw_aload_n hX (i := 0) rfl rfl d_X2_init_20 ?_
  refine aw_bipush (v := 17) hX (by decide) d_X2_init_21 ?_
  refine aw_newL hX (N := 17) rfl (bk_R (by decide) (bk_R (by decide) (hB 88 (by decide)))) (by decide) (by decide) (by decide) (by decide) wc_6 (by decide) (by decide) d_X2_init_23 ?_
  refine aw_putFR hX hn hF (ci := 2) (k := 6) (ty := (.array .long)) rfl (by decide) (by decide) rfl rfl wc_35 rfl rfl (by decide +kernel) (fun x => rfl) (fun x => rfl) rfl d_X2_init_25 ?_
  refine aw_aload_n hX (i := 0) rfl rfl d_X2_init_28 ?_
  refine aw_iload_n hX (i := 1) rfl rfl d_X2_init_29 ?_
  refine aw_putFI hX hn (ci := 2) (k := 0) rfl (by decide) (by decide) rfl rfl wc_36 rfl rfl (by decide +kernel) rfl d_X2_init_30 ?_
  refine aw_aload_n hX (i := 0) rfl rfl d_X2_init_33 ?_
  refine aw_iload_n hX (i := 1) rfl rfl d_X2_init_34 ?_
  refine aw_iconst (v := 2) hX (by decide) d_X2_init_35 ?_
  refine aw_icmp_ne (t := 44) hX (by decide) d_X2_init_36 (fun c => ?_) (fun c => absurd c (by decide))
  refine aw_iconst (v := 1) hX (by decide) d_X2_init_44 ?_
  refine aw_putFI hX hn (ci := 2) (k := 1) rfl (by decide) (by decide) rfl rfl wc_37 rfl rfl (by decide +kernel) rfl d_X2_init_45 ?_
  refine aw_aload_n hX (i := 0) rfl rfl d_X2_init_48 ?_
  refine aw_iload_n hX (i := 1) rfl rfl d_X2_init_49 ?_
  refine aw_iconst (v := 2) hX (by decide) d_X2_init_50 ?_
  refine aw_icmp_ne (t := 60) hX (by decide) d_X2_init_51 (fun c => ?_) (fun c => absurd c (by decide))
  refine aw_bipush (v := 16) hX (by decide) d_X2_init_60 ?_
  refine aw_newL hX (N := 16) rfl (bk_I (by decide) (bk_I (by decide) (bk_R (by decide) (bk_R (by decide) (bk_R (by decide) (hB 89 (by decide))))))) (by decide) (by decide) (by decide) (by decide) wc_6 (by decide) (by decide) d_X2_init_62 ?_
  refine aw_putFR hX hn hF (ci := 2) (k := 2) (ty := (.array .long)) rfl (by decide) (by decide) rfl rfl wc_38 rfl rfl (by decide +kernel) (fun x => rfl) (fun x => rfl) rfl d_X2_init_64 ?_
  refine aw_aload_n hX (i := 0) rfl rfl d_X2_init_67 ?_
  refine aw_iload_n hX (i := 1) rfl rfl d_X2_init_68 ?_
  refine aw_iconst (v := 2) hX (by decide) d_X2_init_69 ?_
  refine aw_icmp_ne (t := 79) hX (by decide) d_X2_init_70 (fun c => ?_) (fun c => absurd c (by decide))
  refine aw_bipush (v := 33) hX (by decide) d_X2_init_79 ?_
  refine aw_newL hX (N := 33) rfl (bk_R (by decide) (bk_I (by decide) (bk_I (by decide) (bk_R (by decide) (bk_R (by decide) (bk_R (by decide) (hB 90 (by decide)))))))) (by decide) (by decide) (by decide) (by decide) wc_6 (by decide) (by decide) d_X2_init_81 ?_
  refine aw_putFR hX hn hF (ci := 2) (k := 5) (ty := (.array .long)) rfl (by decide) (by decide) rfl rfl wc_39 rfl rfl (by decide +kernel) (fun x => rfl) (fun x => rfl) rfl d_X2_init_83 ?_
  exact aw_return hX (by decide) (by decide) d_X2_init_86)
def c_X2_init_91 (h : AH) : AH := (sR (sR (sI (sI (sR (sR (sR h 91 3 (some 92)) 91 4 (some 93)) 91 6 (some 94)) 91 0 0) 91 1 1) 91 2 (some 95)) 91 5 (some 96))
theorem b_X2_init_91 {h : AH} {a : Nat} (ha : 97 ≤ a) (h0 : Blank h a) : Blank (c_X2_init_91 h) a := (bk_R (by omega) (bk_R (by omega) (bk_I (by omega) (bk_I (by omega) (bk_R (by omega) (bk_R (by omega) (bk_R (by omega) h0)))))))
theorem k_X2_init_91 {g : GP} (hg : g.1.stackTraces = false) (hF : gF g = false) {h : AH} (hB : ∀ a, 91 < a → Blank h a) : Ctr g yX2_init (wsY yX2_init cX2_init 2 none) 1 5 98 [.ref 91, .int 0] 92 true h none 97 true (c_X2_init_91 h) := ctr_of (lv0 := [.ref 91, .int 0]) rfl rfl (by decide) hg trivial (fun X hX hn => by
  replace hX : Cx g RX2 cX2_init 1 5 98 none [] X := hX
  replace hn : X.meth.name = "<init>" := hn
  refine aw_aload_n hX (i := 0) rfl rfl d_X2_init_0 ?_
  refine aw_objI hX wc_32 wc_1 wc_2 (by decide) (by decide) d_X2_init_1 ?_
  refine aw_aload_n hX (i := 0) rfl rfl d_X2_init_4 ?_
  refine aw_bipush (v := 16) hX (by decide) d_X2_init_5 ?_
  refine aw_newI hX (N := 16) rfl (hB 92 (by decide)) (by decide) (by decide) (by decide) (by decide) wc_3 (by decide) (by decide) d_X2_init_7 ?_
  refine aw_putFR hX hn hF (ci := 2) (k := 3) (ty := (.array .int)) rfl (by decide) (by decide) rfl rfl wc_33 rfl rfl (by decide +kernel) (fun x => rfl) (fun x => rfl) rfl d_X2_init_9 ?_
  refine aw_aload_n hX (i := 0) rfl rfl d_X2_init_12 ?_
  refine aw_bipush (v := 16) hX (by decide) d_X2_init_13 ?_
  refine aw_newL hX (N := 16) rfl (bk_R (by decide) (hB 93 (by decide))) (by decide) (by decide) (by decide) (by decide) wc_6 (by decide) (by decide) d_X2_init_15 ?_
  refine aw_putFR hX hn hF (ci := 2) (k := 4) (ty := (.array .long)) rfl (by decide) (by decide) rfl rfl wc_34 rfl rfl (by decide +kernel) (fun x => rfl) (fun x => rfl) rfl d_X2_init_17 ?_
  refine aw_aload_n hX (i := 0) rfl rfl d_X2_init_20 ?_
  refine aw_bipush (v := 17) hX (by decide) d_X2_init_21 ?_
  refine aw_newL hX (N := 17) rfl (bk_R (by decide) (bk_R (by decide) (hB 94 (by decide)))) (by decide) (by decide) (by decide) (by decide) wc_6 (by decide) (by decide) d_X2_init_23 ?_
  refine aw_putFR hX hn hF (ci := 2) (k := 6) (ty := (.array .long)) rfl (by decide) (by decide) rfl rfl wc_35 rfl rfl (by decide +kernel) (fun x => rfl) (fun x => rfl) rfl d_X2_init_25 ?_
  refine aw_aload_n hX (i := 0) rfl rfl d_X2_init_28 ?_
  refine aw_iload_n hX (i := 1) rfl rfl d_X2_init_29 ?_
  refine aw_putFI hX hn (ci := 2) (k := 0) rfl (by decide) (by decide) rfl rfl wc_36 rfl rfl (by decide +kernel) rfl d_X2_init_30 ?_
  refine aw_aload_n hX (i := 0) rfl rfl d_X2_init_33 ?_
  refine aw_iload_n hX (i := 1) rfl rfl d_X2_init_34 ?_
  refine aw_iconst (v := 2) hX (by decide) d_X2_init_35 ?_
  refine aw_icmp_ne (t := 44) hX (by decide) d_X2_init_36 (fun c => ?_) (fun c => absurd c (by decide))
  refine aw_iconst (v := 1) hX (by decide) d_X2_init_44 ?_
  refine aw_putFI hX hn (ci := 2) (k := 1) rfl (by decide) (by decide) rfl rfl wc_37 rfl rfl (by decide +kernel) rfl d_X2_init_45 ?_
  refine aw_aload_n hX (i := 0) rfl rfl d_X2_init_48 ?_
  refine aw_iload_n hX (i := 1) rfl rfl d_X2_init_49 ?_
  refine aw_iconst (v := 2) hX (by decide) d_X2_init_50 ?_
  refine aw_icmp_ne (t := 60) hX (by decide) d_X2_init_51 (fun c => ?_) (fun c => absurd c (by decide))
  refine aw_bipush (v := 16) hX (by decide) d_X2_init_60 ?_
  refine aw_newL hX (N := 16) rfl (bk_I (by decide) (bk_I (by decide) (bk_R (by decide) (bk_R (by decide) (bk_R (by decide) (hB 95 (by decide))))))) (by decide) (by decide) (by decide) (by decide) wc_6 (by decide) (by decide) d_X2_init_62 ?_
  refine aw_putFR hX hn hF (ci := 2) (k := 2) (ty := (.array .long)) rfl (by decide) (by decide) rfl rfl wc_38 rfl rfl (by decide +kernel) (fun x => rfl) (fun x => rfl) rfl d_X2_init_64 ?_
  refine aw_aload_n hX (i := 0) rfl rfl d_X2_init_67 ?_
  refine aw_iload_n hX (i := 1) rfl rfl d_X2_init_68 ?_
  refine aw_iconst (v := 2) hX (by decide) d_X2_init_69 ?_
  refine aw_icmp_ne (t := 79) hX (by decide) d_X2_init_70 (fun c => ?_) (fun c => absurd c (by decide))
  refine aw_bipush (v := 33) hX (by decide) d_X2_init_79 ?_
  refine aw_newL hX (N := 33) rfl (bk_R (by decide) (bk_I (by decide) (bk_I (by decide) (bk_R (by decide) (bk_R (by decide) (bk_R (by decide) (hB 96 (by decide)))))))) (by decide) (by decide) (by decide) (by decide) wc_6 (by decide) (by decide) d_X2_init_81 ?_
  refine aw_putFR hX hn hF (ci := 2) (k := 5) (ty := (.array .long)) rfl (by decide) (by decide) rfl rfl wc_39 rfl rfl (by decide +kernel) (fun x => rfl) (fun x => rfl) rfl d_X2_init_83 ?_
  exact aw_return hX (by decide) (by decide) d_X2_init_86)
def c_X2_init_97 (h : AH) : AH := (sR (sR (sI (sI (sR (sR (sR h 97 3 (some 98)) 97 4 (some 99)) 97 6 (some 100)) 97 0 1) 97 1 1) 97 2 (some 101)) 97 5 (some 102))
theorem b_X2_init_97 {h : AH} {a : Nat} (ha : 103 ≤ a) (h0 : Blank h a) : Blank (c_X2_init_97 h) a := (bk_R (by omega) (bk_R (by omega) (bk_I (by omega) (bk_I (by omega) (bk_R (by omega) (bk_R (by omega) (bk_R (by omega) h0)))))))
theorem k_X2_init_97 {g : GP} (hg : g.1.stackTraces = false) (hF : gF g = false) {h : AH} (hB : ∀ a, 97 < a → Blank h a) : Ctr g yX2_init (wsY yX2_init cX2_init 2 none) 1 5 98 [.ref 97, .int 1] 98 true h none 103 true (c_X2_init_97 h) := ctr_of (lv0 := [.ref 97, .int 1]) rfl rfl (by decide) hg trivial (fun X hX hn => by
  replace hX : Cx g RX2 cX2_init 1 5 98 none [] X := hX
  replace hn : X.meth.name = "<init>" := hn
  refine aw_aload_n hX (i := 0) rfl rfl d_X2_init_0 ?_
  refine aw_objI hX wc_32 wc_1 wc_2 (by decide) (by decide) d_X2_init_1 ?_
  refine aw_aload_n hX (i := 0) rfl rfl d_X2_init_4 ?_
  refine aw_bipush (v := 16) hX (by decide) d_X2_init_5 ?_
  refine aw_newI hX (N := 16) rfl (hB 98 (by decide)) (by decide) (by decide) (by decide) (by decide) wc_3 (by decide) (by decide) d_X2_init_7 ?_
  refine aw_putFR hX hn hF (ci := 2) (k := 3) (ty := (.array .int)) rfl (by decide) (by decide) rfl rfl wc_33 rfl rfl (by decide +kernel) (fun x => rfl) (fun x => rfl) rfl d_X2_init_9 ?_
  refine aw_aload_n hX (i := 0) rfl rfl d_X2_init_12 ?_
  refine aw_bipush (v := 16) hX (by decide) d_X2_init_13 ?_
  refine aw_newL hX (N := 16) rfl (bk_R (by decide) (hB 99 (by decide))) (by decide) (by decide) (by decide) (by decide) wc_6 (by decide) (by decide) d_X2_init_15 ?_
  refine aw_putFR hX hn hF (ci := 2) (k := 4) (ty := (.array .long)) rfl (by decide) (by decide) rfl rfl wc_34 rfl rfl (by decide +kernel) (fun x => rfl) (fun x => rfl) rfl d_X2_init_17 ?_
  refine aw_aload_n hX (i := 0) rfl rfl d_X2_init_20 ?_
  refine aw_bipush (v := 17) hX (by decide) d_X2_init_21 ?_
  refine aw_newL hX (N := 17) rfl (bk_R (by decide) (bk_R (by decide) (hB 100 (by decide)))) (by decide) (by decide) (by decide) (by decide) wc_6 (by decide) (by decide) d_X2_init_23 ?_
  refine aw_putFR hX hn hF (ci := 2) (k := 6) (ty := (.array .long)) rfl (by decide) (by decide) rfl rfl wc_35 rfl rfl (by decide +kernel) (fun x => rfl) (fun x => rfl) rfl d_X2_init_25 ?_
  refine aw_aload_n hX (i := 0) rfl rfl d_X2_init_28 ?_
  refine aw_iload_n hX (i := 1) rfl rfl d_X2_init_29 ?_
  refine aw_putFI hX hn (ci := 2) (k := 0) rfl (by decide) (by decide) rfl rfl wc_36 rfl rfl (by decide +kernel) rfl d_X2_init_30 ?_
  refine aw_aload_n hX (i := 0) rfl rfl d_X2_init_33 ?_
  refine aw_iload_n hX (i := 1) rfl rfl d_X2_init_34 ?_
  refine aw_iconst (v := 2) hX (by decide) d_X2_init_35 ?_
  refine aw_icmp_ne (t := 44) hX (by decide) d_X2_init_36 (fun c => ?_) (fun c => absurd c (by decide))
  refine aw_iconst (v := 1) hX (by decide) d_X2_init_44 ?_
  refine aw_putFI hX hn (ci := 2) (k := 1) rfl (by decide) (by decide) rfl rfl wc_37 rfl rfl (by decide +kernel) rfl d_X2_init_45 ?_
  refine aw_aload_n hX (i := 0) rfl rfl d_X2_init_48 ?_
  refine aw_iload_n hX (i := 1) rfl rfl d_X2_init_49 ?_
  refine aw_iconst (v := 2) hX (by decide) d_X2_init_50 ?_
  refine aw_icmp_ne (t := 60) hX (by decide) d_X2_init_51 (fun c => ?_) (fun c => absurd c (by decide))
  refine aw_bipush (v := 16) hX (by decide) d_X2_init_60 ?_
  refine aw_newL hX (N := 16) rfl (bk_I (by decide) (bk_I (by decide) (bk_R (by decide) (bk_R (by decide) (bk_R (by decide) (hB 101 (by decide))))))) (by decide) (by decide) (by decide) (by decide) wc_6 (by decide) (by decide) d_X2_init_62 ?_
  refine aw_putFR hX hn hF (ci := 2) (k := 2) (ty := (.array .long)) rfl (by decide) (by decide) rfl rfl wc_38 rfl rfl (by decide +kernel) (fun x => rfl) (fun x => rfl) rfl d_X2_init_64 ?_
  refine aw_aload_n hX (i := 0) rfl rfl d_X2_init_67 ?_
  refine aw_iload_n hX (i := 1) rfl rfl d_X2_init_68 ?_
  refine aw_iconst (v := 2) hX (by decide) d_X2_init_69 ?_
  refine aw_icmp_ne (t := 79) hX (by decide) d_X2_init_70 (fun c => ?_) (fun c => absurd c (by decide))
  refine aw_bipush (v := 33) hX (by decide) d_X2_init_79 ?_
  refine aw_newL hX (N := 33) rfl (bk_R (by decide) (bk_I (by decide) (bk_I (by decide) (bk_R (by decide) (bk_R (by decide) (bk_R (by decide) (hB 102 (by decide)))))))) (by decide) (by decide) (by decide) (by decide) wc_6 (by decide) (by decide) d_X2_init_81 ?_
  refine aw_putFR hX hn hF (ci := 2) (k := 5) (ty := (.array .long)) rfl (by decide) (by decide) rfl rfl wc_39 rfl rfl (by decide +kernel) (fun x => rfl) (fun x => rfl) rfl d_X2_init_83 ?_
  exact aw_return hX (by decide) (by decide) d_X2_init_86)
def c_X2_init_103 (h : AH) : AH := (sR (sR (sI (sI (sR (sR (sR h 103 3 (some 104)) 103 4 (some 105)) 103 6 (some 106)) 103 0 2) 103 1 13) 103 2 (some 107)) 103 5 (some 108))
theorem b_X2_init_103 {h : AH} {a : Nat} (ha : 109 ≤ a) (h0 : Blank h a) : Blank (c_X2_init_103 h) a := (bk_R (by omega) (bk_R (by omega) (bk_I (by omega) (bk_I (by omega) (bk_R (by omega) (bk_R (by omega) (bk_R (by omega) h0)))))))
theorem k_X2_init_103 {g : GP} (hg : g.1.stackTraces = false) (hF : gF g = false) {h : AH} (hB : ∀ a, 103 < a → Blank h a) : Ctr g yX2_init (wsY yX2_init cX2_init 2 none) 1 5 686 [.ref 103, .int 2] 104 true h none 109 true (c_X2_init_103 h) := ctr_of (lv0 := [.ref 103, .int 2]) rfl rfl (by decide) hg trivial (fun X hX hn => by
  replace hX : Cx g RX2 cX2_init 1 5 686 none [] X := hX
  replace hn : X.meth.name = "<init>" := hn
  refine aw_aload_n hX (i := 0) rfl rfl d_X2_init_0 ?_
  refine aw_objI hX wc_32 wc_1 wc_2 (by decide) (by decide) d_X2_init_1 ?_
  refine aw_aload_n hX (i := 0) rfl rfl d_X2_init_4 ?_
  refine aw_bipush (v := 16) hX (by decide) d_X2_init_5 ?_
  refine aw_newI hX (N := 16) rfl (hB 104 (by decide)) (by decide) (by decide) (by decide) (by decide) wc_3 (by decide) (by decide) d_X2_init_7 ?_
  refine aw_putFR hX hn hF (ci := 2) (k := 3) (ty := (.array .int)) rfl (by decide) (by decide) rfl rfl wc_33 rfl rfl (by decide +kernel) (fun x => rfl) (fun x => rfl) rfl d_X2_init_9 ?_
  refine aw_aload_n hX (i := 0) rfl rfl d_X2_init_12 ?_
  refine aw_bipush (v := 16) hX (by decide) d_X2_init_13 ?_
  refine aw_newL hX (N := 16) rfl (bk_R (by decide) (hB 105 (by decide))) (by decide) (by decide) (by decide) (by decide) wc_6 (by decide) (by decide) d_X2_init_15 ?_
  refine aw_putFR hX hn hF (ci := 2) (k := 4) (ty := (.array .long)) rfl (by decide) (by decide) rfl rfl wc_34 rfl rfl (by decide +kernel) (fun x => rfl) (fun x => rfl) rfl d_X2_init_17 ?_
  refine aw_aload_n hX (i := 0) rfl rfl d_X2_init_20 ?_
  refine aw_bipush (v := 17) hX (by decide) d_X2_init_21 ?_
  refine aw_newL hX (N := 17) rfl (bk_R (by decide) (bk_R (by decide) (hB 106 (by decide)))) (by decide) (by decide) (by decide) (by decide) wc_6 (by decide) (by decide) d_X2_init_23 ?_
  refine aw_putFR hX hn hF (ci := 2) (k := 6) (ty := (.array .long)) rfl (by decide) (by decide) rfl rfl wc_35 rfl rfl (by decide +kernel) (fun x => rfl) (fun x => rfl) rfl d_X2_init_25 ?_
  refine aw_aload_n hX (i := 0) rfl rfl d_X2_init_28 ?_
  refine aw_iload_n hX (i := 1) rfl rfl d_X2_init_29 ?_
  refine aw_putFI hX hn (ci := 2) (k := 0) rfl (by decide) (by decide) rfl rfl wc_36 rfl rfl (by decide +kernel) rfl d_X2_init_30 ?_
  refine aw_aload_n hX (i := 0) rfl rfl d_X2_init_33 ?_
  refine aw_iload_n hX (i := 1) rfl rfl d_X2_init_34 ?_
  refine aw_iconst (v := 2) hX (by decide) d_X2_init_35 ?_
  refine aw_icmp_ne (t := 44) hX (by decide) d_X2_init_36 (fun c => absurd rfl c) (fun c => ?_)
  refine aw_bipush (v := 13) hX (by decide) d_X2_init_39 ?_
  refine aw_goto (t := 45) hX (by decide) d_X2_init_41 ?_
  refine aw_putFI hX hn (ci := 2) (k := 1) rfl (by decide) (by decide) rfl rfl wc_37 rfl rfl (by decide +kernel) rfl d_X2_init_45 ?_
  refine aw_aload_n hX (i := 0) rfl rfl d_X2_init_48 ?_
  refine aw_iload_n hX (i := 1) rfl rfl d_X2_init_49 ?_
  refine aw_iconst (v := 2) hX (by decide) d_X2_init_50 ?_
  refine aw_icmp_ne (t := 60) hX (by decide) d_X2_init_51 (fun c => absurd rfl c) (fun c => ?_)
  refine aw_sipush (v := 208) hX (by decide) d_X2_init_54 ?_
  refine aw_goto (t := 62) hX (by decide) d_X2_init_57 ?_
  refine aw_newL hX (N := 208) rfl (bk_I (by decide) (bk_I (by decide) (bk_R (by decide) (bk_R (by decide) (bk_R (by decide) (hB 107 (by decide))))))) (by decide) (by decide) (by decide) (by decide) wc_6 (by decide) (by decide) d_X2_init_62 ?_
  refine aw_putFR hX hn hF (ci := 2) (k := 2) (ty := (.array .long)) rfl (by decide) (by decide) rfl rfl wc_38 rfl rfl (by decide +kernel) (fun x => rfl) (fun x => rfl) rfl d_X2_init_64 ?_
  refine aw_aload_n hX (i := 0) rfl rfl d_X2_init_67 ?_
  refine aw_iload_n hX (i := 1) rfl rfl d_X2_init_68 ?_
  refine aw_iconst (v := 2) hX (by decide) d_X2_init_69 ?_
  refine aw_icmp_ne (t := 79) hX (by decide) d_X2_init_70 (fun c => absurd rfl c) (fun c => ?_)
  refine aw_sipush (v := 429) hX (by decide) d_X2_init_73 ?_
  refine aw_goto (t := 81) hX (by decide) d_X2_init_76 ?_
  refine aw_newL hX (N := 429) rfl (bk_R (by decide) (bk_I (by decide) (bk_I (by decide) (bk_R (by decide) (bk_R (by decide) (bk_R (by decide) (hB 108 (by decide)))))))) (by decide) (by decide) (by decide) (by decide) wc_6 (by decide) (by decide) d_X2_init_81 ?_
  refine aw_putFR hX hn hF (ci := 2) (k := 5) (ty := (.array .long)) rfl (by decide) (by decide) rfl rfl wc_39 rfl rfl (by decide +kernel) (fun x => rfl) (fun x => rfl) rfl d_X2_init_83 ?_
  exact aw_return hX (by decide) (by decide) d_X2_init_86)
def c_X2_init_109 (h : AH) : AH := (sR (sR (sI (sI (sR (sR (sR h 109 3 (some 110)) 109 4 (some 111)) 109 6 (some 112)) 109 0 3) 109 1 1) 109 2 (some 113)) 109 5 (some 114))
theorem b_X2_init_109 {h : AH} {a : Nat} (ha : 115 ≤ a) (h0 : Blank h a) : Blank (c_X2_init_109 h) a := (bk_R (by omega) (bk_R (by omega) (bk_I (by omega) (bk_I (by omega) (bk_R (by omega) (bk_R (by omega) (bk_R (by omega) h0)))))))
theorem k_X2_init_109 {g : GP} (hg : g.1.stackTraces = false) (hF : gF g = false) {h : AH} (hB : ∀ a, 109 < a → Blank h a) : Ctr g yX2_init (wsY yX2_init cX2_init 2 none) 1 5 98 [.ref 109, .int 3] 110 true h none 115 true (c_X2_init_109 h) := ctr_of (lv0 := [.ref 109, .int 3]) rfl rfl (by decide) hg trivial (fun X hX hn => by
  replace hX : Cx g RX2 cX2_init 1 5 98 none [] X := hX
  replace hn : X.meth.name = "<init>" := hn
  refine aw_aload_n hX (i := 0) rfl rfl d_X2_init_0 ?_
  refine aw_objI hX wc_32 wc_1 wc_2 (by decide) (by decide) d_X2_init_1 ?_
  refine aw_aload_n hX (i := 0) rfl rfl d_X2_init_4 ?_
  refine aw_bipush (v := 16) hX (by decide) d_X2_init_5 ?_
  refine aw_newI hX (N := 16) rfl (hB 110 (by decide)) (by decide) (by decide) (by decide) (by decide) wc_3 (by decide) (by decide) d_X2_init_7 ?_
  refine aw_putFR hX hn hF (ci := 2) (k := 3) (ty := (.array .int)) rfl (by decide) (by decide) rfl rfl wc_33 rfl rfl (by decide +kernel) (fun x => rfl) (fun x => rfl) rfl d_X2_init_9 ?_
  refine aw_aload_n hX (i := 0) rfl rfl d_X2_init_12 ?_
  refine aw_bipush (v := 16) hX (by decide) d_X2_init_13 ?_
  refine aw_newL hX (N := 16) rfl (bk_R (by decide) (hB 111 (by decide))) (by decide) (by decide) (by decide) (by decide) wc_6 (by decide) (by decide) d_X2_init_15 ?_
  refine aw_putFR hX hn hF (ci := 2) (k := 4) (ty := (.array .long)) rfl (by decide) (by decide) rfl rfl wc_34 rfl rfl (by decide +kernel) (fun x => rfl) (fun x => rfl) rfl d_X2_init_17 ?_
  refine aw_aload_n hX (i := 0) rfl rfl d_X2_init_20 ?_
  refine aw_bipush (v := 17) hX (by decide) d_X2_init_21 ?_
  refine aw_newL hX (N := 17) rfl (bk_R (by decide) (bk_R (by decide) (hB 112 (by decide)))) (by decide) (by decide) (by decide) (by decide) wc_6 (by decide) (by decide) d_X2_init_23 ?_
  refine aw_putFR hX hn hF (ci := 2) (k := 6) (ty := (.array .long)) rfl (by decide) (by decide) rfl rfl wc_35 rfl rfl (by decide +kernel) (fun x => rfl) (fun x => rfl) rfl d_X2_init_25 ?_
  refine aw_aload_n hX (i := 0) rfl rfl d_X2_init_28 ?_
  refine aw_iload_n hX (i := 1) rfl rfl d_X2_init_29 ?_
  refine aw_putFI hX hn (ci := 2) (k := 0) rfl (by decide) (by decide) rfl rfl wc_36 rfl rfl (by decide +kernel) rfl d_X2_init_30 ?_
  refine aw_aload_n hX (i := 0) rfl rfl d_X2_init_33 ?_
  refine aw_iload_n hX (i := 1) rfl rfl d_X2_init_34 ?_
  refine aw_iconst (v := 2) hX (by decide) d_X2_init_35 ?_
  refine aw_icmp_ne (t := 44) hX (by decide) d_X2_init_36 (fun c => ?_) (fun c => absurd c (by decide))
  refine aw_iconst (v := 1) hX (by decide) d_X2_init_44 ?_
  refine aw_putFI hX hn (ci := 2) (k := 1) rfl (by decide) (by decide) rfl rfl wc_37 rfl rfl (by decide +kernel) rfl d_X2_init_45 ?_
  refine aw_aload_n hX (i := 0) rfl rfl d_X2_init_48 ?_
  refine aw_iload_n hX (i := 1) rfl rfl d_X2_init_49 ?_
  refine aw_iconst (v := 2) hX (by decide) d_X2_init_50 ?_
  refine aw_icmp_ne (t := 60) hX (by decide) d_X2_init_51 (fun c => ?_) (fun c => absurd c (by decide))
  refine aw_bipush (v := 16) hX (by decide) d_X2_init_60 ?_
  refine aw_newL hX (N := 16) rfl (bk_I (by decide) (bk_I (by decide) (bk_R (by decide) (bk_R (by decide) (bk_R (by decide) (hB 113 (by decide))))))) (by decide) (by decide) (by decide) (by decide) wc_6 (by decide) (by decide) d_X2_init_62 ?_
  refine aw_putFR hX hn hF (ci := 2) (k := 2) (ty := (.array .long)) rfl (by decide) (by decide) rfl rfl wc_38 rfl rfl (by decide +kernel) (fun x => rfl) (fun x => rfl) rfl d_X2_init_64 ?_
  refine aw_aload_n hX (i := 0) rfl rfl d_X2_init_67 ?_
  refine aw_iload_n hX (i := 1) rfl rfl d_X2_init_68 ?_
  refine aw_iconst (v := 2) hX (by decide) d_X2_init_69 ?_
  refine aw_icmp_ne (t := 79) hX (by decide) d_X2_init_70 (fun c => ?_) (fun c => absurd c (by decide))
  refine aw_bipush (v := 33) hX (by decide) d_X2_init_79 ?_
  refine aw_newL hX (N := 33) rfl (bk_R (by decide) (bk_I (by decide) (bk_I (by decide) (bk_R (by decide) (bk_R (by decide) (bk_R (by decide) (hB 114 (by decide)))))))) (by decide) (by decide) (by decide) (by decide) wc_6 (by decide) (by decide) d_X2_init_81 ?_
  refine aw_putFR hX hn hF (ci := 2) (k := 5) (ty := (.array .long)) rfl (by decide) (by decide) rfl rfl wc_39 rfl rfl (by decide +kernel) (fun x => rfl) (fun x => rfl) rfl d_X2_init_83 ?_
  exact aw_return hX (by decide) (by decide) d_X2_init_86)
def c_X2_init_115 (h : AH) : AH := (sR (sR (sI (sI (sR (sR (sR h 115 3 (some 116)) 115 4 (some 117)) 115 6 (some 118)) 115 0 4) 115 1 1) 115 2 (some 119)) 115 5 (some 120))
theorem b_X2_init_115 {h : AH} {a : Nat} (ha : 121 ≤ a) (h0 : Blank h a) : Blank (c_X2_init_115 h) a := (bk_R (by omega) (bk_R (by omega) (bk_I (by omega) (bk_I (by omega) (bk_R (by omega) (bk_R (by omega) (bk_R (by omega) h0)))))))
theorem k_X2_init_115 {g : GP} (hg : g.1.stackTraces = false) (hF : gF g = false) {h : AH} (hB : ∀ a, 115 < a → Blank h a) : Ctr g yX2_init (wsY yX2_init cX2_init 2 none) 1 5 98 [.ref 115, .int 4] 116 true h none 121 true (c_X2_init_115 h) := ctr_of (lv0 := [.ref 115, .int 4]) rfl rfl (by decide) hg trivial (fun X hX hn => by
  replace hX : Cx g RX2 cX2_init 1 5 98 none [] X := hX
  replace hn : X.meth.name = "<init>" := hn
  refine aw_aload_n hX (i := 0) rfl rfl d_X2_init_0 ?_
  refine aw_objI hX wc_32 wc_1 wc_2 (by decide) (by decide) d_X2_init_1 ?_
  refine aw_aload_n hX (i := 0) rfl rfl d_X2_init_4 ?_
  refine aw_bipush (v := 16) hX (by decide) d_X2_init_5 ?_
  refine aw_newI hX (N := 16) rfl (hB 116 (by decide)) (by decide) (by decide) (by decide) (by decide) wc_3 (by decide) (by decide) d_X2_init_7 ?_
  refine aw_putFR hX hn hF (ci := 2) (k := 3) (ty := (.array .int)) rfl (by decide) (by decide) rfl rfl wc_33 rfl rfl (by decide +kernel) (fun x => rfl) (fun x => rfl) rfl d_X2_init_9 ?_
  refine aw_aload_n hX (i := 0) rfl rfl d_X2_init_12 ?_
  refine aw_bipush (v := 16) hX (by decide) d_X2_init_13 ?_
  refine aw_newL hX (N := 16) rfl (bk_R (by decide) (hB 117 (by decide))) (by decide) (by decide) (by decide) (by decide) wc_6 (by decide) (by decide) d_X2_init_15 ?_
  refine aw_putFR hX hn hF (ci := 2) (k := 4) (ty := (.array .long)) rfl (by decide) (by decide) rfl rfl wc_34 rfl rfl (by decide +kernel) (fun x => rfl) (fun x => rfl) rfl d_X2_init_17 ?_
  refine aw_aload_n hX (i := 0) rfl rfl d_X2_init_20 ?_
  refine aw_bipush (v := 17) hX (by decide) d_X2_init_21 ?_
  refine aw_newL hX (N := 17) rfl (bk_R (by decide) (bk_R (by decide) (hB 118 (by decide)))) (by decide) (by decide) (by decide) (by decide) wc_6 (by decide) (by decide) d_X2_init_23 ?_
  refine aw_putFR hX hn hF (ci := 2) (k := 6) (ty := (.array .long)) rfl (by decide) (by decide) rfl rfl wc_35 rfl rfl (by decide +kernel) (fun x => rfl) (fun x => rfl) rfl d_X2_init_25 ?_
  refine aw_aload_n hX (i := 0) rfl rfl d_X2_init_28 ?_
  refine aw_iload_n hX (i := 1) rfl rfl d_X2_init_29 ?_
  refine aw_putFI hX hn (ci := 2) (k := 0) rfl (by decide) (by decide) rfl rfl wc_36 rfl rfl (by decide +kernel) rfl d_X2_init_30 ?_
  refine aw_aload_n hX (i := 0) rfl rfl d_X2_init_33 ?_
  refine aw_iload_n hX (i := 1) rfl rfl d_X2_init_34 ?_
  refine aw_iconst (v := 2) hX (by decide) d_X2_init_35 ?_
  refine aw_icmp_ne (t := 44) hX (by decide) d_X2_init_36 (fun c => ?_) (fun c => absurd c (by decide))
  refine aw_iconst (v := 1) hX (by decide) d_X2_init_44 ?_
  refine aw_putFI hX hn (ci := 2) (k := 1) rfl (by decide) (by decide) rfl rfl wc_37 rfl rfl (by decide +kernel) rfl d_X2_init_45 ?_
  refine aw_aload_n hX (i := 0) rfl rfl d_X2_init_48 ?_
  refine aw_iload_n hX (i := 1) rfl rfl d_X2_init_49 ?_
  refine aw_iconst (v := 2) hX (by decide) d_X2_init_50 ?_
  refine aw_icmp_ne (t := 60) hX (by decide) d_X2_init_51 (fun c => ?_) (fun c => absurd c (by decide))
  refine aw_bipush (v := 16) hX (by decide) d_X2_init_60 ?_
  refine aw_newL hX (N := 16) rfl (bk_I (by decide) (bk_I (by decide) (bk_R (by decide) (bk_R (by decide) (bk_R (by decide) (hB 119 (by decide))))))) (by decide) (by decide) (by decide) (by decide) wc_6 (by decide) (by decide) d_X2_init_62 ?_
  refine aw_putFR hX hn hF (ci := 2) (k := 2) (ty := (.array .long)) rfl (by decide) (by decide) rfl rfl wc_38 rfl rfl (by decide +kernel) (fun x => rfl) (fun x => rfl) rfl d_X2_init_64 ?_
  refine aw_aload_n hX (i := 0) rfl rfl d_X2_init_67 ?_
  refine aw_iload_n hX (i := 1) rfl rfl d_X2_init_68 ?_
  refine aw_iconst (v := 2) hX (by decide) d_X2_init_69 ?_
  refine aw_icmp_ne (t := 79) hX (by decide) d_X2_init_70 (fun c => ?_) (fun c => absurd c (by decide))
  refine aw_bipush (v := 33) hX (by decide) d_X2_init_79 ?_
  refine aw_newL hX (N := 33) rfl (bk_R (by decide) (bk_I (by decide) (bk_I (by decide) (bk_R (by decide) (bk_R (by decide) (bk_R (by decide) (hB 120 (by decide)))))))) (by decide) (by decide) (by decide) (by decide) wc_6 (by decide) (by decide) d_X2_init_81 ?_
  refine aw_putFR hX hn hF (ci := 2) (k := 5) (ty := (.array .long)) rfl (by decide) (by decide) rfl rfl wc_39 rfl rfl (by decide +kernel) (fun x => rfl) (fun x => rfl) rfl d_X2_init_83 ?_
  exact aw_return hX (by decide) (by decide) d_X2_init_86)
def c_X2_init_121 (h : AH) : AH := (sR (sR (sI (sI (sR (sR (sR h 121 3 (some 122)) 121 4 (some 123)) 121 6 (some 124)) 121 0 0) 121 1 1) 121 2 (some 125)) 121 5 (some 126))
theorem b_X2_init_121 {h : AH} {a : Nat} (ha : 127 ≤ a) (h0 : Blank h a) : Blank (c_X2_init_121 h) a := (bk_R (by omega) (bk_R (by omega) (bk_I (by omega) (bk_I (by omega) (bk_R (by omega) (bk_R (by omega) (bk_R (by omega) h0)))))))
theorem k_X2_init_121 {g : GP} (hg : g.1.stackTraces = false) (hF : gF g = false) {h : AH} (hB : ∀ a, 121 < a → Blank h a) : Ctr g yX2_init (wsY yX2_init cX2_init 2 none) 1 5 98 [.ref 121, .int 0] 122 true h none 127 true (c_X2_init_121 h) := ctr_of (lv0 := [.ref 121, .int 0]) rfl rfl (by decide) hg trivial (fun X hX hn => by
  replace hX : Cx g RX2 cX2_init 1 5 98 none [] X := hX
  replace hn : X.meth.name = "<init>" := hn
  refine aw_aload_n hX (i := 0) rfl rfl d_X2_init_0 ?_
  refine aw_objI hX wc_32 wc_1 wc_2 (by decide) (by decide) d_X2_init_1 ?_
  refine aw_aload_n hX (i := 0) rfl rfl d_X2_init_4 ?_
  refine aw_bipush (v := 16) hX (by decide) d_X2_init_5 ?_
  refine aw_newI hX (N := 16) rfl (hB 122 (by decide)) (by decide) (by decide) (by decide) (by decide) wc_3 (by decide) (by decide) d_X2_init_7 ?_
  refine aw_putFR hX hn hF (ci := 2) (k := 3) (ty := (.array .int)) rfl (by decide) (by decide) rfl rfl wc_33 rfl rfl (by decide +kernel) (fun x => rfl) (fun x => rfl) rfl d_X2_init_9 ?_
  refine aw_aload_n hX (i := 0) rfl rfl d_X2_init_12 ?_
  refine aw_bipush (v := 16) hX (by decide) d_X2_init_13 ?_
  refine aw_newL hX (N := 16) rfl (bk_R (by decide) (hB 123 (by decide))) (by decide) (by decide) (by decide) (by decide) wc_6 (by decide) (by decide) d_X2_init_15 ?_
  refine aw_putFR hX hn hF (ci := 2) (k := 4) (ty := (.array .long)) rfl (by decide) (by decide) rfl rfl wc_34 rfl rfl (by decide +kernel) (fun x => rfl) (fun x => rfl) rfl d_X2_init_17 ?_
  refine aw_aload_n hX (i := 0) rfl rfl d_X2_init_20 ?_
  refine aw_bipush (v := 17) hX (by decide) d_X2_init_21 ?_
  refine aw_newL hX (N := 17) rfl (bk_R (by decide) (bk_R (by decide) (hB 124 (by decide)))) (by decide) (by decide) (by decide) (by decide) wc_6 (by decide) (by decide) d_X2_init_23 ?_
  refine aw_putFR hX hn hF (ci := 2) (k := 6) (ty := (.array .long)) rfl (by decide) (by decide) rfl rfl wc_35 rfl rfl (by decide +kernel) (fun x => rfl) (fun x => rfl) rfl d_X2_init_25 ?_
  refine aw_aload_n hX (i := 0) rfl rfl d_X2_init_28 ?_
  refine aw_iload_n hX (i := 1) rfl rfl d_X2_init_29 ?_
  refine aw_putFI hX hn (ci := 2) (k := 0) rfl (by decide) (by decide) rfl rfl wc_36 rfl rfl (by decide +kernel) rfl d_X2_init_30 ?_
  refine aw_aload_n hX (i := 0) rfl rfl d_X2_init_33 ?_
  refine aw_iload_n hX (i := 1) rfl rfl d_X2_init_34 ?_
  refine aw_iconst (v := 2) hX (by decide) d_X2_init_35 ?_
  refine aw_icmp_ne (t := 44) hX (by decide) d_X2_init_36 (fun c => ?_) (fun c => absurd c (by decide))
  refine aw_iconst (v := 1) hX (by decide) d_X2_init_44 ?_
  refine aw_putFI hX hn (ci := 2) (k := 1) rfl (by decide) (by decide) rfl rfl wc_37 rfl rfl (by decide +kernel) rfl d_X2_init_45 ?_
  refine aw_aload_n hX (i := 0) rfl rfl d_X2_init_48 ?_
  refine aw_iload_n hX (i := 1) rfl rfl d_X2_init_49 ?_
  refine aw_iconst (v := 2) hX (by decide) d_X2_init_50 ?_
  refine aw_icmp_ne (t := 60) hX (by decide) d_X2_init_51 (fun c => ?_) (fun c => absurd c (by decide))
  refine aw_bipush (v := 16) hX (by decide) d_X2_init_60 ?_
  refine aw_newL hX (N := 16) rfl (bk_I (by decide) (bk_I (by decide) (bk_R (by decide) (bk_R (by decide) (bk_R (by decide) (hB 125 (by decide))))))) (by decide) (by decide) (by decide) (by decide) wc_6 (by decide) (by decide) d_X2_init_62 ?_
  refine aw_putFR hX hn hF (ci := 2) (k := 2) (ty := (.array .long)) rfl (by decide) (by decide) rfl rfl wc_38 rfl rfl (by decide +kernel) (fun x => rfl) (fun x => rfl) rfl d_X2_init_64 ?_
  refine aw_aload_n hX (i := 0) rfl rfl d_X2_init_67 ?_
  refine aw_iload_n hX (i := 1) rfl rfl d_X2_init_68 ?_
  refine aw_iconst (v := 2) hX (by decide) d_X2_init_69 ?_
  refine aw_icmp_ne (t := 79) hX (by decide) d_X2_init_70 (fun c => ?_) (fun c => absurd c (by decide))
  refine aw_bipush (v := 33) hX (by decide) d_X2_init_79 ?_
  refine aw_newL hX (N := 33) rfl (bk_R (by decide) (bk_I (by decide) (bk_I (by decide) (bk_R (by decide) (bk_R (by decide) (bk_R (by decide) (hB 126 (by decide)))))))) (by decide) (by decide) (by decide) (by decide) wc_6 (by decide) (by decide) d_X2_init_81 ?_
  refine aw_putFR hX hn hF (ci := 2) (k := 5) (ty := (.array .long)) rfl (by decide) (by decide) rfl rfl wc_39 rfl rfl (by decide +kernel) (fun x => rfl) (fun x => rfl) rfl d_X2_init_83 ?_
  exact aw_return hX (by decide) (by decide) d_X2_init_86)
def c_X2_init_127 (h : AH) : AH := (sR (sR (sI (sI (sR (sR (sR h 127 3 (some 128)) 127 4 (some 129)) 127 6 (some 130)) 127 0 1) 127 1 1) 127 2 (some 131)) 127 5 (some 132))
theorem b_X2_init_127 {h : AH} {a : Nat} (ha : 133 ≤ a) (h0 : Blank h a) : Blank (c_X2_init_127 h) a := (bk_R (by omega) (bk_R (by omega) (bk_I (by omega) (bk_I (by omega) (bk_R (by omega) (bk_R (by omega) (bk_R (by omega) h0)))))))
theorem k_X2_init_127 {g : GP} (hg : g.1.stackTraces = false) (hF : gF g = false) {h : AH} (hB : ∀ a, 127 < a → Blank h a) : Ctr g yX2_init (wsY yX2_init cX2_init 2 none) 1 5 98 [.ref 127, .int 1] 128 true h none 133 true (c_X2_init_127 h) := ctr_of (lv0 := [.ref 127, .int 1]) rfl rfl (by decide) hg trivial (fun X hX hn => by
  replace hX : Cx g RX2 cX2_init 1 5 98 none [] X := hX
  replace hn : X.meth.name = "<init>" := hn
  refine aw_aload_n hX (i := 0) rfl rfl d_X2_init_0 ?_
  refine aw_objI hX wc_32 wc_1 wc_2 (by decide) (by decide) d_X2_init_1 ?_
  refine aw_aload_n hX (i := 0) rfl rfl d_X2_init_4 ?_
  refine aw_bipush (v := 16) hX (by decide) d_X2_init_5 ?_
  refine aw_newI hX (N := 16) rfl (hB 128 (by decide)) (by decide) (by decide) (by decide) (by decide) wc_3 (by decide) (by decide) d_X2_init_7 ?_
  refine aw_putFR hX hn hF (ci := 2) (k := 3) (ty := (.array .int)) rfl (by decide) (by decide) rfl rfl wc_33 rfl rfl (by decide +kernel) (fun x => rfl) (fun x => rfl) rfl d_X2_init_9 ?_
  refine aw_aload_n hX (i := 0) rfl rfl d_X2_init_12 ?_
  refine aw_bipush (v := 16) hX (by decide) d_X2_init_13 ?_
  refine aw_newL hX (N := 16) rfl (bk_R (by decide) (hB 129 (by decide))) (by decide) (by decide) (by decide) (by decide) wc_6 (by decide) (by decide) d_X2_init_15 ?_
  refine aw_putFR hX hn hF (ci := 2) (k := 4) (ty := (.array .long)) rfl (by decide) (by decide) rfl rfl wc_34 rfl rfl (by decide +kernel) (fun x => rfl) (fun x => rfl) rfl d_X2_init_17 ?_
  refine aw_aload_n hX (i := 0) rfl rfl d_X2_init_20 ?_
  refine aw_bipush (v := 17) hX (by decide) d_X2_init_21 ?_
  refine aw_newL hX (N := 17) rfl (bk_R (by decide) (bk_R (by decide) (hB 130 (by decide)))) (by decide) (by decide) (by decide) (by decide) wc_6 (by decide) (by decide) d_X2_init_23 ?_
  refine aw_putFR hX hn hF (ci := 2) (k := 6) (ty := (.array .long)) rfl (by decide) (by decide) rfl rfl wc_35 rfl rfl (by decide +kernel) (fun x => rfl) (fun x => rfl) rfl d_X2_init_25 ?_
  refine aw_aload_n hX (i := 0) rfl rfl d_X2_init_28 ?_
  refine aw_iload_n hX (i := 1) rfl rfl d_X2_init_29 ?_
  refine aw_putFI hX hn (ci := 2) (k := 0) rfl (by decide) (by decide) rfl rfl wc_36 rfl rfl (by decide +kernel) rfl d_X2_init_30 ?_
  refine aw_aload_n hX (i := 0) rfl rfl d_X2_init_33 ?_
  refine aw_iload_n hX (i := 1) rfl rfl d_X2_init_34 ?_
  refine aw_iconst (v := 2) hX (by decide) d_X2_init_35 ?_
  refine aw_icmp_ne (t := 44) hX (by decide) d_X2_init_36 (fun c => ?_) (fun c => absurd c (by decide))
  refine aw_iconst (v := 1) hX (by decide) d_X2_init_44 ?_
  refine aw_putFI hX hn (ci := 2) (k := 1) rfl (by decide) (by decide) rfl rfl wc_37 rfl rfl (by decide +kernel) rfl d_X2_init_45 ?_
  refine aw_aload_n hX (i := 0) rfl rfl d_X2_init_48 ?_
  refine aw_iload_n hX (i := 1) rfl rfl d_X2_init_49 ?_
  refine aw_iconst (v := 2) hX (by decide) d_X2_init_50 ?_
  refine aw_icmp_ne (t := 60) hX (by decide) d_X2_init_51 (fun c => ?_) (fun c => absurd c (by decide))
  refine aw_bipush (v := 16) hX (by decide) d_X2_init_60 ?_
  refine aw_newL hX (N := 16) rfl (bk_I (by decide) (bk_I (by decide) (bk_R (by decide) (bk_R (by decide) (bk_R (by decide) (hB 131 (by decide))))))) (by decide) (by decide) (by decide) (by decide) wc_6 (by decide) (by decide) d_X2_init_62 ?_
  refine aw_putFR hX hn hF (ci := 2) (k := 2) (ty := (.array .long)) rfl (by decide) (by decide) rfl rfl wc_38 rfl rfl (by decide +kernel) (fun x => rfl) (fun x => rfl) rfl d_X2_init_64 ?_
  refine aw_aload_n hX (i := 0) rfl rfl d_X2_init_67 ?_
  refine aw_iload_n hX (i := 1) rfl rfl d_X2_init_68 ?_
  refine aw_iconst (v := 2) hX (by decide) d_X2_init_69 ?_
  refine aw_icmp_ne (t := 79) hX (by decide) d_X2_init_70 (fun c => ?_) (fun c => absurd c (by decide))
  refine aw_bipush (v := 33) hX (by decide) d_X2_init_79 ?_
  refine aw_newL hX (N := 33) rfl (bk_R (by decide) (bk_I (by decide) (bk_I (by decide) (bk_R (by decide) (bk_R (by decide) (bk_R (by decide) (hB 132 (by decide)))))))) (by decide) (by decide) (by decide) (by decide) wc_6 (by decide) (by decide) d_X2_init_81 ?_
  refine aw_putFR hX hn hF (ci := 2) (k := 5) (ty := (.array .long)) rfl (by decide) (by decide) rfl rfl wc_39 rfl rfl (by decide +kernel) (fun x => rfl) (fun x => rfl) rfl d_X2_init_83 ?_
  exact aw_return hX (by decide) (by decide) d_X2_init_86)
def c_X2_init_133 (h : AH) : AH := (sR (sR (sI (sI (sR (sR (sR h 133 3 (some 134)) 133 4 (some 135)) 133 6 (some 136)) 133 0 2) 133 1 13) 133 2 (some 137)) 133 5 (some 138))
theorem b_X2_init_133 {h : AH} {a : Nat} (ha : 139 ≤ a) (h0 : Blank h a) : Blank (c_X2_init_133 h) a := (bk_R (by omega) (bk_R (by omega) (bk_I (by omega) (bk_I (by omega) (bk_R (by omega) (bk_R (by omega) (bk_R (by omega) h0)))))))
theorem k_X2_init_133 {g : GP} (hg : g.1.stackTraces = false) (hF : gF g = false) {h : AH} (hB : ∀ a, 133 < a → Blank h a) : Ctr g yX2_init (wsY yX2_init cX2_init 2 none) 1 5 686 [.ref 133, .int 2] 134 true h none 139 true (c_X2_init_133 h) := ctr_of (lv0 := [.ref 133, .int 2]) rfl rfl (by decide) hg trivial (fun X hX hn => by
  replace hX : Cx g RX2 cX2_init 1 5 686 none [] X := hX
  replace hn : X.meth.name = "<init>" := hn
  refine aw_aload_n hX (i := 0) rfl rfl d_X2_init_0 ?_
  refine aw_objI hX wc_32 wc_1 wc_2 (by decide) (by decide) d_X2_init_1 ?_
  refine aw_aload_n hX (i := 0) rfl rfl d_X2_init_4 ?_
  refine aw_bipush (v := 16) hX (by decide) d_X2_init_5 ?_
  refine aw_newI hX (N := 16) rfl (hB 134 (by decide)) (by decide) (by decide) (by decide) (by decide) wc_3 (by decide) (by decide) d_X2_init_7 ?_
  refine aw_putFR hX hn hF (ci := 2) (k := 3) (ty := (.array .int)) rfl (by decide) (by decide) rfl rfl wc_33 rfl rfl (by decide +kernel) (fun x => rfl) (fun x => rfl) rfl d_X2_init_9 ?_
  refine aw_aload_n hX (i := 0) rfl rfl d_X2_init_12 ?_
  refine aw_bipush (v := 16) hX (by decide) d_X2_init_13 ?_
  refine aw_newL hX (N := 16) rfl (bk_R (by decide) (hB 135 (by decide))) (by decide) (by decide) (by decide) (by decide) wc_6 (by decide) (by decide) d_X2_init_15 ?_
  refine aw_putFR hX hn hF (ci := 2) (k := 4) (ty := (.array .long)) rfl (by decide) (by decide) rfl rfl wc_34 rfl rfl (by decide +kernel) (fun x => rfl) (fun x => rfl) rfl d_X2_init_17 ?_
  refine aw_aload_n hX (i := 0) rfl rfl d_X2_init_20 ?_
  refine aw_bipush (v := 17) hX (by decide) d_X2_init_21 ?_
  refine aw_newL hX (N := 17) rfl (bk_R (by decide) (bk_R (by decide) (hB 136 (by decide)))) (by decide) (by decide) (by decide) (by decide) wc_6 (by decide) (by decide) d_X2_init_23 ?_
  refine aw_putFR hX hn hF (ci := 2) (k := 6) (ty := (.array .long)) rfl (by decide) (by decide) rfl rfl wc_35 rfl rfl (by decide +kernel) (fun x => rfl) (fun x => rfl) rfl d_X2_init_25 ?_
  refine aw_aload_n hX (i := 0) rfl rfl d_X2_init_28 ?_
  refine aw_iload_n hX (i := 1) rfl rfl d_X2_init_29 ?_
  refine aw_putFI hX hn (ci := 2) (k := 0) rfl (by decide) (by decide) rfl rfl wc_36 rfl rfl (by decide +kernel) rfl d_X2_init_30 ?_
  refine aw_aload_n hX (i := 0) rfl rfl d_X2_init_33 ?_
  refine aw_iload_n hX (i := 1) rfl rfl d_X2_init_34 ?_
  refine aw_iconst (v := 2) hX (by decide) d_X2_init_35 ?_
  refine aw_icmp_ne (t := 44) hX (by decide) d_X2_init_36 (fun c => absurd rfl c) (fun c => ?_)
  refine aw_bipush (v := 13) hX (by decide) d_X2_init_39 ?_
  refine aw_goto (t := 45) hX (by decide) d_X2_init_41 ?_
  refine aw_putFI hX hn (ci := 2) (k := 1) rfl (by decide) (by decide) rfl rfl wc_37 rfl rfl (by decide +kernel) rfl d_X2_init_45 ?_
  refine aw_aload_n hX (i := 0) rfl rfl d_X2_init_48 ?_
  refine aw_iload_n hX (i := 1) rfl rfl d_X2_init_49 ?_
  refine aw_iconst (v := 2) hX (by decide) d_X2_init_50 ?_
  refine aw_icmp_ne (t := 60) hX (by decide) d_X2_init_51 (fun c => absurd rfl c) (fun c => ?_)
  refine aw_sipush (v := 208) hX (by decide) d_X2_init_54 ?_
  refine aw_goto (t := 62) hX (by decide) d_X2_init_57 ?_
  refine aw_newL hX (N := 208) rfl (bk_I (by decide) (bk_I (by decide) (bk_R (by decide) (bk_R (by decide) (bk_R (by decide) (hB 137 (by decide))))))) (by decide) (by decide) (by decide) (by decide) wc_6 (by decide) (by decide) d_X2_init_62 ?_
  refine aw_putFR hX hn hF (ci := 2) (k := 2) (ty := (.array .long)) rfl (by decide) (by decide) rfl rfl wc_38 rfl rfl (by decide +kernel) (fun x => rfl) (fun x => rfl) rfl d_X2_init_64 ?_
  refine aw_aload_n hX (i := 0) rfl rfl d_X2_init_67 ?_
  refine aw_iload_n hX (i := 1) rfl rfl d_X2_init_68 ?_
  refine aw_iconst (v := 2) hX (by decide) d_X2_init_69 ?_
  refine aw_icmp_ne (t := 79) hX (by decide) d_X2_init_70 (fun c => absurd rfl c) (fun c => ?_)
  refine aw_sipush (v := 429) hX (by decide) d_X2_init_73 ?_
  refine aw_goto (t := 81) hX (by decide) d_X2_init_76 ?_
  refine aw_newL hX (N := 429) rfl (bk_R (by decide) (bk_I (by decide) (bk_I (by decide) (bk_R (by decide) (bk_R (by decide) (bk_R (by decide) (hB 138 (by decide)))))))) (by decide) (by decide) (by decide) (by decide) wc_6 (by decide) (by decide) d_X2_init_81 ?_
  refine aw_putFR hX hn hF (ci := 2) (k := 5) (ty := (.array .long)) rfl (by decide) (by decide) rfl rfl wc_39 rfl rfl (by decide +kernel) (fun x => rfl) (fun x => rfl) rfl d_X2_init_83 ?_
  exact aw_return hX (by decide) (by decide) d_X2_init_86)
def c_X2_init_139 (h : AH) : AH := (sR (sR (sI (sI (sR (sR (sR h 139 3 (some 140)) 139 4 (some 141)) 139 6 (some 142)) 139 0 3) 139 1 1) 139 2 (some 143)) 139 5 (some 144))
theorem b_X2_init_139 {h : AH} {a : Nat} (ha : 145 ≤ a) (h0 : Blank h a) : Blank (c_X2_init_139 h) a := (bk_R (by omega) (bk_R (by omega) (bk_I (by omega) (bk_I (by omega) (bk_R (by omega) (bk_R (by omega) (bk_R (by omega) h0)))))))
theorem k_X2_init_139 {g : GP} (hg : g.1.stackTraces = false) (hF : gF g = false) {h : AH} (hB : ∀ a, 139 < a → Blank h a) : Ctr g yX2_init (wsY yX2_init cX2_init 2 none) 1 5 98 [.ref 139, .int 3] 140 true h none 145 true (c_X2_init_139 h) := ctr_of (lv0 := [.ref 139, .int 3]) rfl rfl (by decide) hg trivial (fun X hX hn => by
  replace hX : Cx g RX2 cX2_init 1 5 98 none [] X := hX
  replace hn : X.meth.name = "<init>" := hn
  refine aw_aload_n hX (i := 0) rfl rfl d_X2_init_0 ?_
  refine aw_objI hX wc_32 wc_1 wc_2 (by decide) (by decide) d_X2_init_1 ?_
  refine aw_aload_n hX (i := 0) rfl rfl d_X2_init_4 ?_
  refine aw_bipush (v := 16) hX (by decide) d_X2_init_5 ?_
  refine aw_newI hX (N := 16) rfl (hB 140 (by decide)) (by decide) (by decide) (by decide) (by decide) wc_3 (by decide) (by decide) d_X2_init_7 ?_
  refine aw_putFR hX hn hF (ci := 2) (k := 3) (ty := (.array .int)) rfl (by decide) (by decide) rfl rfl wc_33 rfl rfl (by decide +kernel) (fun x => rfl) (fun x => rfl) rfl d_X2_init_9 ?_
  refine aw_aload_n hX (i := 0) rfl rfl d_X2_init_12 ?_
  refine aw_bipush (v := 16) hX (by decide) d_X2_init_13 ?_
  refine aw_newL hX (N := 16) rfl (bk_R (by decide) (hB 141 (by decide))) (by decide) (by decide) (by decide) (by decide) wc_6 (by decide) (by decide) d_X2_init_15 ?_
  refine aw_putFR hX hn hF (ci := 2) (k := 4) (ty := (.array .long)) rfl (by decide) (by decide) rfl rfl wc_34 rfl rfl (by decide +kernel) (fun x => rfl) (fun x => rfl) rfl d_X2_init_17 ?_
  refine aw_aload_n hX (i := 0) rfl rfl d_X2_init_20 ?_
  refine aw_bipush (v := 17) hX (by decide) d_X2_init_21 ?_
  refine aw_newL hX (N := 17) rfl (bk_R (by decide) (bk_R (by decide) (hB 142 (by decide)))) (by decide) (by decide) (by decide) (by decide) wc_6 (by decide) (by decide) d_X2_init_23 ?_
  refine aw_putFR hX hn hF (ci := 2) (k := 6) (ty := (.array .long)) rfl (by decide) (by decide) rfl rfl wc_35 rfl rfl (by decide +kernel) (fun x => rfl) (fun x => rfl) rfl d_X2_init_25 ?_
  refine aw_aload_n hX (i := 0) rfl rfl d_X2_init_28 ?_
  refine aw_iload_n hX (i := 1) rfl rfl d_X2_init_29 ?_
  refine aw_putFI hX hn (ci := 2) (k := 0) rfl (by decide) (by decide) rfl rfl wc_36 rfl rfl (by decide +kernel) rfl d_X2_init_30 ?_
  refine aw_aload_n hX (i := 0) rfl rfl d_X2_init_33 ?_
  refine aw_iload_n hX (i := 1) rfl rfl d_X2_init_34 ?_
  refine aw_iconst (v := 2) hX (by decide) d_X2_init_35 ?_
  refine aw_icmp_ne (t := 44) hX (by decide) d_X2_init_36 (fun c => ?_) (fun c => absurd c (by decide))
  refine aw_iconst (v := 1) hX (by decide) d_X2_init_44 ?_
  refine aw_putFI hX hn (ci := 2) (k := 1) rfl (by decide) (by decide) rfl rfl wc_37 rfl rfl (by decide +kernel) rfl d_X2_init_45 ?_
  refine aw_aload_n hX (i := 0) rfl rfl d_X2_init_48 ?_
  refine aw_iload_n hX (i := 1) rfl rfl d_X2_init_49 ?_
  refine aw_iconst (v := 2) hX (by decide) d_X2_init_50 ?_
  refine aw_icmp_ne (t := 60) hX (by decide) d_X2_init_51 (fun c => ?_) (fun c => absurd c (by decide))
  refine aw_bipush (v := 16) hX (by decide) d_X2_init_60 ?_
  refine aw_newL hX (N := 16) rfl (bk_I (by decide) (bk_I (by decide) (bk_R (by decide) (bk_R (by decide) (bk_R (by decide) (hB 143 (by decide))))))) (by decide) (by decide) (by decide) (by decide) wc_6 (by decide) (by decide) d_X2_init_62 ?_
  refine aw_putFR hX hn hF (ci := 2) (k := 2) (ty := (.array .long)) rfl (by decide) (by decide) rfl rfl wc_38 rfl rfl (by decide +kernel) (fun x => rfl) (fun x => rfl) rfl d_X2_init_64 ?_
  refine aw_aload_n hX (i := 0) rfl rfl d_X2_init_67 ?_
  refine aw_iload_n hX (i := 1) rfl rfl d_X2_init_68 ?_
  refine aw_iconst (v := 2) hX (by decide) d_X2_init_69 ?_
  refine aw_icmp_ne (t := 79) hX (by decide) d_X2_init_70 (fun c => ?_) (fun c => absurd c (by decide))
  refine aw_bipush (v := 33) hX (by decide) d_X2_init_79 ?_
  refine aw_newL hX (N := 33) rfl (bk_R (by decide) (bk_I (by decide) (bk_I (by decide) (bk_R (by decide) (bk_R (by decide) (bk_R (by decide) (hB 144 (by decide)))))))) (by decide) (by decide) (by decide) (by decide) wc_6 (by decide) (by decide) d_X2_init_81 ?_
  refine aw_putFR hX hn hF (ci := 2) (k := 5) (ty := (.array .long)) rfl (by decide) (by decide) rfl rfl wc_39 rfl rfl (by decide +kernel) (fun x => rfl) (fun x => rfl) rfl d_X2_init_83 ?_
  exact aw_return hX (by decide) (by decide) d_X2_init_86)
def c_X2_init_145 (h : AH) : AH := (sR (sR (sI (sI (sR (sR (sR h 145 3 (some 146)) 145 4 (some 147)) 145 6 (some 148)) 145 0 4) 145 1 1) 145 2 (some 149)) 145 5 (some 150))
theorem b_X2_init_145 {h : AH} {a : Nat} (ha : 151 ≤ a) (h0 : Blank h a) : Blank (c_X2_init_145 h) a := (bk_R (by omega) (bk_R (by omega) (bk_I (by omega) (bk_I (by omega) (bk_R (by omega) (bk_R (by omega) (bk_R (by omega) h0)))))))
theorem k_X2_init_145 {g : GP} (hg : g.1.stackTraces = false) (hF : gF g = false) {h : AH} (hB : ∀ a, 145 < a → Blank h a) : Ctr g yX2_init (wsY yX2_init cX2_init 2 none) 1 5 98 [.ref 145, .int 4] 146 true h none 151 true (c_X2_init_145 h) := ctr_of (lv0 := [.ref 145, .int 4]) rfl rfl (by decide) hg trivial (fun X hX hn => by
  replace hX : Cx g RX2 cX2_init 1 5 98 none [] X := hX
  replace hn : X.meth.name = "<init>" := hn
  refine aw_aload_n hX (i := 0) rfl rfl d_X2_init_0 ?_
  refine aw_objI hX wc_32 wc_1 wc_2 (by decide) (by decide) d_X2_init_1 ?_
  refine aw_aload_n hX (i := 0) rfl rfl d_X2_init_4 ?_
  refine aw_bipush (v := 16) hX (by decide) d_X2_init_5 ?_
  refine aw_newI hX (N := 16) rfl (hB 146 (by decide)) (by decide) (by decide) (by decide) (by decide) wc_3 (by decide) (by decide) d_X2_init_7 ?_
  refine aw_putFR hX hn hF (ci := 2) (k := 3) (ty := (.array .int)) rfl (by decide) (by decide) rfl rfl wc_33 rfl rfl (by decide +kernel) (fun x => rfl) (fun x => rfl) rfl d_X2_init_9 ?_
  refine aw_aload_n hX (i := 0) rfl rfl d_X2_init_12 ?_
  refine aw_bipush (v := 16) hX (by decide) d_X2_init_13 ?_
  refine aw_newL hX (N := 16) rfl (bk_R (by decide) (hB 147 (by decide))) (by decide) (by decide) (by decide) (by decide) wc_6 (by decide) (by decide) d_X2_init_15 ?_
  refine aw_putFR hX hn hF (ci := 2) (k := 4) (ty := (.array .long)) rfl (by decide) (by decide) rfl rfl wc_34 rfl rfl (by decide +kernel) (fun x => rfl) (fun x => rfl) rfl d_X2_init_17 ?_
  refine aw_aload_n hX (i := 0) rfl rfl d_X2_init_20 ?_
  refine aw_bipush (v := 17) hX (by decide) d_X2_init_21 ?_
  refine aw_newL hX (N := 17) rfl (bk_R (by decide) (bk_R (by decide) (hB 148 (by decide)))) (by decide) (by decide) (by decide) (by decide) wc_6 (by decide) (by decide) d_X2_init_23 ?_
  refine aw_putFR hX hn hF (ci := 2) (k := 6) (ty := (.array .long)) rfl (by decide) (by decide) rfl rfl wc_35 rfl rfl (by decide +kernel) (fun x => rfl) (fun x => rfl) rfl d_X2_init_25 ?_
  refine aw_aload_n hX (i := 0) rfl rfl d_X2_init_28 ?_
  refine aw_iload_n hX (i := 1) rfl rfl d_X2_init_29 ?_
  refine aw_putFI hX hn (ci := 2) (k := 0) rfl (by decide) (by decide) rfl rfl wc_36 rfl rfl (by decide +kernel) rfl d_X2_init_30 ?_
  refine aw_aload_n hX (i := 0) rfl rfl d_X2_init_33 ?_
  refine aw_iload_n hX (i := 1) rfl rfl d_X2_init_34 ?_
  refine aw_iconst (v := 2) hX (by decide) d_X2_init_35 ?_
  refine aw_icmp_ne (t := 44) hX (by decide) d_X2_init_36 (fun c => ?_) (fun c => absurd c (by decide))
  refine aw_iconst (v := 1) hX (by decide) d_X2_init_44 ?_
  refine aw_putFI hX hn (ci := 2) (k := 1) rfl (by decide) (by decide) rfl rfl wc_37 rfl rfl (by decide +kernel) rfl d_X2_init_45 ?_
  refine aw_aload_n hX (i := 0) rfl rfl d_X2_init_48 ?_
  refine aw_iload_n hX (i := 1) rfl rfl d_X2_init_49 ?_
  refine aw_iconst (v := 2) hX (by decide) d_X2_init_50 ?_
  refine aw_icmp_ne (t := 60) hX (by decide) d_X2_init_51 (fun c => ?_) (fun c => absurd c (by decide))
  refine aw_bipush (v := 16) hX (by decide) d_X2_init_60 ?_
  refine aw_newL hX (N := 16) rfl (bk_I (by decide) (bk_I (by decide) (bk_R (by decide) (bk_R (by decide) (bk_R (by decide) (hB 149 (by decide))))))) (by decide) (by decide) (by decide) (by decide) wc_6 (by decide) (by decide) d_X2_init_62 ?_
  refine aw_putFR hX hn hF (ci := 2) (k := 2) (ty := (.array .long)) rfl (by decide) (by decide) rfl rfl wc_38 rfl rfl (by decide +kernel) (fun x => rfl) (fun x => rfl) rfl d_X2_init_64 ?_
  refine aw_aload_n hX (i := 0) rfl rfl d_X2_init_67 ?_
  refine aw_iload_n hX (i := 1) rfl rfl d_X2_init_68 ?_
  refine aw_iconst (v := 2) hX (by decide) d_X2_init_69 ?_
  refine aw_icmp_ne (t := 79) hX (by decide) d_X2_init_70 (fun c => ?_) (fun c => absurd c (by decide))
  refine aw_bipush (v := 33) hX (by decide) d_X2_init_79 ?_
  refine aw_newL hX (N := 33) rfl (bk_R (by decide) (bk_I (by decide) (bk_I (by decide) (bk_R (by decide) (bk_R (by decide) (bk_R (by decide) (hB 150 (by decide)))))))) (by decide) (by decide) (by decide) (by decide) wc_6 (by decide) (by decide) d_X2_init_81 ?_
  refine aw_putFR hX hn hF (ci := 2) (k := 5) (ty := (.array .long)) rfl (by decide) (by decide) rfl rfl wc_39 rfl rfl (by decide +kernel) (fun x => rfl) (fun x => rfl) rfl d_X2_init_83 ?_
  exact aw_return hX (by decide) (by decide) d_X2_init_86)
def c_X2_init_151 (h : AH) : AH := (sR (sR (sI (sI (sR (sR (sR h 151 3 (some 152)) 151 4 (some 153)) 151 6 (some 154)) 151 0 0) 151 1 1) 151 2 (some 155)) 151 5 (some 156))
theorem b_X2_init_151 {h : AH} {a : Nat} (ha : 157 ≤ a) (h0 : Blank h a) : Blank (c_X2_init_151 h) a := (bk_R (by omega) (bk_R (by omega) (bk_I (by omega) (bk_I (by omega) (bk_R (by omega) (bk_R (by omega) (bk_R (by omega) h0)))))))
theorem k_X2_init_151 {g : GP} (hg : g.1.stackTraces = false) (hF : gF g = false) {h : AH} (hB : ∀ a, 151 < a → Blank h a) : Ctr g yX2_init (wsY yX2_init cX2_init 2 none) 1 5 98 [.ref 151, .int 0] 152 true h none 157 true (c_X2_init_151 h) := ctr_of (lv0 := [.ref 151, .int 0]) rfl rfl (by decide) hg trivial (fun X hX hn => by
  replace hX : Cx g RX2 cX2_init 1 5 98 none [] X := hX
  replace hn : X.meth.name = "<init>" := hn
  refine aw_aload_n hX (i := 0) rfl rfl d_X2_init_0 ?_
  refine aw_objI hX wc_32 wc_1 wc_2 (by decide) (by decide) d_X2_init_1 ?_
  refine aw_aload_n hX (i := 0) rfl rfl d_X2_init_4 ?_
  refine aw_bipush (v := 16) hX (by decide) d_X2_init_5 ?_
  refine aw_newI hX (N := 16) rfl (hB 152 (by decide)) (by decide) (by decide) (by decide) (by decide) wc_3 (by decide) (by decide) d_X2_init_7 ?_
  refine aw_putFR hX hn hF (ci := 2) (k := 3) (ty := (.array .int)) rfl (by decide) (by decide) rfl rfl wc_33 rfl rfl (by decide +kernel) (fun x => rfl) (fun x => rfl) rfl d_X2_init_9 ?_
  refine aw_aload_n hX (i := 0) rfl rfl d_X2_init_12 ?_
  refine aw_bipush (v := 16) hX (by decide) d_X2_init_13 ?_
  refine aw_newL hX (N := 16) rfl (bk_R (by decide) (hB 153 (by decide))) (by decide) (by decide) (by decide) (by decide) wc_6 (by decide) (by decide) d_X2_init_15 ?_
  refine aw_putFR hX hn hF (ci := 2) (k := 4) (ty := (.array .long)) rfl (by decide) (by decide) rfl rfl wc_34 rfl rfl (by decide +kernel) (fun x => rfl) (fun x => rfl) rfl d_X2_init_17 ?_
  refine aw_aload_n hX (i := 0) rfl rfl d_X2_init_20 ?_
  refine aw_bipush (v := 17) hX (by decide) d_X2_init_21 ?_
  refine aw_newL hX (N := 17) rfl (bk_R (by decide) (bk_R (by decide) (hB 154 (by decide)))) (by decide) (by decide) (by decide) (by decide) wc_6 (by decide) (by decide) d_X2_init_23 ?_
  refine aw_putFR hX hn hF (ci := 2) (k := 6) (ty := (.array .long)) rfl (by decide) (by decide) rfl rfl wc_35 rfl rfl (by decide +kernel) (fun x => rfl) (fun x => rfl) rfl d_X2_init_25 ?_
  refine aw_aload_n hX (i := 0) rfl rfl d_X2_init_28 ?_
  refine aw_iload_n hX (i := 1) rfl rfl d_X2_init_29 ?_
  refine aw_putFI hX hn (ci := 2) (k := 0) rfl (by decide) (by decide) rfl rfl wc_36 rfl rfl (by decide +kernel) rfl d_X2_init_30 ?_
  refine aw_aload_n hX (i := 0) rfl rfl d_X2_init_33 ?_
  refine aw_iload_n hX (i := 1) rfl rfl d_X2_init_34 ?_
  refine aw_iconst (v := 2) hX (by decide) d_X2_init_35 ?_
  refine aw_icmp_ne (t := 44) hX (by decide) d_X2_init_36 (fun c => ?_) (fun c => absurd c (by decide))
  refine aw_iconst (v := 1) hX (by decide) d_X2_init_44 ?_
  refine aw_putFI hX hn (ci := 2) (k := 1) rfl (by decide) (by decide) rfl rfl wc_37 rfl rfl (by decide +kernel) rfl d_X2_init_45 ?_
  refine aw_aload_n hX (i := 0) rfl rfl d_X2_init_48 ?_
  refine aw_iload_n hX (i := 1) rfl rfl d_X2_init_49 ?_
  refine aw_iconst (v := 2) hX (by decide) d_X2_init_50 ?_
  refine aw_icmp_ne (t := 60) hX (by decide) d_X2_init_51 (fun c => ?_) (fun c => absurd c (by decide))
  refine aw_bipush (v := 16) hX (by decide) d_X2_init_60 ?_
  refine aw_newL hX (N := 16) rfl (bk_I (by decide) (bk_I (by decide) (bk_R (by decide) (bk_R (by decide) (bk_R (by decide) (hB 155 (by decide))))))) (by decide) (by decide) (by decide) (by decide) wc_6 (by decide) (by decide) d_X2_init_62 ?_
  refine aw_putFR hX hn hF (ci := 2) (k := 2) (ty := (.array .long)) rfl (by decide) (by decide) rfl rfl wc_38 rfl rfl (by decide +kernel) (fun x => rfl) (fun x => rfl) rfl d_X2_init_64 ?_
  refine aw_aload_n hX (i := 0) rfl rfl d_X2_init_67 ?_
  refine aw_iload_n hX (i := 1) rfl rfl d_X2_init_68 ?_
  refine aw_iconst (v := 2) hX (by decide) d_X2_init_69 ?_
  refine aw_icmp_ne (t := 79) hX (by decide) d_X2_init_70 (fun c => ?_) (fun c => absurd c (by decide))
  refine aw_bipush (v := 33) hX (by decide) d_X2_init_79 ?_
  refine aw_newL hX (N := 33) rfl (bk_R (by decide) (bk_I (by decide) (bk_I (by decide) (bk_R (by decide) (bk_R (by decide) (bk_R (by decide) (hB 156 (by decide)))))))) (by decide) (by decide) (by decide) (by decide) wc_6 (by decide) (by decide) d_X2_init_81 ?_
  refine aw_putFR hX hn hF (ci := 2) (k := 5) (ty := (.array .long)) rfl (by decide) (by decide) rfl rfl wc_39 rfl rfl (by decide +kernel) (fun x => rfl) (fun x => rfl) rfl d_X2_init_83 ?_
  exact aw_return hX (by decide) (by decide) d_X2_init_86)
def c_X2_init_157 (h : AH) : AH := (sR (sR (sI (sI (sR (sR (sR h 157 3 (some 158)) 157 4 (some 159)) 157 6 (some 160)) 157 0 1) 157 1 1) 157 2 (some 161)) 157 5 (some 162))
theorem b_X2_init_157 {h : AH} {a : Nat} (ha : 163 ≤ a) (h0 : Blank h a) : Blank (c_X2_init_157 h) a := (bk_R (by omega) (bk_R (by omega) (bk_I (by omega) (bk_I (by omega) (bk_R (by omega) (bk_R (by omega) (bk_R (by omega) h0)))))))
theorem k_X2_init_157 {g : GP} (hg : g.1.stackTraces = false) (hF : gF g = false) {h : AH} (hB : ∀ a, 157 < a → Blank h a) : Ctr g yX2_init (wsY yX2_init cX2_init 2 none) 1 5 98 [.ref 157, .int 1] 158 true h none 163 true (c_X2_init_157 h) := ctr_of (lv0 := [.ref 157, .int 1]) rfl rfl (by decide) hg trivial (fun X hX hn => by
  replace hX : Cx g RX2 cX2_init 1 5 98 none [] X := hX
  replace hn : X.meth.name = "<init>" := hn
  refine aw_aload_n hX (i := 0) rfl rfl d_X2_init_0 ?_
  refine aw_objI hX wc_32 wc_1 wc_2 (by decide) (by decide) d_X2_init_1 ?_
  refine aw_aload_n hX (i := 0) rfl rfl d_X2_init_4 ?_
  refine aw_bipush (v := 16) hX (by decide) d_X2_init_5 ?_
  refine aw_newI hX (N := 16) rfl (hB 158 (by decide)) (by decide) (by decide) (by decide) (by decide) wc_3 (by decide) (by decide) d_X2_init_7 ?_
  refine aw_putFR hX hn hF (ci := 2) (k := 3) (ty := (.array .int)) rfl (by decide) (by decide) rfl rfl wc_33 rfl rfl (by decide +kernel) (fun x => rfl) (fun x => rfl) rfl d_X2_init_9 ?_
  refine aw_aload_n hX (i := 0) rfl rfl d_X2_init_12 ?_
  refine aw_bipush (v := 16) hX (by decide) d_X2_init_13 ?_
  refine aw_newL hX (N := 16) rfl (bk_R (by decide) (hB 159 (by decide))) (by decide) (by decide) (by decide) (by decide) wc_6 (by decide) (by decide) d_X2_init_15 ?_
  refine aw_putFR hX hn hF (ci := 2) (k := 4) (ty := (.array .long)) rfl (by decide) (by decide) rfl rfl wc_34 rfl rfl (by decide +kernel) (fun x => rfl) (fun x => rfl) rfl d_X2_init_17 ?_
  refine aw_aload_n hX (i := 0) rfl rfl d_X2_init_20 ?_
  refine aw_bipush (v := 17) hX (by decide) d_X2_init_21 ?_
  refine aw_newL hX (N := 17) rfl (bk_R (by decide) (bk_R (by decide) (hB 160 (by decide)))) (by decide) (by decide) (by decide) (by decide) wc_6 (by decide) (by decide) d_X2_init_23 ?_
  refine aw_putFR hX hn hF (ci := 2) (k := 6) (ty := (.array .long)) rfl (by decide) (by decide) rfl rfl wc_35 rfl rfl (by decide +kernel) (fun x => rfl) (fun x => rfl) rfl d_X2_init_25 ?_
  refine aw_aload_n hX (i := 0) rfl rfl d_X2_init_28 ?_
  refine aw_iload_n hX (i := 1) rfl rfl d_X2_init_29 ?_
  refine aw_putFI hX hn (ci := 2) (k := 0) rfl (by decide) (by decide) rfl rfl wc_36 rfl rfl (by decide +kernel) rfl d_X2_init_30 ?_
  refine aw_aload_n hX (i := 0) rfl rfl d_X2_init_33 ?_
  refine aw_iload_n hX (i := 1) rfl rfl d_X2_init_34 ?_
  refine aw_iconst (v := 2) hX (by decide) d_X2_init_35 ?_
  refine aw_icmp_ne (t := 44) hX (by decide) d_X2_init_36 (fun c => ?_) (fun c => absurd c (by decide))
  refine aw_iconst (v := 1) hX (by decide) d_X2_init_44 ?_
  refine aw_putFI hX hn (ci := 2) (k := 1) rfl (by decide) (by decide) rfl rfl wc_37 rfl rfl (by decide +kernel) rfl d_X2_init_45 ?_
  refine aw_aload_n hX (i := 0) rfl rfl d_X2_init_48 ?_
  refine aw_iload_n hX (i := 1) rfl rfl d_X2_init_49 ?_
  refine aw_iconst (v := 2) hX (by decide) d_X2_init_50 ?_
  refine aw_icmp_ne (t := 60) hX (by decide) d_X2_init_51 (fun c => ?_) (fun c => absurd c (by decide))
  refine aw_bipush (v := 16) hX (by decide) d_X2_init_60 ?_
  refine aw_newL hX (N := 16) rfl (bk_I (by decide) (bk_I (by decide) (bk_R (by decide) (bk_R (by decide) (bk_R (by decide) (hB 161 (by decide))))))) (by decide) (by decide) (by decide) (by decide) wc_6 (by decide) (by decide) d_X2_init_62 ?_
  refine aw_putFR hX hn hF (ci := 2) (k := 2) (ty := (.array .long)) rfl (by decide) (by decide) rfl rfl wc_38 rfl rfl (by decide +kernel) (fun x => rfl) (fun x => rfl) rfl d_X2_init_64 ?_
  refine aw_aload_n hX (i := 0) rfl rfl d_X2_init_67 ?_
  refine aw_iload_n hX (i := 1) rfl rfl d_X2_init_68 ?_
  refine aw_iconst (v := 2) hX (by decide) d_X2_init_69 ?_
  refine aw_icmp_ne (t := 79) hX (by decide) d_X2_init_70 (fun c => ?_) (fun c => absurd c (by decide))
  refine aw_bipush (v := 33) hX (by decide) d_X2_init_79 ?_
  refine aw_newL hX (N := 33) rfl (bk_R (by decide) (bk_I (by decide) (bk_I (by decide) (bk_R (by decide) (bk_R (by decide) (bk_R (by decide) (hB 162 (by decide)))))))) (by decide) (by decide) (by decide) (by decide) wc_6 (by decide) (by decide) d_X2_init_81 ?_
  refine aw_putFR hX hn hF (ci := 2) (k := 5) (ty := (.array .long)) rfl (by decide) (by decide) rfl rfl wc_39 rfl rfl (by decide +kernel) (fun x => rfl) (fun x => rfl) rfl d_X2_init_83 ?_
  exact aw_return hX (by decide) (by decide) d_X2_init_86)
def c_X2_init_163 (h : AH) : AH := (sR (sR (sI (sI (sR (sR (sR h 163 3 (some 164)) 163 4 (some 165)) 163 6 (some 166)) 163 0 2) 163 1 13) 163 2 (some 167)) 163 5 (some 168))
theorem b_X2_init_163 {h : AH} {a : Nat} (ha : 169 ≤ a) (h0 : Blank h a) : Blank (c_X2_init_163 h) a := (bk_R (by omega) (bk_R (by omega) (bk_I (by omega) (bk_I (by omega) (bk_R (by omega) (bk_R (by omega) (bk_R (by omega) h0)))))))
theorem k_X2_init_163 {g : GP} (hg : g.1.stackTraces = false) (hF : gF g = false) {h : AH} (hB : ∀ a, 163 < a → Blank h a) : Ctr g yX2_init (wsY yX2_init cX2_init 2 none) 1 5 686 [.ref 163, .int 2] 164 true h none 169 true (c_X2_init_163 h) := ctr_of (lv0 := [.ref 163, .int 2]) rfl rfl (by decide) hg trivial (fun X hX hn => by
  replace hX : Cx g RX2 cX2_init 1 5 686 none [] X := hX
  replace hn : X.meth.name = "<init>" := hn
  refine aw_aload_n hX (i := 0) rfl rfl d_X2_init_0 ?_
  refine aw_objI hX wc_32 wc_1 wc_2 (by decide) (by decide) d_X2_init_1 ?_
  refine aw_aload_n hX (i := 0) rfl rfl d_X2_init_4 ?_
  refine aw_bipush (v := 16) hX (by decide) d_X2_init_5 ?_
  refine aw_newI hX (N := 16) rfl (hB 164 (by decide)) (by decide) (by decide) (by decide) (by decide) wc_3 (by decide) (by decide) d_X2_init_7 ?_
  refine aw_putFR hX hn hF (ci := 2) (k := 3) (ty := (.array .int)) rfl (by decide) (by decide) rfl rfl wc_33 rfl rfl (by decide +kernel) (fun x => rfl) (fun x => rfl) rfl d_X2_init_9 ?_
  refine aw_aload_n hX (i := 0) rfl rfl d_X2_init_12 ?_
  refine aw_bipush (v := 16) hX (by decide) d_X2_init_13 ?_
  refine aw_newL hX (N := 16) rfl (bk_R (by decide) (hB 165 (by decide))) (by decide) (by decide) (by decide) (by decide) wc_6 (by decide) (by decide) d_X2_init_15 ?_
  refine aw_putFR hX hn hF (ci := 2) (k := 4) (ty := (.array .long)) rfl (by decide) (by decide) rfl rfl wc_34 rfl rfl (by decide +kernel) (fun x => rfl) (fun x => rfl) rfl d_X2_init_17 ?_
  refine aw_aload_n hX (i := 0) rfl rfl d_X2_init_20 ?_
  refine aw_bipush (v := 17) hX (by decide) d_X2_init_21 ?_
  refine aw_newL hX (N := 17) rfl (bk_R (by decide) (bk_R (by decide) (hB 166 (by decide)))) (by decide) (by decide) (by decide) (by decide) wc_6 (by decide) (by decide) d_X2_init_23 ?_
  refine aw_putFR hX hn hF (ci := 2) (k := 6) (ty := (.array .long)) rfl (by decide) (by decide) rfl rfl wc_35 rfl rfl (by decide +kernel) (fun x => rfl) (fun x => rfl) rfl d_X2_init_25 ?_
  refine aw_aload_n hX (i := 0) rfl rfl d_X2_init_28 ?_
  refine aw_iload_n hX (i := 1) rfl rfl d_X2_init_29 ?_
  refine aw_putFI hX hn (ci := 2) (k := 0) rfl (by decide) (by decide) rfl rfl wc_36 rfl rfl (by decide +kernel) rfl d_X2_init_30 ?_
  refine aw_aload_n hX (i := 0) rfl rfl d_X2_init_33 ?_
  refine aw_iload_n hX (i := 1) rfl rfl d_X2_init_34 ?_
  refine aw_iconst (v := 2) hX (by decide) d_X2_init_35 ?_
  refine aw_icmp_ne (t := 44) hX (by decide) d_X2_init_36 (fun c => absurd rfl c) (fun c => ?_)
  refine aw_bipush (v := 13) hX (by decide) d_X2_init_39 ?_
  refine aw_goto (t := 45) hX (by decide) d_X2_init_41 ?_
  refine aw_putFI hX hn (ci := 2) (k := 1) rfl (by decide) (by decide) rfl rfl wc_37 rfl rfl (by decide +kernel) rfl d_X2_init_45 ?_
  refine aw_aload_n hX (i := 0) rfl rfl d_X2_init_48 ?_
  refine aw_iload_n hX (i := 1) rfl rfl d_X2_init_49 ?_
  refine aw_iconst (v := 2) hX (by decide) d_X2_init_50 ?_
  refine aw_icmp_ne (t := 60) hX (by decide) d_X2_init_51 (fun c => absurd rfl c) (fun c => ?_)
  refine aw_sipush (v := 208) hX (by decide) d_X2_init_54 ?_
  refine aw_goto (t := 62) hX (by decide) d_X2_init_57 ?_
  refine aw_newL hX (N := 208) rfl (bk_I (by decide) (bk_I (by decide) (bk_R (by decide) (bk_R (by decide) (bk_R (by decide) (hB 167 (by decide))))))) (by decide) (by decide) (by decide) (by decide) wc_6 (by decide) (by decide) d_X2_init_62 ?_
  refine aw_putFR hX hn hF (ci := 2) (k := 2) (ty := (.array .long)) rfl (by decide) (by decide) rfl rfl wc_38 rfl rfl (by decide +kernel) (fun x => rfl) (fun x => rfl) rfl d_X2_init_64 ?_
  refine aw_aload_n hX (i := 0) rfl rfl d_X2_init_67 ?_
  refine aw_iload_n hX (i := 1) rfl rfl d_X2_init_68 ?_
  refine aw_iconst (v := 2) hX (by decide) d_X2_init_69 ?_
  refine aw_icmp_ne (t := 79) hX (by decide) d_X2_init_70 (fun c => absurd rfl c) (fun c => ?_)
  refine aw_sipush (v := 429) hX (by decide) d_X2_init_73 ?_
  refine aw_goto (t := 81) hX (by decide) d_X2_init_76 ?_
  refine aw_newL hX (N := 429) rfl (bk_R (by decide) (bk_I (by decide) (bk_I (by decide) (bk_R (by decide) (bk_R (by decide) (bk_R (by decide) (hB 168 (by decide)))))))) (by decide) (by decide) (by decide) (by decide) wc_6 (by decide) (by decide) d_X2_init_81 ?_
  refine aw_putFR hX hn hF (ci := 2) (k := 5) (ty := (.array .long)) rfl (by decide) (by decide) rfl rfl wc_39 rfl rfl (by decide +kernel) (fun x => rfl) (fun x => rfl) rfl d_X2_init_83 ?_
  exact aw_return hX (by decide) (by decide) d_X2_init_86)
def c_X2_init_169 (h : AH) : AH := (sR (sR (sI (sI (sR (sR (sR h 169 3 (some 170)) 169 4 (some 171)) 169 6 (some 172)) 169 0 3) 169 1 1) 169 2 (some 173)) 169 5 (some 174))
theorem b_X2_init_169 {h : AH} {a : Nat} (ha : 175 ≤ a) (h0 : Blank h a) : Blank (c_X2_init_169 h) a := (bk_R (by omega) (bk_R (by omega) (bk_I (by omega) (bk_I (by omega) (bk_R (by omega) (bk_R (by omega) (bk_R (by omega) h0)))))))
theorem k_X2_init_169 {g : GP} (hg : g.1.stackTraces = false) (hF : gF g = false) {h : AH} (hB : ∀ a, 169 < a → Blank h a) : Ctr g yX2_init (wsY yX2_init cX2_init 2 none) 1 5 98 [.ref 169, .int 3] 170 true h none 175 true (c_X2_init_169 h) := ctr_of (lv0 := [.ref 169, .int 3]) rfl rfl (by decide) hg trivial (fun X hX hn => by
  replace hX : Cx g RX2 cX2_init 1 5 98 none [] X := hX
  replace hn : X.meth.name = "<init>" := hn
  refine aw_aload_n hX (i := 0) rfl rfl d_X2_init_0 ?_
  refine aw_objI hX wc_32 wc_1 wc_2 (by decide) (by decide) d_X2_init_1 ?_
  refine aw_aload_n hX (i := 0) rfl rfl d_X2_init_4 ?_
  refine aw_bipush (v := 16) hX (by decide) d_X2_init_5 ?_
  refine aw_newI hX (N := 16) rfl (hB 170 (by decide)) (by decide) (by decide) (by decide) (by decide) wc_3 (by decide) (by decide) d_X2_init_7 ?_
  refine aw_putFR hX hn hF (ci := 2) (k := 3) (ty := (.array .int)) rfl (by decide) (by decide) rfl rfl wc_33 rfl rfl (by decide +kernel) (fun x => rfl) (fun x => rfl) rfl d_X2_init_9 ?_
  refine aw_aload_n hX (i := 0) rfl rfl d_X2_init_12 ?_
  refine aw_bipush (v := 16) hX (by decide) d_X2_init_13 ?_
  refine aw_newL hX (N := 16) rfl (bk_R (by decide) (hB 171 (by decide))) (by decide) (by decide) (by decide) (by decide) wc_6 (by decide) (by decide) d_X2_init_15 ?_
  refine aw_putFR hX hn hF (ci := 2) (k := 4) (ty := (.array .long)) rfl (by decide) (by decide) rfl rfl wc_34 rfl rfl (by decide +kernel) (fun x => rfl) (fun x => rfl) rfl d_X2_init_17 ?_
  refine aw_aload_n hX (i := 0) rfl rfl d_X2_init_20 ?_
  refine aw_bipush (v := 17) hX (by decide) d_X2_init_21 ?_
  refine aw_newL hX (N := 17) rfl (bk_R (by decide) (bk_R (by decide) (hB 172 (by decide)))) (by decide) (by decide) (by decide) (by decide) wc_6 (by decide) (by decide) d_X2_init_23 ?_
  refine aw_putFR hX hn hF (ci := 2) (k := 6) (ty := (.array .long)) rfl (by decide) (by decide) rfl rfl wc_35 rfl rfl (by decide +kernel) (fun x => rfl) (fun x => rfl) rfl d_X2_init_25 ?_
  refine aw_aload_n hX (i := 0) rfl rfl d_X2_init_28 ?_
  refine aw_iload_n hX (i := 1) rfl rfl d_X2_init_29 ?_
  refine aw_putFI hX hn (ci := 2) (k := 0) rfl (by decide) (by decide) rfl rfl wc_36 rfl rfl (by decide +kernel) rfl d_X2_init_30 ?_
  refine aw_aload_n hX (i := 0) rfl rfl d_X2_init_33 ?_
  refine aw_iload_n hX (i := 1) rfl rfl d_X2_init_34 ?_
  refine aw_iconst (v := 2) hX (by decide) d_X2_init_35 ?_
  refine aw_icmp_ne (t := 44) hX (by decide) d_X2_init_36 (fun c => ?_) (fun c => absurd c (by decide))
  refine aw_iconst (v := 1) hX (by decide) d_X2_init_44 ?_
  refine aw_putFI hX hn (ci := 2) (k := 1) rfl (by decide) (by decide) rfl rfl wc_37 rfl rfl (by decide +kernel) rfl d_X2_init_45 ?_
  refine aw_aload_n hX (i := 0) rfl rfl d_X2_init_48 ?_
  refine aw_iload_n hX (i := 1) rfl rfl d_X2_init_49 ?_
  refine aw_iconst (v := 2) hX (by decide) d_X2_init_50 ?_
  refine aw_icmp_ne (t := 60) hX (by decide) d_X2_init_51 (fun c => ?_) (fun c => absurd c (by decide))
  refine aw_bipush (v := 16) hX (by decide) d_X2_init_60 ?_
  refine aw_newL hX (N := 16) rfl (bk_I (by decide) (bk_I (by decide) (bk_R (by decide) (bk_R (by decide) (bk_R (by decide) (hB 173 (by decide))))))) (by decide) (by decide) (by decide) (by decide) wc_6 (by decide) (by decide) d_X2_init_62 ?_
  refine aw_putFR hX hn hF (ci := 2) (k := 2) (ty := (.array .long)) rfl (by decide) (by decide) rfl rfl wc_38 rfl rfl (by decide +kernel) (fun x => rfl) (fun x => rfl) rfl d_X2_init_64 ?_
  refine aw_aload_n hX (i := 0) rfl rfl d_X2_init_67 ?_
  refine aw_iload_n hX (i := 1) rfl rfl d_X2_init_68 ?_
  refine aw_iconst (v := 2) hX (by decide) d_X2_init_69 ?_
  refine aw_icmp_ne (t := 79) hX (by decide) d_X2_init_70 (fun c => ?_) (fun c => absurd c (by decide))
  refine aw_bipush (v := 33) hX (by decide) d_X2_init_79 ?_
  refine aw_newL hX (N := 33) rfl (bk_R (by decide) (bk_I (by decide) (bk_I (by decide) (bk_R (by decide) (bk_R (by decide) (bk_R (by decide) (hB 174 (by decide)))))))) (by decide) (by decide) (by decide) (by decide) wc_6 (by decide) (by decide) d_X2_init_81 ?_
  refine aw_putFR hX hn hF (ci := 2) (k := 5) (ty := (.array .long)) rfl (by decide) (by decide) rfl rfl wc_39 rfl rfl (by decide +kernel) (fun x => rfl) (fun x => rfl) rfl d_X2_init_83 ?_
  exact aw_return hX (by decide) (by decide) d_X2_init_86)
def c_X2_init_175 (h : AH) : AH := (sR (sR (sI (sI (sR (sR (sR h 175 3 (some 176)) 175 4 (some 177)) 175 6 (some 178)) 175 0 4) 175 1 1) 175 2 (some 179)) 175 5 (some 180))
theorem b_X2_init_175 {h : AH} {a : Nat} (ha : 181 ≤ a) (h0 : Blank h a) : Blank (c_X2_init_175 h) a := (bk_R (by omega) (bk_R (by omega) (bk_I (by omega) (bk_I (by omega) (bk_R (by omega) (bk_R (by omega) (bk_R (by omega) h0)))))))
theorem k_X2_init_175 {g : GP} (hg : g.1.stackTraces = false) (hF : gF g = false) {h : AH} (hB : ∀ a, 175 < a → Blank h a) : Ctr g yX2_init (wsY yX2_init cX2_init 2 none) 1 5 98 [.ref 175, .int 4] 176 true h none 181 true (c_X2_init_175 h) := ctr_of (lv0 := [.ref 175, .int 4]) rfl rfl (by decide) hg trivial (fun X hX hn => by
  replace hX : Cx g RX2 cX2_init 1 5 98 none [] X := hX
  replace hn : X.meth.name = "<init>" := hn
  refine aw_aload_n hX (i := 0) rfl rfl d_X2_init_0 ?_
  refine aw_objI hX wc_32 wc_1 wc_2 (by decide) (by decide) d_X2_init_1 ?_
  refine aw_aload_n hX (i := 0) rfl rfl d_X2_init_4 ?_
  refine aw_bipush (v := 16) hX (by decide) d_X2_init_5 ?_
  refine aw_newI hX (N := 16) rfl (hB 176 (by decide)) (by decide) (by decide) (by decide) (by decide) wc_3 (by decide) (by decide) d_X2_init_7 ?_
  refine aw_putFR hX hn hF (ci := 2) (k := 3) (ty := (.array .int)) rfl (by decide) (by decide) rfl rfl wc_33 rfl rfl (by decide +kernel) (fun x => rfl) (fun x => rfl) rfl d_X2_init_9 ?_
  refine aw_aload_n hX (i := 0) rfl rfl d_X2_init_12 ?_
  refine aw_bipush (v := 16) hX (by decide) d_X2_init_13 ?_
  refine aw_newL hX (N := 16) rfl (bk_R (by decide) (hB 177 (by decide))) (by decide) (by decide) (by decide) (by decide) wc_6 (by decide) (by decide) d_X2_init_15 ?_
  refine aw_putFR hX hn hF (ci := 2) (k := 4) (ty := (.array .long)) rfl (by decide) (by decide) rfl rfl wc_34 rfl rfl (by decide +kernel) (fun x => rfl) (fun x => rfl) rfl d_X2_init_17 ?_
  refine aw_aload_n hX (i := 0) rfl rfl d_X2_init_20 ?_
  refine aw_bipush (v := 17) hX (by decide) d_X2_init_21 ?_
  refine aw_newL hX (N := 17) rfl (bk_R (by decide) (bk_R (by decide) (hB 178 (by decide)))) (by decide) (by decide) (by decide) (by decide) wc_6 (by decide) (by decide) d_X2_init_23 ?_
  refine aw_putFR hX hn hF (ci := 2) (k := 6) (ty := (.array .long)) rfl (by decide) (by decide) rfl rfl wc_35 rfl rfl (by decide +kernel) (fun x => rfl) (fun x => rfl) rfl d_X2_init_25 ?_
  refine aw_aload_n hX (i := 0) rfl rfl d_X2_init_28 ?_
  refine aw_iload_n hX (i := 1) rfl rfl d_X2_init_29 ?_
  refine aw_putFI hX hn (ci := 2) (k := 0) rfl (by decide) (by decide) rfl rfl wc_36 rfl rfl (by decide +kernel) rfl d_X2_init_30 ?_
  refine aw_aload_n hX (i := 0) rfl rfl d_X2_init_33 ?_
  refine aw_iload_n hX (i := 1) rfl rfl d_X2_init_34 ?_
  refine aw_iconst (v := 2) hX (by decide) d_X2_init_35 ?_
  refine aw_icmp_ne (t := 44) hX (by decide) d_X2_init_36 (fun c => ?_) (fun c => absurd c (by decide))
  refine aw_iconst (v := 1) hX (by decide) d_X2_init_44 ?_
  refine aw_putFI hX hn (ci := 2) (k := 1) rfl (by decide) (by decide) rfl rfl wc_37 rfl rfl (by decide +kernel) rfl d_X2_init_45 ?_
  refine aw_aload_n hX (i := 0) rfl rfl d_X2_init_48 ?_
  refine aw_iload_n hX (i := 1) rfl rfl d_X2_init_49 ?_
  refine aw_iconst (v := 2) hX (by decide) d_X2_init_50 ?_
  refine aw_icmp_ne (t := 60) hX (by decide) d_X2_init_51 (fun c => ?_) (fun c => absurd c (by decide))
  refine aw_bipush (v := 16) hX (by decide) d_X2_init_60 ?_
  refine aw_newL hX (N := 16) rfl (bk_I (by decide) (bk_I (by decide) (bk_R (by decide) (bk_R (by decide) (bk_R (by decide) (hB 179 (by decide))))))) (by decide) (by decide) (by decide) (by decide) wc_6 (by decide) (by decide) d_X2_init_62 ?_
  refine aw_putFR hX hn hF (ci := 2) (k := 2) (ty := (.array .long)) rfl (by decide) (by decide) rfl rfl wc_38 rfl rfl (by decide +kernel) (fun x => rfl) (fun x => rfl) rfl d_X2_init_64 ?_
  refine aw_aload_n hX (i := 0) rfl rfl d_X2_init_67 ?_
  refine aw_iload_n hX (i := 1) rfl rfl d_X2_init_68 ?_
  refine aw_iconst (v := 2) hX (by decide) d_X2_init_69 ?_
  refine aw_icmp_ne (t := 79) hX (by decide) d_X2_init_70 (fun c => ?_) (fun c => absurd c (by decide))
  refine aw_bipush (v := 33) hX (by decide) d_X2_init_79 ?_
  refine aw_newL hX (N := 33) rfl (bk_R (by decide) (bk_I (by decide) (bk_I (by decide) (bk_R (by decide) (bk_R (by decide) (bk_R (by decide) (hB 180 (by decide)))))))) (by decide) (by decide) (by decide) (by decide) wc_6 (by decide) (by decide) d_X2_init_81 ?_
  refine aw_putFR hX hn hF (ci := 2) (k := 5) (ty := (.array .long)) rfl (by decide) (by decide) rfl rfl wc_39 rfl rfl (by decide +kernel) (fun x => rfl) (fun x => rfl) rfl d_X2_init_83 ?_
  exact aw_return hX (by decide) (by decide) d_X2_init_86)
def c_X2_init_181 (h : AH) : AH := (sR (sR (sI (sI (sR (sR (sR h 181 3 (some 182)) 181 4 (some 183)) 181 6 (some 184)) 181 0 0) 181 1 1) 181 2 (some 185)) 181 5 (some 186))
theorem b_X2_init_181 {h : AH} {a : Nat} (ha : 187 ≤ a) (h0 : Blank h a) : Blank (c_X2_init_181 h) a := (bk_R (by omega) (bk_R (by omega) (bk_I (by omega) (bk_I (by omega) (bk_R (by omega) (bk_R (by omega) (bk_R (by omega) h0)))))))
theorem k_X2_init_181 {g : GP} (hg : g.1.stackTraces = false) (hF : gF g = false) {h : AH} (hB : ∀ a, 181 < a → Blank h a) : Ctr g yX2_init (wsY yX2_init cX2_init 2 none) 1 5 98 [.ref 181, .int 0] 182 true h none 187 true (c_X2_init_181 h) := ctr_of (lv0 := [.ref 181, .int 0]) rfl rfl (by decide) hg trivial (fun X hX hn => by
  replace hX : Cx g RX2 cX2_init 1 5 98 none [] X := hX
  replace hn : X.meth.name = "<init>" := hn
  refine aw_aload_n hX (i := 0) rfl rfl d_X2_init_0 ?_
  refine aw_objI hX wc_32 wc_1 wc_2 (by decide) (by decide) d_X2_init_1 ?_
  refine aw_aload_n hX (i := 0) rfl rfl d_X2_init_4 ?_
  refine aw_bipush (v := 16) hX (by decide) d_X2_init_5 ?_
  refine aw_newI hX (N := 16) rfl (hB 182 (by decide)) (by decide) (by decide) (by decide) (by decide) wc_3 (by decide) (by decide) d_X2_init_7 ?_
  refine aw_putFR hX hn hF (ci := 2) (k := 3) (ty := (.array .int)) rfl (by decide) (by decide) rfl rfl wc_33 rfl rfl (by decide +kernel) (fun x => rfl) (fun x => rfl) rfl d_X2_init_9 ?_
  refine aw_aload_n hX (i := 0) rfl rfl d_X2_init_12 ?_
  refine aw_bipush (v := 16) hX (by decide) d_X2_init_13 ?_
  refine aw_newL hX (N := 16) rfl (bk_R (by decide) (hB 183 (by decide))) (by decide) (by decide) (by decide) (by decide) wc_6 (by decide) (by decide) d_X2_init_15 ?_
  refine aw_putFR hX hn hF (ci := 2) (k := 4) (ty := (.array .long)) rfl (by decide) (by decide) rfl rfl wc_34 rfl rfl (by decide +kernel) (fun x => rfl) (fun x => rfl) rfl d_X2_init_17 ?_
  refine aw_aload_n hX (i := 0) rfl rfl d_X2_init_20 ?_
  refine aw_bipush (v := 17) hX (by decide) d_X2_init_21 ?_
  refine aw_newL hX (N := 17) rfl (bk_R (by decide) (bk_R (by decide) (hB 184 (by decide)))) (by decide) (by decide) (by decide) (by decide) wc_6 (by decide) (by decide) d_X2_init_23 ?_
  refine aw_putFR hX hn hF (ci := 2) (k := 6) (ty := (.array .long)) rfl (by decide) (by decide) rfl rfl wc_35 rfl rfl (by decide +kernel) (fun x => rfl) (fun x => rfl) rfl d_X2_init_25 ?_
  refine aw_aload_n hX (i := 0) rfl rfl d_X2_init_28 ?_
  refine aw_iload_n hX (i := 1) rfl rfl d_X2_init_29 ?_
  refine aw_putFI hX hn (ci := 2) (k := 0) rfl (by decide) (by decide) rfl rfl wc_36 rfl rfl (by decide +kernel) rfl d_X2_init_30 ?_
  refine aw_aload_n hX (i := 0) rfl rfl d_X2_init_33 ?_
  refine aw_iload_n hX (i := 1) rfl rfl d_X2_init_34 ?_
  refine aw_iconst (v := 2) hX (by decide) d_X2_init_35 ?_
  refine aw_icmp_ne (t := 44) hX (by decide) d_X2_init_36 (fun c => ?_) (fun c => absurd c (by decide))
  refine aw_iconst (v := 1) hX (by decide) d_X2_init_44 ?_
  refine aw_putFI hX hn (ci := 2) (k := 1) rfl (by decide) (by decide) rfl rfl wc_37 rfl rfl (by decide +kernel) rfl d_X2_init_45 ?_
  refine aw_aload_n hX (i := 0) rfl rfl d_X2_init_48 ?_
  refine aw_iload_n hX (i := 1) rfl rfl d_X2_init_49 ?_
  refine aw_iconst (v := 2) hX (by decide) d_X2_init_50 ?_
  refine aw_icmp_ne (t := 60) hX (by decide) d_X2_init_51 (fun c => ?_) (fun c => absurd c (by decide))
  refine aw_bipush (v := 16) hX (by decide) d_X2_init_60 ?_
  refine aw_newL hX (N := 16) rfl (bk_I (by decide) (bk_I (by decide) (bk_R (by decide) (bk_R (by decide) (bk_R (by decide) (hB 185 (by decide))))))) (by decide) (by decide) (by decide) (by decide) wc_6 (by decide) (by decide) d_X2_init_62 ?_
  refine aw_putFR hX hn hF (ci := 2) (k := 2) (ty := (.array .long)) rfl (by decide) (by decide) rfl rfl wc_38 rfl rfl (by decide +kernel) (fun x => rfl) (fun x => rfl) rfl d_X2_init_64 ?_
  refine aw_aload_n hX (i := 0) rfl rfl d_X2_init_67 ?_
  refine aw_iload_n hX (i := 1) rfl rfl d_X2_init_68 ?_
  refine aw_iconst (v := 2) hX (by decide) d_X2_init_69 ?_
  refine aw_icmp_ne (t := 79) hX (by decide) d_X2_init_70 (fun c => ?_) (fun c => absurd c (by decide))
  refine aw_bipush (v := 33) hX (by decide) d_X2_init_79 ?_
  refine aw_newL hX (N := 33) rfl (bk_R (by decide) (bk_I (by decide) (bk_I (by decide) (bk_R (by decide) (bk_R (by decide) (bk_R (by decide) (hB 186 (by decide)))))))) (by decide) (by decide) (by decide) (by decide) wc_6 (by decide) (by decide) d_X2_init_81 ?_
  refine aw_putFR hX hn hF (ci := 2) (k := 5) (ty := (.array .long)) rfl (by decide) (by decide) rfl rfl wc_39 rfl rfl (by decide +kernel) (fun x => rfl) (fun x => rfl) rfl d_X2_init_83 ?_
  exact aw_return hX (by decide) (by decide) d_X2_init_86)
def c_X2_init_187 (h : AH) : AH := (sR (sR (sI (sI (sR (sR (sR h 187 3 (some 188)) 187 4 (some 189)) 187 6 (some 190)) 187 0 1) 187 1 1) 187 2 (some 191)) 187 5 (some 192))
theorem b_X2_init_187 {h : AH} {a : Nat} (ha : 193 ≤ a) (h0 : Blank h a) : Blank (c_X2_init_187 h) a := (bk_R (by omega) (bk_R (by omega) (bk_I (by omega) (bk_I (by omega) (bk_R (by omega) (bk_R (by omega) (bk_R (by omega) h0)))))))
theorem k_X2_init_187 {g : GP} (hg : g.1.stackTraces = false) (hF : gF g = false) {h : AH} (hB : ∀ a, 187 < a → Blank h a) : Ctr g yX2_init (wsY yX2_init cX2_init 2 none) 1 5 98 [.ref 187, .int 1] 188 true h none 193 true (c_X2_init_187 h) := ctr_of (lv0 := [.ref 187, .int 1]) rfl rfl (by decide) hg trivial (fun X hX hn => by
  replace hX : Cx g RX2 cX2_init 1 5 98 none [] X := hX
  replace hn : X.meth.name = "<init>" := hn
  refine aw_aload_n hX (i := 0) rfl rfl d_X2_init_0 ?_
  refine aw_objI hX wc_32 wc_1 wc_2 (by decide) (by decide) d_X2_init_1 ?_
  refine aw_aload_n hX (i := 0) rfl rfl d_X2_init_4 ?_
  refine aw_bipush (v := 16) hX (by decide) d_X2_init_5 ?_
  refine aw_newI hX (N := 16) rfl (hB 188 (by decide)) (by decide) (by decide) (by decide) (by decide) wc_3 (by decide) (by decide) d_X2_init_7 ?_
  refine aw_putFR hX hn hF (ci := 2) (k := 3) (ty := (.array .int)) rfl (by decide) (by decide) rfl rfl wc_33 rfl rfl (by decide +kernel) (fun x => rfl) (fun x => rfl) rfl d_X2_init_9 ?_
  refine aw_aload_n hX (i := 0) rfl rfl d_X2_init_12 ?_
  refine aw_bipush (v := 16) hX (by decide) d_X2_init_13 ?_
  refine aw_newL hX (N := 16) rfl (bk_R (by decide) (hB 189 (by decide))) (by decide) (by decide) (by decide) (by decide) wc_6 (by decide) (by decide) d_X2_init_15 ?_
  refine aw_putFR hX hn hF (ci := 2) (k := 4) (ty := (.array .long)) rfl (by decide) (by decide) rfl rfl wc_34 rfl rfl (by decide +kernel) (fun x => rfl) (fun x => rfl) rfl d_X2_init_17 ?_
  refine aw_aload_n hX (i := 0) rfl rfl d_X2_init_20 ?_
  refine aw_bipush (v := 17) hX (by decide) d_X2_init_21 ?_
  refine aw_newL hX (N := 17) rfl (bk_R (by decide) (bk_R (by decide) (hB 190 (by decide)))) (by decide) (by decide) (by decide) (by decide) wc_6 (by decide) (by decide) d_X2_init_23 ?_
  refine aw_putFR hX hn hF (ci := 2) (k := 6) (ty := (.array .long)) rfl (by decide) (by decide) rfl rfl wc_35 rfl rfl (by decide +kernel) (fun x => rfl) (fun x => rfl) rfl d_X2_init_25 ?_
  refine aw_aload_n hX (i := 0) rfl rfl d_X2_init_28 ?_
  refine aw_iload_n hX (i := 1) rfl rfl d_X2_init_29 ?_
  refine aw_putFI hX hn (ci := 2) (k := 0) rfl (by decide) (by decide) rfl rfl wc_36 rfl rfl (by decide +kernel) rfl d_X2_init_30 ?_
  refine aw_aload_n hX (i := 0) rfl rfl d_X2_init_33 ?_
  refine aw_iload_n hX (i := 1) rfl rfl d_X2_init_34 ?_
  refine aw_iconst (v := 2) hX (by decide) d_X2_init_35 ?_
  refine aw_icmp_ne (t := 44) hX (by decide) d_X2_init_36 (fun c => ?_) (fun c => absurd c (by decide))
  refine aw_iconst (v := 1) hX (by decide) d_X2_init_44 ?_
  refine aw_putFI hX hn (ci := 2) (k := 1) rfl (by decide) (by decide) rfl rfl wc_37 rfl rfl (by decide +kernel) rfl d_X2_init_45 ?_
  refine aw_aload_n hX (i := 0) rfl rfl d_X2_init_48 ?_
  refine aw_iload_n hX (i := 1) rfl rfl d_X2_init_49 ?_
  refine aw_iconst (v := 2) hX (by decide) d_X2_init_50 ?_
  refine aw_icmp_ne (t := 60) hX (by decide) d_X2_init_51 (fun c => ?_) (fun c => absurd c (by decide))
  refine aw_bipush (v := 16) hX (by decide) d_X2_init_60 ?_
  refine aw_newL hX (N := 16) rfl (bk_I (by decide) (bk_I (by decide) (bk_R (by decide) (bk_R (by decide) (bk_R (by decide) (hB 191 (by decide))))))) (by decide) (by decide) (by decide) (by decide) wc_6 (by decide) (by decide) d_X2_init_62 ?_
  refine aw_putFR hX hn hF (ci := 2) (k := 2) (ty := (.array .long)) rfl (by decide) (by decide) rfl rfl wc_38 rfl rfl (by decide +kernel) (fun x => rfl) (fun x => rfl) rfl d_X2_init_64 ?_
  refine aw_aload_n hX (i := 0) rfl rfl d_X2_init_67 ?_
  refine aw_iload_n hX (i := 1) rfl rfl d_X2_init_68 ?_
  refine aw_iconst (v := 2) hX (by decide) d_X2_init_69 ?_
  refine aw_icmp_ne (t := 79) hX (by decide) d_X2_init_70 (fun c => ?_) (fun c => absurd c (by decide))
  refine aw_bipush (v := 33) hX (by decide) d_X2_init_79 ?_
  refine aw_newL hX (N := 33) rfl (bk_R (by decide) (bk_I (by decide) (bk_I (by decide) (bk_R (by decide) (bk_R (by decide) (bk_R (by decide) (hB 192 (by decide)))))))) (by decide) (by decide) (by decide) (by decide) wc_6 (by decide) (by decide) d_X2_init_81 ?_
  refine aw_putFR hX hn hF (ci := 2) (k := 5) (ty := (.array .long)) rfl (by decide) (by decide) rfl rfl wc_39 rfl rfl (by decide +kernel) (fun x => rfl) (fun x => rfl) rfl d_X2_init_83 ?_
  exact aw_return hX (by decide) (by decide) d_X2_init_86)
def c_X2_init_193 (h : AH) : AH := (sR (sR (sI (sI (sR (sR (sR h 193 3 (some 194)) 193 4 (some 195)) 193 6 (some 196)) 193 0 2) 193 1 13) 193 2 (some 197)) 193 5 (some 198))
theorem b_X2_init_193 {h : AH} {a : Nat} (ha : 199 ≤ a) (h0 : Blank h a) : Blank (c_X2_init_193 h) a := (bk_R (by omega) (bk_R (by omega) (bk_I (by omega) (bk_I (by omega) (bk_R (by omega) (bk_R (by omega) (bk_R (by omega) h0)))))))
theorem k_X2_init_193 {g : GP} (hg : g.1.stackTraces = false) (hF : gF g = false) {h : AH} (hB : ∀ a, 193 < a → Blank h a) : Ctr g yX2_init (wsY yX2_init cX2_init 2 none) 1 5 686 [.ref 193, .int 2] 194 true h none 199 true (c_X2_init_193 h) := ctr_of (lv0 := [.ref 193, .int 2]) rfl rfl (by decide) hg trivial (fun X hX hn => by
  replace hX : Cx g RX2 cX2_init 1 5 686 none [] X := hX
  replace hn : X.meth.name = "<init>" := hn
  refine aw_aload_n hX (i := 0) rfl rfl d_X2_init_0 ?_
  refine aw_objI hX wc_32 wc_1 wc_2 (by decide) (by decide) d_X2_init_1 ?_
  refine aw_aload_n hX (i := 0) rfl rfl d_X2_init_4 ?_
  refine aw_bipush (v := 16) hX (by decide) d_X2_init_5 ?_
  refine aw_newI hX (N := 16) rfl (hB 194 (by decide)) (by decide) (by decide) (by decide) (by decide) wc_3 (by decide) (by decide) d_X2_init_7 ?_
  refine aw_putFR hX hn hF (ci := 2) (k := 3) (ty := (.array .int)) rfl (by decide) (by decide) rfl rfl wc_33 rfl rfl (by decide +kernel) (fun x => rfl) (fun x => rfl) rfl d_X2_init_9 ?_
  refine aw_aload_n hX (i := 0) rfl rfl d_X2_init_12 ?_
  refine aw_bipush (v := 16) hX (by decide) d_X2_init_13 ?_
  refine aw_newL hX (N := 16) rfl (bk_R (by decide) (hB 195 (by decide))) (by decide) (by decide) (by decide) (by decide) wc_6 (by decide) (by decide) d_X2_init_15 ?_
  refine aw_putFR hX hn hF (ci := 2) (k := 4) (ty := (.array .long)) rfl (by decide) (by decide) rfl rfl wc_34 rfl rfl (by decide +kernel) (fun x => rfl) (fun x => rfl) rfl d_X2_init_17 ?_
  refine aw_aload_n hX (i := 0) rfl rfl d_X2_init_20 ?_
  refine aw_bipush (v := 17) hX (by decide) d_X2_init_21 ?_
  refine aw_newL hX (N := 17) rfl (bk_R (by decide) (bk_R (by decide) (hB 196 (by decide)))) (by decide) (by decide) (by decide) (by decide) wc_6 (by decide) (by decide) d_X2_init_23 ?_
  refine aw_putFR hX hn hF (ci := 2) (k := 6) (ty := (.array .long)) rfl (by decide) (by decide) rfl rfl wc_35 rfl rfl (by decide +kernel) (fun x => rfl) (fun x => rfl) rfl d_X2_init_25 ?_
  refine aw_aload_n hX (i := 0) rfl rfl d_X2_init_28 ?_
  refine aw_iload_n hX (i := 1) rfl rfl d_X2_init_29 ?_
  refine aw_putFI hX hn (ci := 2) (k := 0) rfl (by decide) (by decide) rfl rfl wc_36 rfl rfl (by decide +kernel) rfl d_X2_init_30 ?_
  refine aw_aload_n hX (i := 0) rfl rfl d_X2_init_33 ?_
  refine aw_iload_n hX (i := 1) rfl rfl d_X2_init_34 ?_
  refine aw_iconst (v := 2) hX (by decide) d_X2_init_35 ?_
  refine aw_icmp_ne (t := 44) hX (by decide) d_X2_init_36 (fun c => absurd rfl c) (fun c => ?_)
  refine aw_bipush (v := 13) hX (by decide) d_X2_init_39 ?_
  refine aw_goto (t := 45) hX (by decide) d_X2_init_41 ?_
  refine aw_putFI hX hn (ci := 2) (k := 1) rfl (by decide) (by decide) rfl rfl wc_37 rfl rfl (by decide +kernel) rfl d_X2_init_45 ?_
  refine aw_aload_n hX (i := 0) rfl rfl d_X2_init_48 ?_
  refine aw_iload_n hX (i := 1) rfl rfl d_X2_init_49 ?_
  refine aw_iconst (v := 2) hX (by decide) d_X2_init_50 ?_
  refine aw_icmp_ne (t := 60) hX (by decide) d_X2_init_51 (fun c => absurd rfl c) (fun c => ?_)
  refine aw_sipush (v := 208) hX (by decide) d_X2_init_54 ?_
  refine aw_goto (t := 62) hX (by decide) d_X2_init_57 ?_
  refine aw_newL hX (N := 208) rfl (bk_I (by decide) (bk_I (by decide) (bk_R (by decide) (bk_R (by decide) (bk_R (by decide) (hB 197 (by decide))))))) (by decide) (by decide) (by decide) (by decide) wc_6 (by decide) (by decide) d_X2_init_62 ?_
  refine aw_putFR hX hn hF (ci := 2) (k := 2) (ty := (.array .long)) rfl (by decide) (by decide) rfl rfl wc_38 rfl rfl (by decide +kernel) (fun x => rfl) (fun x => rfl) rfl d_X2_init_64 ?_
  refine aw_aload_n hX (i := 0) rfl rfl d_X2_init_67 ?_
  refine aw_iload_n hX (i := 1) rfl rfl d_X2_init_68 ?_
  refine aw_iconst (v := 2) hX (by decide) d_X2_init_69 ?_
  refine aw_icmp_ne (t := 79) hX (by decide) d_X2_init_70 (fun c => absurd rfl c) (fun c => ?_)
  refine aw_sipush (v := 429) hX (by decide) d_X2_init_73 ?_
  refine aw_goto (t := 81) hX (by decide) d_X2_init_76 ?_
  refine aw_newL hX (N := 429) rfl (bk_R (by decide) (bk_I (by decide) (bk_I (by decide) (bk_R (by decide) (bk_R (by decide) (bk_R (by decide) (hB 198 (by decide)))))))) (by decide) (by decide) (by decide) (by decide) wc_6 (by decide) (by decide) d_X2_init_81 ?_
  refine aw_putFR hX hn hF (ci := 2) (k := 5) (ty := (.array .long)) rfl (by decide) (by decide) rfl rfl wc_39 rfl rfl (by decide +kernel) (fun x => rfl) (fun x => rfl) rfl d_X2_init_83 ?_
  exact aw_return hX (by decide) (by decide) d_X2_init_86)
def c_X2_init_199 (h : AH) : AH := (sR (sR (sI (sI (sR (sR (sR h 199 3 (some 200)) 199 4 (some 201)) 199 6 (some 202)) 199 0 3) 199 1 1) 199 2 (some 203)) 199 5 (some 204))
theorem b_X2_init_199 {h : AH} {a : Nat} (ha : 205 ≤ a) (h0 : Blank h a) : Blank (c_X2_init_199 h) a := (bk_R (by omega) (bk_R (by omega) (bk_I (by omega) (bk_I (by omega) (bk_R (by omega) (bk_R (by omega) (bk_R (by omega) h0)))))))
theorem k_X2_init_199 {g : GP} (hg : g.1.stackTraces = false) (hF : gF g = false) {h : AH} (hB : ∀ a, 199 < a → Blank h a) : Ctr g yX2_init (wsY yX2_init cX2_init 2 none) 1 5 98 [.ref 199, .int 3] 200 true h none 205 true (c_X2_init_199 h) := ctr_of (lv0 := [.ref 199, .int 3]) rfl rfl (by decide) hg trivial (fun X hX hn => by
  replace hX : Cx g RX2 cX2_init 1 5 98 none [] X := hX
  replace hn : X.meth.name = "<init>" := hn
  refine aw_aload_n hX (i := 0) rfl rfl d_X2_init_0 ?_
  refine aw_objI hX wc_32 wc_1 wc_2 (by decide) (by decide) d_X2_init_1 ?_
  refine aw_aload_n hX (i := 0) rfl rfl d_X2_init_4 ?_
  refine aw_bipush (v := 16) hX (by decide) d_X2_init_5 ?_
  refine aw_newI hX (N := 16) rfl (hB 200 (by decide)) (by decide) (by decide) (by decide) (by decide) wc_3 (by decide) (by decide) d_X2_init_7 ?_
  refine aw_putFR hX hn hF (ci := 2) (k := 3) (ty := (.array .int)) rfl (by decide) (by decide) rfl rfl wc_33 rfl rfl (by decide +kernel) (fun x => rfl) (fun x => rfl) rfl d_X2_init_9 ?_
  refine aw_aload_n hX (i := 0) rfl rfl d_X2_init_12 ?_
  refine aw_bipush (v := 16) hX (by decide) d_X2_init_13 ?_
  refine aw_newL hX (N := 16) rfl (bk_R (by decide) (hB 201 (by decide))) (by decide) (by decide) (by decide) (by decide) wc_6 (by decide) (by decide) d_X2_init_15 ?_
  refine aw_putFR hX hn hF (ci := 2) (k := 4) (ty := (.array .long)) rfl (by decide) (by decide) rfl rfl wc_34 rfl rfl (by decide +kernel) (fun x => rfl) (fun x => rfl) rfl d_X2_init_17 ?_
  refine aw_aload_n hX (i := 0) rfl rfl d_X2_init_20 ?_
  refine aw_bipush (v := 17) hX (by decide) d_X2_init_21 ?_
  refine aw_newL hX (N := 17) rfl (bk_R (by decide) (bk_R (by decide) (hB 202 (by decide)))) (by decide) (by decide) (by decide) (by decide) wc_6 (by decide) (by decide) d_X2_init_23 ?_
  refine aw_putFR hX hn hF (ci := 2) (k := 6) (ty := (.array .long)) rfl (by decide) (by decide) rfl rfl wc_35 rfl rfl (by decide +kernel) (fun x => rfl) (fun x => rfl) rfl d_X2_init_25 ?_
  refine aw_aload_n hX (i := 0) rfl rfl d_X2_init_28 ?_
  refine aw_iload_n hX (i := 1) rfl rfl d_X2_init_29 ?_
  refine aw_putFI hX hn (ci := 2) (k := 0) rfl (by decide) (by decide) rfl rfl wc_36 rfl rfl (by decide +kernel) rfl d_X2_init_30 ?_
  refine aw_aload_n hX (i := 0) rfl rfl d_X2_init_33 ?_
  refine aw_iload_n hX (i := 1) rfl rfl d_X2_init_34 ?_
  refine aw_iconst (v := 2) hX (by decide) d_X2_init_35 ?_
  refine aw_icmp_ne (t := 44) hX (by decide) d_X2_init_36 (fun c => ?_) (fun c => absurd c (by decide))
  refine aw_iconst (v := 1) hX (by decide) d_X2_init_44 ?_
  refine aw_putFI hX hn (ci := 2) (k := 1) rfl (by decide) (by decide) rfl rfl wc_37 rfl rfl (by decide +kernel) rfl d_X2_init_45 ?_
  refine aw_aload_n hX (i := 0) rfl rfl d_X2_init_48 ?_
  refine aw_iload_n hX (i := 1) rfl rfl d_X2_init_49 ?_
  refine aw_iconst (v := 2) hX (by decide) d_X2_init_50 ?_
  refine aw_icmp_ne (t := 60) hX (by decide) d_X2_init_51 (fun c => ?_) (fun c => absurd c (by decide))
  refine aw_bipush (v := 16) hX (by decide) d_X2_init_60 ?_
  refine aw_newL hX (N := 16) rfl (bk_I (by decide) (bk_I (by decide) (bk_R (by decide) (bk_R (by decide) (bk_R (by decide) (hB 203 (by decide))))))) (by decide) (by decide) (by decide) (by decide) wc_6 (by decide) (by decide) d_X2_init_62 ?_
  refine aw_putFR hX hn hF (ci := 2) (k := 2) (ty := (.array .long)) rfl (by decide) (by decide) rfl rfl wc_38 rfl rfl (by decide +kernel) (fun x => rfl) (fun x => rfl) rfl d_X2_init_64 ?_
  refine aw_aload_n hX (i := 0) rfl rfl d_X2_init_67 ?_
  refine aw_iload_n hX (i := 1) rfl rfl d_X2_init_68 ?_
  refine aw_iconst (v := 2) hX (by decide) d_X2_init_69 ?_
  refine aw_icmp_ne (t := 79) hX (by decide) d_X2_init_70 (fun c => ?_) (fun c => absurd c (by decide))
  refine aw_bipush (v := 33) hX (by decide) d_X2_init_79 ?_
  refine aw_newL hX (N := 33) rfl (bk_R (by decide) (bk_I (by decide) (bk_I (by decide) (bk_R (by decide) (bk_R (by decide) (bk_R (by decide) (hB 204 (by decide)))))))) (by decide) (by decide) (by decide) (by decide) wc_6 (by decide) (by decide) d_X2_init_81 ?_
  refine aw_putFR hX hn hF (ci := 2) (k := 5) (ty := (.array .long)) rfl (by decide) (by decide) rfl rfl wc_39 rfl rfl (by decide +kernel) (fun x => rfl) (fun x => rfl) rfl d_X2_init_83 ?_
  exact aw_return hX (by decide) (by decide) d_X2_init_86)
def c_X2_init_205 (h : AH) : AH := (sR (sR (sI (sI (sR (sR (sR h 205 3 (some 206)) 205 4 (some 207)) 205 6 (some 208)) 205 0 4) 205 1 1) 205 2 (some 209)) 205 5 (some 210))
theorem b_X2_init_205 {h : AH} {a : Nat} (ha : 211 ≤ a) (h0 : Blank h a) : Blank (c_X2_init_205 h) a := (bk_R (by omega) (bk_R (by omega) (bk_I (by omega) (bk_I (by omega) (bk_R (by omega) (bk_R (by omega) (bk_R (by omega) h0)))))))
theorem k_X2_init_205 {g : GP} (hg : g.1.stackTraces = false) (hF : gF g = false) {h : AH} (hB : ∀ a, 205 < a → Blank h a) : Ctr g yX2_init (wsY yX2_init cX2_init 2 none) 1 5 98 [.ref 205, .int 4] 206 true h none 211 true (c_X2_init_205 h) := ctr_of (lv0 := [.ref 205, .int 4]) rfl rfl (by decide) hg trivial (fun X hX hn => by
  replace hX : Cx g RX2 cX2_init 1 5 98 none [] X := hX
  replace hn : X.meth.name = "<init>" := hn
  refine aw_aload_n hX (i := 0) rfl rfl d_X2_init_0 ?_
  refine aw_objI hX wc_32 wc_1 wc_2 (by decide) (by decide) d_X2_init_1 ?_
  refine aw_aload_n hX (i := 0) rfl rfl d_X2_init_4 ?_
  refine aw_bipush (v := 16) hX (by decide) d_X2_init_5 ?_
  refine aw_newI hX (N := 16) rfl (hB 206 (by decide)) (by decide) (by decide) (by decide) (by decide) wc_3 (by decide) (by decide) d_X2_init_7 ?_
  refine aw_putFR hX hn hF (ci := 2) (k := 3) (ty := (.array .int)) rfl (by decide) (by decide) rfl rfl wc_33 rfl rfl (by decide +kernel) (fun x => rfl) (fun x => rfl) rfl d_X2_init_9 ?_
  refine aw_aload_n hX (i := 0) rfl rfl d_X2_init_12 ?_
  refine aw_bipush (v := 16) hX (by decide) d_X2_init_13 ?_
  refine aw_newL hX (N := 16) rfl (bk_R (by decide) (hB 207 (by decide))) (by decide) (by decide) (by decide) (by decide) wc_6 (by decide) (by decide) d_X2_init_15 ?_
  refine aw_putFR hX hn hF (ci := 2) (k := 4) (ty := (.array .long)) rfl (by decide) (by decide) rfl rfl wc_34 rfl rfl (by decide +kernel) (fun x => rfl) (fun x => rfl) rfl d_X2_init_17 ?_
  refine aw_aload_n hX (i := 0) rfl rfl d_X2_init_20 ?_
  refine aw_bipush (v := 17) hX (by decide) d_X2_init_21 ?_
  refine aw_newL hX (N := 17) rfl (bk_R (by decide) (bk_R (by decide) (hB 208 (by decide)))) (by decide) (by decide) (by decide) (by decide) wc_6 (by decide) (by decide) d_X2_init_23 ?_
  refine aw_putFR hX hn hF (ci := 2) (k := 6) (ty := (.array .long)) rfl (by decide) (by decide) rfl rfl wc_35 rfl rfl (by decide +kernel) (fun x => rfl) (fun x => rfl) rfl d_X2_init_25 ?_
  refine aw_aload_n hX (i := 0) rfl rfl d_X2_init_28 ?_
  refine aw_iload_n hX (i := 1) rfl rfl d_X2_init_29 ?_
  refine aw_putFI hX hn (ci := 2) (k := 0) rfl (by decide) (by decide) rfl rfl wc_36 rfl rfl (by decide +kernel) rfl d_X2_init_30 ?_
  refine aw_aload_n hX (i := 0) rfl rfl d_X2_init_33 ?_
  refine aw_iload_n hX (i := 1) rfl rfl d_X2_init_34 ?_
  refine aw_iconst (v := 2) hX (by decide) d_X2_init_35 ?_
  refine aw_icmp_ne (t := 44) hX (by decide) d_X2_init_36 (fun c => ?_) (fun c => absurd c (by decide))
  refine aw_iconst (v := 1) hX (by decide) d_X2_init_44 ?_
  refine aw_putFI hX hn (ci := 2) (k := 1) rfl (by decide) (by decide) rfl rfl wc_37 rfl rfl (by decide +kernel) rfl d_X2_init_45 ?_
  refine aw_aload_n hX (i := 0) rfl rfl d_X2_init_48 ?_
  refine aw_iload_n hX (i := 1) rfl rfl d_X2_init_49 ?_
  refine aw_iconst (v := 2) hX (by decide) d_X2_init_50 ?_
  refine aw_icmp_ne (t := 60) hX (by decide) d_X2_init_51 (fun c => ?_) (fun c => absurd c (by decide))
  refine aw_bipush (v := 16) hX (by decide) d_X2_init_60 ?_
  refine aw_newL hX (N := 16) rfl (bk_I (by decide) (bk_I (by decide) (bk_R (by decide) (bk_R (by decide) (bk_R (by decide) (hB 209 (by decide))))))) (by decide) (by decide) (by decide) (by decide) wc_6 (by decide) (by decide) d_X2_init_62 ?_
  refine aw_putFR hX hn hF (ci := 2) (k := 2) (ty := (.array .long)) rfl (by decide) (by decide) rfl rfl wc_38 rfl rfl (by decide +kernel) (fun x => rfl) (fun x => rfl) rfl d_X2_init_64 ?_
  refine aw_aload_n hX (i := 0) rfl rfl d_X2_init_67 ?_
  refine aw_iload_n hX (i := 1) rfl rfl d_X2_init_68 ?_
  refine aw_iconst (v := 2) hX (by decide) d_X2_init_69 ?_
  refine aw_icmp_ne (t := 79) hX (by decide) d_X2_init_70 (fun c => ?_) (fun c => absurd c (by decide))
  refine aw_bipush (v := 33) hX (by decide) d_X2_init_79 ?_
  refine aw_newL hX (N := 33) rfl (bk_R (by decide) (bk_I (by decide) (bk_I (by decide) (bk_R (by decide) (bk_R (by decide) (bk_R (by decide) (hB 210 (by decide)))))))) (by decide) (by decide) (by decide) (by decide) wc_6 (by decide) (by decide) d_X2_init_81 ?_
  refine aw_putFR hX hn hF (ci := 2) (k := 5) (ty := (.array .long)) rfl (by decide) (by decide) rfl rfl wc_39 rfl rfl (by decide +kernel) (fun x => rfl) (fun x => rfl) rfl d_X2_init_83 ?_
  exact aw_return hX (by decide) (by decide) d_X2_init_86)
