/-! the constructor of what was told, by program (ctor.py) -/
theorem wc_23 : (Cond.methodLink RX8 3 Lib.objectInit) ∈ W0 := wt1 _ (List.mem_of_getElem? (i := 57) rfl) rfl
theorem wc_24 : (Cond.fieldLink RX8 9 (clT 8 0).1 (clT 8 0).2.1 (clT 8 0).2.2.1) ∈ W0 := wt1 _ (List.mem_of_getElem? (i := 61) rfl) rfl
theorem wc_25 : (Cond.fieldLink RX8 15 (clT 8 6).1 (clT 8 6).2.1 (clT 8 6).2.2.1) ∈ W0 := wt1 _ (List.mem_of_getElem? (i := 93) rfl) rfl
theorem wc_26 : (Cond.fieldLink RX8 19 (clT 8 7).1 (clT 8 7).2.1 (clT 8 7).2.2.1) ∈ W0 := wt1 _ (List.mem_of_getElem? (i := 95) rfl) rfl
theorem wc_27 : (Cond.fieldLink RX8 22 (clT 8 8).1 (clT 8 8).2.1 (clT 8 8).2.2.1) ∈ W0 := wt1 _ (List.mem_of_getElem? (i := 99) rfl) rfl
theorem wc_28 : (Cond.fieldLink RX8 25 (clT 8 9).1 (clT 8 9).2.1 (clT 8 9).2.2.1) ∈ W0 := wt1 _ (List.mem_of_getElem? (i := 101) rfl) rfl
theorem wc_29 : (Cond.fieldLink RX8 28 (clT 8 10).1 (clT 8 10).2.1 (clT 8 10).2.2.1) ∈ W0 := wt1 _ (List.mem_of_getElem? (i := 109) rfl) rfl
theorem wc_30 : (Cond.fieldLink RX8 31 (clT 8 11).1 (clT 8 11).2.1 (clT 8 11).2.2.1) ∈ W0 := wt1 _ (List.mem_of_getElem? (i := 112) rfl) rfl
theorem wc_31 : (Cond.fieldLink RX8 34 (clT 8 12).1 (clT 8 12).2.1 (clT 8 12).2.2.1) ∈ W0 := wt1 _ (List.mem_of_getElem? (i := 115) rfl) rfl
def c_fill (a : Nat) (v : Int32) (h : AH) : AH := sI (sI (sI (sI (sI h a (0 : Int32).toNatClampNeg v) a (1 : Int32).toNatClampNeg v) a (2 : Int32).toNatClampNeg v) a (3 : Int32).toNatClampNeg v) a (4 : Int32).toNatClampNeg v
theorem fill5 {g : GP} {X : MX} {mcR msR n a : Nat} {ex : Bool} {v : Int32} {h : AH} (hX : Cx g RX9 cX9_fillRow 1 mcR msR none [] X) (hl : LAY a = (1, 5)) (ha : a < n) (hn : n ≤ 100000) : AW g X n ex 0 0 (QQ g X n ex (c_fill a v h) (.inl none) 0 0) h 0 [.ref a, .int v, jk] [] := by
  refine aw_iconst (v := 0) hX (by decide) d_X9_fillRow_0 ?_
  refine aw_istore_n (i := 2) (lv2 := [.ref a, .int v, .int 0]) hX rfl rfl rfl d_X9_fillRow_1 ?_
  refine aw_aloadO_n (i := 0) (o := some a) hX rfl rfl d_X9_fillRow_2 ?_
  refine aw_ifnull (t := 22) hX (by decide) d_X9_fillRow_3 (fun hq => by cases hq) (fun t0 hq => ?_)
  cases hq
  refine aw_iload_n (i := 2) hX rfl rfl d_X9_fillRow_6 ?_
  refine aw_aload_n (i := 0) hX rfl rfl d_X9_fillRow_7 ?_
  refine aw_alen hX hl (Or.inl rfl) ha d_X9_fillRow_8 ?_
  refine aw_icmp_ge (t := 22) hX (by decide) d_X9_fillRow_9 (fun c => absurd c (by decide)) (fun c => ?_)
  refine aw_aload_n (i := 0) hX rfl rfl d_X9_fillRow_12 ?_
  refine aw_iload_n (i := 2) hX rfl rfl d_X9_fillRow_13 ?_
  refine aw_iload_n (i := 1) hX rfl rfl d_X9_fillRow_14 ?_
  refine aw_iastore hX hl ha hn (show ¬ (_ ∨ _) by decide) d_X9_fillRow_15 ?_
  refine aw_iinc (i := 2) (lv2 := [.ref a, .int v, .int 1]) hX rfl (by decide) rfl rfl d_X9_fillRow_16 ?_
  refine aw_goto (t := 2) hX (by decide) d_X9_fillRow_19 ?_
  refine aw_aloadO_n (i := 0) (o := some a) hX rfl rfl d_X9_fillRow_2 ?_
  refine aw_ifnull (t := 22) hX (by decide) d_X9_fillRow_3 (fun hq => by cases hq) (fun t1 hq => ?_)
  cases hq
  refine aw_iload_n (i := 2) hX rfl rfl d_X9_fillRow_6 ?_
  refine aw_aload_n (i := 0) hX rfl rfl d_X9_fillRow_7 ?_
  refine aw_alen hX hl (Or.inl rfl) ha d_X9_fillRow_8 ?_
  refine aw_icmp_ge (t := 22) hX (by decide) d_X9_fillRow_9 (fun c => absurd c (by decide)) (fun c => ?_)
  refine aw_aload_n (i := 0) hX rfl rfl d_X9_fillRow_12 ?_
  refine aw_iload_n (i := 2) hX rfl rfl d_X9_fillRow_13 ?_
  refine aw_iload_n (i := 1) hX rfl rfl d_X9_fillRow_14 ?_
  refine aw_iastore hX hl ha hn (show ¬ (_ ∨ _) by decide) d_X9_fillRow_15 ?_
  refine aw_iinc (i := 2) (lv2 := [.ref a, .int v, .int 2]) hX rfl (by decide) rfl rfl d_X9_fillRow_16 ?_
  refine aw_goto (t := 2) hX (by decide) d_X9_fillRow_19 ?_
  refine aw_aloadO_n (i := 0) (o := some a) hX rfl rfl d_X9_fillRow_2 ?_
  refine aw_ifnull (t := 22) hX (by decide) d_X9_fillRow_3 (fun hq => by cases hq) (fun t2 hq => ?_)
  cases hq
  refine aw_iload_n (i := 2) hX rfl rfl d_X9_fillRow_6 ?_
  refine aw_aload_n (i := 0) hX rfl rfl d_X9_fillRow_7 ?_
  refine aw_alen hX hl (Or.inl rfl) ha d_X9_fillRow_8 ?_
  refine aw_icmp_ge (t := 22) hX (by decide) d_X9_fillRow_9 (fun c => absurd c (by decide)) (fun c => ?_)
  refine aw_aload_n (i := 0) hX rfl rfl d_X9_fillRow_12 ?_
  refine aw_iload_n (i := 2) hX rfl rfl d_X9_fillRow_13 ?_
  refine aw_iload_n (i := 1) hX rfl rfl d_X9_fillRow_14 ?_
  refine aw_iastore hX hl ha hn (show ¬ (_ ∨ _) by decide) d_X9_fillRow_15 ?_
  refine aw_iinc (i := 2) (lv2 := [.ref a, .int v, .int 3]) hX rfl (by decide) rfl rfl d_X9_fillRow_16 ?_
  refine aw_goto (t := 2) hX (by decide) d_X9_fillRow_19 ?_
  refine aw_aloadO_n (i := 0) (o := some a) hX rfl rfl d_X9_fillRow_2 ?_
  refine aw_ifnull (t := 22) hX (by decide) d_X9_fillRow_3 (fun hq => by cases hq) (fun t3 hq => ?_)
  cases hq
  refine aw_iload_n (i := 2) hX rfl rfl d_X9_fillRow_6 ?_
  refine aw_aload_n (i := 0) hX rfl rfl d_X9_fillRow_7 ?_
  refine aw_alen hX hl (Or.inl rfl) ha d_X9_fillRow_8 ?_
  refine aw_icmp_ge (t := 22) hX (by decide) d_X9_fillRow_9 (fun c => absurd c (by decide)) (fun c => ?_)
  refine aw_aload_n (i := 0) hX rfl rfl d_X9_fillRow_12 ?_
  refine aw_iload_n (i := 2) hX rfl rfl d_X9_fillRow_13 ?_
  refine aw_iload_n (i := 1) hX rfl rfl d_X9_fillRow_14 ?_
  refine aw_iastore hX hl ha hn (show ¬ (_ ∨ _) by decide) d_X9_fillRow_15 ?_
  refine aw_iinc (i := 2) (lv2 := [.ref a, .int v, .int 4]) hX rfl (by decide) rfl rfl d_X9_fillRow_16 ?_
  refine aw_goto (t := 2) hX (by decide) d_X9_fillRow_19 ?_
  refine aw_aloadO_n (i := 0) (o := some a) hX rfl rfl d_X9_fillRow_2 ?_
  refine aw_ifnull (t := 22) hX (by decide) d_X9_fillRow_3 (fun hq => by cases hq) (fun t4 hq => ?_)
  cases hq
  refine aw_iload_n (i := 2) hX rfl rfl d_X9_fillRow_6 ?_
  refine aw_aload_n (i := 0) hX rfl rfl d_X9_fillRow_7 ?_
  refine aw_alen hX hl (Or.inl rfl) ha d_X9_fillRow_8 ?_
  refine aw_icmp_ge (t := 22) hX (by decide) d_X9_fillRow_9 (fun c => absurd c (by decide)) (fun c => ?_)
  refine aw_aload_n (i := 0) hX rfl rfl d_X9_fillRow_12 ?_
  refine aw_iload_n (i := 2) hX rfl rfl d_X9_fillRow_13 ?_
  refine aw_iload_n (i := 1) hX rfl rfl d_X9_fillRow_14 ?_
  refine aw_iastore hX hl ha hn (show ¬ (_ ∨ _) by decide) d_X9_fillRow_15 ?_
  refine aw_iinc (i := 2) (lv2 := [.ref a, .int v, .int 5]) hX rfl (by decide) rfl rfl d_X9_fillRow_16 ?_
  refine aw_goto (t := 2) hX (by decide) d_X9_fillRow_19 ?_
  refine aw_aloadO_n (i := 0) (o := some a) hX rfl rfl d_X9_fillRow_2 ?_
  refine aw_ifnull (t := 22) hX (by decide) d_X9_fillRow_3 (fun hq => by cases hq) (fun t5 hq => ?_)
  cases hq
  refine aw_iload_n (i := 2) hX rfl rfl d_X9_fillRow_6 ?_
  refine aw_aload_n (i := 0) hX rfl rfl d_X9_fillRow_7 ?_
  refine aw_alen hX hl (Or.inl rfl) ha d_X9_fillRow_8 ?_
  refine aw_icmp_ge (t := 22) hX (by decide) d_X9_fillRow_9 (fun c => ?_) (fun c => absurd (by decide) c)
  exact aw_return hX (Nat.zero_le _) (Nat.zero_le _) d_X9_fillRow_22
theorem kc_fill {g : GP} (hg : g.1.stackTraces = false) {n a : Nat} {ex : Bool} {v : Int32} {h : AH} (hl : LAY a = (1, 5)) (ha : a < n) (hn : n ≤ 100000) : Ctr g yX9_fillRow (wsY yX9_fillRow cX9_fillRow 3 none) 1 0 0 [.ref a, .int v] n ex h none n ex (c_fill a v h) := ctr_of (lv0 := [.ref a, .int v, jk]) rfl rfl (by decide) hg trivial (fun X hX _ => fill5 hX hl ha hn)
theorem d_X8_init_0 : decode cX8_init 0 = .ok (.aload_n 0, 1) := by decide +kernel
theorem d_X8_init_1 : decode cX8_init 1 = .ok (.invokespecial 3, 3) := by decide +kernel
theorem d_X8_init_4 : decode cX8_init 4 = .ok (.aload_n 0, 1) := by decide +kernel
theorem d_X8_init_5 : decode cX8_init 5 = .ok (.iconst 1, 1) := by decide +kernel
theorem d_X8_init_6 : decode cX8_init 6 = .ok (.putfield 9, 3) := by decide +kernel
theorem d_X8_init_9 : decode cX8_init 9 = .ok (.aload_n 0, 1) := by decide +kernel
theorem d_X8_init_10 : decode cX8_init 10 = .ok (.bipush 48, 2) := by decide +kernel
theorem d_X8_init_12 : decode cX8_init 12 = .ok (.newarray .int, 2) := by decide +kernel
theorem d_X8_init_14 : decode cX8_init 14 = .ok (.putfield 15, 3) := by decide +kernel
theorem d_X8_init_17 : decode cX8_init 17 = .ok (.aload_n 0, 1) := by decide +kernel
theorem d_X8_init_18 : decode cX8_init 18 = .ok (.bipush 16, 2) := by decide +kernel
theorem d_X8_init_20 : decode cX8_init 20 = .ok (.newarray .int, 2) := by decide +kernel
theorem d_X8_init_22 : decode cX8_init 22 = .ok (.putfield 19, 3) := by decide +kernel
theorem d_X8_init_25 : decode cX8_init 25 = .ok (.aload_n 0, 1) := by decide +kernel
theorem d_X8_init_26 : decode cX8_init 26 = .ok (.bipush 66, 2) := by decide +kernel
theorem d_X8_init_28 : decode cX8_init 28 = .ok (.newarray .int, 2) := by decide +kernel
theorem d_X8_init_30 : decode cX8_init 30 = .ok (.putfield 22, 3) := by decide +kernel
theorem d_X8_init_33 : decode cX8_init 33 = .ok (.aload_n 0, 1) := by decide +kernel
theorem d_X8_init_34 : decode cX8_init 34 = .ok (.bipush 6, 2) := by decide +kernel
theorem d_X8_init_36 : decode cX8_init 36 = .ok (.newarray .int, 2) := by decide +kernel
theorem d_X8_init_38 : decode cX8_init 38 = .ok (.putfield 25, 3) := by decide +kernel
theorem d_X8_init_41 : decode cX8_init 41 = .ok (.aload_n 0, 1) := by decide +kernel
theorem d_X8_init_42 : decode cX8_init 42 = .ok (.iconst 4, 1) := by decide +kernel
theorem d_X8_init_43 : decode cX8_init 43 = .ok (.newarray .int, 2) := by decide +kernel
theorem d_X8_init_45 : decode cX8_init 45 = .ok (.putfield 28, 3) := by decide +kernel
theorem d_X8_init_48 : decode cX8_init 48 = .ok (.aload_n 0, 1) := by decide +kernel
theorem d_X8_init_49 : decode cX8_init 49 = .ok (.iconst 4, 1) := by decide +kernel
theorem d_X8_init_50 : decode cX8_init 50 = .ok (.newarray .int, 2) := by decide +kernel
theorem d_X8_init_52 : decode cX8_init 52 = .ok (.putfield 31, 3) := by decide +kernel
theorem d_X8_init_55 : decode cX8_init 55 = .ok (.aload_n 0, 1) := by decide +kernel
theorem d_X8_init_56 : decode cX8_init 56 = .ok (.iconst 5, 1) := by decide +kernel
theorem d_X8_init_57 : decode cX8_init 57 = .ok (.newarray .int, 2) := by decide +kernel
theorem d_X8_init_59 : decode cX8_init 59 = .ok (.putfield 34, 3) := by decide +kernel
theorem d_X8_init_62 : decode cX8_init 62 = .ok (.aload_n 0, 1) := by decide +kernel
theorem d_X8_init_63 : decode cX8_init 63 = .ok (.getfield 34, 3) := by decide +kernel
theorem d_X8_init_66 : decode cX8_init 66 = .ok (.iconst (-1), 1) := by decide +kernel
theorem d_X8_init_67 : decode cX8_init 67 = .ok (.invokestatic 37, 3) := by decide +kernel
theorem d_X8_init_70 : decode cX8_init 70 = .ok (.return_, 1) := by decide +kernel
def c_X8_init_5 (h : AH) : AH := (c_fill 12 (-1) (sR (sR (sR (sR (sR (sR (sR (sI h 5 0 1) 5 6 (some 6)) 5 7 (some 7)) 5 8 (some 8)) 5 9 (some 9)) 5 10 (some 10)) 5 11 (some 11)) 5 12 (some 12)))
theorem k_X8_init_5 {g : GP} (hg : g.1.stackTraces = false) (hF : gF g = false) {h : AH} (hB : ∀ a, 5 < a → Blank h a) : Ctr g yX8_init (wsY yX8_init cX8_init 1 none) 2 7 149 [.ref 5] 6 true h none 13 true (c_X8_init_5 h) := ctr_of (lv0 := [.ref 5]) rfl rfl (by decide) hg trivial (fun X hX hn => by
  replace hX : Cx g RX8 cX8_init 2 7 149 none [] X := hX
  replace hn : X.meth.name = "<init>" := hn
  refine aw_aload_n hX (i := 0) rfl rfl d_X8_init_0 ?_
  refine aw_objI hX wc_23 wc_1 wc_2 (by decide) (by decide) d_X8_init_1 ?_
  refine aw_aload_n hX (i := 0) rfl rfl d_X8_init_4 ?_
  refine aw_iconst (v := 1) hX (by decide) d_X8_init_5 ?_
  refine aw_putI hX (ci := 8) (k := 0) rfl (by decide) (by decide) rfl rfl wc_24 rfl (by decide +kernel) rfl d_X8_init_6 ?_
  refine aw_aload_n hX (i := 0) rfl rfl d_X8_init_9 ?_
  refine aw_bipush (v := 48) hX (by decide) d_X8_init_10 ?_
  refine aw_newI hX (N := 48) rfl (bk_I (by decide) (hB 6 (by decide))) (by decide) (by decide) (by decide) (by decide) wc_3 (by decide) (by decide) d_X8_init_12 ?_
  refine aw_putFR hX hn hF (ci := 8) (k := 6) (ty := (.array .int)) rfl (by decide) (by decide) rfl rfl wc_25 rfl rfl (by decide +kernel) (fun x => rfl) (fun x => rfl) rfl d_X8_init_14 ?_
  refine aw_aload_n hX (i := 0) rfl rfl d_X8_init_17 ?_
  refine aw_bipush (v := 16) hX (by decide) d_X8_init_18 ?_
  refine aw_newI hX (N := 16) rfl (bk_R (by decide) (bk_I (by decide) (hB 7 (by decide)))) (by decide) (by decide) (by decide) (by decide) wc_3 (by decide) (by decide) d_X8_init_20 ?_
  refine aw_putFR hX hn hF (ci := 8) (k := 7) (ty := (.array .int)) rfl (by decide) (by decide) rfl rfl wc_26 rfl rfl (by decide +kernel) (fun x => rfl) (fun x => rfl) rfl d_X8_init_22 ?_
  refine aw_aload_n hX (i := 0) rfl rfl d_X8_init_25 ?_
  refine aw_bipush (v := 66) hX (by decide) d_X8_init_26 ?_
  refine aw_newI hX (N := 66) rfl (bk_R (by decide) (bk_R (by decide) (bk_I (by decide) (hB 8 (by decide))))) (by decide) (by decide) (by decide) (by decide) wc_3 (by decide) (by decide) d_X8_init_28 ?_
  refine aw_putFR hX hn hF (ci := 8) (k := 8) (ty := (.array .int)) rfl (by decide) (by decide) rfl rfl wc_27 rfl rfl (by decide +kernel) (fun x => rfl) (fun x => rfl) rfl d_X8_init_30 ?_
  refine aw_aload_n hX (i := 0) rfl rfl d_X8_init_33 ?_
  refine aw_bipush (v := 6) hX (by decide) d_X8_init_34 ?_
  refine aw_newI hX (N := 6) rfl (bk_R (by decide) (bk_R (by decide) (bk_R (by decide) (bk_I (by decide) (hB 9 (by decide)))))) (by decide) (by decide) (by decide) (by decide) wc_3 (by decide) (by decide) d_X8_init_36 ?_
  refine aw_putFR hX hn hF (ci := 8) (k := 9) (ty := (.array .int)) rfl (by decide) (by decide) rfl rfl wc_28 rfl rfl (by decide +kernel) (fun x => rfl) (fun x => rfl) rfl d_X8_init_38 ?_
  refine aw_aload_n hX (i := 0) rfl rfl d_X8_init_41 ?_
  refine aw_iconst (v := 4) hX (by decide) d_X8_init_42 ?_
  refine aw_newI hX (N := 4) rfl (bk_R (by decide) (bk_R (by decide) (bk_R (by decide) (bk_R (by decide) (bk_I (by decide) (hB 10 (by decide))))))) (by decide) (by decide) (by decide) (by decide) wc_3 (by decide) (by decide) d_X8_init_43 ?_
  refine aw_putFR hX hn hF (ci := 8) (k := 10) (ty := (.array .int)) rfl (by decide) (by decide) rfl rfl wc_29 rfl rfl (by decide +kernel) (fun x => rfl) (fun x => rfl) rfl d_X8_init_45 ?_
  refine aw_aload_n hX (i := 0) rfl rfl d_X8_init_48 ?_
  refine aw_iconst (v := 4) hX (by decide) d_X8_init_49 ?_
  refine aw_newI hX (N := 4) rfl (bk_R (by decide) (bk_R (by decide) (bk_R (by decide) (bk_R (by decide) (bk_R (by decide) (bk_I (by decide) (hB 11 (by decide)))))))) (by decide) (by decide) (by decide) (by decide) wc_3 (by decide) (by decide) d_X8_init_50 ?_
  refine aw_putFR hX hn hF (ci := 8) (k := 11) (ty := (.array .int)) rfl (by decide) (by decide) rfl rfl wc_30 rfl rfl (by decide +kernel) (fun x => rfl) (fun x => rfl) rfl d_X8_init_52 ?_
  refine aw_aload_n hX (i := 0) rfl rfl d_X8_init_55 ?_
  refine aw_iconst (v := 5) hX (by decide) d_X8_init_56 ?_
  refine aw_newI hX (N := 5) rfl (bk_R (by decide) (bk_R (by decide) (bk_R (by decide) (bk_R (by decide) (bk_R (by decide) (bk_R (by decide) (bk_I (by decide) (hB 12 (by decide))))))))) (by decide) (by decide) (by decide) (by decide) wc_3 (by decide) (by decide) d_X8_init_57 ?_
  refine aw_putFR hX hn hF (ci := 8) (k := 12) (ty := (.array .int)) rfl (by decide) (by decide) rfl rfl wc_31 rfl rfl (by decide +kernel) (fun x => rfl) (fun x => rfl) rfl d_X8_init_59 ?_
  refine aw_aload_n hX (i := 0) rfl rfl d_X8_init_62 ?_
  refine aw_getD hX hF (ci := 8) (k := 12) rfl (by decide) rfl rfl wc_31 rfl d_X8_init_63 ?_
  rw [show gR (sR (sR (sR (sR (sR (sR (sR (sI h 5 0 1) 5 6 (some 6)) 5 7 (some 7)) 5 8 (some 8)) 5 9 (some 9)) 5 10 (some 10)) 5 11 (some 11)) 5 12 (some 12)) 5 12 = some 12 from rfl]
  refine aw_iconst (v := -1) hX (by decide) d_X8_init_66 ?_
  refine aw_callSN (levy := 1) (mcy := 0) (msy := 0) (av := [.ref 12, .int (-1)]) (avr := [.int (-1), .ref 12]) (st := []) hX (kc_fill hg (a := 12) (v := -1) rfl (by decide) (by decide)) mi_X9_fillRow rfl rfl nx2 w_178 (by decide) (by decide) (by decide) (by decide) d_X8_init_67 ?_
  exact aw_return hX (by decide) (by decide) d_X8_init_70)
def c_X8_init_15 (h : AH) : AH := (c_fill 22 (-1) (sR (sR (sR (sR (sR (sR (sR (sI h 15 0 1) 15 6 (some 16)) 15 7 (some 17)) 15 8 (some 18)) 15 9 (some 19)) 15 10 (some 20)) 15 11 (some 21)) 15 12 (some 22)))
theorem k_X8_init_15 {g : GP} (hg : g.1.stackTraces = false) (hF : gF g = false) {h : AH} (hB : ∀ a, 15 < a → Blank h a) : Ctr g yX8_init (wsY yX8_init cX8_init 1 none) 2 7 149 [.ref 15] 16 true h none 23 true (c_X8_init_15 h) := ctr_of (lv0 := [.ref 15]) rfl rfl (by decide) hg trivial (fun X hX hn => by
  replace hX : Cx g RX8 cX8_init 2 7 149 none [] X := hX
  replace hn : X.meth.name = "<init>" := hn
  refine aw_aload_n hX (i := 0) rfl rfl d_X8_init_0 ?_
  refine aw_objI hX wc_23 wc_1 wc_2 (by decide) (by decide) d_X8_init_1 ?_
  refine aw_aload_n hX (i := 0) rfl rfl d_X8_init_4 ?_
  refine aw_iconst (v := 1) hX (by decide) d_X8_init_5 ?_
  refine aw_putI hX (ci := 8) (k := 0) rfl (by decide) (by decide) rfl rfl wc_24 rfl (by decide +kernel) rfl d_X8_init_6 ?_
  refine aw_aload_n hX (i := 0) rfl rfl d_X8_init_9 ?_
  refine aw_bipush (v := 48) hX (by decide) d_X8_init_10 ?_
  refine aw_newI hX (N := 48) rfl (bk_I (by decide) (hB 16 (by decide))) (by decide) (by decide) (by decide) (by decide) wc_3 (by decide) (by decide) d_X8_init_12 ?_
  refine aw_putFR hX hn hF (ci := 8) (k := 6) (ty := (.array .int)) rfl (by decide) (by decide) rfl rfl wc_25 rfl rfl (by decide +kernel) (fun x => rfl) (fun x => rfl) rfl d_X8_init_14 ?_
  refine aw_aload_n hX (i := 0) rfl rfl d_X8_init_17 ?_
  refine aw_bipush (v := 16) hX (by decide) d_X8_init_18 ?_
  refine aw_newI hX (N := 16) rfl (bk_R (by decide) (bk_I (by decide) (hB 17 (by decide)))) (by decide) (by decide) (by decide) (by decide) wc_3 (by decide) (by decide) d_X8_init_20 ?_
  refine aw_putFR hX hn hF (ci := 8) (k := 7) (ty := (.array .int)) rfl (by decide) (by decide) rfl rfl wc_26 rfl rfl (by decide +kernel) (fun x => rfl) (fun x => rfl) rfl d_X8_init_22 ?_
  refine aw_aload_n hX (i := 0) rfl rfl d_X8_init_25 ?_
  refine aw_bipush (v := 66) hX (by decide) d_X8_init_26 ?_
  refine aw_newI hX (N := 66) rfl (bk_R (by decide) (bk_R (by decide) (bk_I (by decide) (hB 18 (by decide))))) (by decide) (by decide) (by decide) (by decide) wc_3 (by decide) (by decide) d_X8_init_28 ?_
  refine aw_putFR hX hn hF (ci := 8) (k := 8) (ty := (.array .int)) rfl (by decide) (by decide) rfl rfl wc_27 rfl rfl (by decide +kernel) (fun x => rfl) (fun x => rfl) rfl d_X8_init_30 ?_
  refine aw_aload_n hX (i := 0) rfl rfl d_X8_init_33 ?_
  refine aw_bipush (v := 6) hX (by decide) d_X8_init_34 ?_
  refine aw_newI hX (N := 6) rfl (bk_R (by decide) (bk_R (by decide) (bk_R (by decide) (bk_I (by decide) (hB 19 (by decide)))))) (by decide) (by decide) (by decide) (by decide) wc_3 (by decide) (by decide) d_X8_init_36 ?_
  refine aw_putFR hX hn hF (ci := 8) (k := 9) (ty := (.array .int)) rfl (by decide) (by decide) rfl rfl wc_28 rfl rfl (by decide +kernel) (fun x => rfl) (fun x => rfl) rfl d_X8_init_38 ?_
  refine aw_aload_n hX (i := 0) rfl rfl d_X8_init_41 ?_
  refine aw_iconst (v := 4) hX (by decide) d_X8_init_42 ?_
  refine aw_newI hX (N := 4) rfl (bk_R (by decide) (bk_R (by decide) (bk_R (by decide) (bk_R (by decide) (bk_I (by decide) (hB 20 (by decide))))))) (by decide) (by decide) (by decide) (by decide) wc_3 (by decide) (by decide) d_X8_init_43 ?_
  refine aw_putFR hX hn hF (ci := 8) (k := 10) (ty := (.array .int)) rfl (by decide) (by decide) rfl rfl wc_29 rfl rfl (by decide +kernel) (fun x => rfl) (fun x => rfl) rfl d_X8_init_45 ?_
  refine aw_aload_n hX (i := 0) rfl rfl d_X8_init_48 ?_
  refine aw_iconst (v := 4) hX (by decide) d_X8_init_49 ?_
  refine aw_newI hX (N := 4) rfl (bk_R (by decide) (bk_R (by decide) (bk_R (by decide) (bk_R (by decide) (bk_R (by decide) (bk_I (by decide) (hB 21 (by decide)))))))) (by decide) (by decide) (by decide) (by decide) wc_3 (by decide) (by decide) d_X8_init_50 ?_
  refine aw_putFR hX hn hF (ci := 8) (k := 11) (ty := (.array .int)) rfl (by decide) (by decide) rfl rfl wc_30 rfl rfl (by decide +kernel) (fun x => rfl) (fun x => rfl) rfl d_X8_init_52 ?_
  refine aw_aload_n hX (i := 0) rfl rfl d_X8_init_55 ?_
  refine aw_iconst (v := 5) hX (by decide) d_X8_init_56 ?_
  refine aw_newI hX (N := 5) rfl (bk_R (by decide) (bk_R (by decide) (bk_R (by decide) (bk_R (by decide) (bk_R (by decide) (bk_R (by decide) (bk_I (by decide) (hB 22 (by decide))))))))) (by decide) (by decide) (by decide) (by decide) wc_3 (by decide) (by decide) d_X8_init_57 ?_
  refine aw_putFR hX hn hF (ci := 8) (k := 12) (ty := (.array .int)) rfl (by decide) (by decide) rfl rfl wc_31 rfl rfl (by decide +kernel) (fun x => rfl) (fun x => rfl) rfl d_X8_init_59 ?_
  refine aw_aload_n hX (i := 0) rfl rfl d_X8_init_62 ?_
  refine aw_getD hX hF (ci := 8) (k := 12) rfl (by decide) rfl rfl wc_31 rfl d_X8_init_63 ?_
  rw [show gR (sR (sR (sR (sR (sR (sR (sR (sI h 15 0 1) 15 6 (some 16)) 15 7 (some 17)) 15 8 (some 18)) 15 9 (some 19)) 15 10 (some 20)) 15 11 (some 21)) 15 12 (some 22)) 15 12 = some 22 from rfl]
  refine aw_iconst (v := -1) hX (by decide) d_X8_init_66 ?_
  refine aw_callSN (levy := 1) (mcy := 0) (msy := 0) (av := [.ref 22, .int (-1)]) (avr := [.int (-1), .ref 22]) (st := []) hX (kc_fill hg (a := 22) (v := -1) rfl (by decide) (by decide)) mi_X9_fillRow rfl rfl nx2 w_178 (by decide) (by decide) (by decide) (by decide) d_X8_init_67 ?_
  exact aw_return hX (by decide) (by decide) d_X8_init_70)
def c_X8_init_232 (h : AH) : AH := (c_fill 239 (-1) (sR (sR (sR (sR (sR (sR (sR (sI h 232 0 1) 232 6 (some 233)) 232 7 (some 234)) 232 8 (some 235)) 232 9 (some 236)) 232 10 (some 237)) 232 11 (some 238)) 232 12 (some 239)))
theorem k_X8_init_232 {g : GP} (hg : g.1.stackTraces = false) (hF : gF g = false) {h : AH} (hB : ∀ a, 232 < a → Blank h a) : Ctr g yX8_init (wsY yX8_init cX8_init 1 none) 2 7 149 [.ref 232] 233 true h none 240 true (c_X8_init_232 h) := ctr_of (lv0 := [.ref 232]) rfl rfl (by decide) hg trivial (fun X hX hn => by
  replace hX : Cx g RX8 cX8_init 2 7 149 none [] X := hX
  replace hn : X.meth.name = "<init>" := hn
  refine aw_aload_n hX (i := 0) rfl rfl d_X8_init_0 ?_
  refine aw_objI hX wc_23 wc_1 wc_2 (by decide) (by decide) d_X8_init_1 ?_
  refine aw_aload_n hX (i := 0) rfl rfl d_X8_init_4 ?_
  refine aw_iconst (v := 1) hX (by decide) d_X8_init_5 ?_
  refine aw_putI hX (ci := 8) (k := 0) rfl (by decide) (by decide) rfl rfl wc_24 rfl (by decide +kernel) rfl d_X8_init_6 ?_
  refine aw_aload_n hX (i := 0) rfl rfl d_X8_init_9 ?_
  refine aw_bipush (v := 48) hX (by decide) d_X8_init_10 ?_
  refine aw_newI hX (N := 48) rfl (bk_I (by decide) (hB 233 (by decide))) (by decide) (by decide) (by decide) (by decide) wc_3 (by decide) (by decide) d_X8_init_12 ?_
  refine aw_putFR hX hn hF (ci := 8) (k := 6) (ty := (.array .int)) rfl (by decide) (by decide) rfl rfl wc_25 rfl rfl (by decide +kernel) (fun x => rfl) (fun x => rfl) rfl d_X8_init_14 ?_
  refine aw_aload_n hX (i := 0) rfl rfl d_X8_init_17 ?_
  refine aw_bipush (v := 16) hX (by decide) d_X8_init_18 ?_
  refine aw_newI hX (N := 16) rfl (bk_R (by decide) (bk_I (by decide) (hB 234 (by decide)))) (by decide) (by decide) (by decide) (by decide) wc_3 (by decide) (by decide) d_X8_init_20 ?_
  refine aw_putFR hX hn hF (ci := 8) (k := 7) (ty := (.array .int)) rfl (by decide) (by decide) rfl rfl wc_26 rfl rfl (by decide +kernel) (fun x => rfl) (fun x => rfl) rfl d_X8_init_22 ?_
  refine aw_aload_n hX (i := 0) rfl rfl d_X8_init_25 ?_
  refine aw_bipush (v := 66) hX (by decide) d_X8_init_26 ?_
  refine aw_newI hX (N := 66) rfl (bk_R (by decide) (bk_R (by decide) (bk_I (by decide) (hB 235 (by decide))))) (by decide) (by decide) (by decide) (by decide) wc_3 (by decide) (by decide) d_X8_init_28 ?_
  refine aw_putFR hX hn hF (ci := 8) (k := 8) (ty := (.array .int)) rfl (by decide) (by decide) rfl rfl wc_27 rfl rfl (by decide +kernel) (fun x => rfl) (fun x => rfl) rfl d_X8_init_30 ?_
  refine aw_aload_n hX (i := 0) rfl rfl d_X8_init_33 ?_
  refine aw_bipush (v := 6) hX (by decide) d_X8_init_34 ?_
  refine aw_newI hX (N := 6) rfl (bk_R (by decide) (bk_R (by decide) (bk_R (by decide) (bk_I (by decide) (hB 236 (by decide)))))) (by decide) (by decide) (by decide) (by decide) wc_3 (by decide) (by decide) d_X8_init_36 ?_
  refine aw_putFR hX hn hF (ci := 8) (k := 9) (ty := (.array .int)) rfl (by decide) (by decide) rfl rfl wc_28 rfl rfl (by decide +kernel) (fun x => rfl) (fun x => rfl) rfl d_X8_init_38 ?_
  refine aw_aload_n hX (i := 0) rfl rfl d_X8_init_41 ?_
  refine aw_iconst (v := 4) hX (by decide) d_X8_init_42 ?_
  refine aw_newI hX (N := 4) rfl (bk_R (by decide) (bk_R (by decide) (bk_R (by decide) (bk_R (by decide) (bk_I (by decide) (hB 237 (by decide))))))) (by decide) (by decide) (by decide) (by decide) wc_3 (by decide) (by decide) d_X8_init_43 ?_
  refine aw_putFR hX hn hF (ci := 8) (k := 10) (ty := (.array .int)) rfl (by decide) (by decide) rfl rfl wc_29 rfl rfl (by decide +kernel) (fun x => rfl) (fun x => rfl) rfl d_X8_init_45 ?_
  refine aw_aload_n hX (i := 0) rfl rfl d_X8_init_48 ?_
  refine aw_iconst (v := 4) hX (by decide) d_X8_init_49 ?_
  refine aw_newI hX (N := 4) rfl (bk_R (by decide) (bk_R (by decide) (bk_R (by decide) (bk_R (by decide) (bk_R (by decide) (bk_I (by decide) (hB 238 (by decide)))))))) (by decide) (by decide) (by decide) (by decide) wc_3 (by decide) (by decide) d_X8_init_50 ?_
  refine aw_putFR hX hn hF (ci := 8) (k := 11) (ty := (.array .int)) rfl (by decide) (by decide) rfl rfl wc_30 rfl rfl (by decide +kernel) (fun x => rfl) (fun x => rfl) rfl d_X8_init_52 ?_
  refine aw_aload_n hX (i := 0) rfl rfl d_X8_init_55 ?_
  refine aw_iconst (v := 5) hX (by decide) d_X8_init_56 ?_
  refine aw_newI hX (N := 5) rfl (bk_R (by decide) (bk_R (by decide) (bk_R (by decide) (bk_R (by decide) (bk_R (by decide) (bk_R (by decide) (bk_I (by decide) (hB 239 (by decide))))))))) (by decide) (by decide) (by decide) (by decide) wc_3 (by decide) (by decide) d_X8_init_57 ?_
  refine aw_putFR hX hn hF (ci := 8) (k := 12) (ty := (.array .int)) rfl (by decide) (by decide) rfl rfl wc_31 rfl rfl (by decide +kernel) (fun x => rfl) (fun x => rfl) rfl d_X8_init_59 ?_
  refine aw_aload_n hX (i := 0) rfl rfl d_X8_init_62 ?_
  refine aw_getD hX hF (ci := 8) (k := 12) rfl (by decide) rfl rfl wc_31 rfl d_X8_init_63 ?_
  rw [show gR (sR (sR (sR (sR (sR (sR (sR (sI h 232 0 1) 232 6 (some 233)) 232 7 (some 234)) 232 8 (some 235)) 232 9 (some 236)) 232 10 (some 237)) 232 11 (some 238)) 232 12 (some 239)) 232 12 = some 239 from rfl]
  refine aw_iconst (v := -1) hX (by decide) d_X8_init_66 ?_
  refine aw_callSN (levy := 1) (mcy := 0) (msy := 0) (av := [.ref 239, .int (-1)]) (avr := [.int (-1), .ref 239]) (st := []) hX (kc_fill hg (a := 239) (v := -1) rfl (by decide) (by decide)) mi_X9_fillRow rfl rfl nx2 w_178 (by decide) (by decide) (by decide) (by decide) d_X8_init_67 ?_
  exact aw_return hX (by decide) (by decide) d_X8_init_70)
