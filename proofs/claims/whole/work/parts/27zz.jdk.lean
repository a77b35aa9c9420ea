/-! length and charAt of String constants -/
theorem wj_0 : (Cond.code yJ3_checkIndex_8e157 cJ3_checkIndex_8e157 3 (some .int)) ∈ W0 := wt3 _ (List.mem_of_getElem? (i := 176) rfl) rfl
theorem wj_1 : (Cond.initialized RJ3) ∈ W0 := wt1 _ (List.mem_of_getElem? (i := 19) rfl) rfl
theorem wj_2 : (Cond.code yJ0_checkIndex_df160 cJ0_checkIndex_df160 2 none) ∈ W0 := wt3 _ (List.mem_of_getElem? (i := 171) rfl) rfl
theorem wj_3 : (Cond.initialized RJ0) ∈ W0 := wt1 _ (List.mem_of_getElem? (i := 17) rfl) rfl
theorem wj_4 : (Cond.code yJ1_charAt_3b067 cJ1_charAt_3b067 2 (some .char)) ∈ W0 := wt3 _ (List.mem_of_getElem? (i := 168) rfl) rfl
theorem wj_5 : (Cond.initialized RJ1) ∈ W0 := wt1 _ (List.mem_of_getElem? (i := 18) rfl) rfl
theorem wj_6 : (Cond.code yJ0_isLatin1_aae02 cJ0_isLatin1_aae02 1 (some .boolean)) ∈ W0 := wt3 _ (List.mem_of_getElem? (i := 165) rfl) rfl
theorem wj_7 : (Cond.code yJ0_charAt_5068e cJ0_charAt_5068e 2 (some .char)) ∈ W0 := wt3 _ (List.mem_of_getElem? (i := 161) rfl) rfl
theorem wj_8 : (Cond.code yJ0_coder_7d493 cJ0_coder_7d493 1 (some .byte)) ∈ W0 := wt3 _ (List.mem_of_getElem? (i := 155) rfl) rfl
theorem wj_9 : (Cond.code yJ0_length_8abf5 cJ0_length_8abf5 1 (some .int)) ∈ W0 := wt3 _ (List.mem_of_getElem? (i := 151) rfl) rfl
theorem wj_10 : (Cond.fieldLink RJ0 1053 "jdk/internal/util/Preconditions" "SIOOBE_FORMATTER" "Ljava/util/function/BiFunction;") ∈ W0 := wt3 _ (List.mem_of_getElem? (i := 172) rfl) rfl
theorem wj_11 : (Cond.methodLink RJ0 1059 yJ3_checkIndex_8e157) ∈ W0 := wt3 _ (List.mem_of_getElem? (i := 174) rfl) rfl
theorem wj_12 : (Cond.static yJ3_checkIndex_8e157) ∈ W0 := wt3 _ (List.mem_of_getElem? (i := 175) rfl) rfl
theorem wj_13 : (Cond.methodLink RJ1 9 yJ0_checkIndex_df160) ∈ W0 := wt3 _ (List.mem_of_getElem? (i := 169) rfl) rfl
theorem wj_14 : (Cond.static yJ0_checkIndex_df160) ∈ W0 := wt3 _ (List.mem_of_getElem? (i := 170) rfl) rfl
theorem wj_15 : (Cond.fieldLink RJ0 38 "java/lang/String" "COMPACT_STRINGS" "Z") ∈ W0 := wt3 _ (List.mem_of_getElem? (i := 156) rfl) rfl
theorem wj_16 : (Cond.fieldLink RJ0 15 "java/lang/String" "coder" "B") ∈ W0 := wt8 _ (List.mem_of_getElem? (i := 135) rfl) rfl
theorem wj_17 : (Cond.fieldLink RJ0 9 "java/lang/String" "value" "[B") ∈ W0 := wt8 _ (List.mem_of_getElem? (i := 134) rfl) rfl
theorem wj_18 : (Cond.methodLink RJ0 492 yJ0_isLatin1_aae02) ∈ W0 := wt3 _ (List.mem_of_getElem? (i := 162) rfl) rfl
theorem wj_19 : (Cond.instanceMethod yJ0_isLatin1_aae02) ∈ W0 := wt3 _ (List.mem_of_getElem? (i := 163) rfl) rfl
theorem wj_20 : (Cond.selects yJ0_isLatin1_aae02.cls yJ0_isLatin1_aae02 yJ0_isLatin1_aae02) ∈ W0 := wt3 _ (List.mem_of_getElem? (i := 164) rfl) rfl
theorem wj_21 : (Cond.methodLink RJ0 495 yJ1_charAt_3b067) ∈ W0 := wt3 _ (List.mem_of_getElem? (i := 166) rfl) rfl
theorem wj_22 : (Cond.static yJ1_charAt_3b067) ∈ W0 := wt3 _ (List.mem_of_getElem? (i := 167) rfl) rfl
theorem wj_23 : (Cond.methodLink RJ0 335 yJ0_coder_7d493) ∈ W0 := wt3 _ (List.mem_of_getElem? (i := 152) rfl) rfl
theorem wj_24 : (Cond.instanceMethod yJ0_coder_7d493) ∈ W0 := wt3 _ (List.mem_of_getElem? (i := 153) rfl) rfl
theorem wj_25 : (Cond.selects yJ0_coder_7d493.cls yJ0_coder_7d493 yJ0_coder_7d493) ∈ W0 := wt3 _ (List.mem_of_getElem? (i := 154) rfl) rfl
theorem wj_26 : (Cond.instanceMethod yJ0_length_8abf5) ∈ W0 := wt3 _ (List.mem_of_getElem? (i := 149) rfl) rfl
theorem wj_27 : (Cond.selects yJ0_length_8abf5.cls yJ0_length_8abf5 yJ0_length_8abf5) ∈ W0 := wt3 _ (List.mem_of_getElem? (i := 150) rfl) rfl
theorem wj_28 : (Cond.instanceMethod yJ0_charAt_5068e) ∈ W0 := wt3 _ (List.mem_of_getElem? (i := 159) rfl) rfl
theorem wj_29 : (Cond.selects yJ0_charAt_5068e.cls yJ0_charAt_5068e yJ0_charAt_5068e) ∈ W0 := wt3 _ (List.mem_of_getElem? (i := 160) rfl) rfl
theorem mi_J3_checkIndex_8e157 : MI yJ3_checkIndex_8e157 cJ3_checkIndex_8e157 3 (some .int) 3 := ⟨wj_0, wj_1, by decide +kernel, by decide⟩
theorem mi_J0_checkIndex_df160 : MI yJ0_checkIndex_df160 cJ0_checkIndex_df160 2 none 2 := ⟨wj_2, wj_3, by decide +kernel, by decide⟩
theorem mi_J1_charAt_3b067 : MI yJ1_charAt_3b067 cJ1_charAt_3b067 2 (some .char) 2 := ⟨wj_4, wj_5, by decide +kernel, by decide⟩
theorem mi_J0_isLatin1_aae02 : MI yJ0_isLatin1_aae02 cJ0_isLatin1_aae02 1 (some .boolean) 0 := ⟨wj_6, wj_3, by decide +kernel, by decide⟩
theorem mi_J0_charAt_5068e : MI yJ0_charAt_5068e cJ0_charAt_5068e 2 (some .char) 1 := ⟨wj_7, wj_3, by decide +kernel, by decide⟩
theorem mi_J0_coder_7d493 : MI yJ0_coder_7d493 cJ0_coder_7d493 1 (some .byte) 0 := ⟨wj_8, wj_3, by decide +kernel, by decide⟩
theorem mi_J0_length_8abf5 : MI yJ0_length_8abf5 cJ0_length_8abf5 1 (some .int) 0 := ⟨wj_9, wj_3, by decide +kernel, by decide⟩
theorem d_J3_checkIndex_8e157_0 : decode cJ3_checkIndex_8e157 0 = .ok (.iload_n 0, 1) := by decide +kernel
theorem d_J3_checkIndex_8e157_1 : decode cJ3_checkIndex_8e157 1 = .ok (.ifCond .lt 8, 3) := by decide +kernel
theorem d_J3_checkIndex_8e157_4 : decode cJ3_checkIndex_8e157 4 = .ok (.iload_n 0, 1) := by decide +kernel
theorem d_J3_checkIndex_8e157_5 : decode cJ3_checkIndex_8e157 5 = .ok (.iload_n 1, 1) := by decide +kernel
theorem d_J3_checkIndex_8e157_6 : decode cJ3_checkIndex_8e157 6 = .ok (.if_icmp .lt 10, 3) := by decide +kernel
theorem d_J3_checkIndex_8e157_9 : decode cJ3_checkIndex_8e157 9 = .ok (.aload_n 2, 1) := by decide +kernel
theorem d_J3_checkIndex_8e157_10 : decode cJ3_checkIndex_8e157 10 = .ok (.iload_n 0, 1) := by decide +kernel
theorem d_J3_checkIndex_8e157_11 : decode cJ3_checkIndex_8e157 11 = .ok (.iload_n 1, 1) := by decide +kernel
theorem d_J3_checkIndex_8e157_12 : decode cJ3_checkIndex_8e157 12 = .ok (.invokestatic 95, 3) := by decide +kernel
theorem d_J3_checkIndex_8e157_15 : decode cJ3_checkIndex_8e157 15 = .ok (.athrow, 1) := by decide +kernel
theorem d_J3_checkIndex_8e157_16 : decode cJ3_checkIndex_8e157 16 = .ok (.iload_n 0, 1) := by decide +kernel
theorem d_J3_checkIndex_8e157_17 : decode cJ3_checkIndex_8e157 17 = .ok (.ireturn, 1) := by decide +kernel
theorem d_J0_checkIndex_df160_0 : decode cJ0_checkIndex_df160 0 = .ok (.iload_n 0, 1) := by decide +kernel
theorem d_J0_checkIndex_df160_1 : decode cJ0_checkIndex_df160 1 = .ok (.iload_n 1, 1) := by decide +kernel
theorem d_J0_checkIndex_df160_2 : decode cJ0_checkIndex_df160 2 = .ok (.getstatic 1053, 3) := by decide +kernel
theorem d_J0_checkIndex_df160_5 : decode cJ0_checkIndex_df160 5 = .ok (.invokestatic 1059, 3) := by decide +kernel
theorem d_J0_checkIndex_df160_8 : decode cJ0_checkIndex_df160 8 = .ok (.pop, 1) := by decide +kernel
theorem d_J0_checkIndex_df160_9 : decode cJ0_checkIndex_df160 9 = .ok (.return_, 1) := by decide +kernel
theorem d_J1_charAt_3b067_0 : decode cJ1_charAt_3b067 0 = .ok (.iload_n 1, 1) := by decide +kernel
theorem d_J1_charAt_3b067_1 : decode cJ1_charAt_3b067 1 = .ok (.aload_n 0, 1) := by decide +kernel
theorem d_J1_charAt_3b067_2 : decode cJ1_charAt_3b067 2 = .ok (.arraylength, 1) := by decide +kernel
theorem d_J1_charAt_3b067_3 : decode cJ1_charAt_3b067 3 = .ok (.invokestatic 9, 3) := by decide +kernel
theorem d_J1_charAt_3b067_6 : decode cJ1_charAt_3b067 6 = .ok (.aload_n 0, 1) := by decide +kernel
theorem d_J1_charAt_3b067_7 : decode cJ1_charAt_3b067 7 = .ok (.iload_n 1, 1) := by decide +kernel
theorem d_J1_charAt_3b067_8 : decode cJ1_charAt_3b067 8 = .ok (.baload, 1) := by decide +kernel
theorem d_J1_charAt_3b067_9 : decode cJ1_charAt_3b067 9 = .ok (.sipush 255, 3) := by decide +kernel
theorem d_J1_charAt_3b067_12 : decode cJ1_charAt_3b067 12 = .ok (.iand, 1) := by decide +kernel
theorem d_J1_charAt_3b067_13 : decode cJ1_charAt_3b067 13 = .ok (.i2c, 1) := by decide +kernel
theorem d_J1_charAt_3b067_14 : decode cJ1_charAt_3b067 14 = .ok (.ireturn, 1) := by decide +kernel
theorem d_J0_isLatin1_aae02_0 : decode cJ0_isLatin1_aae02 0 = .ok (.getstatic 38, 3) := by decide +kernel
theorem d_J0_isLatin1_aae02_3 : decode cJ0_isLatin1_aae02 3 = .ok (.ifCond .eq 14, 3) := by decide +kernel
theorem d_J0_isLatin1_aae02_6 : decode cJ0_isLatin1_aae02 6 = .ok (.aload_n 0, 1) := by decide +kernel
theorem d_J0_isLatin1_aae02_7 : decode cJ0_isLatin1_aae02 7 = .ok (.getfield 15, 3) := by decide +kernel
theorem d_J0_isLatin1_aae02_10 : decode cJ0_isLatin1_aae02 10 = .ok (.ifCond .ne 7, 3) := by decide +kernel
theorem d_J0_isLatin1_aae02_13 : decode cJ0_isLatin1_aae02 13 = .ok (.iconst 1, 1) := by decide +kernel
theorem d_J0_isLatin1_aae02_14 : decode cJ0_isLatin1_aae02 14 = .ok (.goto 4, 3) := by decide +kernel
theorem d_J0_isLatin1_aae02_17 : decode cJ0_isLatin1_aae02 17 = .ok (.iconst 0, 1) := by decide +kernel
theorem d_J0_isLatin1_aae02_18 : decode cJ0_isLatin1_aae02 18 = .ok (.ireturn, 1) := by decide +kernel
theorem d_J0_charAt_5068e_0 : decode cJ0_charAt_5068e 0 = .ok (.aload_n 0, 1) := by decide +kernel
theorem d_J0_charAt_5068e_1 : decode cJ0_charAt_5068e 1 = .ok (.invokevirtual 492, 3) := by decide +kernel
theorem d_J0_charAt_5068e_4 : decode cJ0_charAt_5068e 4 = .ok (.ifCond .eq 12, 3) := by decide +kernel
theorem d_J0_charAt_5068e_7 : decode cJ0_charAt_5068e 7 = .ok (.aload_n 0, 1) := by decide +kernel
theorem d_J0_charAt_5068e_8 : decode cJ0_charAt_5068e 8 = .ok (.getfield 9, 3) := by decide +kernel
theorem d_J0_charAt_5068e_11 : decode cJ0_charAt_5068e 11 = .ok (.iload_n 1, 1) := by decide +kernel
theorem d_J0_charAt_5068e_12 : decode cJ0_charAt_5068e 12 = .ok (.invokestatic 495, 3) := by decide +kernel
theorem d_J0_charAt_5068e_15 : decode cJ0_charAt_5068e 15 = .ok (.ireturn, 1) := by decide +kernel
theorem d_J0_charAt_5068e_16 : decode cJ0_charAt_5068e 16 = .ok (.aload_n 0, 1) := by decide +kernel
theorem d_J0_charAt_5068e_17 : decode cJ0_charAt_5068e 17 = .ok (.getfield 9, 3) := by decide +kernel
theorem d_J0_charAt_5068e_20 : decode cJ0_charAt_5068e 20 = .ok (.iload_n 1, 1) := by decide +kernel
theorem d_J0_charAt_5068e_21 : decode cJ0_charAt_5068e 21 = .ok (.invokestatic 498, 3) := by decide +kernel
theorem d_J0_charAt_5068e_24 : decode cJ0_charAt_5068e 24 = .ok (.ireturn, 1) := by decide +kernel
theorem d_J0_coder_7d493_0 : decode cJ0_coder_7d493 0 = .ok (.getstatic 38, 3) := by decide +kernel
theorem d_J0_coder_7d493_3 : decode cJ0_coder_7d493 3 = .ok (.ifCond .eq 10, 3) := by decide +kernel
theorem d_J0_coder_7d493_6 : decode cJ0_coder_7d493 6 = .ok (.aload_n 0, 1) := by decide +kernel
theorem d_J0_coder_7d493_7 : decode cJ0_coder_7d493 7 = .ok (.getfield 15, 3) := by decide +kernel
theorem d_J0_coder_7d493_10 : decode cJ0_coder_7d493 10 = .ok (.goto 4, 3) := by decide +kernel
theorem d_J0_coder_7d493_13 : decode cJ0_coder_7d493 13 = .ok (.iconst 1, 1) := by decide +kernel
theorem d_J0_coder_7d493_14 : decode cJ0_coder_7d493 14 = .ok (.ireturn, 1) := by decide +kernel
theorem d_J0_length_8abf5_0 : decode cJ0_length_8abf5 0 = .ok (.aload_n 0, 1) := by decide +kernel
theorem d_J0_length_8abf5_1 : decode cJ0_length_8abf5 1 = .ok (.getfield 9, 3) := by decide +kernel
theorem d_J0_length_8abf5_4 : decode cJ0_length_8abf5 4 = .ok (.arraylength, 1) := by decide +kernel
theorem d_J0_length_8abf5_5 : decode cJ0_length_8abf5 5 = .ok (.aload_n 0, 1) := by decide +kernel
theorem d_J0_length_8abf5_6 : decode cJ0_length_8abf5 6 = .ok (.invokevirtual 335, 3) := by decide +kernel
theorem d_J0_length_8abf5_9 : decode cJ0_length_8abf5 9 = .ok (.ishr, 1) := by decide +kernel
theorem d_J0_length_8abf5_10 : decode cJ0_length_8abf5 10 = .ok (.ireturn, 1) := by decide +kernel
theorem str_chr : ∀ i, i < nJ → ∀ b ∈ strB.getD i [], i2cF (b &&& 255) = b ∧ narrow .char (.int b) = .int b := by decide +kernel
theorem str_len : ∀ i, i < nJ → (strB.getD i []).length = strL.getD i 0 ∧ strL.getD i 0 < 100 := by decide +kernel
theorem getD_mem {L : List Int32} {k : Nat} (hk : k < L.length) : L.getD k 0 ∈ L := by
  rw [List.getD_eq_getElem?_getD, List.getElem?_eq_getElem hk, Option.getD_some]
  exact List.getElem_mem hk
theorem strCh_mem {i : Nat} {j v : Int32} (e : strCh i j = some v) : i < nJ ∧ v ∈ strB.getD i [] ∧ 0 ≤ j ∧ j < strLn i := by
  obtain ⟨hJ, e⟩ := if_some e
  obtain ⟨hin, e⟩ := nif_some e
  obtain ⟨h1, h2⟩ := str_len i hJ
  have h3 : ¬ j < 0 := fun z => hin (Or.inl z)
  have h4 : j.toNatClampNeg < strL.getD i 0 := Nat.not_le.mp fun z => hin (Or.inr z)
  obtain ⟨k, hk, rfl⟩ := nI_of h3
  rw [nI_clamp hk] at h4 e
  refine ⟨hJ, ?_, nI_pos' hk, nI_lt h4 (by omega)⟩
  cases e
  exact getD_mem (by rw [h1]; exact h4)
section JDK
variable {g : GP} {h : AH}
theorem k_CI (hg : g.1.stackTraces = false) {i n : Int32} (h0 : 0 ≤ i) (h1 : i < n) : Ctr g yJ3_checkIndex_8e157 (wsY yJ3_checkIndex_8e157 cJ3_checkIndex_8e157 3 (some .int)) 1 0 0 [.int i, .int n, fmA g] NT false h (some (.int i)) NT false h :=
  ctrF_of (lv0 := [.int i, .int n, fmA g]) (by unfold fmA; split <;> rfl) (by unfold fmA; split <;> rfl) (by decide +kernel) hg trivial (fun X hX hn => by
    refine aw_iload_n (i := 0) hX rfl rfl d_J3_checkIndex_8e157_0 ?_
    refine aw_if_lt (t := 9) hX (by decide) d_J3_checkIndex_8e157_1 (fun c => ?_) (fun c => ?_)
    · exfalso
      rw [Int32.lt_iff_toInt_lt] at c
      rw [Int32.le_iff_toInt_le] at h0
      omega
    · refine aw_iload_n (i := 0) hX rfl rfl d_J3_checkIndex_8e157_4 ?_
      refine aw_iload_n (i := 1) hX rfl rfl d_J3_checkIndex_8e157_5 ?_
      refine aw_icmp_lt (t := 16) hX (by decide) d_J3_checkIndex_8e157_6 (fun c2 => ?_) (fun c2 => absurd h1 c2)
      refine aw_iload_n (i := 0) hX rfl rfl d_J3_checkIndex_8e157_16 ?_
      exact aw_ireturn hX (Nat.zero_le _) (Nat.zero_le _) d_J3_checkIndex_8e157_17)
theorem k_SC (hg : g.1.stackTraces = false) {i n : Int32} (h0 : 0 ≤ i) (h1 : i < n) : Ctr g yJ0_checkIndex_df160 (wsY yJ0_checkIndex_df160 cJ0_checkIndex_df160 2 none) 2 0 0 [.int i, .int n] NT false h none NT false h :=
  ctrF_of (lv0 := [.int i, .int n]) rfl rfl (by decide +kernel) hg trivial (fun X hX hn => by
    refine aw_iload_n (i := 0) hX rfl rfl d_J0_checkIndex_df160_0 ?_
    refine aw_iload_n (i := 1) hX rfl rfl d_J0_checkIndex_df160_1 ?_
    refine ar_getFm hX wj_10 d_J0_checkIndex_df160_2 ?_
    refine aw_callSX (av := [.int i, .int n, fmA g]) (avr := [fmA g, .int n, .int i]) hX (k_CI (cx_g hX) h0 h1) mi_J3_checkIndex_8e157 rfl rfl wj_11 wj_12 (by decide) (Nat.le_of_ble_eq_true rfl) (Nat.zero_le _) (Nat.zero_le _) d_J0_checkIndex_df160_5 ?_
    refine aw_pop hX rfl d_J0_checkIndex_df160_8 ?_
    exact aw_return hX (Nat.zero_le _) (Nat.zero_le _) d_J0_checkIndex_df160_9)
theorem k_L1 (hg : g.1.stackTraces = false) {i : Nat} {j v : Int32} (e : strCh i j = some v) : Ctr g yJ1_charAt_3b067 (wsY yJ1_charAt_3b067 cJ1_charAt_3b067 2 (some .char)) 3 0 0 [.ref (200000 + i), .int j] NT false h (some (.int v)) NT false h :=
  ctrF_of (lv0 := [.ref (200000 + i), .int j]) rfl rfl (by decide +kernel) hg trivial (fun X hX hn => by
    obtain ⟨hJ, hm, h0, h1⟩ := strCh_mem e
    obtain ⟨e1, e2⟩ := str_chr i hJ v hm
    refine aw_iload_n (i := 1) hX rfl rfl d_J1_charAt_3b067_0 ?_
    refine aw_aload_n (i := 0) hX rfl rfl d_J1_charAt_3b067_1 ?_
    refine ar_bytLen hX hJ d_J1_charAt_3b067_2 ?_
    refine aw_callSX (av := [.int j, .int (strLn i)]) (avr := [.int (strLn i), .int j]) hX (k_SC (cx_g hX) h0 h1) mi_J0_checkIndex_df160 rfl rfl wj_13 wj_14 (by decide) (Nat.le_of_ble_eq_true rfl) (Nat.zero_le _) (Nat.zero_le _) d_J1_charAt_3b067_3 ?_
    refine aw_aload_n (i := 0) hX rfl rfl d_J1_charAt_3b067_6 ?_
    refine aw_iload_n (i := 1) hX rfl rfl d_J1_charAt_3b067_7 ?_
    refine ar_bytLd hX e d_J1_charAt_3b067_8 ?_
    refine aw_sipush (v := 255) hX (by decide) d_J1_charAt_3b067_9 ?_
    refine aw_iand hX d_J1_charAt_3b067_12 ?_
    refine aw_i2c hX d_J1_charAt_3b067_13 ?_
    rw [e1]
    exact ar_nreturn hX e2 (Nat.zero_le _) (Nat.zero_le _) d_J1_charAt_3b067_14)
theorem k_IL (hg : g.1.stackTraces = false) {i : Nat} (hJ : i < nJ) : Ctr g yJ0_isLatin1_aae02 (wsY yJ0_isLatin1_aae02 cJ0_isLatin1_aae02 1 (some .boolean)) 1 0 0 [.ref (100000 + i)] NT false h (some (.int 1)) NT false h :=
  ctrF_of (lv0 := [.ref (100000 + i)]) rfl rfl (by decide +kernel) hg trivial (fun X hX hn => by
    refine ar_getCS hX wj_15 d_J0_isLatin1_aae02_0 ?_
    refine aw_if_eq (t := 17) hX (by decide) d_J0_isLatin1_aae02_3 (fun c => absurd c (by decide)) (fun c => ?_)
    refine aw_aload_n (i := 0) hX rfl rfl d_J0_isLatin1_aae02_6 ?_
    refine ar_strCod hX hJ wj_16 d_J0_isLatin1_aae02_7 ?_
    refine aw_if_ne (t := 17) hX (by decide) d_J0_isLatin1_aae02_10 (fun c => absurd rfl c) (fun c => ?_)
    refine aw_iconst (v := 1) hX (by decide) d_J0_isLatin1_aae02_13 ?_
    refine aw_goto (t := 18) hX (by decide) d_J0_isLatin1_aae02_14 ?_
    exact aw_zreturn hX (by decide) (Nat.zero_le _) (Nat.zero_le _) d_J0_isLatin1_aae02_18)
theorem k_CA (hg : g.1.stackTraces = false) {i : Nat} {j v : Int32} (e : strCh i j = some v) : Ctr g yJ0_charAt_5068e (wsY yJ0_charAt_5068e cJ0_charAt_5068e 2 (some .char)) 4 0 0 [.ref (100000 + i), .int j] NT false h (some (.int v)) NT false h :=
  ctrF_of (lv0 := [.ref (100000 + i), .int j]) rfl rfl (by decide +kernel) hg trivial (fun X hX hn => by
    obtain ⟨hJ, hm, h0, h1⟩ := strCh_mem e
    obtain ⟨e1, e2⟩ := str_chr i hJ v hm
    refine aw_aload_n (i := 0) hX rfl rfl d_J0_charAt_5068e_0 ?_
    refine ar_callStr (i := i) (av := []) (avr := []) hX hJ (k_IL (cx_g hX) hJ) mi_J0_isLatin1_aae02 rfl rfl wj_18 wj_19 wj_20 (by decide) rfl (Nat.le_of_ble_eq_true rfl) (Nat.zero_le _) (Nat.zero_le _) d_J0_charAt_5068e_1 ?_
    refine aw_if_eq (t := 16) hX (by decide) d_J0_charAt_5068e_4 (fun c => absurd c (by decide)) (fun c => ?_)
    refine aw_aload_n (i := 0) hX rfl rfl d_J0_charAt_5068e_7 ?_
    refine ar_strVal hX hJ wj_17 d_J0_charAt_5068e_8 ?_
    refine aw_iload_n (i := 1) hX rfl rfl d_J0_charAt_5068e_11 ?_
    refine aw_callSX (av := [.ref (200000 + i), .int j]) (avr := [.int j, .ref (200000 + i)]) hX (k_L1 (cx_g hX) e) mi_J1_charAt_3b067 rfl rfl wj_21 wj_22 (by decide) (Nat.le_of_ble_eq_true rfl) (Nat.zero_le _) (Nat.zero_le _) d_J0_charAt_5068e_12 ?_
    exact ar_nreturn hX e2 (Nat.zero_le _) (Nat.zero_le _) d_J0_charAt_5068e_15)
theorem k_CO (hg : g.1.stackTraces = false) {i : Nat} (hJ : i < nJ) : Ctr g yJ0_coder_7d493 (wsY yJ0_coder_7d493 cJ0_coder_7d493 1 (some .byte)) 1 0 0 [.ref (100000 + i)] NT false h (some (.int 0)) NT false h :=
  ctrF_of (lv0 := [.ref (100000 + i)]) rfl rfl (by decide +kernel) hg trivial (fun X hX hn => by
    refine ar_getCS hX wj_15 d_J0_coder_7d493_0 ?_
    refine aw_if_eq (t := 13) hX (by decide) d_J0_coder_7d493_3 (fun c => absurd c (by decide)) (fun c => ?_)
    refine aw_aload_n (i := 0) hX rfl rfl d_J0_coder_7d493_6 ?_
    refine ar_strCod hX hJ wj_16 d_J0_coder_7d493_7 ?_
    refine aw_goto (t := 14) hX (by decide) d_J0_coder_7d493_10 ?_
    exact ar_nreturn hX rfl (Nat.zero_le _) (Nat.zero_le _) d_J0_coder_7d493_14)
theorem k_LE (hg : g.1.stackTraces = false) {i : Nat} (hJ : i < nJ) : Ctr g yJ0_length_8abf5 (wsY yJ0_length_8abf5 cJ0_length_8abf5 1 (some .int)) 2 0 0 [.ref (100000 + i)] NT false h (some (.int (strLn i))) NT false h :=
  ctrF_of (lv0 := [.ref (100000 + i)]) rfl rfl (by decide +kernel) hg trivial (fun X hX hn => by
    obtain ⟨-, h2⟩ := str_len i hJ
    refine aw_aload_n (i := 0) hX rfl rfl d_J0_length_8abf5_0 ?_
    refine ar_strVal hX hJ wj_17 d_J0_length_8abf5_1 ?_
    refine ar_bytLen hX hJ d_J0_length_8abf5_4 ?_
    refine aw_aload_n (i := 0) hX rfl rfl d_J0_length_8abf5_5 ?_
    refine ar_callStr (i := i) (av := []) (avr := []) hX hJ (k_CO (cx_g hX) hJ) mi_J0_coder_7d493 rfl rfl wj_23 wj_24 wj_25 (by decide) rfl (Nat.le_of_ble_eq_true rfl) (Nat.zero_le _) (Nat.zero_le _) d_J0_length_8abf5_6 ?_
    refine aw_ishr hX d_J0_length_8abf5_9 ?_
    rw [sb_shr0]
    exact aw_ireturn hX (Nat.zero_le _) (Nat.zero_le _) d_J0_length_8abf5_10)
variable {own : String} {cc : ByteArray} {lev mcR msR : Nat} {ret : Option FieldType} {tb : List ExceptionTableEntry} {X : MX}
variable {Q : State → Prop} {pc : Nat} {lv st : List Value}
theorem ar_strLen (hX : Cx g own cc lev mcR msR ret tb X) {i idx : Nat} (hJ : i < nJ) (hlv : 3 < lev) (hlk : Cond.methodLink own idx yJ0_length_8abf5 ∈ W0) (hst : stW st ≤ 8) (hd : decode cc pc = .ok (.invokevirtual idx, 3)) (kk : AR g X 0 0 Q h (pc + 3) lv (.int (strLn i) :: st)) : AR g X 0 0 Q h pc lv (.ref (100000 + i) :: st) :=
  ar_callStr (i := i) (av := []) (avr := []) hX hJ (k_LE (cx_g hX) hJ) mi_J0_length_8abf5 rfl rfl hlk wj_26 wj_27 (by omega) rfl hst (Nat.zero_le _) (Nat.zero_le _) hd kk
theorem ar_strCh (hX : Cx g own cc lev mcR msR ret tb X) {i idx : Nat} {j v : Int32} (e : strCh i j = some v) (hlv : 4 < lev) (hlk : Cond.methodLink own idx yJ0_charAt_5068e ∈ W0) (hst : stW st ≤ 8) (hd : decode cc pc = .ok (.invokevirtual idx, 3)) (kk : AR g X 0 0 Q h (pc + 3) lv (.int v :: st)) : AR g X 0 0 Q h pc lv (.int j :: .ref (100000 + i) :: st) :=
  ar_callStr (i := i) (av := [.int j]) (avr := [.int j]) hX (strCh_mem e).1 (k_CA (cx_g hX) e) mi_J0_charAt_5068e rfl rfl hlk wj_28 wj_29 (by omega) rfl hst (Nat.zero_le _) (Nat.zero_le _) hd kk
end JDK
