/-! 23.books: functions and contracts, by program -/
theorem d_X0_planOf_0 : decode cX0_planOf 0 = .ok (.iload_n 1, 1) := by decide +kernel
theorem d_X0_planOf_1 : decode cX0_planOf 1 = .ok (.iconst 5, 1) := by decide +kernel
theorem d_X0_planOf_2 : decode cX0_planOf 2 = .ok (.imul, 1) := by decide +kernel
theorem d_X0_planOf_3 : decode cX0_planOf 3 = .ok (.iload_n 2, 1) := by decide +kernel
theorem d_X0_planOf_4 : decode cX0_planOf 4 = .ok (.iadd, 1) := by decide +kernel
theorem d_X0_planOf_5 : decode cX0_planOf 5 = .ok (.istore_n 3, 1) := by decide +kernel
theorem d_X0_planOf_6 : decode cX0_planOf 6 = .ok (.iload_n 3, 1) := by decide +kernel
theorem d_X0_planOf_7 : decode cX0_planOf 7 = .ok (.ifCond .lt 21, 3) := by decide +kernel
theorem d_X0_planOf_10 : decode cX0_planOf 10 = .ok (.iload_n 3, 1) := by decide +kernel
theorem d_X0_planOf_11 : decode cX0_planOf 11 = .ok (.aload_n 0, 1) := by decide +kernel
theorem d_X0_planOf_12 : decode cX0_planOf 12 = .ok (.getfield 31, 3) := by decide +kernel
theorem d_X0_planOf_15 : decode cX0_planOf 15 = .ok (.arraylength, 1) := by decide +kernel
theorem d_X0_planOf_16 : decode cX0_planOf 16 = .ok (.if_icmp .ge 12, 3) := by decide +kernel
theorem d_X0_planOf_19 : decode cX0_planOf 19 = .ok (.aload_n 0, 1) := by decide +kernel
theorem d_X0_planOf_20 : decode cX0_planOf 20 = .ok (.getfield 31, 3) := by decide +kernel
theorem d_X0_planOf_23 : decode cX0_planOf 23 = .ok (.iload_n 3, 1) := by decide +kernel
theorem d_X0_planOf_24 : decode cX0_planOf 24 = .ok (.aaload, 1) := by decide +kernel
theorem d_X0_planOf_25 : decode cX0_planOf 25 = .ok (.goto 7, 3) := by decide +kernel
theorem d_X0_planOf_28 : decode cX0_planOf 28 = .ok (.aload_n 0, 1) := by decide +kernel
theorem d_X0_planOf_29 : decode cX0_planOf 29 = .ok (.getfield 27, 3) := by decide +kernel
theorem d_X0_planOf_32 : decode cX0_planOf 32 = .ok (.astore 4, 2) := by decide +kernel
theorem d_X0_planOf_34 : decode cX0_planOf 34 = .ok (.aload 4, 2) := by decide +kernel
theorem d_X0_planOf_36 : decode cX0_planOf 36 = .ok (.ifnonnull 10, 3) := by decide +kernel
theorem d_X0_planOf_39 : decode cX0_planOf 39 = .ok (.aload_n 0, 1) := by decide +kernel
theorem d_X0_planOf_40 : decode cX0_planOf 40 = .ok (.getfield 27, 3) := by decide +kernel
theorem d_X0_planOf_43 : decode cX0_planOf 43 = .ok (.goto 5, 3) := by decide +kernel
theorem d_X0_planOf_46 : decode cX0_planOf 46 = .ok (.aload 4, 2) := by decide +kernel
theorem d_X0_planOf_48 : decode cX0_planOf 48 = .ok (.areturn, 1) := by decide +kernel
def j_X0_planOf_32 (k0 : Option Nat) (h : AH) : Option (Option Nat) := mt k0 (some (some 23)) (fun t1 => some (some t1))
theorem tj_X0_planOf_32 {g : GP} {X : MX} {mcR msR : Nat} (hF : gF g = true) (hX : Cx g RX0 cX0_planOf 1 mcR msR (some (.object "SeatHall$Plan")) [] X) {k0 : Option Nat} {d1 : Value} {d2 : Value} {d3 : Value} {d4 : Value} {h : AH} {z : (Option Nat)} (e : j_X0_planOf_32 k0 h = some z) : AR g X 0 0 (QQ g X NT false h (.inl (some (rfV z))) 0 0) h 32 [.ref 13, d1, d2, d3, d4] [rfV k0] := by
  unfold j_X0_planOf_32 at e
  refine aw_astoreO (i := 4) (lv2 := [.ref 13, d1, d2, _, rfV k0]) hX rfl rfl d_X0_planOf_32 ?_
  refine aw_aloadO (i := 4) (o := k0) hX rfl d_X0_planOf_34 ?_
  refine aw_ifnonnull (t := 46) hX (by decide) d_X0_planOf_36 (fun t1 hq => ?_) (fun hq => ?_)
  · subst hq
    have e_36 := mt_some e
    clear e
    refine aw_aloadO (i := 4) (o := some t1) hX rfl d_X0_planOf_46 ?_
    cases e_36
    exact aw_areturn hX (Nat.zero_le _) (Nat.zero_le _) d_X0_planOf_48
  · subst hq
    have e_37 := mt_none e
    clear e
    refine aw_aload_n (i := 0) hX rfl rfl d_X0_planOf_39 ?_
    refine ar_getF hX hF fg_RX0_27 rfl d_X0_planOf_40 ?_
    show AR g X 0 0 _ _ 43 _ [.ref 23]
    refine aw_goto (t := 48) hX (by decide) d_X0_planOf_43 ?_
    cases e_37
    exact aw_areturn (o := some 23) hX (Nat.zero_le _) (Nat.zero_le _) d_X0_planOf_48
def j_X0_planOf_28 (h : AH) : Option (Option Nat) := j_X0_planOf_32 (some 23) h
theorem tj_X0_planOf_28 {g : GP} {X : MX} {mcR msR : Nat} (hF : gF g = true) (hX : Cx g RX0 cX0_planOf 1 mcR msR (some (.object "SeatHall$Plan")) [] X) {d1 : Value} {d2 : Value} {d3 : Value} {d4 : Value} {h : AH} {z : (Option Nat)} (e : j_X0_planOf_28 h = some z) : AR g X 0 0 (QQ g X NT false h (.inl (some (rfV z))) 0 0) h 28 [.ref 13, d1, d2, d3, d4] [] := by
  unfold j_X0_planOf_28 at e
  refine aw_aload_n (i := 0) hX rfl rfl d_X0_planOf_28 ?_
  refine ar_getF hX hF fg_RX0_27 rfl d_X0_planOf_29 ?_
  show AR g X 0 0 _ _ 32 _ [.ref 23]
  exact tj_X0_planOf_32 hF hX e
def s_X0_planOf (a0 : Int32) (a1 : Int32) (h : AH) : Option (Option Nat) := if ((a0 * 5) + a1) < 0 then j_X0_planOf_28 h else bd (alenF 29) fun x2 => if x2 ≤ ((a0 * 5) + a1) then j_X0_planOf_28 h else bd (ldR h 29 ((a0 * 5) + a1)) fun x3 => j_X0_planOf_32 x3 h
theorem t_X0_planOf {g : GP} {X : MX} {mcR msR : Nat} (hF : gF g = true) (hX : Cx g RX0 cX0_planOf 1 mcR msR (some (.object "SeatHall$Plan")) [] X) {a0 : Int32} {a1 : Int32} {h : AH} {z : (Option Nat)} (e : s_X0_planOf a0 a1 h = some z) : AR g X 0 0 (QQ g X NT false h (.inl (some (rfV z))) 0 0) h 0 [.ref 13, .int a0, .int a1, jk, jk] [] := by
  unfold s_X0_planOf at e
  refine aw_iload_n (i := 1) hX rfl rfl d_X0_planOf_0 ?_
  refine aw_iconst (v := 5) hX (by decide) d_X0_planOf_1 ?_
  refine aw_imul hX d_X0_planOf_2 ?_
  refine aw_iload_n (i := 2) hX rfl rfl d_X0_planOf_3 ?_
  refine aw_iadd hX d_X0_planOf_4 ?_
  refine aw_istore_n (i := 3) (lv2 := [.ref 13, .int a0, .int a1, .int ((a0 * 5) + a1), jk]) hX rfl rfl rfl d_X0_planOf_5 ?_
  refine aw_iload_n (i := 3) hX rfl rfl d_X0_planOf_6 ?_
  refine aw_if_lt (t := 28) hX (by decide) d_X0_planOf_7 (fun c => ?_) (fun c => ?_)
  · rw [if_pos c] at e
    exact tj_X0_planOf_28 hF hX e
  · rw [if_neg c] at e
    refine aw_iload_n (i := 3) hX rfl rfl d_X0_planOf_10 ?_
    refine aw_aload_n (i := 0) hX rfl rfl d_X0_planOf_11 ?_
    refine ar_getF hX hF fg_RX0_31 rfl d_X0_planOf_12 ?_
    show AR g X 0 0 _ _ 15 _ [.ref 29, .int ((a0 * 5) + a1)]
    obtain ⟨x2, f_38, e_38⟩ := bd_some e
    clear e
    refine ar_alen hX f_38 d_X0_planOf_15 ?_
    refine aw_icmp_ge (t := 28) hX (by decide) d_X0_planOf_16 (fun c => ?_) (fun c => ?_)
    · rw [if_pos c] at e_38
      exact tj_X0_planOf_28 hF hX e_38
    · rw [if_neg c] at e_38
      refine aw_aload_n (i := 0) hX rfl rfl d_X0_planOf_19 ?_
      refine ar_getF hX hF fg_RX0_31 rfl d_X0_planOf_20 ?_
      show AR g X 0 0 _ _ 23 _ [.ref 29]
      refine aw_iload_n (i := 3) hX rfl rfl d_X0_planOf_23 ?_
      obtain ⟨x3, f_39, e_39⟩ := bd_some e_38
      clear e_38
      refine ar_aaload hX f_39 d_X0_planOf_24 ?_
      refine aw_goto (t := 32) hX (by decide) d_X0_planOf_25 ?_
      exact tj_X0_planOf_32 hF hX e_39
theorem k_X0_planOf {g : GP} (hg : g.1.stackTraces = false) (hF : gF g = true) {a0 : Int32} {a1 : Int32} {h : AH} {z : (Option Nat)} (e : s_X0_planOf a0 a1 h = some z) : Ctr g yX0_planOf (wsY yX0_planOf cX0_planOf 5 (some (.object "SeatHall$Plan"))) 1 0 0 [.ref 13, .int a0, .int a1] NT false h (some (rfV z)) NT false h := ctr_of (lv0 := [.ref 13, .int a0, .int a1, jk, jk]) rfl rfl (by decide) hg trivial (fun X hX hn => t_X0_planOf hF hX e)
theorem d_X0_choose_0 : decode cX0_choose 0 = .ok (.iconst 0, 1) := by decide +kernel
theorem d_X0_choose_1 : decode cX0_choose 1 = .ok (.istore 5, 2) := by decide +kernel
theorem d_X0_choose_3 : decode cX0_choose 3 = .ok (.aload_n 0, 1) := by decide +kernel
theorem d_X0_choose_4 : decode cX0_choose 4 = .ok (.iload_n 1, 1) := by decide +kernel
theorem d_X0_choose_5 : decode cX0_choose 5 = .ok (.iconst 0, 1) := by decide +kernel
theorem d_X0_choose_6 : decode cX0_choose 6 = .ok (.invokevirtual 42, 3) := by decide +kernel
theorem d_X0_choose_9 : decode cX0_choose 9 = .ok (.invokevirtual 60, 3) := by decide +kernel
theorem d_X0_choose_12 : decode cX0_choose 12 = .ok (.lstore 6, 2) := by decide +kernel
theorem d_X0_choose_14 : decode cX0_choose 14 = .ok (.iconst 1, 1) := by decide +kernel
theorem d_X0_choose_15 : decode cX0_choose 15 = .ok (.istore 8, 2) := by decide +kernel
theorem d_X0_choose_17 : decode cX0_choose 17 = .ok (.iload 8, 2) := by decide +kernel
theorem d_X0_choose_19 : decode cX0_choose 19 = .ok (.iconst 5, 1) := by decide +kernel
theorem d_X0_choose_20 : decode cX0_choose 20 = .ok (.if_icmp .ge 102, 3) := by decide +kernel
theorem d_X0_choose_23 : decode cX0_choose 23 = .ok (.aload_n 2, 1) := by decide +kernel
theorem d_X0_choose_24 : decode cX0_choose 24 = .ok (.iload 8, 2) := by decide +kernel
theorem d_X0_choose_26 : decode cX0_choose 26 = .ok (.invokestatic 72, 3) := by decide +kernel
theorem d_X0_choose_29 : decode cX0_choose 29 = .ok (.istore 9, 2) := by decide +kernel
theorem d_X0_choose_31 : decode cX0_choose 31 = .ok (.iload 9, 2) := by decide +kernel
theorem d_X0_choose_33 : decode cX0_choose 33 = .ok (.iconst (-1), 1) := by decide +kernel
theorem d_X0_choose_34 : decode cX0_choose 34 = .ok (.if_icmp .eq 24, 3) := by decide +kernel
theorem d_X0_choose_37 : decode cX0_choose 37 = .ok (.iload 8, 2) := by decide +kernel
theorem d_X0_choose_39 : decode cX0_choose 39 = .ok (.iconst 4, 1) := by decide +kernel
theorem d_X0_choose_40 : decode cX0_choose 40 = .ok (.if_icmp .ne 14, 3) := by decide +kernel
theorem d_X0_choose_43 : decode cX0_choose 43 = .ok (.aload_n 0, 1) := by decide +kernel
theorem d_X0_choose_44 : decode cX0_choose 44 = .ok (.getfield 18, 3) := by decide +kernel
theorem d_X0_choose_47 : decode cX0_choose 47 = .ok (.iload_n 1, 1) := by decide +kernel
theorem d_X0_choose_48 : decode cX0_choose 48 = .ok (.invokevirtual 76, 3) := by decide +kernel
theorem d_X0_choose_51 : decode cX0_choose 51 = .ok (.ifCond .eq 7, 3) := by decide +kernel
theorem d_X0_choose_54 : decode cX0_choose 54 = .ok (.iconst 1, 1) := by decide +kernel
theorem d_X0_choose_55 : decode cX0_choose 55 = .ok (.goto 4, 3) := by decide +kernel
theorem d_X0_choose_58 : decode cX0_choose 58 = .ok (.iconst 0, 1) := by decide +kernel
theorem d_X0_choose_59 : decode cX0_choose 59 = .ok (.istore 10, 2) := by decide +kernel
theorem d_X0_choose_61 : decode cX0_choose 61 = .ok (.iload 8, 2) := by decide +kernel
theorem d_X0_choose_63 : decode cX0_choose 63 = .ok (.iconst 3, 1) := by decide +kernel
theorem d_X0_choose_64 : decode cX0_choose 64 = .ok (.if_icmp .ne 7, 3) := by decide +kernel
theorem d_X0_choose_67 : decode cX0_choose 67 = .ok (.lload_n 3, 1) := by decide +kernel
theorem d_X0_choose_68 : decode cX0_choose 68 = .ok (.goto 13, 3) := by decide +kernel
theorem d_X0_choose_71 : decode cX0_choose 71 = .ok (.aload_n 0, 1) := by decide +kernel
theorem d_X0_choose_72 : decode cX0_choose 72 = .ok (.iload_n 1, 1) := by decide +kernel
theorem d_X0_choose_73 : decode cX0_choose 73 = .ok (.iload 8, 2) := by decide +kernel
theorem d_X0_choose_75 : decode cX0_choose 75 = .ok (.invokevirtual 42, 3) := by decide +kernel
theorem d_X0_choose_78 : decode cX0_choose 78 = .ok (.invokevirtual 60, 3) := by decide +kernel
theorem d_X0_choose_81 : decode cX0_choose 81 = .ok (.lstore 11, 2) := by decide +kernel
theorem d_X0_choose_83 : decode cX0_choose 83 = .ok (.lload 11, 2) := by decide +kernel
theorem d_X0_choose_85 : decode cX0_choose 85 = .ok (.ldc2_w 80, 3) := by decide +kernel
theorem d_X0_choose_88 : decode cX0_choose 88 = .ok (.iload 9, 2) := by decide +kernel
theorem d_X0_choose_90 : decode cX0_choose 90 = .ok (.i2l, 1) := by decide +kernel
theorem d_X0_choose_91 : decode cX0_choose 91 = .ok (.lmul, 1) := by decide +kernel
theorem d_X0_choose_92 : decode cX0_choose 92 = .ok (.lsub, 1) := by decide +kernel
theorem d_X0_choose_93 : decode cX0_choose 93 = .ok (.lstore 13, 2) := by decide +kernel
theorem d_X0_choose_95 : decode cX0_choose 95 = .ok (.iload 10, 2) := by decide +kernel
theorem d_X0_choose_97 : decode cX0_choose 97 = .ok (.ifCond .eq 19, 3) := by decide +kernel
theorem d_X0_choose_100 : decode cX0_choose 100 = .ok (.lload 13, 2) := by decide +kernel
theorem d_X0_choose_102 : decode cX0_choose 102 = .ok (.lload 6, 2) := by decide +kernel
theorem d_X0_choose_104 : decode cX0_choose 104 = .ok (.lcmp, 1) := by decide +kernel
theorem d_X0_choose_105 : decode cX0_choose 105 = .ok (.ifCond .le 11, 3) := by decide +kernel
theorem d_X0_choose_108 : decode cX0_choose 108 = .ok (.iload 8, 2) := by decide +kernel
theorem d_X0_choose_110 : decode cX0_choose 110 = .ok (.istore 5, 2) := by decide +kernel
theorem d_X0_choose_112 : decode cX0_choose 112 = .ok (.lload 13, 2) := by decide +kernel
theorem d_X0_choose_114 : decode cX0_choose 114 = .ok (.lstore 6, 2) := by decide +kernel
theorem d_X0_choose_116 : decode cX0_choose 116 = .ok (.iinc 8 1, 3) := by decide +kernel
theorem d_X0_choose_119 : decode cX0_choose 119 = .ok (.goto (-102), 3) := by decide +kernel
theorem d_X0_choose_122 : decode cX0_choose 122 = .ok (.iload 5, 2) := by decide +kernel
theorem d_X0_choose_124 : decode cX0_choose 124 = .ok (.ireturn, 1) := by decide +kernel
def j_X0_choose_116_17 (p1 : Int32) (p2 : Option Nat) (p3 : Int64) (v5 : Int32) (v6 : Int64) (v8 : Int32) (h : AH) : Option ((Int32 × Int64 × Int32) ⊕ Int32) := some (.inl (v5, v6, v8 + 1))
theorem tj_X0_choose_116_17 {g : GP} {X : MX} {mcR msR : Nat} (hF : gF g = true) (hX : Cx g RX0 cX0_choose 4 mcR msR (some .int) [] X) {Q : State → Prop} {p1 : Int32} {p2 : Option Nat} {p3 : Int64} {v5 : Int32} {v6 : Int64} {v8 : Int32} {d9 : Value} {d10 : Value} {d11 : Value} {d12 : Value} {d13 : Value} {d14 : Value} {h : AH} {z : ((Int32 × Int64 × Int32) ⊕ Int32)} (e : j_X0_choose_116_17 p1 p2 p3 v5 v6 v8 h = some z) (kI : ∀ (s2 : (Int32 × Int64 × Int32)) (xd9 : Value) (xd10 : Value) (xd11 : Value) (xd12 : Value) (xd13 : Value) (xd14 : Value), z = .inl s2 → AR g X 0 0 Q h 17 [.ref 13, .int p1, rfV p2, .long p3, jk, .int s2.1, .long s2.2.1, jk, .int s2.2.2, xd9, xd10, xd11, xd12, xd13, xd14] []) (kE0 : ∀ (yy : Int32) (y0 : Value) (y1 : Value) (y2 : Value) (y3 : Value) (y4 : Value) (y6 : Value) (y7 : Value) (y8 : Value) (y9 : Value) (y10 : Value) (y11 : Value) (y12 : Value) (y13 : Value) (y14 : Value), z = .inr yy → AR g X 0 0 Q h 122 [y0, y1, y2, y3, y4, .int yy, y6, y7, y8, y9, y10, y11, y12, y13, y14] []) : AR g X 0 0 Q h 116 [.ref 13, .int p1, rfV p2, .long p3, jk, .int v5, .long v6, jk, .int v8, d9, d10, d11, d12, d13, d14] [] := by
  unfold j_X0_choose_116_17 at e
  refine aw_iinc (i := 8) (lv2 := [.ref 13, .int p1, rfV p2, .long p3, jk, .int v5, .long v6, jk, .int (v8 + 1), d9, d10, d11, d12, d13, d14]) hX rfl rfl rfl rfl d_X0_choose_116 ?_
  refine aw_goto (t := 17) hX (by decide) d_X0_choose_119 ?_
  cases e
  exact kI (v5, v6, v8 + 1) _ _ _ _ _ _ rfl
def j_X0_choose_81_17 (p1 : Int32) (p2 : Option Nat) (p3 : Int64) (v5 : Int32) (v6 : Int64) (v8 : Int32) (v9 : Int32) (v10 : Int32) (k0 : Int64) (h : AH) : Option ((Int32 × Int64 × Int32) ⊕ Int32) := if v10 = 0 then j_X0_choose_116_17 p1 p2 p3 v5 v6 v8 h else if (k0 - (1000 * v9.toInt64)) ≤ v6 then j_X0_choose_116_17 p1 p2 p3 v5 v6 v8 h else j_X0_choose_116_17 p1 p2 p3 v8 (k0 - (1000 * v9.toInt64)) v8 h
theorem tj_X0_choose_81_17 {g : GP} {X : MX} {mcR msR : Nat} (hF : gF g = true) (hX : Cx g RX0 cX0_choose 4 mcR msR (some .int) [] X) {Q : State → Prop} {p1 : Int32} {p2 : Option Nat} {p3 : Int64} {v5 : Int32} {v6 : Int64} {v8 : Int32} {v9 : Int32} {v10 : Int32} {k0 : Int64} {d11 : Value} {d12 : Value} {d13 : Value} {d14 : Value} {h : AH} {z : ((Int32 × Int64 × Int32) ⊕ Int32)} (e : j_X0_choose_81_17 p1 p2 p3 v5 v6 v8 v9 v10 k0 h = some z) (kI : ∀ (s2 : (Int32 × Int64 × Int32)) (xd9 : Value) (xd10 : Value) (xd11 : Value) (xd12 : Value) (xd13 : Value) (xd14 : Value), z = .inl s2 → AR g X 0 0 Q h 17 [.ref 13, .int p1, rfV p2, .long p3, jk, .int s2.1, .long s2.2.1, jk, .int s2.2.2, xd9, xd10, xd11, xd12, xd13, xd14] []) (kE0 : ∀ (yy : Int32) (y0 : Value) (y1 : Value) (y2 : Value) (y3 : Value) (y4 : Value) (y6 : Value) (y7 : Value) (y8 : Value) (y9 : Value) (y10 : Value) (y11 : Value) (y12 : Value) (y13 : Value) (y14 : Value), z = .inr yy → AR g X 0 0 Q h 122 [y0, y1, y2, y3, y4, .int yy, y6, y7, y8, y9, y10, y11, y12, y13, y14] []) : AR g X 0 0 Q h 81 [.ref 13, .int p1, rfV p2, .long p3, jk, .int v5, .long v6, jk, .int v8, .int v9, .int v10, d11, d12, d13, d14] [.long k0] := by
  unfold j_X0_choose_81_17 at e
  refine aw_lstore (i := 11) (lv2 := [.ref 13, .int p1, rfV p2, .long p3, jk, .int v5, .long v6, jk, .int v8, .int v9, .int v10, .long k0, jk, d13, d14]) hX rfl rfl d_X0_choose_81 ?_
  refine aw_lload (i := 11) hX rfl d_X0_choose_83 ?_
  refine aw_ldc2 hX w_22 d_X0_choose_85 ?_
  refine aw_iload (i := 9) hX rfl d_X0_choose_88 ?_
  refine aw_i2l hX d_X0_choose_90 ?_
  refine aw_lmul hX d_X0_choose_91 ?_
  refine aw_lsub hX d_X0_choose_92 ?_
  refine aw_lstore (i := 13) (lv2 := [.ref 13, .int p1, rfV p2, .long p3, jk, .int v5, .long v6, jk, .int v8, .int v9, .int v10, .long k0, jk, .long (k0 - (1000 * v9.toInt64)), jk]) hX rfl rfl d_X0_choose_93 ?_
  refine aw_iload (i := 10) hX rfl d_X0_choose_95 ?_
  refine aw_if_eq (t := 116) hX (by decide) d_X0_choose_97 (fun c => ?_) (fun c => ?_)
  · rw [if_pos c] at e
    exact tj_X0_choose_116_17 hF hX e kI kE0
  · rw [if_neg c] at e
    refine aw_lload (i := 13) hX rfl d_X0_choose_100 ?_
    refine aw_lload (i := 6) hX rfl d_X0_choose_102 ?_
    refine aw_lcmp hX d_X0_choose_104 ?_
    refine aw_if_le (t := 116) hX (by decide) d_X0_choose_105 (fun c => ?_) (fun c => ?_)
    · replace c := lc_le.mp c
      rw [if_pos c] at e
      exact tj_X0_choose_116_17 hF hX e kI kE0
    · replace c := fun q => c (lc_le.mpr q)
      rw [if_neg c] at e
      refine aw_iload (i := 8) hX rfl d_X0_choose_108 ?_
      refine aw_istore (i := 5) (lv2 := [.ref 13, .int p1, rfV p2, .long p3, jk, .int v8, .long v6, jk, .int v8, .int v9, .int v10, .long k0, jk, .long (k0 - (1000 * v9.toInt64)), jk]) hX rfl rfl d_X0_choose_110 ?_
      refine aw_lload (i := 13) hX rfl d_X0_choose_112 ?_
      refine aw_lstore (i := 6) (lv2 := [.ref 13, .int p1, rfV p2, .long p3, jk, .int v8, .long (k0 - (1000 * v9.toInt64)), jk, .int v8, .int v9, .int v10, .long k0, jk, .long (k0 - (1000 * v9.toInt64)), jk]) hX rfl rfl d_X0_choose_114 ?_
      exact tj_X0_choose_116_17 hF hX e kI kE0
def j_X0_choose_59_17 (p1 : Int32) (p2 : Option Nat) (p3 : Int64) (v5 : Int32) (v6 : Int64) (v8 : Int32) (v9 : Int32) (k0 : Int32) (h : AH) : Option ((Int32 × Int64 × Int32) ⊕ Int32) := if v8 = 3 then j_X0_choose_81_17 p1 p2 p3 v5 v6 v8 v9 k0 p3 h else bd (s_X0_planOf p1 v8 h) fun x5 => bd x5 fun t6 => if LAY t6 = (0, 2) then bd (s_X2_value t6 h) fun x7 => j_X0_choose_81_17 p1 p2 p3 v5 v6 v8 v9 k0 x7 h else none
theorem tj_X0_choose_59_17 {g : GP} {X : MX} {mcR msR : Nat} (hF : gF g = true) (hX : Cx g RX0 cX0_choose 4 mcR msR (some .int) [] X) {Q : State → Prop} {p1 : Int32} {p2 : Option Nat} {p3 : Int64} {v5 : Int32} {v6 : Int64} {v8 : Int32} {v9 : Int32} {k0 : Int32} {d10 : Value} {d11 : Value} {d12 : Value} {d13 : Value} {d14 : Value} {h : AH} {z : ((Int32 × Int64 × Int32) ⊕ Int32)} (e : j_X0_choose_59_17 p1 p2 p3 v5 v6 v8 v9 k0 h = some z) (kI : ∀ (s2 : (Int32 × Int64 × Int32)) (xd9 : Value) (xd10 : Value) (xd11 : Value) (xd12 : Value) (xd13 : Value) (xd14 : Value), z = .inl s2 → AR g X 0 0 Q h 17 [.ref 13, .int p1, rfV p2, .long p3, jk, .int s2.1, .long s2.2.1, jk, .int s2.2.2, xd9, xd10, xd11, xd12, xd13, xd14] []) (kE0 : ∀ (yy : Int32) (y0 : Value) (y1 : Value) (y2 : Value) (y3 : Value) (y4 : Value) (y6 : Value) (y7 : Value) (y8 : Value) (y9 : Value) (y10 : Value) (y11 : Value) (y12 : Value) (y13 : Value) (y14 : Value), z = .inr yy → AR g X 0 0 Q h 122 [y0, y1, y2, y3, y4, .int yy, y6, y7, y8, y9, y10, y11, y12, y13, y14] []) : AR g X 0 0 Q h 59 [.ref 13, .int p1, rfV p2, .long p3, jk, .int v5, .long v6, jk, .int v8, .int v9, d10, d11, d12, d13, d14] [.int k0] := by
  unfold j_X0_choose_59_17 at e
  refine aw_istore (i := 10) (lv2 := [.ref 13, .int p1, rfV p2, .long p3, jk, .int v5, .long v6, jk, .int v8, .int v9, .int k0, d11, d12, d13, d14]) hX rfl rfl d_X0_choose_59 ?_
  refine aw_iload (i := 8) hX rfl d_X0_choose_61 ?_
  refine aw_iconst (v := 3) hX (by decide) d_X0_choose_63 ?_
  refine aw_icmp_ne (t := 71) hX (by decide) d_X0_choose_64 (fun c => ?_) (fun c => ?_)
  · rw [if_neg c] at e
    refine aw_aload_n (i := 0) hX rfl rfl d_X0_choose_71 ?_
    refine aw_iload_n (i := 1) hX rfl rfl d_X0_choose_72 ?_
    refine aw_iload (i := 8) hX rfl d_X0_choose_73 ?_
    obtain ⟨x5, f_45, e_45⟩ := bd_some e
    clear e
    refine aw_callV (b := 13) (av := [.int p1, .int v8]) (avr := [.int v8, .int p1]) hX (k_X0_planOf (cx_g hX) hF f_45) mi_X0_planOf rfl rfl w_14 w_15 w_16 (by decide) rfl (LAY_lt rfl (by decide)) rfl rfl (Nat.le_of_ble_eq_true rfl) (Nat.zero_le _) (Nat.zero_le _) d_X0_choose_75 ?_
    obtain ⟨t6, f_46, e_46⟩ := bd_some e_45
    clear e_45
    obtain ⟨hlt6, e_47⟩ := if_some e_46
    clear e_46
    subst f_46
    obtain ⟨x7, f_48, e_48⟩ := bd_some e_47
    clear e_47
    refine aw_callV (b := t6) (av := []) (avr := []) hX (k_X2_value (cx_g hX) hF f_48) mi_X2_value rfl rfl w_19 w_20 w_21 (by decide) (by assumption) (LAY_lt (by assumption) (by decide)) rfl rfl (Nat.le_of_ble_eq_true rfl) (Nat.zero_le _) (Nat.zero_le _) d_X0_choose_78 ?_
    exact tj_X0_choose_81_17 hF hX e_48 kI kE0
  · rw [if_pos c] at e
    refine aw_lload_n (i := 3) hX rfl rfl d_X0_choose_67 ?_
    refine aw_goto (t := 81) hX (by decide) d_X0_choose_68 ?_
    exact tj_X0_choose_81_17 hF hX e kI kE0
def j_X0_choose_58_17 (p1 : Int32) (p2 : Option Nat) (p3 : Int64) (v5 : Int32) (v6 : Int64) (v8 : Int32) (v9 : Int32) (h : AH) : Option ((Int32 × Int64 × Int32) ⊕ Int32) := j_X0_choose_59_17 p1 p2 p3 v5 v6 v8 v9 0 h
theorem tj_X0_choose_58_17 {g : GP} {X : MX} {mcR msR : Nat} (hF : gF g = true) (hX : Cx g RX0 cX0_choose 4 mcR msR (some .int) [] X) {Q : State → Prop} {p1 : Int32} {p2 : Option Nat} {p3 : Int64} {v5 : Int32} {v6 : Int64} {v8 : Int32} {v9 : Int32} {d10 : Value} {d11 : Value} {d12 : Value} {d13 : Value} {d14 : Value} {h : AH} {z : ((Int32 × Int64 × Int32) ⊕ Int32)} (e : j_X0_choose_58_17 p1 p2 p3 v5 v6 v8 v9 h = some z) (kI : ∀ (s2 : (Int32 × Int64 × Int32)) (xd9 : Value) (xd10 : Value) (xd11 : Value) (xd12 : Value) (xd13 : Value) (xd14 : Value), z = .inl s2 → AR g X 0 0 Q h 17 [.ref 13, .int p1, rfV p2, .long p3, jk, .int s2.1, .long s2.2.1, jk, .int s2.2.2, xd9, xd10, xd11, xd12, xd13, xd14] []) (kE0 : ∀ (yy : Int32) (y0 : Value) (y1 : Value) (y2 : Value) (y3 : Value) (y4 : Value) (y6 : Value) (y7 : Value) (y8 : Value) (y9 : Value) (y10 : Value) (y11 : Value) (y12 : Value) (y13 : Value) (y14 : Value), z = .inr yy → AR g X 0 0 Q h 122 [y0, y1, y2, y3, y4, .int yy, y6, y7, y8, y9, y10, y11, y12, y13, y14] []) : AR g X 0 0 Q h 58 [.ref 13, .int p1, rfV p2, .long p3, jk, .int v5, .long v6, jk, .int v8, .int v9, d10, d11, d12, d13, d14] [] := by
  unfold j_X0_choose_58_17 at e
  refine aw_iconst (v := 0) hX (by decide) d_X0_choose_58 ?_
  exact tj_X0_choose_59_17 hF hX e kI kE0
def j_X0_choose_54_17 (p1 : Int32) (p2 : Option Nat) (p3 : Int64) (v5 : Int32) (v6 : Int64) (v8 : Int32) (v9 : Int32) (h : AH) : Option ((Int32 × Int64 × Int32) ⊕ Int32) := j_X0_choose_59_17 p1 p2 p3 v5 v6 v8 v9 1 h
theorem tj_X0_choose_54_17 {g : GP} {X : MX} {mcR msR : Nat} (hF : gF g = true) (hX : Cx g RX0 cX0_choose 4 mcR msR (some .int) [] X) {Q : State → Prop} {p1 : Int32} {p2 : Option Nat} {p3 : Int64} {v5 : Int32} {v6 : Int64} {v8 : Int32} {v9 : Int32} {d10 : Value} {d11 : Value} {d12 : Value} {d13 : Value} {d14 : Value} {h : AH} {z : ((Int32 × Int64 × Int32) ⊕ Int32)} (e : j_X0_choose_54_17 p1 p2 p3 v5 v6 v8 v9 h = some z) (kI : ∀ (s2 : (Int32 × Int64 × Int32)) (xd9 : Value) (xd10 : Value) (xd11 : Value) (xd12 : Value) (xd13 : Value) (xd14 : Value), z = .inl s2 → AR g X 0 0 Q h 17 [.ref 13, .int p1, rfV p2, .long p3, jk, .int s2.1, .long s2.2.1, jk, .int s2.2.2, xd9, xd10, xd11, xd12, xd13, xd14] []) (kE0 : ∀ (yy : Int32) (y0 : Value) (y1 : Value) (y2 : Value) (y3 : Value) (y4 : Value) (y6 : Value) (y7 : Value) (y8 : Value) (y9 : Value) (y10 : Value) (y11 : Value) (y12 : Value) (y13 : Value) (y14 : Value), z = .inr yy → AR g X 0 0 Q h 122 [y0, y1, y2, y3, y4, .int yy, y6, y7, y8, y9, y10, y11, y12, y13, y14] []) : AR g X 0 0 Q h 54 [.ref 13, .int p1, rfV p2, .long p3, jk, .int v5, .long v6, jk, .int v8, .int v9, d10, d11, d12, d13, d14] [] := by
  unfold j_X0_choose_54_17 at e
  refine aw_iconst (v := 1) hX (by decide) d_X0_choose_54 ?_
  refine aw_goto (t := 59) hX (by decide) d_X0_choose_55 ?_
  exact tj_X0_choose_59_17 hF hX e kI kE0
def l_X0_choose_17 (p1 : Int32) (p2 : Option Nat) (p3 : Int64) (h : AH) (s : (Int32 × Int64 × Int32)) : Option ((Int32 × Int64 × Int32) ⊕ Int32) := if 5 ≤ s.2.2 then some (.inr s.1) else bd (s_X9_at p2 s.2.2 h) fun x4 => if x4 = (-1) then j_X0_choose_58_17 p1 p2 p3 s.1 s.2.1 s.2.2 x4 h else if s.2.2 = 4 then bd (gR h 13 1) fun t8 => if LAY t8 = (0, 8) then bd (s_X8_isYoung t8 p1 h) fun x9 => if x9 = 0 then j_X0_choose_58_17 p1 p2 p3 s.1 s.2.1 s.2.2 x4 h else j_X0_choose_54_17 p1 p2 p3 s.1 s.2.1 s.2.2 x4 h else none else j_X0_choose_54_17 p1 p2 p3 s.1 s.2.1 s.2.2 x4 h
theorem tb_X0_choose_17 {g : GP} {X : MX} {mcR msR : Nat} (hF : gF g = true) (hX : Cx g RX0 cX0_choose 4 mcR msR (some .int) [] X) {Q : State → Prop} {p1 : Int32} {p2 : Option Nat} {p3 : Int64} {s : (Int32 × Int64 × Int32)} {d9 : Value} {d10 : Value} {d11 : Value} {d12 : Value} {d13 : Value} {d14 : Value} {h : AH} {z : ((Int32 × Int64 × Int32) ⊕ Int32)} (e : l_X0_choose_17 p1 p2 p3 h s = some z) (kI : ∀ (s2 : (Int32 × Int64 × Int32)) (xd9 : Value) (xd10 : Value) (xd11 : Value) (xd12 : Value) (xd13 : Value) (xd14 : Value), z = .inl s2 → AR g X 0 0 Q h 17 [.ref 13, .int p1, rfV p2, .long p3, jk, .int s2.1, .long s2.2.1, jk, .int s2.2.2, xd9, xd10, xd11, xd12, xd13, xd14] []) (kE0 : ∀ (yy : Int32) (y0 : Value) (y1 : Value) (y2 : Value) (y3 : Value) (y4 : Value) (y6 : Value) (y7 : Value) (y8 : Value) (y9 : Value) (y10 : Value) (y11 : Value) (y12 : Value) (y13 : Value) (y14 : Value), z = .inr yy → AR g X 0 0 Q h 122 [y0, y1, y2, y3, y4, .int yy, y6, y7, y8, y9, y10, y11, y12, y13, y14] []) : AR g X 0 0 Q h 17 [.ref 13, .int p1, rfV p2, .long p3, jk, .int s.1, .long s.2.1, jk, .int s.2.2, d9, d10, d11, d12, d13, d14] [] := by
  unfold l_X0_choose_17 at e
  refine aw_iload (i := 8) hX rfl d_X0_choose_17 ?_
  refine aw_iconst (v := 5) hX (by decide) d_X0_choose_19 ?_
  refine aw_icmp_ge (t := 122) hX (by decide) d_X0_choose_20 (fun c => ?_) (fun c => ?_)
  · rw [if_pos c] at e
    cases e
    exact kE0 s.1 _ _ _ _ _ _ _ _ _ _ _ _ _ _ rfl
  · rw [if_neg c] at e
    refine aw_aloadO_n (i := 2) (o := p2) hX rfl rfl d_X0_choose_23 ?_
    refine aw_iload (i := 8) hX rfl d_X0_choose_24 ?_
    obtain ⟨x4, f_49, e_49⟩ := bd_some e
    clear e
    refine aw_callSN (av := [rfV p2, .int s.2.2]) (avr := [.int s.2.2, rfV p2]) hX (k_X9_at (cx_g hX) hF f_49) mi_X9_at rfl rfl nx8 w_6 (by decide) (Nat.le_of_ble_eq_true rfl) (Nat.zero_le _) (Nat.zero_le _) d_X0_choose_26 ?_
    refine aw_istore (i := 9) (lv2 := [.ref 13, .int p1, rfV p2, .long p3, jk, .int s.1, .long s.2.1, jk, .int s.2.2, .int x4, d10, d11, d12, d13, d14]) hX rfl rfl d_X0_choose_29 ?_
    refine aw_iload (i := 9) hX rfl d_X0_choose_31 ?_
    refine aw_iconst (v := (-1)) hX (by decide) d_X0_choose_33 ?_
    refine aw_icmp_eq (t := 58) hX (by decide) d_X0_choose_34 (fun c => ?_) (fun c => ?_)
    · rw [if_pos c] at e_49
      exact tj_X0_choose_58_17 hF hX e_49 kI kE0
    · rw [if_neg c] at e_49
      refine aw_iload (i := 8) hX rfl d_X0_choose_37 ?_
      refine aw_iconst (v := 4) hX (by decide) d_X0_choose_39 ?_
      refine aw_icmp_ne (t := 54) hX (by decide) d_X0_choose_40 (fun c => ?_) (fun c => ?_)
      · rw [if_neg c] at e_49
        exact tj_X0_choose_54_17 hF hX e_49 kI kE0
      · rw [if_pos c] at e_49
        refine aw_aload_n (i := 0) hX rfl rfl d_X0_choose_43 ?_
        obtain ⟨t8, f_50, e_50⟩ := bd_some e_49
        clear e_49
        obtain ⟨hlt8, e_51⟩ := if_some e_50
        clear e_50
        refine ar_getR hX fg_RX0_18 rfl f_50 d_X0_choose_44 ?_
        refine aw_iload_n (i := 1) hX rfl rfl d_X0_choose_47 ?_
        obtain ⟨x9, f_52, e_52⟩ := bd_some e_51
        clear e_51
        refine aw_callV (b := t8) (av := [.int p1]) (avr := [.int p1]) hX (k_X8_isYoung (cx_g hX) hF f_52) mi_X8_isYoung rfl rfl w_25 w_26 w_27 (by decide) (by assumption) (LAY_lt (by assumption) (by decide)) rfl rfl (Nat.le_of_ble_eq_true rfl) (Nat.zero_le _) (Nat.zero_le _) d_X0_choose_48 ?_
        refine aw_if_eq (t := 58) hX (by decide) d_X0_choose_51 (fun c => ?_) (fun c => ?_)
        · rw [if_pos c] at e_52
          exact tj_X0_choose_58_17 hF hX e_52 kI kE0
        · rw [if_neg c] at e_52
          exact tj_X0_choose_54_17 hF hX e_52 kI kE0
theorem ti_X0_choose_17 {g : GP} {X : MX} {mcR msR : Nat} (hF : gF g = true) (hX : Cx g RX0 cX0_choose 4 mcR msR (some .int) [] X) {Q : State → Prop} {p1 : Int32} {p2 : Option Nat} {p3 : Int64} {y : Int32} {h : AH} (kE0 : ∀ (y_0 : Value) (y_1 : Value) (y_2 : Value) (y_3 : Value) (y_4 : Value) (y_6 : Value) (y_7 : Value) (y_8 : Value) (y_9 : Value) (y_10 : Value) (y_11 : Value) (y_12 : Value) (y_13 : Value) (y_14 : Value), AR g X 0 0 Q h 122 [y_0, y_1, y_2, y_3, y_4, .int y, y_6, y_7, y_8, y_9, y_10, y_11, y_12, y_13, y_14] []) (n : Nat) : ∀ (s : (Int32 × Int64 × Int32)) (d9 : Value) (d10 : Value) (d11 : Value) (d12 : Value) (d13 : Value) (d14 : Value), lpP (l_X0_choose_17 p1 p2 p3 h) n s = some y → AR g X 0 0 Q h 17 [.ref 13, .int p1, rfV p2, .long p3, jk, .int s.1, .long s.2.1, jk, .int s.2.2, d9, d10, d11, d12, d13, d14] [] := by
  induction n with
  | zero => intro s d9 d10 d11 d12 d13 d14 e; cases e
  | succ n ih =>
    intro s d9 d10 d11 d12 d13 d14 e
    obtain ⟨x, e1, e2⟩ := lpP_succ e
    rcases e2 with ⟨s2, rfl, e3⟩ | rfl
    · exact tb_X0_choose_17 hF hX e1 (fun s3 x0 x1 x2 x3 x4 x5 hs => by cases hs; exact ih _ _ _ _ _ _ _  e3) (fun yy x0 x1 x2 x3 x4 x5 x6 x7 x8 x9 x10 x11 x12 x13 hy => by cases hy)
    · exact tb_X0_choose_17 hF hX e1 (fun s3 x0 x1 x2 x3 x4 x5 hs => by cases hs) (fun yy x0 x1 x2 x3 x4 x5 x6 x7 x8 x9 x10 x11 x12 x13 hy => by cases hy; exact kE0 x0 x1 x2 x3 x4 x5 x6 x7 x8 x9 x10 x11 x12 x13)
theorem t_X0_choose_17 {g : GP} {X : MX} {mcR msR : Nat} (hF : gF g = true) (hX : Cx g RX0 cX0_choose 4 mcR msR (some .int) [] X) {Q : State → Prop} {p1 : Int32} {p2 : Option Nat} {p3 : Int64} {s : (Int32 × Int64 × Int32)} {d9 : Value} {d10 : Value} {d11 : Value} {d12 : Value} {d13 : Value} {d14 : Value} {h : AH} {n : Nat} {y : Int32} (e : lpP (l_X0_choose_17 p1 p2 p3 h) n s = some y) (kE0 : ∀ (y_0 : Value) (y_1 : Value) (y_2 : Value) (y_3 : Value) (y_4 : Value) (y_6 : Value) (y_7 : Value) (y_8 : Value) (y_9 : Value) (y_10 : Value) (y_11 : Value) (y_12 : Value) (y_13 : Value) (y_14 : Value), AR g X 0 0 Q h 122 [y_0, y_1, y_2, y_3, y_4, .int y, y_6, y_7, y_8, y_9, y_10, y_11, y_12, y_13, y_14] []) : AR g X 0 0 Q h 17 [.ref 13, .int p1, rfV p2, .long p3, jk, .int s.1, .long s.2.1, jk, .int s.2.2, d9, d10, d11, d12, d13, d14] [] := ti_X0_choose_17 hF hX kE0 n _ _ _ _ _ _ _  e
def s_X0_choose (a0 : Int32) (a1 : Option Nat) (a2 : Int64) (h : AH) : Option Int32 := bd (s_X0_planOf a0 0 h) fun x1 => bd x1 fun t2 => if LAY t2 = (0, 2) then bd (s_X2_value t2 h) fun x3 => bd (lpP (l_X0_choose_17 a0 a1 a2 h) FU (0, x3, 1)) fun y10 => some y10 else none
theorem t_X0_choose {g : GP} {X : MX} {mcR msR : Nat} (hF : gF g = true) (hX : Cx g RX0 cX0_choose 4 mcR msR (some .int) [] X) {a0 : Int32} {a1 : Option Nat} {a2 : Int64} {h : AH} {z : Int32} (e : s_X0_choose a0 a1 a2 h = some z) : AR g X 0 0 (QQ g X NT false h (.inl (some (.int z))) 0 0) h 0 [.ref 13, .int a0, rfV a1, .long a2, jk, jk, jk, jk, jk, jk, jk, jk, jk, jk, jk] [] := by
  unfold s_X0_choose at e
  refine aw_iconst (v := 0) hX (by decide) d_X0_choose_0 ?_
  refine aw_istore (i := 5) (lv2 := [.ref 13, .int a0, rfV a1, .long a2, jk, .int 0, jk, jk, jk, jk, jk, jk, jk, jk, jk]) hX rfl rfl d_X0_choose_1 ?_
  refine aw_aload_n (i := 0) hX rfl rfl d_X0_choose_3 ?_
  refine aw_iload_n (i := 1) hX rfl rfl d_X0_choose_4 ?_
  refine aw_iconst (v := 0) hX (by decide) d_X0_choose_5 ?_
  obtain ⟨x1, f_53, e_53⟩ := bd_some e
  clear e
  refine aw_callV (b := 13) (av := [.int a0, .int 0]) (avr := [.int 0, .int a0]) hX (k_X0_planOf (cx_g hX) hF f_53) mi_X0_planOf rfl rfl w_14 w_15 w_16 (by decide) rfl (LAY_lt rfl (by decide)) rfl rfl (Nat.le_of_ble_eq_true rfl) (Nat.zero_le _) (Nat.zero_le _) d_X0_choose_6 ?_
  obtain ⟨t2, f_54, e_54⟩ := bd_some e_53
  clear e_53
  obtain ⟨hlt2, e_55⟩ := if_some e_54
  clear e_54
  subst f_54
  obtain ⟨x3, f_56, e_56⟩ := bd_some e_55
  clear e_55
  refine aw_callV (b := t2) (av := []) (avr := []) hX (k_X2_value (cx_g hX) hF f_56) mi_X2_value rfl rfl w_19 w_20 w_21 (by decide) (by assumption) (LAY_lt (by assumption) (by decide)) rfl rfl (Nat.le_of_ble_eq_true rfl) (Nat.zero_le _) (Nat.zero_le _) d_X0_choose_9 ?_
  refine aw_lstore (i := 6) (lv2 := [.ref 13, .int a0, rfV a1, .long a2, jk, .int 0, .long x3, jk, jk, jk, jk, jk, jk, jk, jk]) hX rfl rfl d_X0_choose_12 ?_
  refine aw_iconst (v := 1) hX (by decide) d_X0_choose_14 ?_
  refine aw_istore (i := 8) (lv2 := [.ref 13, .int a0, rfV a1, .long a2, jk, .int 0, .long x3, jk, .int 1, jk, jk, jk, jk, jk, jk]) hX rfl rfl d_X0_choose_15 ?_
  obtain ⟨y10, f_57, e_57⟩ := bd_some e_56
  clear e_56
  refine t_X0_choose_17 hF hX f_57 (fun d11_0 d11_1 d11_2 d11_3 d11_4 d11_6 d11_7 d11_8 d11_9 d11_10 d11_11 d11_12 d11_13 d11_14 => ?_)
  refine aw_iload (i := 5) hX rfl d_X0_choose_122 ?_
  cases e_57
  exact aw_ireturn hX (Nat.zero_le _) (Nat.zero_le _) d_X0_choose_124
theorem k_X0_choose {g : GP} (hg : g.1.stackTraces = false) (hF : gF g = true) {a0 : Int32} {a1 : Option Nat} {a2 : Int64} {h : AH} {z : Int32} (e : s_X0_choose a0 a1 a2 h = some z) : Ctr g yX0_choose (wsY yX0_choose cX0_choose 15 (some .int)) 4 0 0 [.ref 13, .int a0, rfV a1, .long a2] NT false h (some (.int z)) NT false h := ctr_of (lv0 := [.ref 13, .int a0, rfV a1, .long a2, jk, jk, jk, jk, jk, jk, jk, jk, jk, jk, jk]) (by cases a1 <;> rfl) (by cases a1 <;> rfl) (by decide) hg trivial (fun X hX hn => t_X0_choose hF hX e)
theorem d_X0_open_0 : decode cX0_open 0 = .ok (.aload_n 0, 1) := by decide +kernel
theorem d_X0_open_1 : decode cX0_open 1 = .ok (.aload_n 1, 1) := by decide +kernel
theorem d_X0_open_2 : decode cX0_open 2 = .ok (.putfield 18, 3) := by decide +kernel
theorem d_X0_open_5 : decode cX0_open 5 = .ok (.iconst 0, 1) := by decide +kernel
theorem d_X0_open_6 : decode cX0_open 6 = .ok (.istore_n 2, 1) := by decide +kernel
theorem d_X0_open_7 : decode cX0_open 7 = .ok (.iload_n 2, 1) := by decide +kernel
theorem d_X0_open_8 : decode cX0_open 8 = .ok (.aload_n 0, 1) := by decide +kernel
theorem d_X0_open_9 : decode cX0_open 9 = .ok (.getfield 18, 3) := by decide +kernel
theorem d_X0_open_12 : decode cX0_open 12 = .ok (.getfield 38, 3) := by decide +kernel
theorem d_X0_open_15 : decode cX0_open 15 = .ok (.if_icmp .ge 87, 3) := by decide +kernel
theorem d_X0_open_18 : decode cX0_open 18 = .ok (.iconst 0, 1) := by decide +kernel
theorem d_X0_open_19 : decode cX0_open 19 = .ok (.istore_n 3, 1) := by decide +kernel
theorem d_X0_open_20 : decode cX0_open 20 = .ok (.iload_n 3, 1) := by decide +kernel
theorem d_X0_open_21 : decode cX0_open 21 = .ok (.iconst 5, 1) := by decide +kernel
theorem d_X0_open_22 : decode cX0_open 22 = .ok (.if_icmp .ge 45, 3) := by decide +kernel
theorem d_X0_open_25 : decode cX0_open 25 = .ok (.aload_n 0, 1) := by decide +kernel
theorem d_X0_open_26 : decode cX0_open 26 = .ok (.iload_n 2, 1) := by decide +kernel
theorem d_X0_open_27 : decode cX0_open 27 = .ok (.iload_n 3, 1) := by decide +kernel
theorem d_X0_open_28 : decode cX0_open 28 = .ok (.invokevirtual 42, 3) := by decide +kernel
theorem d_X0_open_31 : decode cX0_open 31 = .ok (.astore 4, 2) := by decide +kernel
theorem d_X0_open_33 : decode cX0_open 33 = .ok (.aload 4, 2) := by decide +kernel
theorem d_X0_open_35 : decode cX0_open 35 = .ok (.aload_n 0, 1) := by decide +kernel
theorem d_X0_open_36 : decode cX0_open 36 = .ok (.getfield 18, 3) := by decide +kernel
theorem d_X0_open_39 : decode cX0_open 39 = .ok (.iload_n 2, 1) := by decide +kernel
theorem d_X0_open_40 : decode cX0_open 40 = .ok (.iconst 1, 1) := by decide +kernel
theorem d_X0_open_41 : decode cX0_open 41 = .ok (.aload_n 0, 1) := by decide +kernel
theorem d_X0_open_42 : decode cX0_open 42 = .ok (.getfield 18, 3) := by decide +kernel
theorem d_X0_open_45 : decode cX0_open 45 = .ok (.getfield 46, 3) := by decide +kernel
theorem d_X0_open_48 : decode cX0_open 48 = .ok (.invokevirtual 49, 3) := by decide +kernel
theorem d_X0_open_51 : decode cX0_open 51 = .ok (.aload 4, 2) := by decide +kernel
theorem d_X0_open_53 : decode cX0_open 53 = .ok (.aload_n 0, 1) := by decide +kernel
theorem d_X0_open_54 : decode cX0_open 54 = .ok (.getfield 18, 3) := by decide +kernel
theorem d_X0_open_57 : decode cX0_open 57 = .ok (.iload_n 2, 1) := by decide +kernel
theorem d_X0_open_58 : decode cX0_open 58 = .ok (.invokevirtual 53, 3) := by decide +kernel
theorem d_X0_open_61 : decode cX0_open 61 = .ok (.iinc 3 1, 3) := by decide +kernel
theorem d_X0_open_64 : decode cX0_open 64 = .ok (.goto (-44), 3) := by decide +kernel
theorem d_X0_open_67 : decode cX0_open 67 = .ok (.aload_n 0, 1) := by decide +kernel
theorem d_X0_open_68 : decode cX0_open 68 = .ok (.getfield 9, 3) := by decide +kernel
theorem d_X0_open_71 : decode cX0_open 71 = .ok (.iload_n 2, 1) := by decide +kernel
theorem d_X0_open_72 : decode cX0_open 72 = .ok (.aload_n 0, 1) := by decide +kernel
theorem d_X0_open_73 : decode cX0_open 73 = .ok (.iload_n 2, 1) := by decide +kernel
theorem d_X0_open_74 : decode cX0_open 74 = .ok (.aload_n 0, 1) := by decide +kernel
theorem d_X0_open_75 : decode cX0_open 75 = .ok (.getfield 18, 3) := by decide +kernel
theorem d_X0_open_78 : decode cX0_open 78 = .ok (.getfield 57, 3) := by decide +kernel
theorem d_X0_open_81 : decode cX0_open 81 = .ok (.aload_n 0, 1) := by decide +kernel
theorem d_X0_open_82 : decode cX0_open 82 = .ok (.iload_n 2, 1) := by decide +kernel
theorem d_X0_open_83 : decode cX0_open 83 = .ok (.iconst 3, 1) := by decide +kernel
theorem d_X0_open_84 : decode cX0_open 84 = .ok (.invokevirtual 42, 3) := by decide +kernel
theorem d_X0_open_87 : decode cX0_open 87 = .ok (.invokevirtual 60, 3) := by decide +kernel
theorem d_X0_open_90 : decode cX0_open 90 = .ok (.invokevirtual 64, 3) := by decide +kernel
theorem d_X0_open_93 : decode cX0_open 93 = .ok (.invokestatic 68, 3) := by decide +kernel
theorem d_X0_open_96 : decode cX0_open 96 = .ok (.iinc 2 1, 3) := by decide +kernel
theorem d_X0_open_99 : decode cX0_open 99 = .ok (.goto (-92), 3) := by decide +kernel
theorem d_X0_open_102 : decode cX0_open 102 = .ok (.return_, 1) := by decide +kernel
def l_X0_open_20 (p2 : Int32) (s : Int32) (h : AH) : Option ((Int32 ⊕ Unit) × AH) := if 5 ≤ s then some (.inr (), h) else bd (s_X0_planOf p2 s h) fun x2 => bd (gR h 13 1) fun t3 => if LAY t3 = (0, 8) then bd (gR h 13 1) fun t4 => if LAY t4 = (0, 8) then bd x2 fun t5 => if LAY t5 = (0, 2) then bd (s_X2_make t5 (some t3) p2 1 (some (t4 + 2)) h) fun q6 => bd (gR q6.2 13 1) fun t7 => if LAY t7 = (0, 8) then bd (s_X2_use t5 (some t7) p2 q6.2) fun q8 => some (.inl (s + 1), q8.2) else none else none else none else none
theorem tb_X0_open_20 {g : GP} {X : MX} {mcR msR : Nat} (hF : gF g = true) (hX : Cx g RX0 cX0_open 6 mcR msR none [] X) {Q : State → Prop} {p2 : Int32} {s : Int32} {d1 : Value} {d4 : Value} {h hz : AH} {z : (Int32 ⊕ Unit)} (e : l_X0_open_20 p2 s h = some (z, hz)) (kI : ∀ (s2 : Int32) (xd1 : Value) (xd4 : Value), z = .inl s2 → AR g X 0 0 Q hz 20 [.ref 13, xd1, .int p2, .int s2, xd4] []) (kE0 : ∀ (yy : Unit) (y1 : Value) (y3 : Value) (y4 : Value), z = .inr yy → AR g X 0 0 Q hz 67 [.ref 13, y1, .int p2, y3, y4] []) : AR g X 0 0 Q h 20 [.ref 13, d1, .int p2, .int s, d4] [] := by
  unfold l_X0_open_20 at e
  refine aw_iload_n (i := 3) hX rfl rfl d_X0_open_20 ?_
  refine aw_iconst (v := 5) hX (by decide) d_X0_open_21 ?_
  refine aw_icmp_ge (t := 67) hX (by decide) d_X0_open_22 (fun c => ?_) (fun c => ?_)
  · rw [if_pos c] at e
    cases e
    exact kE0 () _ _ _ rfl
  · rw [if_neg c] at e
    refine aw_aload_n (i := 0) hX rfl rfl d_X0_open_25 ?_
    refine aw_iload_n (i := 2) hX rfl rfl d_X0_open_26 ?_
    refine aw_iload_n (i := 3) hX rfl rfl d_X0_open_27 ?_
    obtain ⟨x2, f_128, e_128⟩ := bd_some e
    clear e
    refine aw_callV (b := 13) (av := [.int p2, .int s]) (avr := [.int s, .int p2]) hX (k_X0_planOf (cx_g hX) hF f_128) mi_X0_planOf rfl rfl w_14 w_15 w_16 (by decide) rfl (LAY_lt rfl (by decide)) rfl rfl (Nat.le_of_ble_eq_true rfl) (Nat.zero_le _) (Nat.zero_le _) d_X0_open_28 ?_
    refine aw_astoreO (i := 4) (lv2 := [.ref 13, d1, .int p2, .int s, rfV x2]) hX rfl rfl d_X0_open_31 ?_
    refine aw_aloadO (i := 4) (o := x2) hX rfl d_X0_open_33 ?_
    refine aw_aload_n (i := 0) hX rfl rfl d_X0_open_35 ?_
    obtain ⟨t3, f_129, e_129⟩ := bd_some e_128
    clear e_128
    obtain ⟨hlt3, e_130⟩ := if_some e_129
    clear e_129
    refine ar_getR hX fg_RX0_18 rfl f_129 d_X0_open_36 ?_
    refine aw_iload_n (i := 2) hX rfl rfl d_X0_open_39 ?_
    refine aw_iconst (v := 1) hX (by decide) d_X0_open_40 ?_
    refine aw_aload_n (i := 0) hX rfl rfl d_X0_open_41 ?_
    obtain ⟨t4, f_131, e_131⟩ := bd_some e_130
    clear e_130
    obtain ⟨hlt4, e_132⟩ := if_some e_131
    clear e_131
    refine ar_getR hX fg_RX0_18 rfl f_131 d_X0_open_42 ?_
    refine ar_getF hX hF fg_RX0_46 (by assumption) d_X0_open_45 ?_
    obtain ⟨t5, f_133, e_133⟩ := bd_some e_132
    clear e_132
    obtain ⟨hlt5, e_134⟩ := if_some e_133
    clear e_133
    subst f_133
    obtain ⟨q6, f_135, e_135⟩ := bd_some e_134
    clear e_134
    refine aw_callV (b := t5) (av := [.ref t3, .int p2, .int 1, .ref (t4 + 2)]) (avr := [.ref (t4 + 2), .int 1, .int p2, .ref t3]) hX (k_X2_make (cx_g hX) hF f_135) mi_X2_make rfl rfl w_97 w_98 w_99 (by decide) (by assumption) (LAY_lt (by assumption) (by decide)) rfl rfl (Nat.le_of_ble_eq_true rfl) (Nat.zero_le _) (Nat.zero_le _) d_X0_open_48 ?_
    refine aw_aload (i := 4) hX rfl d_X0_open_51 ?_
    refine aw_aload_n (i := 0) hX rfl rfl d_X0_open_53 ?_
    obtain ⟨t7, f_136, e_136⟩ := bd_some e_135
    clear e_135
    obtain ⟨hlt7, e_137⟩ := if_some e_136
    clear e_136
    refine ar_getR hX fg_RX0_18 rfl f_136 d_X0_open_54 ?_
    refine aw_iload_n (i := 2) hX rfl rfl d_X0_open_57 ?_
    obtain ⟨q8, f_138, e_138⟩ := bd_some e_137
    clear e_137
    refine aw_callV (b := t5) (av := [.ref t7, .int p2]) (avr := [.int p2, .ref t7]) hX (k_X2_use (cx_g hX) hF f_138) mi_X2_use rfl rfl w_101 w_102 w_103 (by decide) (by assumption) (LAY_lt (by assumption) (by decide)) rfl rfl (Nat.le_of_ble_eq_true rfl) (Nat.zero_le _) (Nat.zero_le _) d_X0_open_58 ?_
    refine aw_iinc (i := 3) (lv2 := [.ref 13, d1, .int p2, .int (s + 1), .ref t5]) hX rfl rfl rfl rfl d_X0_open_61 ?_
    refine aw_goto (t := 20) hX (by decide) d_X0_open_64 ?_
    cases e_138
    exact kI (s + 1) _ _ rfl
theorem ti_X0_open_20 {g : GP} {X : MX} {mcR msR : Nat} (hF : gF g = true) (hX : Cx g RX0 cX0_open 6 mcR msR none [] X) {Q : State → Prop} {p2 : Int32} {y : Unit} {hz : AH} (kE0 : ∀ (y_1 : Value) (y_3 : Value) (y_4 : Value), AR g X 0 0 Q hz 67 [.ref 13, y_1, .int p2, y_3, y_4] []) (n : Nat) : ∀ (s : Int32) (d1 : Value) (d4 : Value) (h : AH), lpH (l_X0_open_20 p2) n s h = some (y, hz) → AR g X 0 0 Q h 20 [.ref 13, d1, .int p2, .int s, d4] [] := by
  induction n with
  | zero => intro s d1 d4 h e; cases e
  | succ n ih =>
    intro s d1 d4 h e
    obtain ⟨x, h1, e1, e2⟩ := lpH_succ e
    rcases e2 with ⟨s2, rfl, e3⟩ | ⟨rfl, rfl⟩
    · exact tb_X0_open_20 hF hX e1 (fun s3 x0 x1 hs => by cases hs; exact ih _ _ _ _ e3) (fun yy x0 x1 x2 hy => by cases hy)
    · exact tb_X0_open_20 hF hX e1 (fun s3 x0 x1 hs => by cases hs) (fun yy x0 x1 x2 hy => by cases hy; exact kE0 x0 x1 x2)
theorem t_X0_open_20 {g : GP} {X : MX} {mcR msR : Nat} (hF : gF g = true) (hX : Cx g RX0 cX0_open 6 mcR msR none [] X) {Q : State → Prop} {p2 : Int32} {s : Int32} {d1 : Value} {d4 : Value} {h hz : AH} {n : Nat} {y : Unit} (e : lpH (l_X0_open_20 p2) n s h = some (y, hz)) (kE0 : ∀ (y_1 : Value) (y_3 : Value) (y_4 : Value), AR g X 0 0 Q hz 67 [.ref 13, y_1, .int p2, y_3, y_4] []) : AR g X 0 0 Q h 20 [.ref 13, d1, .int p2, .int s, d4] [] := ti_X0_open_20 hF hX kE0 n _ _ _ _ e
def l_X0_open_7 (s : Int32) (h : AH) : Option ((Int32 ⊕ Unit) × AH) := bd (gR h 13 1) fun t1 => if LAY t1 = (0, 8) then if (gI h t1 3) ≤ s then some (.inr (), h) else bd (lpH (l_X0_open_20 s) FU 0 h) fun y9 => bd (gR y9.2 13 1) fun t11 => if LAY t11 = (0, 8) then bd (s_X0_planOf s 3 y9.2) fun x12 => bd x12 fun t13 => if LAY t13 = (0, 2) then bd (s_X2_value t13 y9.2) fun x14 => bd (s_X0_choose s (some (t11 + 7)) x14 y9.2) fun x15 => bd (s_X9_put (some 14) s x15 y9.2) fun q16 => some (.inl (s + 1), q16.2) else none else none else none
theorem tb_X0_open_7 {g : GP} {X : MX} {mcR msR : Nat} (hF : gF g = true) (hX : Cx g RX0 cX0_open 6 mcR msR none [] X) {Q : State → Prop} {s : Int32} {d1 : Value} {d3 : Value} {d4 : Value} {h hz : AH} {z : (Int32 ⊕ Unit)} (e : l_X0_open_7 s h = some (z, hz)) (kI : ∀ (s2 : Int32) (xd1 : Value) (xd3 : Value) (xd4 : Value), z = .inl s2 → AR g X 0 0 Q hz 7 [.ref 13, xd1, .int s2, xd3, xd4] []) (kE0 : ∀ (yy : Unit) (y0 : Value) (y1 : Value) (y2 : Value) (y3 : Value) (y4 : Value), z = .inr yy → AR g X 0 0 Q hz 102 [y0, y1, y2, y3, y4] []) : AR g X 0 0 Q h 7 [.ref 13, d1, .int s, d3, d4] [] := by
  unfold l_X0_open_7 at e
  refine aw_iload_n (i := 2) hX rfl rfl d_X0_open_7 ?_
  refine aw_aload_n (i := 0) hX rfl rfl d_X0_open_8 ?_
  obtain ⟨t1, f_139, e_139⟩ := bd_some e
  clear e
  obtain ⟨hlt1, e_140⟩ := if_some e_139
  clear e_139
  refine ar_getR hX fg_RX0_18 rfl f_139 d_X0_open_9 ?_
  refine ar_getI hX fg_RX0_38 (by assumption) d_X0_open_12 ?_
  refine aw_icmp_ge (t := 102) hX (by decide) d_X0_open_15 (fun c => ?_) (fun c => ?_)
  · rw [if_pos c] at e_140
    cases e_140
    exact kE0 () _ _ _ _ _ rfl
  · rw [if_neg c] at e_140
    refine aw_iconst (v := 0) hX (by decide) d_X0_open_18 ?_
    refine aw_istore_n (i := 3) (lv2 := [.ref 13, d1, .int s, .int 0, d4]) hX rfl rfl rfl d_X0_open_19 ?_
    obtain ⟨y9, f_141, e_141⟩ := bd_some e_140
    clear e_140
    refine t_X0_open_20 hF hX f_141 (fun d10_1 d10_3 d10_4 => ?_)
    refine aw_aload_n (i := 0) hX rfl rfl d_X0_open_67 ?_
    refine ar_getF hX hF fg_RX0_9 rfl d_X0_open_68 ?_
    show AR g X 0 0 _ _ 71 _ [.ref 14]
    refine aw_iload_n (i := 2) hX rfl rfl d_X0_open_71 ?_
    refine aw_aload_n (i := 0) hX rfl rfl d_X0_open_72 ?_
    refine aw_iload_n (i := 2) hX rfl rfl d_X0_open_73 ?_
    refine aw_aload_n (i := 0) hX rfl rfl d_X0_open_74 ?_
    obtain ⟨t11, f_142, e_142⟩ := bd_some e_141
    clear e_141
    obtain ⟨hlt11, e_143⟩ := if_some e_142
    clear e_142
    refine ar_getR hX fg_RX0_18 rfl f_142 d_X0_open_75 ?_
    refine ar_getF hX hF fg_RX0_57 (by assumption) d_X0_open_78 ?_
    refine aw_aload_n (i := 0) hX rfl rfl d_X0_open_81 ?_
    refine aw_iload_n (i := 2) hX rfl rfl d_X0_open_82 ?_
    refine aw_iconst (v := 3) hX (by decide) d_X0_open_83 ?_
    obtain ⟨x12, f_144, e_144⟩ := bd_some e_143
    clear e_143
    refine aw_callV (b := 13) (av := [.int s, .int 3]) (avr := [.int 3, .int s]) hX (k_X0_planOf (cx_g hX) hF f_144) mi_X0_planOf rfl rfl w_14 w_15 w_16 (by decide) rfl (LAY_lt rfl (by decide)) rfl rfl (Nat.le_of_ble_eq_true rfl) (Nat.zero_le _) (Nat.zero_le _) d_X0_open_84 ?_
    obtain ⟨t13, f_145, e_145⟩ := bd_some e_144
    clear e_144
    obtain ⟨hlt13, e_146⟩ := if_some e_145
    clear e_145
    subst f_145
    obtain ⟨x14, f_147, e_147⟩ := bd_some e_146
    clear e_146
    refine aw_callV (b := t13) (av := []) (avr := []) hX (k_X2_value (cx_g hX) hF f_147) mi_X2_value rfl rfl w_19 w_20 w_21 (by decide) (by assumption) (LAY_lt (by assumption) (by decide)) rfl rfl (Nat.le_of_ble_eq_true rfl) (Nat.zero_le _) (Nat.zero_le _) d_X0_open_87 ?_
    obtain ⟨x15, f_148, e_148⟩ := bd_some e_147
    clear e_147
    refine aw_callV (b := 13) (av := [.int s, .ref (t11 + 7), .long x14]) (avr := [.long x14, .ref (t11 + 7), .int s]) hX (k_X0_choose (cx_g hX) hF f_148) mi_X0_choose rfl rfl w_107 w_108 w_109 (by decide) rfl (LAY_lt rfl (by decide)) rfl rfl (Nat.le_of_ble_eq_true rfl) (Nat.zero_le _) (Nat.zero_le _) d_X0_open_90 ?_
    obtain ⟨q16, f_149, e_149⟩ := bd_some e_148
    clear e_148
    refine aw_callSN (av := [.ref 14, .int s, .int x15]) (avr := [.int x15, .int s, .ref 14]) hX (k_X9_put (cx_g hX) hF f_149) mi_X9_put rfl rfl nx22 w_83 (by decide) (Nat.le_of_ble_eq_true rfl) (Nat.zero_le _) (Nat.zero_le _) d_X0_open_93 ?_
    refine aw_iinc (i := 2) (lv2 := [.ref 13, _, .int (s + 1), d10_3, d10_4]) hX rfl rfl rfl rfl d_X0_open_96 ?_
    refine aw_goto (t := 7) hX (by decide) d_X0_open_99 ?_
    cases e_149
    exact kI (s + 1) _ _ _ rfl
theorem ti_X0_open_7 {g : GP} {X : MX} {mcR msR : Nat} (hF : gF g = true) (hX : Cx g RX0 cX0_open 6 mcR msR none [] X) {Q : State → Prop} {y : Unit} {hz : AH} (kE0 : ∀ (y_0 : Value) (y_1 : Value) (y_2 : Value) (y_3 : Value) (y_4 : Value), AR g X 0 0 Q hz 102 [y_0, y_1, y_2, y_3, y_4] []) (n : Nat) : ∀ (s : Int32) (d1 : Value) (d3 : Value) (d4 : Value) (h : AH), lpH (l_X0_open_7) n s h = some (y, hz) → AR g X 0 0 Q h 7 [.ref 13, d1, .int s, d3, d4] [] := by
  induction n with
  | zero => intro s d1 d3 d4 h e; cases e
  | succ n ih =>
    intro s d1 d3 d4 h e
    obtain ⟨x, h1, e1, e2⟩ := lpH_succ e
    rcases e2 with ⟨s2, rfl, e3⟩ | ⟨rfl, rfl⟩
    · exact tb_X0_open_7 hF hX e1 (fun s3 x0 x1 x2 hs => by cases hs; exact ih _ _ _ _ _ e3) (fun yy x0 x1 x2 x3 x4 hy => by cases hy)
    · exact tb_X0_open_7 hF hX e1 (fun s3 x0 x1 x2 hs => by cases hs) (fun yy x0 x1 x2 x3 x4 hy => by cases hy; exact kE0 x0 x1 x2 x3 x4)
theorem t_X0_open_7 {g : GP} {X : MX} {mcR msR : Nat} (hF : gF g = true) (hX : Cx g RX0 cX0_open 6 mcR msR none [] X) {Q : State → Prop} {s : Int32} {d1 : Value} {d3 : Value} {d4 : Value} {h hz : AH} {n : Nat} {y : Unit} (e : lpH (l_X0_open_7) n s h = some (y, hz)) (kE0 : ∀ (y_0 : Value) (y_1 : Value) (y_2 : Value) (y_3 : Value) (y_4 : Value), AR g X 0 0 Q hz 102 [y_0, y_1, y_2, y_3, y_4] []) : AR g X 0 0 Q h 7 [.ref 13, d1, .int s, d3, d4] [] := ti_X0_open_7 hF hX kE0 n _ _ _ _ _ e
def s_X0_open (a0 : Option Nat) (h : AH) : Option (Unit × AH) := bd a0 fun oa0 => if LAY oa0 = (0, 8) then bd (lpH (l_X0_open_7) FU 0 (sR h 13 1 (some oa0))) fun y17 => some ((), y17.2) else none
theorem t_X0_open {g : GP} {X : MX} {mcR msR : Nat} (hF : gF g = true) (hX : Cx g RX0 cX0_open 6 mcR msR none [] X) {a0 : Option Nat} {h hz : AH} {z : Unit} (e : s_X0_open a0 h = some (z, hz)) : AR g X 0 0 (QQ g X NT false hz (.inl none) 0 0) h 0 [.ref 13, rfV a0, jk, jk, jk] [] := by
  unfold s_X0_open at e
  obtain ⟨oa0, e0, e_150⟩ := bd_some e
  clear e
  subst e0
  obtain ⟨hl_a0, e_151⟩ := if_some e_150
  clear e_150
  refine aw_aload_n (i := 0) hX rfl rfl d_X0_open_0 ?_
  refine aw_aload_n (i := 1) hX rfl rfl d_X0_open_1 ?_
  refine ar_putR hX fp_RX0_18 rfl d_X0_open_2 ?_
  refine aw_iconst (v := 0) hX (by decide) d_X0_open_5 ?_
  refine aw_istore_n (i := 2) (lv2 := [.ref 13, .ref oa0, .int 0, jk, jk]) hX rfl rfl rfl d_X0_open_6 ?_
  obtain ⟨y17, f_152, e_152⟩ := bd_some e_151
  clear e_151
  refine t_X0_open_7 hF hX f_152 (fun d18_0 d18_1 d18_2 d18_3 d18_4 => ?_)
  cases e_152
  exact aw_return hX (Nat.zero_le _) (Nat.zero_le _) d_X0_open_102
theorem k_X0_open {g : GP} (hg : g.1.stackTraces = false) (hF : gF g = true) {a0 : Option Nat} {h hz : AH} {z : Unit} (e : s_X0_open a0 h = some (z, hz)) : Ctr g yX0_open (wsY yX0_open cX0_open 5 none) 6 0 0 [.ref 13, rfV a0] NT false h none NT false hz := ctr_of (lv0 := [.ref 13, rfV a0, jk, jk, jk]) (by cases a0 <;> rfl) (by cases a0 <;> rfl) (by decide) hg trivial (fun X hX hn => t_X0_open hF hX e)
theorem d_X0_planBoughtBy_0 : decode cX0_planBoughtBy 0 = .ok (.aload_n 0, 1) := by decide +kernel
theorem d_X0_planBoughtBy_1 : decode cX0_planBoughtBy 1 = .ok (.iload_n 1, 1) := by decide +kernel
theorem d_X0_planBoughtBy_2 : decode cX0_planBoughtBy 2 = .ok (.aload_n 0, 1) := by decide +kernel
theorem d_X0_planBoughtBy_3 : decode cX0_planBoughtBy 3 = .ok (.getfield 9, 3) := by decide +kernel
theorem d_X0_planBoughtBy_6 : decode cX0_planBoughtBy 6 = .ok (.iload_n 1, 1) := by decide +kernel
theorem d_X0_planBoughtBy_7 : decode cX0_planBoughtBy 7 = .ok (.invokestatic 72, 3) := by decide +kernel
theorem d_X0_planBoughtBy_10 : decode cX0_planBoughtBy 10 = .ok (.invokevirtual 42, 3) := by decide +kernel
theorem d_X0_planBoughtBy_13 : decode cX0_planBoughtBy 13 = .ok (.areturn, 1) := by decide +kernel
def s_X0_planBoughtBy (a0 : Int32) (h : AH) : Option (Option Nat) := bd (s_X9_at (some 14) a0 h) fun x1 => bd (s_X0_planOf a0 x1 h) fun x2 => some x2
theorem t_X0_planBoughtBy {g : GP} {X : MX} {mcR msR : Nat} (hF : gF g = true) (hX : Cx g RX0 cX0_planBoughtBy 2 mcR msR (some (.object "SeatHall$Plan")) [] X) {a0 : Int32} {h : AH} {z : (Option Nat)} (e : s_X0_planBoughtBy a0 h = some z) : AR g X 0 0 (QQ g X NT false h (.inl (some (rfV z))) 0 0) h 0 [.ref 13, .int a0] [] := by
  unfold s_X0_planBoughtBy at e
  refine aw_aload_n (i := 0) hX rfl rfl d_X0_planBoughtBy_0 ?_
  refine aw_iload_n (i := 1) hX rfl rfl d_X0_planBoughtBy_1 ?_
  refine aw_aload_n (i := 0) hX rfl rfl d_X0_planBoughtBy_2 ?_
  refine ar_getF hX hF fg_RX0_9 rfl d_X0_planBoughtBy_3 ?_
  show AR g X 0 0 _ _ 6 _ [.ref 14, .int a0, .ref 13]
  refine aw_iload_n (i := 1) hX rfl rfl d_X0_planBoughtBy_6 ?_
  obtain ⟨x1, f_153, e_153⟩ := bd_some e
  clear e
  refine aw_callSN (av := [.ref 14, .int a0]) (avr := [.int a0, .ref 14]) hX (k_X9_at (cx_g hX) hF f_153) mi_X9_at rfl rfl nx8 w_6 (by decide) (Nat.le_of_ble_eq_true rfl) (Nat.zero_le _) (Nat.zero_le _) d_X0_planBoughtBy_7 ?_
  obtain ⟨x2, f_154, e_154⟩ := bd_some e_153
  clear e_153
  refine aw_callV (b := 13) (av := [.int a0, .int x1]) (avr := [.int x1, .int a0]) hX (k_X0_planOf (cx_g hX) hF f_154) mi_X0_planOf rfl rfl w_14 w_15 w_16 (by decide) rfl (LAY_lt rfl (by decide)) rfl rfl (Nat.le_of_ble_eq_true rfl) (Nat.zero_le _) (Nat.zero_le _) d_X0_planBoughtBy_10 ?_
  cases e_154
  exact aw_areturn hX (Nat.zero_le _) (Nat.zero_le _) d_X0_planBoughtBy_13
theorem k_X0_planBoughtBy {g : GP} (hg : g.1.stackTraces = false) (hF : gF g = true) {a0 : Int32} {h : AH} {z : (Option Nat)} (e : s_X0_planBoughtBy a0 h = some z) : Ctr g yX0_planBoughtBy (wsY yX0_planBoughtBy cX0_planBoughtBy 2 (some (.object "SeatHall$Plan"))) 2 0 0 [.ref 13, .int a0] NT false h (some (rfV z)) NT false h := ctr_of (lv0 := [.ref 13, .int a0]) rfl rfl (by decide) hg trivial (fun X hX hn => t_X0_planBoughtBy hF hX e)
theorem d_X0_doorTakings_0 : decode cX0_doorTakings 0 = .ok (.aload_n 0, 1) := by decide +kernel
theorem d_X0_doorTakings_1 : decode cX0_doorTakings 1 = .ok (.iload_n 1, 1) := by decide +kernel
theorem d_X0_doorTakings_2 : decode cX0_doorTakings 2 = .ok (.iconst 0, 1) := by decide +kernel
theorem d_X0_doorTakings_3 : decode cX0_doorTakings 3 = .ok (.invokevirtual 42, 3) := by decide +kernel
theorem d_X0_doorTakings_6 : decode cX0_doorTakings 6 = .ok (.astore 4, 2) := by decide +kernel
theorem d_X0_doorTakings_8 : decode cX0_doorTakings 8 = .ok (.lconst 0, 1) := by decide +kernel
theorem d_X0_doorTakings_9 : decode cX0_doorTakings 9 = .ok (.lstore 5, 2) := by decide +kernel
theorem d_X0_doorTakings_11 : decode cX0_doorTakings 11 = .ok (.iconst 0, 1) := by decide +kernel
theorem d_X0_doorTakings_12 : decode cX0_doorTakings 12 = .ok (.istore 7, 2) := by decide +kernel
theorem d_X0_doorTakings_14 : decode cX0_doorTakings 14 = .ok (.iload 7, 2) := by decide +kernel
theorem d_X0_doorTakings_16 : decode cX0_doorTakings 16 = .ok (.aload_n 0, 1) := by decide +kernel
theorem d_X0_doorTakings_17 : decode cX0_doorTakings 17 = .ok (.getfield 18, 3) := by decide +kernel
theorem d_X0_doorTakings_20 : decode cX0_doorTakings 20 = .ok (.getfield 86, 3) := by decide +kernel
theorem d_X0_doorTakings_23 : decode cX0_doorTakings 23 = .ok (.if_icmp .ge 40, 3) := by decide +kernel
theorem d_X0_doorTakings_26 : decode cX0_doorTakings 26 = .ok (.lload 5, 2) := by decide +kernel
theorem d_X0_doorTakings_28 : decode cX0_doorTakings 28 = .ok (.lload_n 2, 1) := by decide +kernel
theorem d_X0_doorTakings_29 : decode cX0_doorTakings 29 = .ok (.aload 4, 2) := by decide +kernel
theorem d_X0_doorTakings_31 : decode cX0_doorTakings 31 = .ok (.iload 7, 2) := by decide +kernel
theorem d_X0_doorTakings_33 : decode cX0_doorTakings 33 = .ok (.invokevirtual 89, 3) := by decide +kernel
theorem d_X0_doorTakings_36 : decode cX0_doorTakings 36 = .ok (.i2l, 1) := by decide +kernel
theorem d_X0_doorTakings_37 : decode cX0_doorTakings 37 = .ok (.lmul, 1) := by decide +kernel
theorem d_X0_doorTakings_38 : decode cX0_doorTakings 38 = .ok (.aload_n 0, 1) := by decide +kernel
theorem d_X0_doorTakings_39 : decode cX0_doorTakings 39 = .ok (.getfield 18, 3) := by decide +kernel
theorem d_X0_doorTakings_42 : decode cX0_doorTakings 42 = .ok (.iload 7, 2) := by decide +kernel
theorem d_X0_doorTakings_44 : decode cX0_doorTakings 44 = .ok (.iconst 1, 1) := by decide +kernel
theorem d_X0_doorTakings_45 : decode cX0_doorTakings 45 = .ok (.invokevirtual 93, 3) := by decide +kernel
theorem d_X0_doorTakings_48 : decode cX0_doorTakings 48 = .ok (.i2l, 1) := by decide +kernel
theorem d_X0_doorTakings_49 : decode cX0_doorTakings 49 = .ok (.lmul, 1) := by decide +kernel
theorem d_X0_doorTakings_50 : decode cX0_doorTakings 50 = .ok (.ldc2_w 97, 3) := by decide +kernel
theorem d_X0_doorTakings_53 : decode cX0_doorTakings 53 = .ok (.ldiv, 1) := by decide +kernel
theorem d_X0_doorTakings_54 : decode cX0_doorTakings 54 = .ok (.ladd, 1) := by decide +kernel
theorem d_X0_doorTakings_55 : decode cX0_doorTakings 55 = .ok (.lstore 5, 2) := by decide +kernel
theorem d_X0_doorTakings_57 : decode cX0_doorTakings 57 = .ok (.iinc 7 1, 3) := by decide +kernel
theorem d_X0_doorTakings_60 : decode cX0_doorTakings 60 = .ok (.goto (-46), 3) := by decide +kernel
theorem d_X0_doorTakings_63 : decode cX0_doorTakings 63 = .ok (.lload 5, 2) := by decide +kernel
theorem d_X0_doorTakings_65 : decode cX0_doorTakings 65 = .ok (.lreturn, 1) := by decide +kernel
def l_X0_doorTakings_14 (p2 : Int64) (p4 : Option Nat) (h : AH) (s : (Int64 × Int32)) : Option ((Int64 × Int32) ⊕ Int64) := bd (gR h 13 1) fun t2 => if LAY t2 = (0, 8) then if (gI h t2 2) ≤ s.2 then some (.inr s.1) else bd p4 fun t3 => if LAY t3 = (0, 2) then bd (s_X2_comingOn t3 s.2 h) fun x4 => bd (gR h 13 1) fun t5 => if LAY t5 = (0, 8) then bd (s_X8_ofEvening t5 s.2 1 h) fun x6 => bd (ldivF ((p2 * x4.toInt64) * x6.toInt64) 1000000) fun x7 => some (.inl ((s.1 + x7), s.2 + 1)) else none else none else none
theorem tb_X0_doorTakings_14 {g : GP} {X : MX} {mcR msR : Nat} (hF : gF g = true) (hX : Cx g RX0 cX0_doorTakings 3 mcR msR (some .long) [] X) {Q : State → Prop} {p2 : Int64} {p4 : Option Nat} {s : (Int64 × Int32)} {d1 : Value} {h : AH} {z : ((Int64 × Int32) ⊕ Int64)} (e : l_X0_doorTakings_14 p2 p4 h s = some z) (kI : ∀ (s2 : (Int64 × Int32)) (xd1 : Value), z = .inl s2 → AR g X 0 0 Q h 14 [.ref 13, xd1, .long p2, jk, rfV p4, .long s2.1, jk, .int s2.2] []) (kE0 : ∀ (yy : Int64) (y0 : Value) (y1 : Value) (y2 : Value) (y3 : Value) (y4 : Value) (y7 : Value), z = .inr yy → AR g X 0 0 Q h 63 [y0, y1, y2, y3, y4, .long yy, jk, y7] []) : AR g X 0 0 Q h 14 [.ref 13, d1, .long p2, jk, rfV p4, .long s.1, jk, .int s.2] [] := by
  unfold l_X0_doorTakings_14 at e
  refine aw_iload (i := 7) hX rfl d_X0_doorTakings_14 ?_
  refine aw_aload_n (i := 0) hX rfl rfl d_X0_doorTakings_16 ?_
  obtain ⟨t2, f_157, e_157⟩ := bd_some e
  clear e
  obtain ⟨hlt2, e_158⟩ := if_some e_157
  clear e_157
  refine ar_getR hX fg_RX0_18 rfl f_157 d_X0_doorTakings_17 ?_
  refine ar_getI hX fg_RX0_86 (by assumption) d_X0_doorTakings_20 ?_
  refine aw_icmp_ge (t := 63) hX (by decide) d_X0_doorTakings_23 (fun c => ?_) (fun c => ?_)
  · rw [if_pos c] at e_158
    cases e_158
    exact kE0 s.1 _ _ _ _ _ _ rfl
  · rw [if_neg c] at e_158
    refine aw_lload (i := 5) hX rfl d_X0_doorTakings_26 ?_
    refine aw_lload_n (i := 2) hX rfl rfl d_X0_doorTakings_28 ?_
    refine aw_aloadO (i := 4) (o := p4) hX rfl d_X0_doorTakings_29 ?_
    refine aw_iload (i := 7) hX rfl d_X0_doorTakings_31 ?_
    obtain ⟨t3, f_159, e_159⟩ := bd_some e_158
    clear e_158
    obtain ⟨hlt3, e_160⟩ := if_some e_159
    clear e_159
    subst f_159
    obtain ⟨x4, f_161, e_161⟩ := bd_some e_160
    clear e_160
    refine aw_callV (b := t3) (av := [.int s.2]) (avr := [.int s.2]) hX (k_X2_comingOn (cx_g hX) hF f_161) mi_X2_comingOn rfl rfl w_112 w_113 w_114 (by decide) (by assumption) (LAY_lt (by assumption) (by decide)) rfl rfl (Nat.le_of_ble_eq_true rfl) (Nat.zero_le _) (Nat.zero_le _) d_X0_doorTakings_33 ?_
    refine aw_i2l hX d_X0_doorTakings_36 ?_
    refine aw_lmul hX d_X0_doorTakings_37 ?_
    refine aw_aload_n (i := 0) hX rfl rfl d_X0_doorTakings_38 ?_
    obtain ⟨t5, f_162, e_162⟩ := bd_some e_161
    clear e_161
    obtain ⟨hlt5, e_163⟩ := if_some e_162
    clear e_162
    refine ar_getR hX fg_RX0_18 rfl f_162 d_X0_doorTakings_39 ?_
    refine aw_iload (i := 7) hX rfl d_X0_doorTakings_42 ?_
    refine aw_iconst (v := 1) hX (by decide) d_X0_doorTakings_44 ?_
    obtain ⟨x6, f_164, e_164⟩ := bd_some e_163
    clear e_163
    refine aw_callV (b := t5) (av := [.int s.2, .int 1]) (avr := [.int 1, .int s.2]) hX (k_X8_ofEvening (cx_g hX) hF f_164) mi_X8_ofEvening rfl rfl w_115 w_33 w_34 (by decide) (by assumption) (LAY_lt (by assumption) (by decide)) rfl rfl (Nat.le_of_ble_eq_true rfl) (Nat.zero_le _) (Nat.zero_le _) d_X0_doorTakings_45 ?_
    refine aw_i2l hX d_X0_doorTakings_48 ?_
    refine aw_lmul hX d_X0_doorTakings_49 ?_
    refine aw_ldc2 hX w_116 d_X0_doorTakings_50 ?_
    obtain ⟨x7, f_165, e_165⟩ := bd_some e_164
    clear e_164
    refine ar_ldiv hX f_165 d_X0_doorTakings_53 ?_
    refine aw_ladd hX d_X0_doorTakings_54 ?_
    refine aw_lstore (i := 5) (lv2 := [.ref 13, d1, .long p2, jk, .ref t3, .long (s.1 + x7), jk, .int s.2]) hX rfl rfl d_X0_doorTakings_55 ?_
    refine aw_iinc (i := 7) (lv2 := [.ref 13, d1, .long p2, jk, .ref t3, .long (s.1 + x7), jk, .int (s.2 + 1)]) hX rfl rfl rfl rfl d_X0_doorTakings_57 ?_
    refine aw_goto (t := 14) hX (by decide) d_X0_doorTakings_60 ?_
    cases e_165
    exact kI ((s.1 + x7), s.2 + 1) _ rfl
theorem ti_X0_doorTakings_14 {g : GP} {X : MX} {mcR msR : Nat} (hF : gF g = true) (hX : Cx g RX0 cX0_doorTakings 3 mcR msR (some .long) [] X) {Q : State → Prop} {p2 : Int64} {p4 : Option Nat} {y : Int64} {h : AH} (kE0 : ∀ (y_0 : Value) (y_1 : Value) (y_2 : Value) (y_3 : Value) (y_4 : Value) (y_7 : Value), AR g X 0 0 Q h 63 [y_0, y_1, y_2, y_3, y_4, .long y, jk, y_7] []) (n : Nat) : ∀ (s : (Int64 × Int32)) (d1 : Value), lpP (l_X0_doorTakings_14 p2 p4 h) n s = some y → AR g X 0 0 Q h 14 [.ref 13, d1, .long p2, jk, rfV p4, .long s.1, jk, .int s.2] [] := by
  induction n with
  | zero => intro s d1 e; cases e
  | succ n ih =>
    intro s d1 e
    obtain ⟨x, e1, e2⟩ := lpP_succ e
    rcases e2 with ⟨s2, rfl, e3⟩ | rfl
    · exact tb_X0_doorTakings_14 hF hX e1 (fun s3 x0 hs => by cases hs; exact ih _ _  e3) (fun yy x0 x1 x2 x3 x4 x5 hy => by cases hy)
    · exact tb_X0_doorTakings_14 hF hX e1 (fun s3 x0 hs => by cases hs) (fun yy x0 x1 x2 x3 x4 x5 hy => by cases hy; exact kE0 x0 x1 x2 x3 x4 x5)
theorem t_X0_doorTakings_14 {g : GP} {X : MX} {mcR msR : Nat} (hF : gF g = true) (hX : Cx g RX0 cX0_doorTakings 3 mcR msR (some .long) [] X) {Q : State → Prop} {p2 : Int64} {p4 : Option Nat} {s : (Int64 × Int32)} {d1 : Value} {h : AH} {n : Nat} {y : Int64} (e : lpP (l_X0_doorTakings_14 p2 p4 h) n s = some y) (kE0 : ∀ (y_0 : Value) (y_1 : Value) (y_2 : Value) (y_3 : Value) (y_4 : Value) (y_7 : Value), AR g X 0 0 Q h 63 [y_0, y_1, y_2, y_3, y_4, .long y, jk, y_7] []) : AR g X 0 0 Q h 14 [.ref 13, d1, .long p2, jk, rfV p4, .long s.1, jk, .int s.2] [] := ti_X0_doorTakings_14 hF hX kE0 n _ _  e
def s_X0_doorTakings (a0 : Int32) (a1 : Int64) (h : AH) : Option Int64 := bd (s_X0_planOf a0 0 h) fun x1 => bd (lpP (l_X0_doorTakings_14 a1 x1 h) FU (0, 0)) fun y8 => some y8
theorem t_X0_doorTakings {g : GP} {X : MX} {mcR msR : Nat} (hF : gF g = true) (hX : Cx g RX0 cX0_doorTakings 3 mcR msR (some .long) [] X) {a0 : Int32} {a1 : Int64} {h : AH} {z : Int64} (e : s_X0_doorTakings a0 a1 h = some z) : AR g X 0 0 (QQ g X NT false h (.inl (some (.long z))) 0 0) h 0 [.ref 13, .int a0, .long a1, jk, jk, jk, jk, jk] [] := by
  unfold s_X0_doorTakings at e
  refine aw_aload_n (i := 0) hX rfl rfl d_X0_doorTakings_0 ?_
  refine aw_iload_n (i := 1) hX rfl rfl d_X0_doorTakings_1 ?_
  refine aw_iconst (v := 0) hX (by decide) d_X0_doorTakings_2 ?_
  obtain ⟨x1, f_166, e_166⟩ := bd_some e
  clear e
  refine aw_callV (b := 13) (av := [.int a0, .int 0]) (avr := [.int 0, .int a0]) hX (k_X0_planOf (cx_g hX) hF f_166) mi_X0_planOf rfl rfl w_14 w_15 w_16 (by decide) rfl (LAY_lt rfl (by decide)) rfl rfl (Nat.le_of_ble_eq_true rfl) (Nat.zero_le _) (Nat.zero_le _) d_X0_doorTakings_3 ?_
  refine aw_astoreO (i := 4) (lv2 := [.ref 13, .int a0, .long a1, jk, rfV x1, jk, jk, jk]) hX rfl rfl d_X0_doorTakings_6 ?_
  refine aw_lconst (v := 0) hX (by decide) d_X0_doorTakings_8 ?_
  refine aw_lstore (i := 5) (lv2 := [.ref 13, .int a0, .long a1, jk, rfV x1, .long 0, jk, jk]) hX (by show List.set (List.set (List.set _ _ (uncV (rfV _))) _ _) _ _ = _; rw [uncV_rfV]; rfl) rfl d_X0_doorTakings_9 ?_
  refine aw_iconst (v := 0) hX (by decide) d_X0_doorTakings_11 ?_
  refine aw_istore (i := 7) (lv2 := [.ref 13, .int a0, .long a1, jk, rfV x1, .long 0, jk, .int 0]) hX rfl rfl d_X0_doorTakings_12 ?_
  obtain ⟨y8, f_167, e_167⟩ := bd_some e_166
  clear e_166
  refine t_X0_doorTakings_14 hF hX f_167 (fun d9_0 d9_1 d9_2 d9_3 d9_4 d9_7 => ?_)
  refine aw_lload (i := 5) hX rfl d_X0_doorTakings_63 ?_
  cases e_167
  exact aw_lreturn hX (Nat.zero_le _) (Nat.zero_le _) d_X0_doorTakings_65
theorem k_X0_doorTakings {g : GP} (hg : g.1.stackTraces = false) (hF : gF g = true) {a0 : Int32} {a1 : Int64} {h : AH} {z : Int64} (e : s_X0_doorTakings a0 a1 h = some z) : Ctr g yX0_doorTakings (wsY yX0_doorTakings cX0_doorTakings 8 (some .long)) 3 0 0 [.ref 13, .int a0, .long a1] NT false h (some (.long z)) NT false h := ctr_of (lv0 := [.ref 13, .int a0, .long a1, jk, jk, jk, jk, jk]) rfl rfl (by decide) hg trivial (fun X hX hn => t_X0_doorTakings hF hX e)
theorem d_X0_takings_0 : decode cX0_takings 0 = .ok (.lconst 0, 1) := by decide +kernel
theorem d_X0_takings_1 : decode cX0_takings 1 = .ok (.lstore 4, 2) := by decide +kernel
theorem d_X0_takings_3 : decode cX0_takings 3 = .ok (.iconst 0, 1) := by decide +kernel
theorem d_X0_takings_4 : decode cX0_takings 4 = .ok (.istore 6, 2) := by decide +kernel
theorem d_X0_takings_6 : decode cX0_takings 6 = .ok (.iload 6, 2) := by decide +kernel
theorem d_X0_takings_8 : decode cX0_takings 8 = .ok (.aload_n 0, 1) := by decide +kernel
theorem d_X0_takings_9 : decode cX0_takings 9 = .ok (.getfield 18, 3) := by decide +kernel
theorem d_X0_takings_12 : decode cX0_takings 12 = .ok (.getfield 38, 3) := by decide +kernel
theorem d_X0_takings_15 : decode cX0_takings 15 = .ok (.if_icmp .ge 61, 3) := by decide +kernel
theorem d_X0_takings_18 : decode cX0_takings 18 = .ok (.aload_n 3, 1) := by decide +kernel
theorem d_X0_takings_19 : decode cX0_takings 19 = .ok (.iload 6, 2) := by decide +kernel
theorem d_X0_takings_21 : decode cX0_takings 21 = .ok (.invokestatic 72, 3) := by decide +kernel
theorem d_X0_takings_24 : decode cX0_takings 24 = .ok (.i2l, 1) := by decide +kernel
theorem d_X0_takings_25 : decode cX0_takings 25 = .ok (.lstore 7, 2) := by decide +kernel
theorem d_X0_takings_27 : decode cX0_takings 27 = .ok (.aload_n 1, 1) := by decide +kernel
theorem d_X0_takings_28 : decode cX0_takings 28 = .ok (.iload 6, 2) := by decide +kernel
theorem d_X0_takings_30 : decode cX0_takings 30 = .ok (.invokestatic 72, 3) := by decide +kernel
theorem d_X0_takings_33 : decode cX0_takings 33 = .ok (.istore 9, 2) := by decide +kernel
theorem d_X0_takings_35 : decode cX0_takings 35 = .ok (.lload 4, 2) := by decide +kernel
theorem d_X0_takings_37 : decode cX0_takings 37 = .ok (.iload 9, 2) := by decide +kernel
theorem d_X0_takings_39 : decode cX0_takings 39 = .ok (.ifCond .ne 14, 3) := by decide +kernel
theorem d_X0_takings_42 : decode cX0_takings 42 = .ok (.aload_n 0, 1) := by decide +kernel
theorem d_X0_takings_43 : decode cX0_takings 43 = .ok (.iload 6, 2) := by decide +kernel
theorem d_X0_takings_45 : decode cX0_takings 45 = .ok (.lload 7, 2) := by decide +kernel
theorem d_X0_takings_47 : decode cX0_takings 47 = .ok (.invokevirtual 82, 3) := by decide +kernel
theorem d_X0_takings_50 : decode cX0_takings 50 = .ok (.goto 17, 3) := by decide +kernel
theorem d_X0_takings_53 : decode cX0_takings 53 = .ok (.lload 7, 2) := by decide +kernel
theorem d_X0_takings_55 : decode cX0_takings 55 = .ok (.ldc2_w 80, 3) := by decide +kernel
theorem d_X0_takings_58 : decode cX0_takings 58 = .ok (.lmul, 1) := by decide +kernel
theorem d_X0_takings_59 : decode cX0_takings 59 = .ok (.aload_n 2, 1) := by decide +kernel
theorem d_X0_takings_60 : decode cX0_takings 60 = .ok (.iload 9, 2) := by decide +kernel
theorem d_X0_takings_62 : decode cX0_takings 62 = .ok (.invokestatic 72, 3) := by decide +kernel
theorem d_X0_takings_65 : decode cX0_takings 65 = .ok (.i2l, 1) := by decide +kernel
theorem d_X0_takings_66 : decode cX0_takings 66 = .ok (.lmul, 1) := by decide +kernel
theorem d_X0_takings_67 : decode cX0_takings 67 = .ok (.ladd, 1) := by decide +kernel
theorem d_X0_takings_68 : decode cX0_takings 68 = .ok (.lstore 4, 2) := by decide +kernel
theorem d_X0_takings_70 : decode cX0_takings 70 = .ok (.iinc 6 1, 3) := by decide +kernel
theorem d_X0_takings_73 : decode cX0_takings 73 = .ok (.goto (-67), 3) := by decide +kernel
theorem d_X0_takings_76 : decode cX0_takings 76 = .ok (.lload 4, 2) := by decide +kernel
theorem d_X0_takings_78 : decode cX0_takings 78 = .ok (.lreturn, 1) := by decide +kernel
def j_X0_takings_67_6 (p1 : Option Nat) (p2 : Option Nat) (p3 : Option Nat) (v6 : Int32) (k0 : Int64) (k1 : Int64) (h : AH) : Option ((Int64 × Int32) ⊕ Int64) := some (.inl ((k1 + k0), v6 + 1))
theorem tj_X0_takings_67_6 {g : GP} {X : MX} {mcR msR : Nat} (hF : gF g = true) (hX : Cx g RX0 cX0_takings 4 mcR msR (some .long) [] X) {Q : State → Prop} {p1 : Option Nat} {p2 : Option Nat} {p3 : Option Nat} {v6 : Int32} {k0 : Int64} {k1 : Int64} {d4 : Value} {d5 : Value} {d7 : Value} {d8 : Value} {d9 : Value} {h : AH} {z : ((Int64 × Int32) ⊕ Int64)} (e : j_X0_takings_67_6 p1 p2 p3 v6 k0 k1 h = some z) (kI : ∀ (s2 : (Int64 × Int32)) (xd7 : Value) (xd8 : Value) (xd9 : Value), z = .inl s2 → AR g X 0 0 Q h 6 [.ref 13, rfV p1, rfV p2, rfV p3, .long s2.1, jk, .int s2.2, xd7, xd8, xd9] []) (kE0 : ∀ (yy : Int64) (y0 : Value) (y1 : Value) (y2 : Value) (y3 : Value) (y6 : Value) (y7 : Value) (y8 : Value) (y9 : Value), z = .inr yy → AR g X 0 0 Q h 76 [y0, y1, y2, y3, .long yy, jk, y6, y7, y8, y9] []) : AR g X 0 0 Q h 67 [.ref 13, rfV p1, rfV p2, rfV p3, d4, d5, .int v6, d7, d8, d9] [.long k0, .long k1] := by
  unfold j_X0_takings_67_6 at e
  refine aw_ladd hX d_X0_takings_67 ?_
  refine aw_lstore (i := 4) (lv2 := [.ref 13, rfV p1, rfV p2, rfV p3, .long (k1 + k0), jk, .int v6, d7, d8, d9]) hX (by show List.set (List.set (List.set _ _ (uncV (rfV _))) _ _) _ _ = _; rw [uncV_rfV]; rfl) rfl d_X0_takings_68 ?_
  refine aw_iinc (i := 6) (lv2 := [.ref 13, rfV p1, rfV p2, rfV p3, .long (k1 + k0), jk, .int (v6 + 1), d7, d8, d9]) hX rfl rfl rfl rfl d_X0_takings_70 ?_
  refine aw_goto (t := 6) hX (by decide) d_X0_takings_73 ?_
  cases e
  exact kI ((k1 + k0), v6 + 1) _ _ _ rfl
def l_X0_takings_6 (p1 : Option Nat) (p2 : Option Nat) (p3 : Option Nat) (h : AH) (s : (Int64 × Int32)) : Option ((Int64 × Int32) ⊕ Int64) := bd (gR h 13 1) fun t1 => if LAY t1 = (0, 8) then if (gI h t1 3) ≤ s.2 then some (.inr s.1) else bd (s_X9_at p3 s.2 h) fun x2 => bd (s_X9_at p1 s.2 h) fun x3 => if x3 = 0 then bd (s_X0_doorTakings s.2 x2.toInt64 h) fun x5 => j_X0_takings_67_6 p1 p2 p3 s.2 x5 s.1 h else bd (s_X9_at p2 x3 h) fun x4 => j_X0_takings_67_6 p1 p2 p3 s.2 ((x2.toInt64 * 1000) * x4.toInt64) s.1 h else none
theorem tb_X0_takings_6 {g : GP} {X : MX} {mcR msR : Nat} (hF : gF g = true) (hX : Cx g RX0 cX0_takings 4 mcR msR (some .long) [] X) {Q : State → Prop} {p1 : Option Nat} {p2 : Option Nat} {p3 : Option Nat} {s : (Int64 × Int32)} {d7 : Value} {d8 : Value} {d9 : Value} {h : AH} {z : ((Int64 × Int32) ⊕ Int64)} (e : l_X0_takings_6 p1 p2 p3 h s = some z) (kI : ∀ (s2 : (Int64 × Int32)) (xd7 : Value) (xd8 : Value) (xd9 : Value), z = .inl s2 → AR g X 0 0 Q h 6 [.ref 13, rfV p1, rfV p2, rfV p3, .long s2.1, jk, .int s2.2, xd7, xd8, xd9] []) (kE0 : ∀ (yy : Int64) (y0 : Value) (y1 : Value) (y2 : Value) (y3 : Value) (y6 : Value) (y7 : Value) (y8 : Value) (y9 : Value), z = .inr yy → AR g X 0 0 Q h 76 [y0, y1, y2, y3, .long yy, jk, y6, y7, y8, y9] []) : AR g X 0 0 Q h 6 [.ref 13, rfV p1, rfV p2, rfV p3, .long s.1, jk, .int s.2, d7, d8, d9] [] := by
  unfold l_X0_takings_6 at e
  refine aw_iload (i := 6) hX rfl d_X0_takings_6 ?_
  refine aw_aload_n (i := 0) hX rfl rfl d_X0_takings_8 ?_
  obtain ⟨t1, f_168, e_168⟩ := bd_some e
  clear e
  obtain ⟨hlt1, e_169⟩ := if_some e_168
  clear e_168
  refine ar_getR hX fg_RX0_18 rfl f_168 d_X0_takings_9 ?_
  refine ar_getI hX fg_RX0_38 (by assumption) d_X0_takings_12 ?_
  refine aw_icmp_ge (t := 76) hX (by decide) d_X0_takings_15 (fun c => ?_) (fun c => ?_)
  · rw [if_pos c] at e_169
    cases e_169
    exact kE0 s.1 _ _ _ _ _ _ _ _ rfl
  · rw [if_neg c] at e_169
    refine aw_aloadO_n (i := 3) (o := p3) hX rfl rfl d_X0_takings_18 ?_
    refine aw_iload (i := 6) hX rfl d_X0_takings_19 ?_
    obtain ⟨x2, f_170, e_170⟩ := bd_some e_169
    clear e_169
    refine aw_callSN (av := [rfV p3, .int s.2]) (avr := [.int s.2, rfV p3]) hX (k_X9_at (cx_g hX) hF f_170) mi_X9_at rfl rfl nx8 w_6 (by decide) (Nat.le_of_ble_eq_true rfl) (Nat.zero_le _) (Nat.zero_le _) d_X0_takings_21 ?_
    refine aw_i2l hX d_X0_takings_24 ?_
    refine aw_lstore (i := 7) (lv2 := [.ref 13, rfV p1, rfV p2, rfV p3, .long s.1, jk, .int s.2, .long x2.toInt64, jk, d9]) hX rfl rfl d_X0_takings_25 ?_
    refine aw_aloadO_n (i := 1) (o := p1) hX rfl rfl d_X0_takings_27 ?_
    refine aw_iload (i := 6) hX rfl d_X0_takings_28 ?_
    obtain ⟨x3, f_171, e_171⟩ := bd_some e_170
    clear e_170
    refine aw_callSN (av := [rfV p1, .int s.2]) (avr := [.int s.2, rfV p1]) hX (k_X9_at (cx_g hX) hF f_171) mi_X9_at rfl rfl nx8 w_6 (by decide) (Nat.le_of_ble_eq_true rfl) (Nat.zero_le _) (Nat.zero_le _) d_X0_takings_30 ?_
    refine aw_istore (i := 9) (lv2 := [.ref 13, rfV p1, rfV p2, rfV p3, .long s.1, jk, .int s.2, .long x2.toInt64, jk, .int x3]) hX rfl rfl d_X0_takings_33 ?_
    refine aw_lload (i := 4) hX rfl d_X0_takings_35 ?_
    refine aw_iload (i := 9) hX rfl d_X0_takings_37 ?_
    refine aw_if_ne (t := 53) hX (by decide) d_X0_takings_39 (fun c => ?_) (fun c => ?_)
    · rw [if_neg c] at e_171
      refine aw_lload (i := 7) hX rfl d_X0_takings_53 ?_
      refine aw_ldc2 hX w_22 d_X0_takings_55 ?_
      refine aw_lmul hX d_X0_takings_58 ?_
      refine aw_aloadO_n (i := 2) (o := p2) hX rfl rfl d_X0_takings_59 ?_
      refine aw_iload (i := 9) hX rfl d_X0_takings_60 ?_
      obtain ⟨x4, f_172, e_172⟩ := bd_some e_171
      clear e_171
      refine aw_callSN (av := [rfV p2, .int x3]) (avr := [.int x3, rfV p2]) hX (k_X9_at (cx_g hX) hF f_172) mi_X9_at rfl rfl nx8 w_6 (by decide) (Nat.le_of_ble_eq_true rfl) (Nat.zero_le _) (Nat.zero_le _) d_X0_takings_62 ?_
      refine aw_i2l hX d_X0_takings_65 ?_
      refine aw_lmul hX d_X0_takings_66 ?_
      exact tj_X0_takings_67_6 hF hX e_172 kI kE0
    · rw [if_pos c] at e_171
      refine aw_aload_n (i := 0) hX rfl rfl d_X0_takings_42 ?_
      refine aw_iload (i := 6) hX rfl d_X0_takings_43 ?_
      refine aw_lload (i := 7) hX rfl d_X0_takings_45 ?_
      obtain ⟨x5, f_173, e_173⟩ := bd_some e_171
      clear e_171
      refine aw_callV (b := 13) (av := [.int s.2, .long x2.toInt64]) (avr := [.long x2.toInt64, .int s.2]) hX (k_X0_doorTakings (cx_g hX) hF f_173) mi_X0_doorTakings rfl rfl w_118 w_119 w_120 (by decide) rfl (LAY_lt rfl (by decide)) rfl rfl (Nat.le_of_ble_eq_true rfl) (Nat.zero_le _) (Nat.zero_le _) d_X0_takings_47 ?_
      refine aw_goto (t := 67) hX (by decide) d_X0_takings_50 ?_
      exact tj_X0_takings_67_6 hF hX e_173 kI kE0
theorem ti_X0_takings_6 {g : GP} {X : MX} {mcR msR : Nat} (hF : gF g = true) (hX : Cx g RX0 cX0_takings 4 mcR msR (some .long) [] X) {Q : State → Prop} {p1 : Option Nat} {p2 : Option Nat} {p3 : Option Nat} {y : Int64} {h : AH} (kE0 : ∀ (y_0 : Value) (y_1 : Value) (y_2 : Value) (y_3 : Value) (y_6 : Value) (y_7 : Value) (y_8 : Value) (y_9 : Value), AR g X 0 0 Q h 76 [y_0, y_1, y_2, y_3, .long y, jk, y_6, y_7, y_8, y_9] []) (n : Nat) : ∀ (s : (Int64 × Int32)) (d7 : Value) (d8 : Value) (d9 : Value), lpP (l_X0_takings_6 p1 p2 p3 h) n s = some y → AR g X 0 0 Q h 6 [.ref 13, rfV p1, rfV p2, rfV p3, .long s.1, jk, .int s.2, d7, d8, d9] [] := by
  induction n with
  | zero => intro s d7 d8 d9 e; cases e
  | succ n ih =>
    intro s d7 d8 d9 e
    obtain ⟨x, e1, e2⟩ := lpP_succ e
    rcases e2 with ⟨s2, rfl, e3⟩ | rfl
    · exact tb_X0_takings_6 hF hX e1 (fun s3 x0 x1 x2 hs => by cases hs; exact ih _ _ _ _  e3) (fun yy x0 x1 x2 x3 x4 x5 x6 x7 hy => by cases hy)
    · exact tb_X0_takings_6 hF hX e1 (fun s3 x0 x1 x2 hs => by cases hs) (fun yy x0 x1 x2 x3 x4 x5 x6 x7 hy => by cases hy; exact kE0 x0 x1 x2 x3 x4 x5 x6 x7)
theorem t_X0_takings_6 {g : GP} {X : MX} {mcR msR : Nat} (hF : gF g = true) (hX : Cx g RX0 cX0_takings 4 mcR msR (some .long) [] X) {Q : State → Prop} {p1 : Option Nat} {p2 : Option Nat} {p3 : Option Nat} {s : (Int64 × Int32)} {d7 : Value} {d8 : Value} {d9 : Value} {h : AH} {n : Nat} {y : Int64} (e : lpP (l_X0_takings_6 p1 p2 p3 h) n s = some y) (kE0 : ∀ (y_0 : Value) (y_1 : Value) (y_2 : Value) (y_3 : Value) (y_6 : Value) (y_7 : Value) (y_8 : Value) (y_9 : Value), AR g X 0 0 Q h 76 [y_0, y_1, y_2, y_3, .long y, jk, y_6, y_7, y_8, y_9] []) : AR g X 0 0 Q h 6 [.ref 13, rfV p1, rfV p2, rfV p3, .long s.1, jk, .int s.2, d7, d8, d9] [] := ti_X0_takings_6 hF hX kE0 n _ _ _ _  e
def s_X0_takings (a0 : Option Nat) (a1 : Option Nat) (a2 : Option Nat) (h : AH) : Option Int64 := bd (lpP (l_X0_takings_6 a0 a1 a2 h) FU (0, 0)) fun y6 => some y6
theorem t_X0_takings {g : GP} {X : MX} {mcR msR : Nat} (hF : gF g = true) (hX : Cx g RX0 cX0_takings 4 mcR msR (some .long) [] X) {a0 : Option Nat} {a1 : Option Nat} {a2 : Option Nat} {h : AH} {z : Int64} (e : s_X0_takings a0 a1 a2 h = some z) : AR g X 0 0 (QQ g X NT false h (.inl (some (.long z))) 0 0) h 0 [.ref 13, rfV a0, rfV a1, rfV a2, jk, jk, jk, jk, jk, jk] [] := by
  unfold s_X0_takings at e
  refine aw_lconst (v := 0) hX (by decide) d_X0_takings_0 ?_
  refine aw_lstore (i := 4) (lv2 := [.ref 13, rfV a0, rfV a1, rfV a2, .long 0, jk, jk, jk, jk, jk]) hX (by show List.set (List.set (List.set _ _ (uncV (rfV _))) _ _) _ _ = _; rw [uncV_rfV]; rfl) rfl d_X0_takings_1 ?_
  refine aw_iconst (v := 0) hX (by decide) d_X0_takings_3 ?_
  refine aw_istore (i := 6) (lv2 := [.ref 13, rfV a0, rfV a1, rfV a2, .long 0, jk, .int 0, jk, jk, jk]) hX rfl rfl d_X0_takings_4 ?_
  obtain ⟨y6, f_174, e_174⟩ := bd_some e
  clear e
  refine t_X0_takings_6 hF hX f_174 (fun d7_0 d7_1 d7_2 d7_3 d7_6 d7_7 d7_8 d7_9 => ?_)
  refine aw_lload (i := 4) hX rfl d_X0_takings_76 ?_
  cases e_174
  exact aw_lreturn hX (Nat.zero_le _) (Nat.zero_le _) d_X0_takings_78
theorem k_X0_takings {g : GP} (hg : g.1.stackTraces = false) (hF : gF g = true) {a0 : Option Nat} {a1 : Option Nat} {a2 : Option Nat} {h : AH} {z : Int64} (e : s_X0_takings a0 a1 a2 h = some z) : Ctr g yX0_takings (wsY yX0_takings cX0_takings 10 (some .long)) 4 0 0 [.ref 13, rfV a0, rfV a1, rfV a2] NT false h (some (.long z)) NT false h := ctr_of (lv0 := [.ref 13, rfV a0, rfV a1, rfV a2, jk, jk, jk, jk, jk, jk]) (by cases a0 <;> cases a1 <;> cases a2 <;> rfl) (by cases a0 <;> cases a1 <;> cases a2 <;> rfl) (by decide) hg trivial (fun X hX hn => t_X0_takings hF hX e)
theorem d_X0_fullOf_0 : decode cX0_fullOf 0 = .ok (.aload_n 0, 1) := by decide +kernel
theorem d_X0_fullOf_1 : decode cX0_fullOf 1 = .ok (.getfield 18, 3) := by decide +kernel
theorem d_X0_fullOf_4 : decode cX0_fullOf 4 = .ok (.getfield 99, 3) := by decide +kernel
theorem d_X0_fullOf_7 : decode cX0_fullOf 7 = .ok (.iload_n 1, 1) := by decide +kernel
theorem d_X0_fullOf_8 : decode cX0_fullOf 8 = .ok (.invokestatic 72, 3) := by decide +kernel
theorem d_X0_fullOf_11 : decode cX0_fullOf 11 = .ok (.i2l, 1) := by decide +kernel
theorem d_X0_fullOf_12 : decode cX0_fullOf 12 = .ok (.aload_n 0, 1) := by decide +kernel
theorem d_X0_fullOf_13 : decode cX0_fullOf 13 = .ok (.iload_n 1, 1) := by decide +kernel
theorem d_X0_fullOf_14 : decode cX0_fullOf 14 = .ok (.iload_n 2, 1) := by decide +kernel
theorem d_X0_fullOf_15 : decode cX0_fullOf 15 = .ok (.invokevirtual 42, 3) := by decide +kernel
theorem d_X0_fullOf_18 : decode cX0_fullOf 18 = .ok (.iload_n 3, 1) := by decide +kernel
theorem d_X0_fullOf_19 : decode cX0_fullOf 19 = .ok (.invokevirtual 89, 3) := by decide +kernel
theorem d_X0_fullOf_22 : decode cX0_fullOf 22 = .ok (.i2l, 1) := by decide +kernel
theorem d_X0_fullOf_23 : decode cX0_fullOf 23 = .ok (.lmul, 1) := by decide +kernel
theorem d_X0_fullOf_24 : decode cX0_fullOf 24 = .ok (.ldc2_w 80, 3) := by decide +kernel
theorem d_X0_fullOf_27 : decode cX0_fullOf 27 = .ok (.ldiv, 1) := by decide +kernel
theorem d_X0_fullOf_28 : decode cX0_fullOf 28 = .ok (.lreturn, 1) := by decide +kernel
def s_X0_fullOf (a0 : Int32) (a1 : Int32) (a2 : Int32) (h : AH) : Option Int64 := bd (gR h 13 1) fun t1 => if LAY t1 = (0, 8) then bd (s_X9_at (some (t1 + 4)) a0 h) fun x2 => bd (s_X0_planOf a0 a1 h) fun x3 => bd x3 fun t4 => if LAY t4 = (0, 2) then bd (s_X2_comingOn t4 a2 h) fun x5 => bd (ldivF (x2.toInt64 * x5.toInt64) 1000) fun x6 => some x6 else none else none
theorem t_X0_fullOf {g : GP} {X : MX} {mcR msR : Nat} (hF : gF g = true) (hX : Cx g RX0 cX0_fullOf 3 mcR msR (some .long) [] X) {a0 : Int32} {a1 : Int32} {a2 : Int32} {h : AH} {z : Int64} (e : s_X0_fullOf a0 a1 a2 h = some z) : AR g X 0 0 (QQ g X NT false h (.inl (some (.long z))) 0 0) h 0 [.ref 13, .int a0, .int a1, .int a2] [] := by
  unfold s_X0_fullOf at e
  refine aw_aload_n (i := 0) hX rfl rfl d_X0_fullOf_0 ?_
  obtain ⟨t1, f_175, e_175⟩ := bd_some e
  clear e
  obtain ⟨hlt1, e_176⟩ := if_some e_175
  clear e_175
  refine ar_getR hX fg_RX0_18 rfl f_175 d_X0_fullOf_1 ?_
  refine ar_getF hX hF fg_RX0_99 (by assumption) d_X0_fullOf_4 ?_
  refine aw_iload_n (i := 1) hX rfl rfl d_X0_fullOf_7 ?_
  obtain ⟨x2, f_177, e_177⟩ := bd_some e_176
  clear e_176
  refine aw_callSN (av := [.ref (t1 + 4), .int a0]) (avr := [.int a0, .ref (t1 + 4)]) hX (k_X9_at (cx_g hX) hF f_177) mi_X9_at rfl rfl nx8 w_6 (by decide) (Nat.le_of_ble_eq_true rfl) (Nat.zero_le _) (Nat.zero_le _) d_X0_fullOf_8 ?_
  refine aw_i2l hX d_X0_fullOf_11 ?_
  refine aw_aload_n (i := 0) hX rfl rfl d_X0_fullOf_12 ?_
  refine aw_iload_n (i := 1) hX rfl rfl d_X0_fullOf_13 ?_
  refine aw_iload_n (i := 2) hX rfl rfl d_X0_fullOf_14 ?_
  obtain ⟨x3, f_178, e_178⟩ := bd_some e_177
  clear e_177
  refine aw_callV (b := 13) (av := [.int a0, .int a1]) (avr := [.int a1, .int a0]) hX (k_X0_planOf (cx_g hX) hF f_178) mi_X0_planOf rfl rfl w_14 w_15 w_16 (by decide) rfl (LAY_lt rfl (by decide)) rfl rfl (Nat.le_of_ble_eq_true rfl) (Nat.zero_le _) (Nat.zero_le _) d_X0_fullOf_15 ?_
  refine aw_iload_n (i := 3) hX rfl rfl d_X0_fullOf_18 ?_
  obtain ⟨t4, f_179, e_179⟩ := bd_some e_178
  clear e_178
  obtain ⟨hlt4, e_180⟩ := if_some e_179
  clear e_179
  subst f_179
  obtain ⟨x5, f_181, e_181⟩ := bd_some e_180
  clear e_180
  refine aw_callV (b := t4) (av := [.int a2]) (avr := [.int a2]) hX (k_X2_comingOn (cx_g hX) hF f_181) mi_X2_comingOn rfl rfl w_112 w_113 w_114 (by decide) (by assumption) (LAY_lt (by assumption) (by decide)) rfl rfl (Nat.le_of_ble_eq_true rfl) (Nat.zero_le _) (Nat.zero_le _) d_X0_fullOf_19 ?_
  refine aw_i2l hX d_X0_fullOf_22 ?_
  refine aw_lmul hX d_X0_fullOf_23 ?_
  refine aw_ldc2 hX w_22 d_X0_fullOf_24 ?_
  obtain ⟨x6, f_182, e_182⟩ := bd_some e_181
  clear e_181
  refine ar_ldiv hX f_182 d_X0_fullOf_27 ?_
  cases e_182
  exact aw_lreturn hX (Nat.zero_le _) (Nat.zero_le _) d_X0_fullOf_28
theorem k_X0_fullOf {g : GP} (hg : g.1.stackTraces = false) (hF : gF g = true) {a0 : Int32} {a1 : Int32} {a2 : Int32} {h : AH} {z : Int64} (e : s_X0_fullOf a0 a1 a2 h = some z) : Ctr g yX0_fullOf (wsY yX0_fullOf cX0_fullOf 4 (some .long)) 3 0 0 [.ref 13, .int a0, .int a1, .int a2] NT false h (some (.long z)) NT false h := ctr_of (lv0 := [.ref 13, .int a0, .int a1, .int a2]) rfl rfl (by decide) hg trivial (fun X hX hn => t_X0_fullOf hF hX e)
theorem d_X0_fullOn_0 : decode cX0_fullOn 0 = .ok (.lconst 0, 1) := by decide +kernel
theorem d_X0_fullOn_1 : decode cX0_fullOn 1 = .ok (.lstore_n 3, 1) := by decide +kernel
theorem d_X0_fullOn_2 : decode cX0_fullOn 2 = .ok (.iconst 0, 1) := by decide +kernel
theorem d_X0_fullOn_3 : decode cX0_fullOn 3 = .ok (.istore 5, 2) := by decide +kernel
theorem d_X0_fullOn_5 : decode cX0_fullOn 5 = .ok (.iload 5, 2) := by decide +kernel
theorem d_X0_fullOn_7 : decode cX0_fullOn 7 = .ok (.aload_n 0, 1) := by decide +kernel
theorem d_X0_fullOn_8 : decode cX0_fullOn 8 = .ok (.getfield 18, 3) := by decide +kernel
theorem d_X0_fullOn_11 : decode cX0_fullOn 11 = .ok (.getfield 38, 3) := by decide +kernel
theorem d_X0_fullOn_14 : decode cX0_fullOn 14 = .ok (.if_icmp .ge 25, 3) := by decide +kernel
theorem d_X0_fullOn_17 : decode cX0_fullOn 17 = .ok (.lload_n 3, 1) := by decide +kernel
theorem d_X0_fullOn_18 : decode cX0_fullOn 18 = .ok (.aload_n 0, 1) := by decide +kernel
theorem d_X0_fullOn_19 : decode cX0_fullOn 19 = .ok (.iload 5, 2) := by decide +kernel
theorem d_X0_fullOn_21 : decode cX0_fullOn 21 = .ok (.aload_n 2, 1) := by decide +kernel
theorem d_X0_fullOn_22 : decode cX0_fullOn 22 = .ok (.iload 5, 2) := by decide +kernel
theorem d_X0_fullOn_24 : decode cX0_fullOn 24 = .ok (.invokestatic 72, 3) := by decide +kernel
theorem d_X0_fullOn_27 : decode cX0_fullOn 27 = .ok (.iload_n 1, 1) := by decide +kernel
theorem d_X0_fullOn_28 : decode cX0_fullOn 28 = .ok (.invokevirtual 102, 3) := by decide +kernel
theorem d_X0_fullOn_31 : decode cX0_fullOn 31 = .ok (.ladd, 1) := by decide +kernel
theorem d_X0_fullOn_32 : decode cX0_fullOn 32 = .ok (.lstore_n 3, 1) := by decide +kernel
theorem d_X0_fullOn_33 : decode cX0_fullOn 33 = .ok (.iinc 5 1, 3) := by decide +kernel
theorem d_X0_fullOn_36 : decode cX0_fullOn 36 = .ok (.goto (-31), 3) := by decide +kernel
theorem d_X0_fullOn_39 : decode cX0_fullOn 39 = .ok (.lload_n 3, 1) := by decide +kernel
theorem d_X0_fullOn_40 : decode cX0_fullOn 40 = .ok (.lreturn, 1) := by decide +kernel
def l_X0_fullOn_5 (p1 : Int32) (p2 : Option Nat) (h : AH) (s : (Int64 × Int32)) : Option ((Int64 × Int32) ⊕ Int64) := bd (gR h 13 1) fun t1 => if LAY t1 = (0, 8) then if (gI h t1 3) ≤ s.2 then some (.inr s.1) else bd (s_X9_at p2 s.2 h) fun x2 => bd (s_X0_fullOf s.2 x2 p1 h) fun x3 => some (.inl ((s.1 + x3), s.2 + 1)) else none
theorem tb_X0_fullOn_5 {g : GP} {X : MX} {mcR msR : Nat} (hF : gF g = true) (hX : Cx g RX0 cX0_fullOn 4 mcR msR (some .long) [] X) {Q : State → Prop} {p1 : Int32} {p2 : Option Nat} {s : (Int64 × Int32)} {h : AH} {z : ((Int64 × Int32) ⊕ Int64)} (e : l_X0_fullOn_5 p1 p2 h s = some z) (kI : ∀ (s2 : (Int64 × Int32)), z = .inl s2 → AR g X 0 0 Q h 5 [.ref 13, .int p1, rfV p2, .long s2.1, jk, .int s2.2] []) (kE0 : ∀ (yy : Int64) (y0 : Value) (y1 : Value) (y2 : Value) (y5 : Value), z = .inr yy → AR g X 0 0 Q h 39 [y0, y1, y2, .long yy, jk, y5] []) : AR g X 0 0 Q h 5 [.ref 13, .int p1, rfV p2, .long s.1, jk, .int s.2] [] := by
  unfold l_X0_fullOn_5 at e
  refine aw_iload (i := 5) hX rfl d_X0_fullOn_5 ?_
  refine aw_aload_n (i := 0) hX rfl rfl d_X0_fullOn_7 ?_
  obtain ⟨t1, f_183, e_183⟩ := bd_some e
  clear e
  obtain ⟨hlt1, e_184⟩ := if_some e_183
  clear e_183
  refine ar_getR hX fg_RX0_18 rfl f_183 d_X0_fullOn_8 ?_
  refine ar_getI hX fg_RX0_38 (by assumption) d_X0_fullOn_11 ?_
  refine aw_icmp_ge (t := 39) hX (by decide) d_X0_fullOn_14 (fun c => ?_) (fun c => ?_)
  · rw [if_pos c] at e_184
    cases e_184
    exact kE0 s.1 _ _ _ _ rfl
  · rw [if_neg c] at e_184
    refine aw_lload_n (i := 3) hX rfl rfl d_X0_fullOn_17 ?_
    refine aw_aload_n (i := 0) hX rfl rfl d_X0_fullOn_18 ?_
    refine aw_iload (i := 5) hX rfl d_X0_fullOn_19 ?_
    refine aw_aloadO_n (i := 2) (o := p2) hX rfl rfl d_X0_fullOn_21 ?_
    refine aw_iload (i := 5) hX rfl d_X0_fullOn_22 ?_
    obtain ⟨x2, f_185, e_185⟩ := bd_some e_184
    clear e_184
    refine aw_callSN (av := [rfV p2, .int s.2]) (avr := [.int s.2, rfV p2]) hX (k_X9_at (cx_g hX) hF f_185) mi_X9_at rfl rfl nx8 w_6 (by decide) (Nat.le_of_ble_eq_true rfl) (Nat.zero_le _) (Nat.zero_le _) d_X0_fullOn_24 ?_
    refine aw_iload_n (i := 1) hX rfl rfl d_X0_fullOn_27 ?_
    obtain ⟨x3, f_186, e_186⟩ := bd_some e_185
    clear e_185
    refine aw_callV (b := 13) (av := [.int s.2, .int x2, .int p1]) (avr := [.int p1, .int x2, .int s.2]) hX (k_X0_fullOf (cx_g hX) hF f_186) mi_X0_fullOf rfl rfl w_123 w_124 w_125 (by decide) rfl (LAY_lt rfl (by decide)) rfl rfl (Nat.le_of_ble_eq_true rfl) (Nat.zero_le _) (Nat.zero_le _) d_X0_fullOn_28 ?_
    refine aw_ladd hX d_X0_fullOn_31 ?_
    refine aw_lstore_n (i := 3) (lv2 := [.ref 13, .int p1, rfV p2, .long (s.1 + x3), jk, .int s.2]) hX rfl (by show List.set (List.set (List.set _ _ (uncV (rfV _))) _ _) _ _ = _; rw [uncV_rfV]; rfl) rfl d_X0_fullOn_32 ?_
    refine aw_iinc (i := 5) (lv2 := [.ref 13, .int p1, rfV p2, .long (s.1 + x3), jk, .int (s.2 + 1)]) hX rfl rfl rfl rfl d_X0_fullOn_33 ?_
    refine aw_goto (t := 5) hX (by decide) d_X0_fullOn_36 ?_
    cases e_186
    exact kI ((s.1 + x3), s.2 + 1)  rfl
theorem ti_X0_fullOn_5 {g : GP} {X : MX} {mcR msR : Nat} (hF : gF g = true) (hX : Cx g RX0 cX0_fullOn 4 mcR msR (some .long) [] X) {Q : State → Prop} {p1 : Int32} {p2 : Option Nat} {y : Int64} {h : AH} (kE0 : ∀ (y_0 : Value) (y_1 : Value) (y_2 : Value) (y_5 : Value), AR g X 0 0 Q h 39 [y_0, y_1, y_2, .long y, jk, y_5] []) (n : Nat) : ∀ (s : (Int64 × Int32)), lpP (l_X0_fullOn_5 p1 p2 h) n s = some y → AR g X 0 0 Q h 5 [.ref 13, .int p1, rfV p2, .long s.1, jk, .int s.2] [] := by
  induction n with
  | zero => intro s e; cases e
  | succ n ih =>
    intro s e
    obtain ⟨x, e1, e2⟩ := lpP_succ e
    rcases e2 with ⟨s2, rfl, e3⟩ | rfl
    · exact tb_X0_fullOn_5 hF hX e1 (fun s3  hs => by cases hs; exact ih _   e3) (fun yy x0 x1 x2 x3 hy => by cases hy)
    · exact tb_X0_fullOn_5 hF hX e1 (fun s3  hs => by cases hs) (fun yy x0 x1 x2 x3 hy => by cases hy; exact kE0 x0 x1 x2 x3)
theorem t_X0_fullOn_5 {g : GP} {X : MX} {mcR msR : Nat} (hF : gF g = true) (hX : Cx g RX0 cX0_fullOn 4 mcR msR (some .long) [] X) {Q : State → Prop} {p1 : Int32} {p2 : Option Nat} {s : (Int64 × Int32)} {h : AH} {n : Nat} {y : Int64} (e : lpP (l_X0_fullOn_5 p1 p2 h) n s = some y) (kE0 : ∀ (y_0 : Value) (y_1 : Value) (y_2 : Value) (y_5 : Value), AR g X 0 0 Q h 39 [y_0, y_1, y_2, .long y, jk, y_5] []) : AR g X 0 0 Q h 5 [.ref 13, .int p1, rfV p2, .long s.1, jk, .int s.2] [] := ti_X0_fullOn_5 hF hX kE0 n _   e
def s_X0_fullOn (a0 : Int32) (a1 : Option Nat) (h : AH) : Option Int64 := bd (lpP (l_X0_fullOn_5 a0 a1 h) FU (0, 0)) fun y4 => some y4
theorem t_X0_fullOn {g : GP} {X : MX} {mcR msR : Nat} (hF : gF g = true) (hX : Cx g RX0 cX0_fullOn 4 mcR msR (some .long) [] X) {a0 : Int32} {a1 : Option Nat} {h : AH} {z : Int64} (e : s_X0_fullOn a0 a1 h = some z) : AR g X 0 0 (QQ g X NT false h (.inl (some (.long z))) 0 0) h 0 [.ref 13, .int a0, rfV a1, jk, jk, jk] [] := by
  unfold s_X0_fullOn at e
  refine aw_lconst (v := 0) hX (by decide) d_X0_fullOn_0 ?_
  refine aw_lstore_n (i := 3) (lv2 := [.ref 13, .int a0, rfV a1, .long 0, jk, jk]) hX rfl (by show List.set (List.set (List.set _ _ (uncV (rfV _))) _ _) _ _ = _; rw [uncV_rfV]; rfl) rfl d_X0_fullOn_1 ?_
  refine aw_iconst (v := 0) hX (by decide) d_X0_fullOn_2 ?_
  refine aw_istore (i := 5) (lv2 := [.ref 13, .int a0, rfV a1, .long 0, jk, .int 0]) hX rfl rfl d_X0_fullOn_3 ?_
  obtain ⟨y4, f_187, e_187⟩ := bd_some e
  clear e
  refine t_X0_fullOn_5 hF hX f_187 (fun d5_0 d5_1 d5_2 d5_5 => ?_)
  refine aw_lload_n (i := 3) hX rfl rfl d_X0_fullOn_39 ?_
  cases e_187
  exact aw_lreturn hX (Nat.zero_le _) (Nat.zero_le _) d_X0_fullOn_40
theorem k_X0_fullOn {g : GP} (hg : g.1.stackTraces = false) (hF : gF g = true) {a0 : Int32} {a1 : Option Nat} {h : AH} {z : Int64} (e : s_X0_fullOn a0 a1 h = some z) : Ctr g yX0_fullOn (wsY yX0_fullOn cX0_fullOn 6 (some .long)) 4 0 0 [.ref 13, .int a0, rfV a1] NT false h (some (.long z)) NT false h := ctr_of (lv0 := [.ref 13, .int a0, rfV a1, jk, jk, jk]) (by cases a1 <;> rfl) (by cases a1 <;> rfl) (by decide) hg trivial (fun X hX hn => t_X0_fullOn hF hX e)
theorem d_X0_fullOfAll_0 : decode cX0_fullOfAll 0 = .ok (.lconst 0, 1) := by decide +kernel
theorem d_X0_fullOfAll_1 : decode cX0_fullOfAll 1 = .ok (.lstore_n 2, 1) := by decide +kernel
theorem d_X0_fullOfAll_2 : decode cX0_fullOfAll 2 = .ok (.iconst 0, 1) := by decide +kernel
theorem d_X0_fullOfAll_3 : decode cX0_fullOfAll 3 = .ok (.istore 4, 2) := by decide +kernel
theorem d_X0_fullOfAll_5 : decode cX0_fullOfAll 5 = .ok (.iload 4, 2) := by decide +kernel
theorem d_X0_fullOfAll_7 : decode cX0_fullOfAll 7 = .ok (.aload_n 0, 1) := by decide +kernel
theorem d_X0_fullOfAll_8 : decode cX0_fullOfAll 8 = .ok (.getfield 18, 3) := by decide +kernel
theorem d_X0_fullOfAll_11 : decode cX0_fullOfAll 11 = .ok (.getfield 86, 3) := by decide +kernel
theorem d_X0_fullOfAll_14 : decode cX0_fullOfAll 14 = .ok (.if_icmp .ge 47, 3) := by decide +kernel
theorem d_X0_fullOfAll_17 : decode cX0_fullOfAll 17 = .ok (.iconst 0, 1) := by decide +kernel
theorem d_X0_fullOfAll_18 : decode cX0_fullOfAll 18 = .ok (.istore 5, 2) := by decide +kernel
theorem d_X0_fullOfAll_20 : decode cX0_fullOfAll 20 = .ok (.iload 5, 2) := by decide +kernel
theorem d_X0_fullOfAll_22 : decode cX0_fullOfAll 22 = .ok (.aload_n 0, 1) := by decide +kernel
theorem d_X0_fullOfAll_23 : decode cX0_fullOfAll 23 = .ok (.getfield 18, 3) := by decide +kernel
theorem d_X0_fullOfAll_26 : decode cX0_fullOfAll 26 = .ok (.getfield 38, 3) := by decide +kernel
theorem d_X0_fullOfAll_29 : decode cX0_fullOfAll 29 = .ok (.if_icmp .ge 26, 3) := by decide +kernel
theorem d_X0_fullOfAll_32 : decode cX0_fullOfAll 32 = .ok (.lload_n 2, 1) := by decide +kernel
theorem d_X0_fullOfAll_33 : decode cX0_fullOfAll 33 = .ok (.aload_n 0, 1) := by decide +kernel
theorem d_X0_fullOfAll_34 : decode cX0_fullOfAll 34 = .ok (.iload 5, 2) := by decide +kernel
theorem d_X0_fullOfAll_36 : decode cX0_fullOfAll 36 = .ok (.aload_n 1, 1) := by decide +kernel
theorem d_X0_fullOfAll_37 : decode cX0_fullOfAll 37 = .ok (.iload 5, 2) := by decide +kernel
theorem d_X0_fullOfAll_39 : decode cX0_fullOfAll 39 = .ok (.invokestatic 72, 3) := by decide +kernel
theorem d_X0_fullOfAll_42 : decode cX0_fullOfAll 42 = .ok (.iload 4, 2) := by decide +kernel
theorem d_X0_fullOfAll_44 : decode cX0_fullOfAll 44 = .ok (.invokevirtual 102, 3) := by decide +kernel
theorem d_X0_fullOfAll_47 : decode cX0_fullOfAll 47 = .ok (.ladd, 1) := by decide +kernel
theorem d_X0_fullOfAll_48 : decode cX0_fullOfAll 48 = .ok (.lstore_n 2, 1) := by decide +kernel
theorem d_X0_fullOfAll_49 : decode cX0_fullOfAll 49 = .ok (.iinc 5 1, 3) := by decide +kernel
theorem d_X0_fullOfAll_52 : decode cX0_fullOfAll 52 = .ok (.goto (-32), 3) := by decide +kernel
theorem d_X0_fullOfAll_55 : decode cX0_fullOfAll 55 = .ok (.iinc 4 1, 3) := by decide +kernel
theorem d_X0_fullOfAll_58 : decode cX0_fullOfAll 58 = .ok (.goto (-53), 3) := by decide +kernel
theorem d_X0_fullOfAll_61 : decode cX0_fullOfAll 61 = .ok (.lload_n 2, 1) := by decide +kernel
theorem d_X0_fullOfAll_62 : decode cX0_fullOfAll 62 = .ok (.lreturn, 1) := by decide +kernel
def l_X0_fullOfAll_20 (p1 : Option Nat) (p4 : Int32) (h : AH) (s : (Int64 × Int32)) : Option ((Int64 × Int32) ⊕ Int64) := bd (gR h 13 1) fun t2 => if LAY t2 = (0, 8) then if (gI h t2 3) ≤ s.2 then some (.inr s.1) else bd (s_X9_at p1 s.2 h) fun x3 => bd (s_X0_fullOf s.2 x3 p4 h) fun x4 => some (.inl ((s.1 + x4), s.2 + 1)) else none
theorem tb_X0_fullOfAll_20 {g : GP} {X : MX} {mcR msR : Nat} (hF : gF g = true) (hX : Cx g RX0 cX0_fullOfAll 4 mcR msR (some .long) [] X) {Q : State → Prop} {p1 : Option Nat} {p4 : Int32} {s : (Int64 × Int32)} {h : AH} {z : ((Int64 × Int32) ⊕ Int64)} (e : l_X0_fullOfAll_20 p1 p4 h s = some z) (kI : ∀ (s2 : (Int64 × Int32)), z = .inl s2 → AR g X 0 0 Q h 20 [.ref 13, rfV p1, .long s2.1, jk, .int p4, .int s2.2] []) (kE0 : ∀ (yy : Int64) (y5 : Value), z = .inr yy → AR g X 0 0 Q h 55 [.ref 13, rfV p1, .long yy, jk, .int p4, y5] []) : AR g X 0 0 Q h 20 [.ref 13, rfV p1, .long s.1, jk, .int p4, .int s.2] [] := by
  unfold l_X0_fullOfAll_20 at e
  refine aw_iload (i := 5) hX rfl d_X0_fullOfAll_20 ?_
  refine aw_aload_n (i := 0) hX rfl rfl d_X0_fullOfAll_22 ?_
  obtain ⟨t2, f_188, e_188⟩ := bd_some e
  clear e
  obtain ⟨hlt2, e_189⟩ := if_some e_188
  clear e_188
  refine ar_getR hX fg_RX0_18 rfl f_188 d_X0_fullOfAll_23 ?_
  refine ar_getI hX fg_RX0_38 (by assumption) d_X0_fullOfAll_26 ?_
  refine aw_icmp_ge (t := 55) hX (by decide) d_X0_fullOfAll_29 (fun c => ?_) (fun c => ?_)
  · rw [if_pos c] at e_189
    cases e_189
    exact kE0 s.1 _ rfl
  · rw [if_neg c] at e_189
    refine aw_lload_n (i := 2) hX rfl rfl d_X0_fullOfAll_32 ?_
    refine aw_aload_n (i := 0) hX rfl rfl d_X0_fullOfAll_33 ?_
    refine aw_iload (i := 5) hX rfl d_X0_fullOfAll_34 ?_
    refine aw_aloadO_n (i := 1) (o := p1) hX rfl rfl d_X0_fullOfAll_36 ?_
    refine aw_iload (i := 5) hX rfl d_X0_fullOfAll_37 ?_
    obtain ⟨x3, f_190, e_190⟩ := bd_some e_189
    clear e_189
    refine aw_callSN (av := [rfV p1, .int s.2]) (avr := [.int s.2, rfV p1]) hX (k_X9_at (cx_g hX) hF f_190) mi_X9_at rfl rfl nx8 w_6 (by decide) (Nat.le_of_ble_eq_true rfl) (Nat.zero_le _) (Nat.zero_le _) d_X0_fullOfAll_39 ?_
    refine aw_iload (i := 4) hX rfl d_X0_fullOfAll_42 ?_
    obtain ⟨x4, f_191, e_191⟩ := bd_some e_190
    clear e_190
    refine aw_callV (b := 13) (av := [.int s.2, .int x3, .int p4]) (avr := [.int p4, .int x3, .int s.2]) hX (k_X0_fullOf (cx_g hX) hF f_191) mi_X0_fullOf rfl rfl w_123 w_124 w_125 (by decide) rfl (LAY_lt rfl (by decide)) rfl rfl (Nat.le_of_ble_eq_true rfl) (Nat.zero_le _) (Nat.zero_le _) d_X0_fullOfAll_44 ?_
    refine aw_ladd hX d_X0_fullOfAll_47 ?_
    refine aw_lstore_n (i := 2) (lv2 := [.ref 13, rfV p1, .long (s.1 + x4), jk, .int p4, .int s.2]) hX rfl (by show List.set (List.set (List.set _ _ (uncV (rfV _))) _ _) _ _ = _; rw [uncV_rfV]; rfl) rfl d_X0_fullOfAll_48 ?_
    refine aw_iinc (i := 5) (lv2 := [.ref 13, rfV p1, .long (s.1 + x4), jk, .int p4, .int (s.2 + 1)]) hX rfl rfl rfl rfl d_X0_fullOfAll_49 ?_
    refine aw_goto (t := 20) hX (by decide) d_X0_fullOfAll_52 ?_
    cases e_191
    exact kI ((s.1 + x4), s.2 + 1)  rfl
theorem ti_X0_fullOfAll_20 {g : GP} {X : MX} {mcR msR : Nat} (hF : gF g = true) (hX : Cx g RX0 cX0_fullOfAll 4 mcR msR (some .long) [] X) {Q : State → Prop} {p1 : Option Nat} {p4 : Int32} {y : Int64} {h : AH} (kE0 : ∀ (y_5 : Value), AR g X 0 0 Q h 55 [.ref 13, rfV p1, .long y, jk, .int p4, y_5] []) (n : Nat) : ∀ (s : (Int64 × Int32)), lpP (l_X0_fullOfAll_20 p1 p4 h) n s = some y → AR g X 0 0 Q h 20 [.ref 13, rfV p1, .long s.1, jk, .int p4, .int s.2] [] := by
  induction n with
  | zero => intro s e; cases e
  | succ n ih =>
    intro s e
    obtain ⟨x, e1, e2⟩ := lpP_succ e
    rcases e2 with ⟨s2, rfl, e3⟩ | rfl
    · exact tb_X0_fullOfAll_20 hF hX e1 (fun s3  hs => by cases hs; exact ih _   e3) (fun yy x0 hy => by cases hy)
    · exact tb_X0_fullOfAll_20 hF hX e1 (fun s3  hs => by cases hs) (fun yy x0 hy => by cases hy; exact kE0 x0)
theorem t_X0_fullOfAll_20 {g : GP} {X : MX} {mcR msR : Nat} (hF : gF g = true) (hX : Cx g RX0 cX0_fullOfAll 4 mcR msR (some .long) [] X) {Q : State → Prop} {p1 : Option Nat} {p4 : Int32} {s : (Int64 × Int32)} {h : AH} {n : Nat} {y : Int64} (e : lpP (l_X0_fullOfAll_20 p1 p4 h) n s = some y) (kE0 : ∀ (y_5 : Value), AR g X 0 0 Q h 55 [.ref 13, rfV p1, .long y, jk, .int p4, y_5] []) : AR g X 0 0 Q h 20 [.ref 13, rfV p1, .long s.1, jk, .int p4, .int s.2] [] := ti_X0_fullOfAll_20 hF hX kE0 n _   e
def l_X0_fullOfAll_5 (p1 : Option Nat) (h : AH) (s : (Int64 × Int32)) : Option ((Int64 × Int32) ⊕ Int64) := bd (gR h 13 1) fun t1 => if LAY t1 = (0, 8) then if (gI h t1 2) ≤ s.2 then some (.inr s.1) else bd (lpP (l_X0_fullOfAll_20 p1 s.2 h) FU (s.1, 0)) fun y5 => some (.inl (y5, s.2 + 1)) else none
theorem tb_X0_fullOfAll_5 {g : GP} {X : MX} {mcR msR : Nat} (hF : gF g = true) (hX : Cx g RX0 cX0_fullOfAll 4 mcR msR (some .long) [] X) {Q : State → Prop} {p1 : Option Nat} {s : (Int64 × Int32)} {d5 : Value} {h : AH} {z : ((Int64 × Int32) ⊕ Int64)} (e : l_X0_fullOfAll_5 p1 h s = some z) (kI : ∀ (s2 : (Int64 × Int32)) (xd5 : Value), z = .inl s2 → AR g X 0 0 Q h 5 [.ref 13, rfV p1, .long s2.1, jk, .int s2.2, xd5] []) (kE0 : ∀ (yy : Int64) (y0 : Value) (y1 : Value) (y4 : Value) (y5 : Value), z = .inr yy → AR g X 0 0 Q h 61 [y0, y1, .long yy, jk, y4, y5] []) : AR g X 0 0 Q h 5 [.ref 13, rfV p1, .long s.1, jk, .int s.2, d5] [] := by
  unfold l_X0_fullOfAll_5 at e
  refine aw_iload (i := 4) hX rfl d_X0_fullOfAll_5 ?_
  refine aw_aload_n (i := 0) hX rfl rfl d_X0_fullOfAll_7 ?_
  obtain ⟨t1, f_192, e_192⟩ := bd_some e
  clear e
  obtain ⟨hlt1, e_193⟩ := if_some e_192
  clear e_192
  refine ar_getR hX fg_RX0_18 rfl f_192 d_X0_fullOfAll_8 ?_
  refine ar_getI hX fg_RX0_86 (by assumption) d_X0_fullOfAll_11 ?_
  refine aw_icmp_ge (t := 61) hX (by decide) d_X0_fullOfAll_14 (fun c => ?_) (fun c => ?_)
  · rw [if_pos c] at e_193
    cases e_193
    exact kE0 s.1 _ _ _ _ rfl
  · rw [if_neg c] at e_193
    refine aw_iconst (v := 0) hX (by decide) d_X0_fullOfAll_17 ?_
    refine aw_istore (i := 5) (lv2 := [.ref 13, rfV p1, .long s.1, jk, .int s.2, .int 0]) hX rfl rfl d_X0_fullOfAll_18 ?_
    obtain ⟨y5, f_194, e_194⟩ := bd_some e_193
    clear e_193
    refine t_X0_fullOfAll_20 hF hX f_194 (fun d6_5 => ?_)
    refine aw_iinc (i := 4) (lv2 := [.ref 13, rfV p1, .long y5, jk, .int (s.2 + 1), d6_5]) hX rfl rfl rfl rfl d_X0_fullOfAll_55 ?_
    refine aw_goto (t := 5) hX (by decide) d_X0_fullOfAll_58 ?_
    cases e_194
    exact kI (y5, s.2 + 1) _ rfl
theorem ti_X0_fullOfAll_5 {g : GP} {X : MX} {mcR msR : Nat} (hF : gF g = true) (hX : Cx g RX0 cX0_fullOfAll 4 mcR msR (some .long) [] X) {Q : State → Prop} {p1 : Option Nat} {y : Int64} {h : AH} (kE0 : ∀ (y_0 : Value) (y_1 : Value) (y_4 : Value) (y_5 : Value), AR g X 0 0 Q h 61 [y_0, y_1, .long y, jk, y_4, y_5] []) (n : Nat) : ∀ (s : (Int64 × Int32)) (d5 : Value), lpP (l_X0_fullOfAll_5 p1 h) n s = some y → AR g X 0 0 Q h 5 [.ref 13, rfV p1, .long s.1, jk, .int s.2, d5] [] := by
  induction n with
  | zero => intro s d5 e; cases e
  | succ n ih =>
    intro s d5 e
    obtain ⟨x, e1, e2⟩ := lpP_succ e
    rcases e2 with ⟨s2, rfl, e3⟩ | rfl
    · exact tb_X0_fullOfAll_5 hF hX e1 (fun s3 x0 hs => by cases hs; exact ih _ _  e3) (fun yy x0 x1 x2 x3 hy => by cases hy)
    · exact tb_X0_fullOfAll_5 hF hX e1 (fun s3 x0 hs => by cases hs) (fun yy x0 x1 x2 x3 hy => by cases hy; exact kE0 x0 x1 x2 x3)
theorem t_X0_fullOfAll_5 {g : GP} {X : MX} {mcR msR : Nat} (hF : gF g = true) (hX : Cx g RX0 cX0_fullOfAll 4 mcR msR (some .long) [] X) {Q : State → Prop} {p1 : Option Nat} {s : (Int64 × Int32)} {d5 : Value} {h : AH} {n : Nat} {y : Int64} (e : lpP (l_X0_fullOfAll_5 p1 h) n s = some y) (kE0 : ∀ (y_0 : Value) (y_1 : Value) (y_4 : Value) (y_5 : Value), AR g X 0 0 Q h 61 [y_0, y_1, .long y, jk, y_4, y_5] []) : AR g X 0 0 Q h 5 [.ref 13, rfV p1, .long s.1, jk, .int s.2, d5] [] := ti_X0_fullOfAll_5 hF hX kE0 n _ _  e
def s_X0_fullOfAll (a0 : Option Nat) (h : AH) : Option Int64 := bd (lpP (l_X0_fullOfAll_5 a0 h) FU (0, 0)) fun y7 => some y7
theorem t_X0_fullOfAll {g : GP} {X : MX} {mcR msR : Nat} (hF : gF g = true) (hX : Cx g RX0 cX0_fullOfAll 4 mcR msR (some .long) [] X) {a0 : Option Nat} {h : AH} {z : Int64} (e : s_X0_fullOfAll a0 h = some z) : AR g X 0 0 (QQ g X NT false h (.inl (some (.long z))) 0 0) h 0 [.ref 13, rfV a0, jk, jk, jk, jk] [] := by
  unfold s_X0_fullOfAll at e
  refine aw_lconst (v := 0) hX (by decide) d_X0_fullOfAll_0 ?_
  refine aw_lstore_n (i := 2) (lv2 := [.ref 13, rfV a0, .long 0, jk, jk, jk]) hX rfl (by show List.set (List.set (List.set _ _ (uncV (rfV _))) _ _) _ _ = _; rw [uncV_rfV]; rfl) rfl d_X0_fullOfAll_1 ?_
  refine aw_iconst (v := 0) hX (by decide) d_X0_fullOfAll_2 ?_
  refine aw_istore (i := 4) (lv2 := [.ref 13, rfV a0, .long 0, jk, .int 0, jk]) hX rfl rfl d_X0_fullOfAll_3 ?_
  obtain ⟨y7, f_195, e_195⟩ := bd_some e
  clear e
  refine t_X0_fullOfAll_5 hF hX f_195 (fun d8_0 d8_1 d8_4 d8_5 => ?_)
  refine aw_lload_n (i := 2) hX rfl rfl d_X0_fullOfAll_61 ?_
  cases e_195
  exact aw_lreturn hX (Nat.zero_le _) (Nat.zero_le _) d_X0_fullOfAll_62
theorem k_X0_fullOfAll {g : GP} (hg : g.1.stackTraces = false) (hF : gF g = true) {a0 : Option Nat} {h : AH} {z : Int64} (e : s_X0_fullOfAll a0 h = some z) : Ctr g yX0_fullOfAll (wsY yX0_fullOfAll cX0_fullOfAll 6 (some .long)) 4 0 0 [.ref 13, rfV a0] NT false h (some (.long z)) NT false h := ctr_of (lv0 := [.ref 13, rfV a0, jk, jk, jk, jk]) (by cases a0 <;> rfl) (by cases a0 <;> rfl) (by decide) hg trivial (fun X hX hn => t_X0_fullOfAll hF hX e)
theorem d_X0_hasSeat_0 : decode cX0_hasSeat 0 = .ok (.aload_n 0, 1) := by decide +kernel
theorem d_X0_hasSeat_1 : decode cX0_hasSeat 1 = .ok (.iload_n 1, 1) := by decide +kernel
theorem d_X0_hasSeat_2 : decode cX0_hasSeat 2 = .ok (.invokevirtual 106, 3) := by decide +kernel
theorem d_X0_hasSeat_5 : decode cX0_hasSeat 5 = .ok (.invokevirtual 110, 3) := by decide +kernel
theorem d_X0_hasSeat_8 : decode cX0_hasSeat 8 = .ok (.ireturn, 1) := by decide +kernel
def s_X0_hasSeat (a0 : Int32) (h : AH) : Option Int32 := bd (s_X0_planBoughtBy a0 h) fun x1 => bd x1 fun t2 => if LAY t2 = (0, 2) then bd (s_X2_isOfHabit t2 h) fun x3 => if x3 = 0 ∨ x3 = 1 then some x3 else none else none
theorem t_X0_hasSeat {g : GP} {X : MX} {mcR msR : Nat} (hF : gF g = true) (hX : Cx g RX0 cX0_hasSeat 3 mcR msR (some .boolean) [] X) {a0 : Int32} {h : AH} {z : Int32} (e : s_X0_hasSeat a0 h = some z) : AR g X 0 0 (QQ g X NT false h (.inl (some (.int z))) 0 0) h 0 [.ref 13, .int a0] [] := by
  unfold s_X0_hasSeat at e
  refine aw_aload_n (i := 0) hX rfl rfl d_X0_hasSeat_0 ?_
  refine aw_iload_n (i := 1) hX rfl rfl d_X0_hasSeat_1 ?_
  obtain ⟨x1, f_196, e_196⟩ := bd_some e
  clear e
  refine aw_callV (b := 13) (av := [.int a0]) (avr := [.int a0]) hX (k_X0_planBoughtBy (cx_g hX) hF f_196) mi_X0_planBoughtBy rfl rfl w_127 w_128 w_129 (by decide) rfl (LAY_lt rfl (by decide)) rfl rfl (Nat.le_of_ble_eq_true rfl) (Nat.zero_le _) (Nat.zero_le _) d_X0_hasSeat_2 ?_
  obtain ⟨t2, f_197, e_197⟩ := bd_some e_196
  clear e_196
  obtain ⟨hlt2, e_198⟩ := if_some e_197
  clear e_197
  subst f_197
  obtain ⟨x3, f_199, e_199⟩ := bd_some e_198
  clear e_198
  refine aw_callV (b := t2) (av := []) (avr := []) hX (k_X2_isOfHabit (cx_g hX) hF f_199) mi_X2_isOfHabit rfl rfl w_130 w_75 w_76 (by decide) (by assumption) (LAY_lt (by assumption) (by decide)) rfl rfl (Nat.le_of_ble_eq_true rfl) (Nat.zero_le _) (Nat.zero_le _) d_X0_hasSeat_5 ?_
  obtain ⟨hz1, e_200⟩ := if_some e_199
  clear e_199
  cases e_200
  exact aw_zreturn hX hz1 (Nat.zero_le _) (Nat.zero_le _) d_X0_hasSeat_8
theorem k_X0_hasSeat {g : GP} (hg : g.1.stackTraces = false) (hF : gF g = true) {a0 : Int32} {h : AH} {z : Int32} (e : s_X0_hasSeat a0 h = some z) : Ctr g yX0_hasSeat (wsY yX0_hasSeat cX0_hasSeat 2 (some .boolean)) 3 0 0 [.ref 13, .int a0] NT false h (some (.int z)) NT false h := ctr_of (lv0 := [.ref 13, .int a0]) rfl rfl (by decide) hg trivial (fun X hX hn => t_X0_hasSeat hF hX e)
theorem d_X0_seatHolders_0 : decode cX0_seatHolders 0 = .ok (.iconst 0, 1) := by decide +kernel
theorem d_X0_seatHolders_1 : decode cX0_seatHolders 1 = .ok (.istore_n 1, 1) := by decide +kernel
theorem d_X0_seatHolders_2 : decode cX0_seatHolders 2 = .ok (.iconst 0, 1) := by decide +kernel
theorem d_X0_seatHolders_3 : decode cX0_seatHolders 3 = .ok (.istore_n 2, 1) := by decide +kernel
theorem d_X0_seatHolders_4 : decode cX0_seatHolders 4 = .ok (.iload_n 2, 1) := by decide +kernel
theorem d_X0_seatHolders_5 : decode cX0_seatHolders 5 = .ok (.aload_n 0, 1) := by decide +kernel
theorem d_X0_seatHolders_6 : decode cX0_seatHolders 6 = .ok (.getfield 18, 3) := by decide +kernel
theorem d_X0_seatHolders_9 : decode cX0_seatHolders 9 = .ok (.getfield 38, 3) := by decide +kernel
theorem d_X0_seatHolders_12 : decode cX0_seatHolders 12 = .ok (.if_icmp .ge 35, 3) := by decide +kernel
theorem d_X0_seatHolders_15 : decode cX0_seatHolders 15 = .ok (.iload_n 1, 1) := by decide +kernel
theorem d_X0_seatHolders_16 : decode cX0_seatHolders 16 = .ok (.aload_n 0, 1) := by decide +kernel
theorem d_X0_seatHolders_17 : decode cX0_seatHolders 17 = .ok (.iload_n 2, 1) := by decide +kernel
theorem d_X0_seatHolders_18 : decode cX0_seatHolders 18 = .ok (.invokevirtual 114, 3) := by decide +kernel
theorem d_X0_seatHolders_21 : decode cX0_seatHolders 21 = .ok (.ifCond .eq 17, 3) := by decide +kernel
theorem d_X0_seatHolders_24 : decode cX0_seatHolders 24 = .ok (.aload_n 0, 1) := by decide +kernel
theorem d_X0_seatHolders_25 : decode cX0_seatHolders 25 = .ok (.getfield 18, 3) := by decide +kernel
theorem d_X0_seatHolders_28 : decode cX0_seatHolders 28 = .ok (.getfield 99, 3) := by decide +kernel
theorem d_X0_seatHolders_31 : decode cX0_seatHolders 31 = .ok (.iload_n 2, 1) := by decide +kernel
theorem d_X0_seatHolders_32 : decode cX0_seatHolders 32 = .ok (.invokestatic 72, 3) := by decide +kernel
theorem d_X0_seatHolders_35 : decode cX0_seatHolders 35 = .ok (.goto 4, 3) := by decide +kernel
theorem d_X0_seatHolders_38 : decode cX0_seatHolders 38 = .ok (.iconst 0, 1) := by decide +kernel
theorem d_X0_seatHolders_39 : decode cX0_seatHolders 39 = .ok (.iadd, 1) := by decide +kernel
theorem d_X0_seatHolders_40 : decode cX0_seatHolders 40 = .ok (.istore_n 1, 1) := by decide +kernel
theorem d_X0_seatHolders_41 : decode cX0_seatHolders 41 = .ok (.iinc 2 1, 3) := by decide +kernel
theorem d_X0_seatHolders_44 : decode cX0_seatHolders 44 = .ok (.goto (-40), 3) := by decide +kernel
theorem d_X0_seatHolders_47 : decode cX0_seatHolders 47 = .ok (.iload_n 1, 1) := by decide +kernel
theorem d_X0_seatHolders_48 : decode cX0_seatHolders 48 = .ok (.ireturn, 1) := by decide +kernel
def j_X0_seatHolders_39_4 (v2 : Int32) (k0 : Int32) (k1 : Int32) (h : AH) : Option ((Int32 × Int32) ⊕ Int32) := some (.inl ((k1 + k0), v2 + 1))
theorem tj_X0_seatHolders_39_4 {g : GP} {X : MX} {mcR msR : Nat} (hF : gF g = true) (hX : Cx g RX0 cX0_seatHolders 4 mcR msR (some .int) [] X) {Q : State → Prop} {v2 : Int32} {k0 : Int32} {k1 : Int32} {d1 : Value} {h : AH} {z : ((Int32 × Int32) ⊕ Int32)} (e : j_X0_seatHolders_39_4 v2 k0 k1 h = some z) (kI : ∀ (s2 : (Int32 × Int32)), z = .inl s2 → AR g X 0 0 Q h 4 [.ref 13, .int s2.1, .int s2.2] []) (kE0 : ∀ (yy : Int32) (y0 : Value) (y2 : Value), z = .inr yy → AR g X 0 0 Q h 47 [y0, .int yy, y2] []) : AR g X 0 0 Q h 39 [.ref 13, d1, .int v2] [.int k0, .int k1] := by
  unfold j_X0_seatHolders_39_4 at e
  refine aw_iadd hX d_X0_seatHolders_39 ?_
  refine aw_istore_n (i := 1) (lv2 := [.ref 13, .int (k1 + k0), .int v2]) hX rfl rfl rfl d_X0_seatHolders_40 ?_
  refine aw_iinc (i := 2) (lv2 := [.ref 13, .int (k1 + k0), .int (v2 + 1)]) hX rfl rfl rfl rfl d_X0_seatHolders_41 ?_
  refine aw_goto (t := 4) hX (by decide) d_X0_seatHolders_44 ?_
  cases e
  exact kI ((k1 + k0), v2 + 1)  rfl
def l_X0_seatHolders_4 (h : AH) (s : (Int32 × Int32)) : Option ((Int32 × Int32) ⊕ Int32) := bd (gR h 13 1) fun t1 => if LAY t1 = (0, 8) then if (gI h t1 3) ≤ s.2 then some (.inr s.1) else bd (s_X0_hasSeat s.2 h) fun x2 => if x2 = 0 then j_X0_seatHolders_39_4 s.2 0 s.1 h else bd (gR h 13 1) fun t3 => if LAY t3 = (0, 8) then bd (s_X9_at (some (t3 + 4)) s.2 h) fun x4 => j_X0_seatHolders_39_4 s.2 x4 s.1 h else none else none
theorem tb_X0_seatHolders_4 {g : GP} {X : MX} {mcR msR : Nat} (hF : gF g = true) (hX : Cx g RX0 cX0_seatHolders 4 mcR msR (some .int) [] X) {Q : State → Prop} {s : (Int32 × Int32)} {h : AH} {z : ((Int32 × Int32) ⊕ Int32)} (e : l_X0_seatHolders_4 h s = some z) (kI : ∀ (s2 : (Int32 × Int32)), z = .inl s2 → AR g X 0 0 Q h 4 [.ref 13, .int s2.1, .int s2.2] []) (kE0 : ∀ (yy : Int32) (y0 : Value) (y2 : Value), z = .inr yy → AR g X 0 0 Q h 47 [y0, .int yy, y2] []) : AR g X 0 0 Q h 4 [.ref 13, .int s.1, .int s.2] [] := by
  unfold l_X0_seatHolders_4 at e
  refine aw_iload_n (i := 2) hX rfl rfl d_X0_seatHolders_4 ?_
  refine aw_aload_n (i := 0) hX rfl rfl d_X0_seatHolders_5 ?_
  obtain ⟨t1, f_201, e_201⟩ := bd_some e
  clear e
  obtain ⟨hlt1, e_202⟩ := if_some e_201
  clear e_201
  refine ar_getR hX fg_RX0_18 rfl f_201 d_X0_seatHolders_6 ?_
  refine ar_getI hX fg_RX0_38 (by assumption) d_X0_seatHolders_9 ?_
  refine aw_icmp_ge (t := 47) hX (by decide) d_X0_seatHolders_12 (fun c => ?_) (fun c => ?_)
  · rw [if_pos c] at e_202
    cases e_202
    exact kE0 s.1 _ _ rfl
  · rw [if_neg c] at e_202
    refine aw_iload_n (i := 1) hX rfl rfl d_X0_seatHolders_15 ?_
    refine aw_aload_n (i := 0) hX rfl rfl d_X0_seatHolders_16 ?_
    refine aw_iload_n (i := 2) hX rfl rfl d_X0_seatHolders_17 ?_
    obtain ⟨x2, f_203, e_203⟩ := bd_some e_202
    clear e_202
    refine aw_callV (b := 13) (av := [.int s.2]) (avr := [.int s.2]) hX (k_X0_hasSeat (cx_g hX) hF f_203) mi_X0_hasSeat rfl rfl w_132 w_133 w_134 (by decide) rfl (LAY_lt rfl (by decide)) rfl rfl (Nat.le_of_ble_eq_true rfl) (Nat.zero_le _) (Nat.zero_le _) d_X0_seatHolders_18 ?_
    refine aw_if_eq (t := 38) hX (by decide) d_X0_seatHolders_21 (fun c => ?_) (fun c => ?_)
    · rw [if_pos c] at e_203
      refine aw_iconst (v := 0) hX (by decide) d_X0_seatHolders_38 ?_
      exact tj_X0_seatHolders_39_4 hF hX e_203 kI kE0
    · rw [if_neg c] at e_203
      refine aw_aload_n (i := 0) hX rfl rfl d_X0_seatHolders_24 ?_
      obtain ⟨t3, f_204, e_204⟩ := bd_some e_203
      clear e_203
      obtain ⟨hlt3, e_205⟩ := if_some e_204
      clear e_204
      refine ar_getR hX fg_RX0_18 rfl f_204 d_X0_seatHolders_25 ?_
      refine ar_getF hX hF fg_RX0_99 (by assumption) d_X0_seatHolders_28 ?_
      refine aw_iload_n (i := 2) hX rfl rfl d_X0_seatHolders_31 ?_
      obtain ⟨x4, f_206, e_206⟩ := bd_some e_205
      clear e_205
      refine aw_callSN (av := [.ref (t3 + 4), .int s.2]) (avr := [.int s.2, .ref (t3 + 4)]) hX (k_X9_at (cx_g hX) hF f_206) mi_X9_at rfl rfl nx8 w_6 (by decide) (Nat.le_of_ble_eq_true rfl) (Nat.zero_le _) (Nat.zero_le _) d_X0_seatHolders_32 ?_
      refine aw_goto (t := 39) hX (by decide) d_X0_seatHolders_35 ?_
      exact tj_X0_seatHolders_39_4 hF hX e_206 kI kE0
theorem ti_X0_seatHolders_4 {g : GP} {X : MX} {mcR msR : Nat} (hF : gF g = true) (hX : Cx g RX0 cX0_seatHolders 4 mcR msR (some .int) [] X) {Q : State → Prop} {y : Int32} {h : AH} (kE0 : ∀ (y_0 : Value) (y_2 : Value), AR g X 0 0 Q h 47 [y_0, .int y, y_2] []) (n : Nat) : ∀ (s : (Int32 × Int32)), lpP (l_X0_seatHolders_4 h) n s = some y → AR g X 0 0 Q h 4 [.ref 13, .int s.1, .int s.2] [] := by
  induction n with
  | zero => intro s e; cases e
  | succ n ih =>
    intro s e
    obtain ⟨x, e1, e2⟩ := lpP_succ e
    rcases e2 with ⟨s2, rfl, e3⟩ | rfl
    · exact tb_X0_seatHolders_4 hF hX e1 (fun s3  hs => by cases hs; exact ih _   e3) (fun yy x0 x1 hy => by cases hy)
    · exact tb_X0_seatHolders_4 hF hX e1 (fun s3  hs => by cases hs) (fun yy x0 x1 hy => by cases hy; exact kE0 x0 x1)
theorem t_X0_seatHolders_4 {g : GP} {X : MX} {mcR msR : Nat} (hF : gF g = true) (hX : Cx g RX0 cX0_seatHolders 4 mcR msR (some .int) [] X) {Q : State → Prop} {s : (Int32 × Int32)} {h : AH} {n : Nat} {y : Int32} (e : lpP (l_X0_seatHolders_4 h) n s = some y) (kE0 : ∀ (y_0 : Value) (y_2 : Value), AR g X 0 0 Q h 47 [y_0, .int y, y_2] []) : AR g X 0 0 Q h 4 [.ref 13, .int s.1, .int s.2] [] := ti_X0_seatHolders_4 hF hX kE0 n _   e
def s_X0_seatHolders (h : AH) : Option Int32 := bd (lpP (l_X0_seatHolders_4 h) FU (0, 0)) fun y5 => some y5
theorem t_X0_seatHolders {g : GP} {X : MX} {mcR msR : Nat} (hF : gF g = true) (hX : Cx g RX0 cX0_seatHolders 4 mcR msR (some .int) [] X) {h : AH} {z : Int32} (e : s_X0_seatHolders h = some z) : AR g X 0 0 (QQ g X NT false h (.inl (some (.int z))) 0 0) h 0 [.ref 13, jk, jk] [] := by
  unfold s_X0_seatHolders at e
  refine aw_iconst (v := 0) hX (by decide) d_X0_seatHolders_0 ?_
  refine aw_istore_n (i := 1) (lv2 := [.ref 13, .int 0, jk]) hX rfl rfl rfl d_X0_seatHolders_1 ?_
  refine aw_iconst (v := 0) hX (by decide) d_X0_seatHolders_2 ?_
  refine aw_istore_n (i := 2) (lv2 := [.ref 13, .int 0, .int 0]) hX rfl rfl rfl d_X0_seatHolders_3 ?_
  obtain ⟨y5, f_207, e_207⟩ := bd_some e
  clear e
  refine t_X0_seatHolders_4 hF hX f_207 (fun d6_0 d6_2 => ?_)
  refine aw_iload_n (i := 1) hX rfl rfl d_X0_seatHolders_47 ?_
  cases e_207
  exact aw_ireturn hX (Nat.zero_le _) (Nat.zero_le _) d_X0_seatHolders_48
theorem k_X0_seatHolders {g : GP} (hg : g.1.stackTraces = false) (hF : gF g = true) {h : AH} {z : Int32} (e : s_X0_seatHolders h = some z) : Ctr g yX0_seatHolders (wsY yX0_seatHolders cX0_seatHolders 3 (some .int)) 4 0 0 [.ref 13] NT false h (some (.int z)) NT false h := ctr_of (lv0 := [.ref 13, jk, jk]) rfl rfl (by decide) hg trivial (fun X hX hn => t_X0_seatHolders hF hX e)
theorem d_X0_turnedAway_0 : decode cX0_turnedAway 0 = .ok (.iconst 0, 1) := by decide +kernel
theorem d_X0_turnedAway_1 : decode cX0_turnedAway 1 = .ok (.aload_n 0, 1) := by decide +kernel
theorem d_X0_turnedAway_2 : decode cX0_turnedAway 2 = .ok (.getfield 18, 3) := by decide +kernel
theorem d_X0_turnedAway_5 : decode cX0_turnedAway 5 = .ok (.getfield 117, 3) := by decide +kernel
theorem d_X0_turnedAway_8 : decode cX0_turnedAway 8 = .ok (.aload_n 0, 1) := by decide +kernel
theorem d_X0_turnedAway_9 : decode cX0_turnedAway 9 = .ok (.invokevirtual 120, 3) := by decide +kernel
theorem d_X0_turnedAway_12 : decode cX0_turnedAway 12 = .ok (.isub, 1) := by decide +kernel
theorem d_X0_turnedAway_13 : decode cX0_turnedAway 13 = .ok (.invokestatic 124, 3) := by decide +kernel
theorem d_X0_turnedAway_16 : decode cX0_turnedAway 16 = .ok (.i2l, 1) := by decide +kernel
theorem d_X0_turnedAway_17 : decode cX0_turnedAway 17 = .ok (.ldc2_w 97, 3) := by decide +kernel
theorem d_X0_turnedAway_20 : decode cX0_turnedAway 20 = .ok (.lmul, 1) := by decide +kernel
theorem d_X0_turnedAway_21 : decode cX0_turnedAway 21 = .ok (.lstore_n 2, 1) := by decide +kernel
theorem d_X0_turnedAway_22 : decode cX0_turnedAway 22 = .ok (.lconst 0, 1) := by decide +kernel
theorem d_X0_turnedAway_23 : decode cX0_turnedAway 23 = .ok (.lstore 4, 2) := by decide +kernel
theorem d_X0_turnedAway_25 : decode cX0_turnedAway 25 = .ok (.iconst 0, 1) := by decide +kernel
theorem d_X0_turnedAway_26 : decode cX0_turnedAway 26 = .ok (.istore 6, 2) := by decide +kernel
theorem d_X0_turnedAway_28 : decode cX0_turnedAway 28 = .ok (.iload 6, 2) := by decide +kernel
theorem d_X0_turnedAway_30 : decode cX0_turnedAway 30 = .ok (.aload_n 0, 1) := by decide +kernel
theorem d_X0_turnedAway_31 : decode cX0_turnedAway 31 = .ok (.getfield 18, 3) := by decide +kernel
theorem d_X0_turnedAway_34 : decode cX0_turnedAway 34 = .ok (.getfield 38, 3) := by decide +kernel
theorem d_X0_turnedAway_37 : decode cX0_turnedAway 37 = .ok (.if_icmp .ge 38, 3) := by decide +kernel
theorem d_X0_turnedAway_40 : decode cX0_turnedAway 40 = .ok (.lload 4, 2) := by decide +kernel
theorem d_X0_turnedAway_42 : decode cX0_turnedAway 42 = .ok (.aload_n 0, 1) := by decide +kernel
theorem d_X0_turnedAway_43 : decode cX0_turnedAway 43 = .ok (.getfield 9, 3) := by decide +kernel
theorem d_X0_turnedAway_46 : decode cX0_turnedAway 46 = .ok (.iload 6, 2) := by decide +kernel
theorem d_X0_turnedAway_48 : decode cX0_turnedAway 48 = .ok (.invokestatic 72, 3) := by decide +kernel
theorem d_X0_turnedAway_51 : decode cX0_turnedAway 51 = .ok (.ifCond .ne 14, 3) := by decide +kernel
theorem d_X0_turnedAway_54 : decode cX0_turnedAway 54 = .ok (.aload_n 0, 1) := by decide +kernel
theorem d_X0_turnedAway_55 : decode cX0_turnedAway 55 = .ok (.iload 6, 2) := by decide +kernel
theorem d_X0_turnedAway_57 : decode cX0_turnedAway 57 = .ok (.iconst 0, 1) := by decide +kernel
theorem d_X0_turnedAway_58 : decode cX0_turnedAway 58 = .ok (.iload_n 1, 1) := by decide +kernel
theorem d_X0_turnedAway_59 : decode cX0_turnedAway 59 = .ok (.invokevirtual 102, 3) := by decide +kernel
theorem d_X0_turnedAway_62 : decode cX0_turnedAway 62 = .ok (.goto 4, 3) := by decide +kernel
theorem d_X0_turnedAway_65 : decode cX0_turnedAway 65 = .ok (.lconst 0, 1) := by decide +kernel
theorem d_X0_turnedAway_66 : decode cX0_turnedAway 66 = .ok (.ladd, 1) := by decide +kernel
theorem d_X0_turnedAway_67 : decode cX0_turnedAway 67 = .ok (.lstore 4, 2) := by decide +kernel
theorem d_X0_turnedAway_69 : decode cX0_turnedAway 69 = .ok (.iinc 6 1, 3) := by decide +kernel
theorem d_X0_turnedAway_72 : decode cX0_turnedAway 72 = .ok (.goto (-44), 3) := by decide +kernel
theorem d_X0_turnedAway_75 : decode cX0_turnedAway 75 = .ok (.lconst 0, 1) := by decide +kernel
theorem d_X0_turnedAway_76 : decode cX0_turnedAway 76 = .ok (.lload 4, 2) := by decide +kernel
theorem d_X0_turnedAway_78 : decode cX0_turnedAway 78 = .ok (.lload_n 2, 1) := by decide +kernel
theorem d_X0_turnedAway_79 : decode cX0_turnedAway 79 = .ok (.lsub, 1) := by decide +kernel
theorem d_X0_turnedAway_80 : decode cX0_turnedAway 80 = .ok (.invokestatic 129, 3) := by decide +kernel
theorem d_X0_turnedAway_83 : decode cX0_turnedAway 83 = .ok (.lreturn, 1) := by decide +kernel
def j_X0_turnedAway_66_28 (p1 : Int32) (p2 : Int64) (v6 : Int32) (k0 : Int64) (k1 : Int64) (h : AH) : Option ((Int64 × Int32) ⊕ Int64) := some (.inl ((k1 + k0), v6 + 1))
theorem tj_X0_turnedAway_66_28 {g : GP} {X : MX} {mcR msR : Nat} (hF : gF g = true) (hX : Cx g RX0 cX0_turnedAway 5 mcR msR (some .long) [] X) {Q : State → Prop} {p1 : Int32} {p2 : Int64} {v6 : Int32} {k0 : Int64} {k1 : Int64} {d4 : Value} {d5 : Value} {h : AH} {z : ((Int64 × Int32) ⊕ Int64)} (e : j_X0_turnedAway_66_28 p1 p2 v6 k0 k1 h = some z) (kI : ∀ (s2 : (Int64 × Int32)), z = .inl s2 → AR g X 0 0 Q h 28 [.ref 13, .int p1, .long p2, jk, .long s2.1, jk, .int s2.2] []) (kE0 : ∀ (yy : Int64) (y0 : Value) (y1 : Value) (y6 : Value), z = .inr yy → AR g X 0 0 Q h 75 [y0, y1, .long p2, jk, .long yy, jk, y6] []) : AR g X 0 0 Q h 66 [.ref 13, .int p1, .long p2, jk, d4, d5, .int v6] [.long k0, .long k1] := by
  unfold j_X0_turnedAway_66_28 at e
  refine aw_ladd hX d_X0_turnedAway_66 ?_
  refine aw_lstore (i := 4) (lv2 := [.ref 13, .int p1, .long p2, jk, .long (k1 + k0), jk, .int v6]) hX rfl rfl d_X0_turnedAway_67 ?_
  refine aw_iinc (i := 6) (lv2 := [.ref 13, .int p1, .long p2, jk, .long (k1 + k0), jk, .int (v6 + 1)]) hX rfl rfl rfl rfl d_X0_turnedAway_69 ?_
  refine aw_goto (t := 28) hX (by decide) d_X0_turnedAway_72 ?_
  cases e
  exact kI ((k1 + k0), v6 + 1)  rfl
def l_X0_turnedAway_28 (p1 : Int32) (p2 : Int64) (h : AH) (s : (Int64 × Int32)) : Option ((Int64 × Int32) ⊕ Int64) := bd (gR h 13 1) fun t3 => if LAY t3 = (0, 8) then if (gI h t3 3) ≤ s.2 then some (.inr s.1) else bd (s_X9_at (some 14) s.2 h) fun x4 => if x4 = 0 then bd (s_X0_fullOf s.2 0 p1 h) fun x5 => j_X0_turnedAway_66_28 p1 p2 s.2 x5 s.1 h else j_X0_turnedAway_66_28 p1 p2 s.2 0 s.1 h else none
theorem tb_X0_turnedAway_28 {g : GP} {X : MX} {mcR msR : Nat} (hF : gF g = true) (hX : Cx g RX0 cX0_turnedAway 5 mcR msR (some .long) [] X) {Q : State → Prop} {p1 : Int32} {p2 : Int64} {s : (Int64 × Int32)} {h : AH} {z : ((Int64 × Int32) ⊕ Int64)} (e : l_X0_turnedAway_28 p1 p2 h s = some z) (kI : ∀ (s2 : (Int64 × Int32)), z = .inl s2 → AR g X 0 0 Q h 28 [.ref 13, .int p1, .long p2, jk, .long s2.1, jk, .int s2.2] []) (kE0 : ∀ (yy : Int64) (y0 : Value) (y1 : Value) (y6 : Value), z = .inr yy → AR g X 0 0 Q h 75 [y0, y1, .long p2, jk, .long yy, jk, y6] []) : AR g X 0 0 Q h 28 [.ref 13, .int p1, .long p2, jk, .long s.1, jk, .int s.2] [] := by
  unfold l_X0_turnedAway_28 at e
  refine aw_iload (i := 6) hX rfl d_X0_turnedAway_28 ?_
  refine aw_aload_n (i := 0) hX rfl rfl d_X0_turnedAway_30 ?_
  obtain ⟨t3, f_208, e_208⟩ := bd_some e
  clear e
  obtain ⟨hlt3, e_209⟩ := if_some e_208
  clear e_208
  refine ar_getR hX fg_RX0_18 rfl f_208 d_X0_turnedAway_31 ?_
  refine ar_getI hX fg_RX0_38 (by assumption) d_X0_turnedAway_34 ?_
  refine aw_icmp_ge (t := 75) hX (by decide) d_X0_turnedAway_37 (fun c => ?_) (fun c => ?_)
  · rw [if_pos c] at e_209
    cases e_209
    exact kE0 s.1 _ _ _ rfl
  · rw [if_neg c] at e_209
    refine aw_lload (i := 4) hX rfl d_X0_turnedAway_40 ?_
    refine aw_aload_n (i := 0) hX rfl rfl d_X0_turnedAway_42 ?_
    refine ar_getF hX hF fg_RX0_9 rfl d_X0_turnedAway_43 ?_
    show AR g X 0 0 _ _ 46 _ [.ref 14, .long s.1]
    refine aw_iload (i := 6) hX rfl d_X0_turnedAway_46 ?_
    obtain ⟨x4, f_210, e_210⟩ := bd_some e_209
    clear e_209
    refine aw_callSN (av := [.ref 14, .int s.2]) (avr := [.int s.2, .ref 14]) hX (k_X9_at (cx_g hX) hF f_210) mi_X9_at rfl rfl nx8 w_6 (by decide) (Nat.le_of_ble_eq_true rfl) (Nat.zero_le _) (Nat.zero_le _) d_X0_turnedAway_48 ?_
    refine aw_if_ne (t := 65) hX (by decide) d_X0_turnedAway_51 (fun c => ?_) (fun c => ?_)
    · rw [if_neg c] at e_210
      refine aw_lconst (v := 0) hX (by decide) d_X0_turnedAway_65 ?_
      exact tj_X0_turnedAway_66_28 hF hX e_210 kI kE0
    · rw [if_pos c] at e_210
      refine aw_aload_n (i := 0) hX rfl rfl d_X0_turnedAway_54 ?_
      refine aw_iload (i := 6) hX rfl d_X0_turnedAway_55 ?_
      refine aw_iconst (v := 0) hX (by decide) d_X0_turnedAway_57 ?_
      refine aw_iload_n (i := 1) hX rfl rfl d_X0_turnedAway_58 ?_
      obtain ⟨x5, f_211, e_211⟩ := bd_some e_210
      clear e_210
      refine aw_callV (b := 13) (av := [.int s.2, .int 0, .int p1]) (avr := [.int p1, .int 0, .int s.2]) hX (k_X0_fullOf (cx_g hX) hF f_211) mi_X0_fullOf rfl rfl w_123 w_124 w_125 (by decide) rfl (LAY_lt rfl (by decide)) rfl rfl (Nat.le_of_ble_eq_true rfl) (Nat.zero_le _) (Nat.zero_le _) d_X0_turnedAway_59 ?_
      refine aw_goto (t := 66) hX (by decide) d_X0_turnedAway_62 ?_
      exact tj_X0_turnedAway_66_28 hF hX e_211 kI kE0
theorem ti_X0_turnedAway_28 {g : GP} {X : MX} {mcR msR : Nat} (hF : gF g = true) (hX : Cx g RX0 cX0_turnedAway 5 mcR msR (some .long) [] X) {Q : State → Prop} {p1 : Int32} {p2 : Int64} {y : Int64} {h : AH} (kE0 : ∀ (y_0 : Value) (y_1 : Value) (y_6 : Value), AR g X 0 0 Q h 75 [y_0, y_1, .long p2, jk, .long y, jk, y_6] []) (n : Nat) : ∀ (s : (Int64 × Int32)), lpP (l_X0_turnedAway_28 p1 p2 h) n s = some y → AR g X 0 0 Q h 28 [.ref 13, .int p1, .long p2, jk, .long s.1, jk, .int s.2] [] := by
  induction n with
  | zero => intro s e; cases e
  | succ n ih =>
    intro s e
    obtain ⟨x, e1, e2⟩ := lpP_succ e
    rcases e2 with ⟨s2, rfl, e3⟩ | rfl
    · exact tb_X0_turnedAway_28 hF hX e1 (fun s3  hs => by cases hs; exact ih _   e3) (fun yy x0 x1 x2 hy => by cases hy)
    · exact tb_X0_turnedAway_28 hF hX e1 (fun s3  hs => by cases hs) (fun yy x0 x1 x2 hy => by cases hy; exact kE0 x0 x1 x2)
theorem t_X0_turnedAway_28 {g : GP} {X : MX} {mcR msR : Nat} (hF : gF g = true) (hX : Cx g RX0 cX0_turnedAway 5 mcR msR (some .long) [] X) {Q : State → Prop} {p1 : Int32} {p2 : Int64} {s : (Int64 × Int32)} {h : AH} {n : Nat} {y : Int64} (e : lpP (l_X0_turnedAway_28 p1 p2 h) n s = some y) (kE0 : ∀ (y_0 : Value) (y_1 : Value) (y_6 : Value), AR g X 0 0 Q h 75 [y_0, y_1, .long p2, jk, .long y, jk, y_6] []) : AR g X 0 0 Q h 28 [.ref 13, .int p1, .long p2, jk, .long s.1, jk, .int s.2] [] := ti_X0_turnedAway_28 hF hX kE0 n _   e
def s_X0_turnedAway (a0 : Int32) (h : AH) : Option Int64 := bd (gR h 13 1) fun t1 => if LAY t1 = (0, 8) then bd (s_X0_seatHolders h) fun x2 => bd (lpP (l_X0_turnedAway_28 a0 (((if 0 < ((gI h t1 0) - x2) then ((gI h t1 0) - x2) else 0).toInt64) * 1000000) h) FU (0, 0)) fun y6 => some (if (y6 - (((if 0 < ((gI h t1 0) - x2) then ((gI h t1 0) - x2) else 0).toInt64) * 1000000)) < 0 then 0 else (y6 - (((if 0 < ((gI h t1 0) - x2) then ((gI h t1 0) - x2) else 0).toInt64) * 1000000))) else none
theorem t_X0_turnedAway {g : GP} {X : MX} {mcR msR : Nat} (hF : gF g = true) (hX : Cx g RX0 cX0_turnedAway 5 mcR msR (some .long) [] X) {a0 : Int32} {h : AH} {z : Int64} (e : s_X0_turnedAway a0 h = some z) : AR g X 0 0 (QQ g X NT false h (.inl (some (.long z))) 0 0) h 0 [.ref 13, .int a0, jk, jk, jk, jk, jk] [] := by
  unfold s_X0_turnedAway at e
  refine aw_iconst (v := 0) hX (by decide) d_X0_turnedAway_0 ?_
  refine aw_aload_n (i := 0) hX rfl rfl d_X0_turnedAway_1 ?_
  obtain ⟨t1, f_212, e_212⟩ := bd_some e
  clear e
  obtain ⟨hlt1, e_213⟩ := if_some e_212
  clear e_212
  refine ar_getR hX fg_RX0_18 rfl f_212 d_X0_turnedAway_2 ?_
  refine ar_getI hX fg_RX0_117 (by assumption) d_X0_turnedAway_5 ?_
  refine aw_aload_n (i := 0) hX rfl rfl d_X0_turnedAway_8 ?_
  obtain ⟨x2, f_214, e_214⟩ := bd_some e_213
  clear e_213
  refine aw_callV (b := 13) (av := []) (avr := []) hX (k_X0_seatHolders (cx_g hX) hF f_214) mi_X0_seatHolders rfl rfl w_137 w_138 w_139 (by decide) rfl (LAY_lt rfl (by decide)) rfl rfl (Nat.le_of_ble_eq_true rfl) (Nat.zero_le _) (Nat.zero_le _) d_X0_turnedAway_9 ?_
  refine aw_isub hX d_X0_turnedAway_12 ?_
  refine ar_imax hX w_140 mth_imax (by decide) (Nat.le_of_ble_eq_true rfl) (Nat.zero_le _) (Nat.zero_le _) d_X0_turnedAway_13 ?_
  refine aw_i2l hX d_X0_turnedAway_16 ?_
  refine aw_ldc2 hX w_116 d_X0_turnedAway_17 ?_
  refine aw_lmul hX d_X0_turnedAway_20 ?_
  refine aw_lstore_n (i := 2) (lv2 := [.ref 13, .int a0, .long (((if 0 < ((gI h t1 0) - x2) then ((gI h t1 0) - x2) else 0).toInt64) * 1000000), jk, jk, jk, jk]) hX rfl rfl rfl d_X0_turnedAway_21 ?_
  refine aw_lconst (v := 0) hX (by decide) d_X0_turnedAway_22 ?_
  refine aw_lstore (i := 4) (lv2 := [.ref 13, .int a0, .long (((if 0 < ((gI h t1 0) - x2) then ((gI h t1 0) - x2) else 0).toInt64) * 1000000), jk, .long 0, jk, jk]) hX rfl rfl d_X0_turnedAway_23 ?_
  refine aw_iconst (v := 0) hX (by decide) d_X0_turnedAway_25 ?_
  refine aw_istore (i := 6) (lv2 := [.ref 13, .int a0, .long (((if 0 < ((gI h t1 0) - x2) then ((gI h t1 0) - x2) else 0).toInt64) * 1000000), jk, .long 0, jk, .int 0]) hX rfl rfl d_X0_turnedAway_26 ?_
  obtain ⟨y6, f_215, e_215⟩ := bd_some e_214
  clear e_214
  refine t_X0_turnedAway_28 hF hX f_215 (fun d7_0 d7_1 d7_6 => ?_)
  refine aw_lconst (v := 0) hX (by decide) d_X0_turnedAway_75 ?_
  refine aw_lload (i := 4) hX rfl d_X0_turnedAway_76 ?_
  refine aw_lload_n (i := 2) hX rfl rfl d_X0_turnedAway_78 ?_
  refine aw_lsub hX d_X0_turnedAway_79 ?_
  refine ar_lmax hX w_141 mth_lmax (by decide) (Nat.le_of_ble_eq_true rfl) (Nat.zero_le _) (Nat.zero_le _) d_X0_turnedAway_80 ?_
  cases e_215
  exact aw_lreturn hX (Nat.zero_le _) (Nat.zero_le _) d_X0_turnedAway_83
theorem k_X0_turnedAway {g : GP} (hg : g.1.stackTraces = false) (hF : gF g = true) {a0 : Int32} {h : AH} {z : Int64} (e : s_X0_turnedAway a0 h = some z) : Ctr g yX0_turnedAway (wsY yX0_turnedAway cX0_turnedAway 7 (some .long)) 5 0 0 [.ref 13, .int a0] NT false h (some (.long z)) NT false h := ctr_of (lv0 := [.ref 13, .int a0, jk, jk, jk, jk, jk]) rfl rfl (by decide) hg trivial (fun X hX hn => t_X0_turnedAway hF hX e)
theorem d_X0_emptySeats_0 : decode cX0_emptySeats 0 = .ok (.aload_n 0, 1) := by decide +kernel
theorem d_X0_emptySeats_1 : decode cX0_emptySeats 1 = .ok (.invokevirtual 120, 3) := by decide +kernel
theorem d_X0_emptySeats_4 : decode cX0_emptySeats 4 = .ok (.i2l, 1) := by decide +kernel
theorem d_X0_emptySeats_5 : decode cX0_emptySeats 5 = .ok (.ldc2_w 97, 3) := by decide +kernel
theorem d_X0_emptySeats_8 : decode cX0_emptySeats 8 = .ok (.lmul, 1) := by decide +kernel
theorem d_X0_emptySeats_9 : decode cX0_emptySeats 9 = .ok (.lstore_n 2, 1) := by decide +kernel
theorem d_X0_emptySeats_10 : decode cX0_emptySeats 10 = .ok (.iconst 0, 1) := by decide +kernel
theorem d_X0_emptySeats_11 : decode cX0_emptySeats 11 = .ok (.istore 4, 2) := by decide +kernel
theorem d_X0_emptySeats_13 : decode cX0_emptySeats 13 = .ok (.iload 4, 2) := by decide +kernel
theorem d_X0_emptySeats_15 : decode cX0_emptySeats 15 = .ok (.aload_n 0, 1) := by decide +kernel
theorem d_X0_emptySeats_16 : decode cX0_emptySeats 16 = .ok (.getfield 18, 3) := by decide +kernel
theorem d_X0_emptySeats_19 : decode cX0_emptySeats 19 = .ok (.getfield 38, 3) := by decide +kernel
theorem d_X0_emptySeats_22 : decode cX0_emptySeats 22 = .ok (.if_icmp .ge 41, 3) := by decide +kernel
theorem d_X0_emptySeats_25 : decode cX0_emptySeats 25 = .ok (.lload_n 2, 1) := by decide +kernel
theorem d_X0_emptySeats_26 : decode cX0_emptySeats 26 = .ok (.aload_n 0, 1) := by decide +kernel
theorem d_X0_emptySeats_27 : decode cX0_emptySeats 27 = .ok (.iload 4, 2) := by decide +kernel
theorem d_X0_emptySeats_29 : decode cX0_emptySeats 29 = .ok (.invokevirtual 114, 3) := by decide +kernel
theorem d_X0_emptySeats_32 : decode cX0_emptySeats 32 = .ok (.ifCond .eq 22, 3) := by decide +kernel
theorem d_X0_emptySeats_35 : decode cX0_emptySeats 35 = .ok (.aload_n 0, 1) := by decide +kernel
theorem d_X0_emptySeats_36 : decode cX0_emptySeats 36 = .ok (.iload 4, 2) := by decide +kernel
theorem d_X0_emptySeats_38 : decode cX0_emptySeats 38 = .ok (.aload_n 0, 1) := by decide +kernel
theorem d_X0_emptySeats_39 : decode cX0_emptySeats 39 = .ok (.getfield 9, 3) := by decide +kernel
theorem d_X0_emptySeats_42 : decode cX0_emptySeats 42 = .ok (.iload 4, 2) := by decide +kernel
theorem d_X0_emptySeats_44 : decode cX0_emptySeats 44 = .ok (.invokestatic 72, 3) := by decide +kernel
theorem d_X0_emptySeats_47 : decode cX0_emptySeats 47 = .ok (.iload_n 1, 1) := by decide +kernel
theorem d_X0_emptySeats_48 : decode cX0_emptySeats 48 = .ok (.invokevirtual 102, 3) := by decide +kernel
theorem d_X0_emptySeats_51 : decode cX0_emptySeats 51 = .ok (.goto 4, 3) := by decide +kernel
theorem d_X0_emptySeats_54 : decode cX0_emptySeats 54 = .ok (.lconst 0, 1) := by decide +kernel
theorem d_X0_emptySeats_55 : decode cX0_emptySeats 55 = .ok (.lsub, 1) := by decide +kernel
theorem d_X0_emptySeats_56 : decode cX0_emptySeats 56 = .ok (.lstore_n 2, 1) := by decide +kernel
theorem d_X0_emptySeats_57 : decode cX0_emptySeats 57 = .ok (.iinc 4 1, 3) := by decide +kernel
theorem d_X0_emptySeats_60 : decode cX0_emptySeats 60 = .ok (.goto (-47), 3) := by decide +kernel
theorem d_X0_emptySeats_63 : decode cX0_emptySeats 63 = .ok (.lload_n 2, 1) := by decide +kernel
theorem d_X0_emptySeats_64 : decode cX0_emptySeats 64 = .ok (.lreturn, 1) := by decide +kernel
def j_X0_emptySeats_55_13 (p1 : Int32) (v4 : Int32) (k0 : Int64) (k1 : Int64) (h : AH) : Option ((Int64 × Int32) ⊕ Int64) := some (.inl ((k1 - k0), v4 + 1))
theorem tj_X0_emptySeats_55_13 {g : GP} {X : MX} {mcR msR : Nat} (hF : gF g = true) (hX : Cx g RX0 cX0_emptySeats 5 mcR msR (some .long) [] X) {Q : State → Prop} {p1 : Int32} {v4 : Int32} {k0 : Int64} {k1 : Int64} {d2 : Value} {d3 : Value} {h : AH} {z : ((Int64 × Int32) ⊕ Int64)} (e : j_X0_emptySeats_55_13 p1 v4 k0 k1 h = some z) (kI : ∀ (s2 : (Int64 × Int32)), z = .inl s2 → AR g X 0 0 Q h 13 [.ref 13, .int p1, .long s2.1, jk, .int s2.2] []) (kE0 : ∀ (yy : Int64) (y0 : Value) (y1 : Value) (y4 : Value), z = .inr yy → AR g X 0 0 Q h 63 [y0, y1, .long yy, jk, y4] []) : AR g X 0 0 Q h 55 [.ref 13, .int p1, d2, d3, .int v4] [.long k0, .long k1] := by
  unfold j_X0_emptySeats_55_13 at e
  refine aw_lsub hX d_X0_emptySeats_55 ?_
  refine aw_lstore_n (i := 2) (lv2 := [.ref 13, .int p1, .long (k1 - k0), jk, .int v4]) hX rfl rfl rfl d_X0_emptySeats_56 ?_
  refine aw_iinc (i := 4) (lv2 := [.ref 13, .int p1, .long (k1 - k0), jk, .int (v4 + 1)]) hX rfl rfl rfl rfl d_X0_emptySeats_57 ?_
  refine aw_goto (t := 13) hX (by decide) d_X0_emptySeats_60 ?_
  cases e
  exact kI ((k1 - k0), v4 + 1)  rfl
def l_X0_emptySeats_13 (p1 : Int32) (h : AH) (s : (Int64 × Int32)) : Option ((Int64 × Int32) ⊕ Int64) := bd (gR h 13 1) fun t2 => if LAY t2 = (0, 8) then if (gI h t2 3) ≤ s.2 then some (.inr s.1) else bd (s_X0_hasSeat s.2 h) fun x3 => if x3 = 0 then j_X0_emptySeats_55_13 p1 s.2 0 s.1 h else bd (s_X9_at (some 14) s.2 h) fun x4 => bd (s_X0_fullOf s.2 x4 p1 h) fun x5 => j_X0_emptySeats_55_13 p1 s.2 x5 s.1 h else none
theorem tb_X0_emptySeats_13 {g : GP} {X : MX} {mcR msR : Nat} (hF : gF g = true) (hX : Cx g RX0 cX0_emptySeats 5 mcR msR (some .long) [] X) {Q : State → Prop} {p1 : Int32} {s : (Int64 × Int32)} {h : AH} {z : ((Int64 × Int32) ⊕ Int64)} (e : l_X0_emptySeats_13 p1 h s = some z) (kI : ∀ (s2 : (Int64 × Int32)), z = .inl s2 → AR g X 0 0 Q h 13 [.ref 13, .int p1, .long s2.1, jk, .int s2.2] []) (kE0 : ∀ (yy : Int64) (y0 : Value) (y1 : Value) (y4 : Value), z = .inr yy → AR g X 0 0 Q h 63 [y0, y1, .long yy, jk, y4] []) : AR g X 0 0 Q h 13 [.ref 13, .int p1, .long s.1, jk, .int s.2] [] := by
  unfold l_X0_emptySeats_13 at e
  refine aw_iload (i := 4) hX rfl d_X0_emptySeats_13 ?_
  refine aw_aload_n (i := 0) hX rfl rfl d_X0_emptySeats_15 ?_
  obtain ⟨t2, f_216, e_216⟩ := bd_some e
  clear e
  obtain ⟨hlt2, e_217⟩ := if_some e_216
  clear e_216
  refine ar_getR hX fg_RX0_18 rfl f_216 d_X0_emptySeats_16 ?_
  refine ar_getI hX fg_RX0_38 (by assumption) d_X0_emptySeats_19 ?_
  refine aw_icmp_ge (t := 63) hX (by decide) d_X0_emptySeats_22 (fun c => ?_) (fun c => ?_)
  · rw [if_pos c] at e_217
    cases e_217
    exact kE0 s.1 _ _ _ rfl
  · rw [if_neg c] at e_217
    refine aw_lload_n (i := 2) hX rfl rfl d_X0_emptySeats_25 ?_
    refine aw_aload_n (i := 0) hX rfl rfl d_X0_emptySeats_26 ?_
    refine aw_iload (i := 4) hX rfl d_X0_emptySeats_27 ?_
    obtain ⟨x3, f_218, e_218⟩ := bd_some e_217
    clear e_217
    refine aw_callV (b := 13) (av := [.int s.2]) (avr := [.int s.2]) hX (k_X0_hasSeat (cx_g hX) hF f_218) mi_X0_hasSeat rfl rfl w_132 w_133 w_134 (by decide) rfl (LAY_lt rfl (by decide)) rfl rfl (Nat.le_of_ble_eq_true rfl) (Nat.zero_le _) (Nat.zero_le _) d_X0_emptySeats_29 ?_
    refine aw_if_eq (t := 54) hX (by decide) d_X0_emptySeats_32 (fun c => ?_) (fun c => ?_)
    · rw [if_pos c] at e_218
      refine aw_lconst (v := 0) hX (by decide) d_X0_emptySeats_54 ?_
      exact tj_X0_emptySeats_55_13 hF hX e_218 kI kE0
    · rw [if_neg c] at e_218
      refine aw_aload_n (i := 0) hX rfl rfl d_X0_emptySeats_35 ?_
      refine aw_iload (i := 4) hX rfl d_X0_emptySeats_36 ?_
      refine aw_aload_n (i := 0) hX rfl rfl d_X0_emptySeats_38 ?_
      refine ar_getF hX hF fg_RX0_9 rfl d_X0_emptySeats_39 ?_
      show AR g X 0 0 _ _ 42 _ [.ref 14, .int s.2, .ref 13, .long s.1]
      refine aw_iload (i := 4) hX rfl d_X0_emptySeats_42 ?_
      obtain ⟨x4, f_219, e_219⟩ := bd_some e_218
      clear e_218
      refine aw_callSN (av := [.ref 14, .int s.2]) (avr := [.int s.2, .ref 14]) hX (k_X9_at (cx_g hX) hF f_219) mi_X9_at rfl rfl nx8 w_6 (by decide) (Nat.le_of_ble_eq_true rfl) (Nat.zero_le _) (Nat.zero_le _) d_X0_emptySeats_44 ?_
      refine aw_iload_n (i := 1) hX rfl rfl d_X0_emptySeats_47 ?_
      obtain ⟨x5, f_220, e_220⟩ := bd_some e_219
      clear e_219
      refine aw_callV (b := 13) (av := [.int s.2, .int x4, .int p1]) (avr := [.int p1, .int x4, .int s.2]) hX (k_X0_fullOf (cx_g hX) hF f_220) mi_X0_fullOf rfl rfl w_123 w_124 w_125 (by decide) rfl (LAY_lt rfl (by decide)) rfl rfl (Nat.le_of_ble_eq_true rfl) (Nat.zero_le _) (Nat.zero_le _) d_X0_emptySeats_48 ?_
      refine aw_goto (t := 55) hX (by decide) d_X0_emptySeats_51 ?_
      exact tj_X0_emptySeats_55_13 hF hX e_220 kI kE0
theorem ti_X0_emptySeats_13 {g : GP} {X : MX} {mcR msR : Nat} (hF : gF g = true) (hX : Cx g RX0 cX0_emptySeats 5 mcR msR (some .long) [] X) {Q : State → Prop} {p1 : Int32} {y : Int64} {h : AH} (kE0 : ∀ (y_0 : Value) (y_1 : Value) (y_4 : Value), AR g X 0 0 Q h 63 [y_0, y_1, .long y, jk, y_4] []) (n : Nat) : ∀ (s : (Int64 × Int32)), lpP (l_X0_emptySeats_13 p1 h) n s = some y → AR g X 0 0 Q h 13 [.ref 13, .int p1, .long s.1, jk, .int s.2] [] := by
  induction n with
  | zero => intro s e; cases e
  | succ n ih =>
    intro s e
    obtain ⟨x, e1, e2⟩ := lpP_succ e
    rcases e2 with ⟨s2, rfl, e3⟩ | rfl
    · exact tb_X0_emptySeats_13 hF hX e1 (fun s3  hs => by cases hs; exact ih _   e3) (fun yy x0 x1 x2 hy => by cases hy)
    · exact tb_X0_emptySeats_13 hF hX e1 (fun s3  hs => by cases hs) (fun yy x0 x1 x2 hy => by cases hy; exact kE0 x0 x1 x2)
theorem t_X0_emptySeats_13 {g : GP} {X : MX} {mcR msR : Nat} (hF : gF g = true) (hX : Cx g RX0 cX0_emptySeats 5 mcR msR (some .long) [] X) {Q : State → Prop} {p1 : Int32} {s : (Int64 × Int32)} {h : AH} {n : Nat} {y : Int64} (e : lpP (l_X0_emptySeats_13 p1 h) n s = some y) (kE0 : ∀ (y_0 : Value) (y_1 : Value) (y_4 : Value), AR g X 0 0 Q h 63 [y_0, y_1, .long y, jk, y_4] []) : AR g X 0 0 Q h 13 [.ref 13, .int p1, .long s.1, jk, .int s.2] [] := ti_X0_emptySeats_13 hF hX kE0 n _   e
def s_X0_emptySeats (a0 : Int32) (h : AH) : Option Int64 := bd (s_X0_seatHolders h) fun x1 => bd (lpP (l_X0_emptySeats_13 a0 h) FU ((x1.toInt64 * 1000000), 0)) fun y6 => some y6
theorem t_X0_emptySeats {g : GP} {X : MX} {mcR msR : Nat} (hF : gF g = true) (hX : Cx g RX0 cX0_emptySeats 5 mcR msR (some .long) [] X) {a0 : Int32} {h : AH} {z : Int64} (e : s_X0_emptySeats a0 h = some z) : AR g X 0 0 (QQ g X NT false h (.inl (some (.long z))) 0 0) h 0 [.ref 13, .int a0, jk, jk, jk] [] := by
  unfold s_X0_emptySeats at e
  refine aw_aload_n (i := 0) hX rfl rfl d_X0_emptySeats_0 ?_
  obtain ⟨x1, f_221, e_221⟩ := bd_some e
  clear e
  refine aw_callV (b := 13) (av := []) (avr := []) hX (k_X0_seatHolders (cx_g hX) hF f_221) mi_X0_seatHolders rfl rfl w_137 w_138 w_139 (by decide) rfl (LAY_lt rfl (by decide)) rfl rfl (Nat.le_of_ble_eq_true rfl) (Nat.zero_le _) (Nat.zero_le _) d_X0_emptySeats_1 ?_
  refine aw_i2l hX d_X0_emptySeats_4 ?_
  refine aw_ldc2 hX w_116 d_X0_emptySeats_5 ?_
  refine aw_lmul hX d_X0_emptySeats_8 ?_
  refine aw_lstore_n (i := 2) (lv2 := [.ref 13, .int a0, .long (x1.toInt64 * 1000000), jk, jk]) hX rfl rfl rfl d_X0_emptySeats_9 ?_
  refine aw_iconst (v := 0) hX (by decide) d_X0_emptySeats_10 ?_
  refine aw_istore (i := 4) (lv2 := [.ref 13, .int a0, .long (x1.toInt64 * 1000000), jk, .int 0]) hX rfl rfl d_X0_emptySeats_11 ?_
  obtain ⟨y6, f_222, e_222⟩ := bd_some e_221
  clear e_221
  refine t_X0_emptySeats_13 hF hX f_222 (fun d7_0 d7_1 d7_4 => ?_)
  refine aw_lload_n (i := 2) hX rfl rfl d_X0_emptySeats_63 ?_
  cases e_222
  exact aw_lreturn hX (Nat.zero_le _) (Nat.zero_le _) d_X0_emptySeats_64
theorem k_X0_emptySeats {g : GP} (hg : g.1.stackTraces = false) (hF : gF g = true) {a0 : Int32} {h : AH} {z : Int64} (e : s_X0_emptySeats a0 h = some z) : Ctr g yX0_emptySeats (wsY yX0_emptySeats cX0_emptySeats 5 (some .long)) 5 0 0 [.ref 13, .int a0] NT false h (some (.long z)) NT false h := ctr_of (lv0 := [.ref 13, .int a0, jk, jk, jk]) rfl rfl (by decide) hg trivial (fun X hX hn => t_X0_emptySeats hF hX e)
theorem d_X0_pays_0 : decode cX0_pays 0 = .ok (.aload_n 0, 1) := by decide +kernel
theorem d_X0_pays_1 : decode cX0_pays 1 = .ok (.iload_n 1, 1) := by decide +kernel
theorem d_X0_pays_2 : decode cX0_pays 2 = .ok (.invokevirtual 106, 3) := by decide +kernel
theorem d_X0_pays_5 : decode cX0_pays 5 = .ok (.invokevirtual 132, 3) := by decide +kernel
theorem d_X0_pays_8 : decode cX0_pays 8 = .ok (.lstore_n 2, 1) := by decide +kernel
theorem d_X0_pays_9 : decode cX0_pays 9 = .ok (.aload_n 0, 1) := by decide +kernel
theorem d_X0_pays_10 : decode cX0_pays 10 = .ok (.getfield 9, 3) := by decide +kernel
theorem d_X0_pays_13 : decode cX0_pays 13 = .ok (.iload_n 1, 1) := by decide +kernel
theorem d_X0_pays_14 : decode cX0_pays 14 = .ok (.invokestatic 72, 3) := by decide +kernel
theorem d_X0_pays_17 : decode cX0_pays 17 = .ok (.istore 4, 2) := by decide +kernel
theorem d_X0_pays_19 : decode cX0_pays 19 = .ok (.iload 4, 2) := by decide +kernel
theorem d_X0_pays_21 : decode cX0_pays 21 = .ok (.ifCond .eq 9, 3) := by decide +kernel
theorem d_X0_pays_24 : decode cX0_pays 24 = .ok (.lload_n 2, 1) := by decide +kernel
theorem d_X0_pays_25 : decode cX0_pays 25 = .ok (.lconst 0, 1) := by decide +kernel
theorem d_X0_pays_26 : decode cX0_pays 26 = .ok (.lcmp, 1) := by decide +kernel
theorem d_X0_pays_27 : decode cX0_pays 27 = .ok (.ifCond .gt 7, 3) := by decide +kernel
theorem d_X0_pays_30 : decode cX0_pays 30 = .ok (.ldc2_w 135, 3) := by decide +kernel
theorem d_X0_pays_33 : decode cX0_pays 33 = .ok (.lreturn, 1) := by decide +kernel
theorem d_X0_pays_34 : decode cX0_pays 34 = .ok (.ldc2_w 80, 3) := by decide +kernel
theorem d_X0_pays_37 : decode cX0_pays 37 = .ok (.aload_n 0, 1) := by decide +kernel
theorem d_X0_pays_38 : decode cX0_pays 38 = .ok (.getfield 18, 3) := by decide +kernel
theorem d_X0_pays_41 : decode cX0_pays 41 = .ok (.getfield 57, 3) := by decide +kernel
theorem d_X0_pays_44 : decode cX0_pays 44 = .ok (.iload 4, 2) := by decide +kernel
theorem d_X0_pays_46 : decode cX0_pays 46 = .ok (.invokestatic 72, 3) := by decide +kernel
theorem d_X0_pays_49 : decode cX0_pays 49 = .ok (.i2l, 1) := by decide +kernel
theorem d_X0_pays_50 : decode cX0_pays 50 = .ok (.lmul, 1) := by decide +kernel
theorem d_X0_pays_51 : decode cX0_pays 51 = .ok (.ldc2_w 137, 3) := by decide +kernel
theorem d_X0_pays_54 : decode cX0_pays 54 = .ok (.lmul, 1) := by decide +kernel
theorem d_X0_pays_55 : decode cX0_pays 55 = .ok (.lload_n 2, 1) := by decide +kernel
theorem d_X0_pays_56 : decode cX0_pays 56 = .ok (.ldiv, 1) := by decide +kernel
theorem d_X0_pays_57 : decode cX0_pays 57 = .ok (.lreturn, 1) := by decide +kernel
def j_X0_pays_30 (h : AH) : Option Int64 := some (-1)
theorem tj_X0_pays_30 {g : GP} {X : MX} {mcR msR : Nat} (hF : gF g = true) (hX : Cx g RX0 cX0_pays 3 mcR msR (some .long) [] X) {d0 : Value} {d1 : Value} {d2 : Value} {d3 : Value} {d4 : Value} {h : AH} {z : Int64} (e : j_X0_pays_30 h = some z) : AR g X 0 0 (QQ g X NT false h (.inl (some (.long z))) 0 0) h 30 [d0, d1, d2, d3, d4] [] := by
  unfold j_X0_pays_30 at e
  refine aw_ldc2 hX w_146 d_X0_pays_30 ?_
  cases e
  exact aw_lreturn hX (Nat.zero_le _) (Nat.zero_le _) d_X0_pays_33
def s_X0_pays (a0 : Int32) (h : AH) : Option Int64 := bd (s_X0_planBoughtBy a0 h) fun x1 => bd x1 fun t2 => if LAY t2 = (0, 2) then bd (s_X2_gone t2 h) fun x3 => bd (s_X9_at (some 14) a0 h) fun x4 => if x4 = 0 then j_X0_pays_30 h else if 0 < x3 then bd (gR h 13 1) fun t5 => if LAY t5 = (0, 8) then bd (s_X9_at (some (t5 + 7)) x4 h) fun x6 => bd (ldivF ((1000 * x6.toInt64) * 1000000000) x3) fun x7 => some x7 else none else j_X0_pays_30 h else none
theorem t_X0_pays {g : GP} {X : MX} {mcR msR : Nat} (hF : gF g = true) (hX : Cx g RX0 cX0_pays 3 mcR msR (some .long) [] X) {a0 : Int32} {h : AH} {z : Int64} (e : s_X0_pays a0 h = some z) : AR g X 0 0 (QQ g X NT false h (.inl (some (.long z))) 0 0) h 0 [.ref 13, .int a0, jk, jk, jk] [] := by
  unfold s_X0_pays at e
  refine aw_aload_n (i := 0) hX rfl rfl d_X0_pays_0 ?_
  refine aw_iload_n (i := 1) hX rfl rfl d_X0_pays_1 ?_
  obtain ⟨x1, f_224, e_224⟩ := bd_some e
  clear e
  refine aw_callV (b := 13) (av := [.int a0]) (avr := [.int a0]) hX (k_X0_planBoughtBy (cx_g hX) hF f_224) mi_X0_planBoughtBy rfl rfl w_127 w_128 w_129 (by decide) rfl (LAY_lt rfl (by decide)) rfl rfl (Nat.le_of_ble_eq_true rfl) (Nat.zero_le _) (Nat.zero_le _) d_X0_pays_2 ?_
  obtain ⟨t2, f_225, e_225⟩ := bd_some e_224
  clear e_224
  obtain ⟨hlt2, e_226⟩ := if_some e_225
  clear e_225
  subst f_225
  obtain ⟨x3, f_227, e_227⟩ := bd_some e_226
  clear e_226
  refine aw_callV (b := t2) (av := []) (avr := []) hX (k_X2_gone (cx_g hX) hF f_227) mi_X2_gone rfl rfl w_143 w_144 w_145 (by decide) (by assumption) (LAY_lt (by assumption) (by decide)) rfl rfl (Nat.le_of_ble_eq_true rfl) (Nat.zero_le _) (Nat.zero_le _) d_X0_pays_5 ?_
  refine aw_lstore_n (i := 2) (lv2 := [.ref 13, .int a0, .long x3, jk, jk]) hX rfl rfl rfl d_X0_pays_8 ?_
  refine aw_aload_n (i := 0) hX rfl rfl d_X0_pays_9 ?_
  refine ar_getF hX hF fg_RX0_9 rfl d_X0_pays_10 ?_
  show AR g X 0 0 _ _ 13 _ [.ref 14]
  refine aw_iload_n (i := 1) hX rfl rfl d_X0_pays_13 ?_
  obtain ⟨x4, f_228, e_228⟩ := bd_some e_227
  clear e_227
  refine aw_callSN (av := [.ref 14, .int a0]) (avr := [.int a0, .ref 14]) hX (k_X9_at (cx_g hX) hF f_228) mi_X9_at rfl rfl nx8 w_6 (by decide) (Nat.le_of_ble_eq_true rfl) (Nat.zero_le _) (Nat.zero_le _) d_X0_pays_14 ?_
  refine aw_istore (i := 4) (lv2 := [.ref 13, .int a0, .long x3, jk, .int x4]) hX rfl rfl d_X0_pays_17 ?_
  refine aw_iload (i := 4) hX rfl d_X0_pays_19 ?_
  refine aw_if_eq (t := 30) hX (by decide) d_X0_pays_21 (fun c => ?_) (fun c => ?_)
  · rw [if_pos c] at e_228
    exact tj_X0_pays_30 hF hX e_228
  · rw [if_neg c] at e_228
    refine aw_lload_n (i := 2) hX rfl rfl d_X0_pays_24 ?_
    refine aw_lconst (v := 0) hX (by decide) d_X0_pays_25 ?_
    refine aw_lcmp hX d_X0_pays_26 ?_
    refine aw_if_gt (t := 34) hX (by decide) d_X0_pays_27 (fun c => ?_) (fun c => ?_)
    · replace c := lc_gt.mp c
      rw [if_pos c] at e_228
      refine aw_ldc2 hX w_22 d_X0_pays_34 ?_
      refine aw_aload_n (i := 0) hX rfl rfl d_X0_pays_37 ?_
      obtain ⟨t5, f_229, e_229⟩ := bd_some e_228
      clear e_228
      obtain ⟨hlt5, e_230⟩ := if_some e_229
      clear e_229
      refine ar_getR hX fg_RX0_18 rfl f_229 d_X0_pays_38 ?_
      refine ar_getF hX hF fg_RX0_57 (by assumption) d_X0_pays_41 ?_
      refine aw_iload (i := 4) hX rfl d_X0_pays_44 ?_
      obtain ⟨x6, f_231, e_231⟩ := bd_some e_230
      clear e_230
      refine aw_callSN (av := [.ref (t5 + 7), .int x4]) (avr := [.int x4, .ref (t5 + 7)]) hX (k_X9_at (cx_g hX) hF f_231) mi_X9_at rfl rfl nx8 w_6 (by decide) (Nat.le_of_ble_eq_true rfl) (Nat.zero_le _) (Nat.zero_le _) d_X0_pays_46 ?_
      refine aw_i2l hX d_X0_pays_49 ?_
      refine aw_lmul hX d_X0_pays_50 ?_
      refine aw_ldc2 hX w_147 d_X0_pays_51 ?_
      refine aw_lmul hX d_X0_pays_54 ?_
      refine aw_lload_n (i := 2) hX rfl rfl d_X0_pays_55 ?_
      obtain ⟨x7, f_232, e_232⟩ := bd_some e_231
      clear e_231
      refine ar_ldiv hX f_232 d_X0_pays_56 ?_
      cases e_232
      exact aw_lreturn hX (Nat.zero_le _) (Nat.zero_le _) d_X0_pays_57
    · replace c := fun q => c (lc_gt.mpr q)
      rw [if_neg c] at e_228
      exact tj_X0_pays_30 hF hX e_228
theorem k_X0_pays {g : GP} (hg : g.1.stackTraces = false) (hF : gF g = true) {a0 : Int32} {h : AH} {z : Int64} (e : s_X0_pays a0 h = some z) : Ctr g yX0_pays (wsY yX0_pays cX0_pays 5 (some .long)) 3 0 0 [.ref 13, .int a0] NT false h (some (.long z)) NT false h := ctr_of (lv0 := [.ref 13, .int a0, jk, jk, jk]) rfl rfl (by decide) hg trivial (fun X hX hn => t_X0_pays hF hX e)
theorem d_X0_valueByChance_0 : decode cX0_valueByChance 0 = .ok (.aload_n 0, 1) := by decide +kernel
theorem d_X0_valueByChance_1 : decode cX0_valueByChance 1 = .ok (.iload_n 1, 1) := by decide +kernel
theorem d_X0_valueByChance_2 : decode cX0_valueByChance 2 = .ok (.iload_n 2, 1) := by decide +kernel
theorem d_X0_valueByChance_3 : decode cX0_valueByChance 3 = .ok (.invokevirtual 42, 3) := by decide +kernel
theorem d_X0_valueByChance_6 : decode cX0_valueByChance 6 = .ok (.astore_n 3, 1) := by decide +kernel
theorem d_X0_valueByChance_7 : decode cX0_valueByChance 7 = .ok (.aload_n 3, 1) := by decide +kernel
theorem d_X0_valueByChance_8 : decode cX0_valueByChance 8 = .ok (.aload_n 0, 1) := by decide +kernel
theorem d_X0_valueByChance_9 : decode cX0_valueByChance 9 = .ok (.getfield 18, 3) := by decide +kernel
theorem d_X0_valueByChance_12 : decode cX0_valueByChance 12 = .ok (.iload_n 1, 1) := by decide +kernel
theorem d_X0_valueByChance_13 : decode cX0_valueByChance 13 = .ok (.iconst 0, 1) := by decide +kernel
theorem d_X0_valueByChance_14 : decode cX0_valueByChance 14 = .ok (.aload_n 0, 1) := by decide +kernel
theorem d_X0_valueByChance_15 : decode cX0_valueByChance 15 = .ok (.getfield 18, 3) := by decide +kernel
theorem d_X0_valueByChance_18 : decode cX0_valueByChance 18 = .ok (.getfield 46, 3) := by decide +kernel
theorem d_X0_valueByChance_21 : decode cX0_valueByChance 21 = .ok (.invokevirtual 49, 3) := by decide +kernel
theorem d_X0_valueByChance_24 : decode cX0_valueByChance 24 = .ok (.aload_n 3, 1) := by decide +kernel
theorem d_X0_valueByChance_25 : decode cX0_valueByChance 25 = .ok (.invokevirtual 60, 3) := by decide +kernel
theorem d_X0_valueByChance_28 : decode cX0_valueByChance 28 = .ok (.lstore 4, 2) := by decide +kernel
theorem d_X0_valueByChance_30 : decode cX0_valueByChance 30 = .ok (.aload_n 3, 1) := by decide +kernel
theorem d_X0_valueByChance_31 : decode cX0_valueByChance 31 = .ok (.aload_n 0, 1) := by decide +kernel
theorem d_X0_valueByChance_32 : decode cX0_valueByChance 32 = .ok (.getfield 18, 3) := by decide +kernel
theorem d_X0_valueByChance_35 : decode cX0_valueByChance 35 = .ok (.iload_n 1, 1) := by decide +kernel
theorem d_X0_valueByChance_36 : decode cX0_valueByChance 36 = .ok (.iconst 1, 1) := by decide +kernel
theorem d_X0_valueByChance_37 : decode cX0_valueByChance 37 = .ok (.aload_n 0, 1) := by decide +kernel
theorem d_X0_valueByChance_38 : decode cX0_valueByChance 38 = .ok (.getfield 18, 3) := by decide +kernel
theorem d_X0_valueByChance_41 : decode cX0_valueByChance 41 = .ok (.getfield 46, 3) := by decide +kernel
theorem d_X0_valueByChance_44 : decode cX0_valueByChance 44 = .ok (.invokevirtual 49, 3) := by decide +kernel
theorem d_X0_valueByChance_47 : decode cX0_valueByChance 47 = .ok (.lload 4, 2) := by decide +kernel
theorem d_X0_valueByChance_49 : decode cX0_valueByChance 49 = .ok (.lreturn, 1) := by decide +kernel
def s_X0_valueByChance (a0 : Int32) (a1 : Int32) (h : AH) : Option (Int64 × AH) := bd (s_X0_planOf a0 a1 h) fun x1 => bd (gR h 13 1) fun t2 => if LAY t2 = (0, 8) then bd (gR h 13 1) fun t3 => if LAY t3 = (0, 8) then bd x1 fun t4 => if LAY t4 = (0, 2) then bd (s_X2_make t4 (some t2) a0 0 (some (t3 + 2)) h) fun q5 => bd (s_X2_value t4 q5.2) fun x6 => bd (gR q5.2 13 1) fun t7 => if LAY t7 = (0, 8) then bd (gR q5.2 13 1) fun t8 => if LAY t8 = (0, 8) then bd (s_X2_make t4 (some t7) a0 1 (some (t8 + 2)) q5.2) fun q9 => some (x6, q9.2) else none else none else none else none else none
theorem t_X0_valueByChance {g : GP} {X : MX} {mcR msR : Nat} (hF : gF g = true) (hX : Cx g RX0 cX0_valueByChance 5 mcR msR (some .long) [] X) {a0 : Int32} {a1 : Int32} {h hz : AH} {z : Int64} (e : s_X0_valueByChance a0 a1 h = some (z, hz)) : AR g X 0 0 (QQ g X NT false hz (.inl (some (.long z))) 0 0) h 0 [.ref 13, .int a0, .int a1, jk, jk, jk] [] := by
  unfold s_X0_valueByChance at e
  refine aw_aload_n (i := 0) hX rfl rfl d_X0_valueByChance_0 ?_
  refine aw_iload_n (i := 1) hX rfl rfl d_X0_valueByChance_1 ?_
  refine aw_iload_n (i := 2) hX rfl rfl d_X0_valueByChance_2 ?_
  obtain ⟨x1, f_233, e_233⟩ := bd_some e
  clear e
  refine aw_callV (b := 13) (av := [.int a0, .int a1]) (avr := [.int a1, .int a0]) hX (k_X0_planOf (cx_g hX) hF f_233) mi_X0_planOf rfl rfl w_14 w_15 w_16 (by decide) rfl (LAY_lt rfl (by decide)) rfl rfl (Nat.le_of_ble_eq_true rfl) (Nat.zero_le _) (Nat.zero_le _) d_X0_valueByChance_3 ?_
  refine aw_astoreO_n (i := 3) (lv2 := [.ref 13, .int a0, .int a1, rfV x1, jk, jk]) hX rfl rfl rfl d_X0_valueByChance_6 ?_
  refine aw_aloadO_n (i := 3) (o := x1) hX rfl rfl d_X0_valueByChance_7 ?_
  refine aw_aload_n (i := 0) hX rfl rfl d_X0_valueByChance_8 ?_
  obtain ⟨t2, f_234, e_234⟩ := bd_some e_233
  clear e_233
  obtain ⟨hlt2, e_235⟩ := if_some e_234
  clear e_234
  refine ar_getR hX fg_RX0_18 rfl f_234 d_X0_valueByChance_9 ?_
  refine aw_iload_n (i := 1) hX rfl rfl d_X0_valueByChance_12 ?_
  refine aw_iconst (v := 0) hX (by decide) d_X0_valueByChance_13 ?_
  refine aw_aload_n (i := 0) hX rfl rfl d_X0_valueByChance_14 ?_
  obtain ⟨t3, f_236, e_236⟩ := bd_some e_235
  clear e_235
  obtain ⟨hlt3, e_237⟩ := if_some e_236
  clear e_236
  refine ar_getR hX fg_RX0_18 rfl f_236 d_X0_valueByChance_15 ?_
  refine ar_getF hX hF fg_RX0_46 (by assumption) d_X0_valueByChance_18 ?_
  obtain ⟨t4, f_238, e_238⟩ := bd_some e_237
  clear e_237
  obtain ⟨hlt4, e_239⟩ := if_some e_238
  clear e_238
  subst f_238
  obtain ⟨q5, f_240, e_240⟩ := bd_some e_239
  clear e_239
  refine aw_callV (b := t4) (av := [.ref t2, .int a0, .int 0, .ref (t3 + 2)]) (avr := [.ref (t3 + 2), .int 0, .int a0, .ref t2]) hX (k_X2_make (cx_g hX) hF f_240) mi_X2_make rfl rfl w_97 w_98 w_99 (by decide) (by assumption) (LAY_lt (by assumption) (by decide)) rfl rfl (Nat.le_of_ble_eq_true rfl) (Nat.zero_le _) (Nat.zero_le _) d_X0_valueByChance_21 ?_
  refine aw_aload_n (i := 3) hX rfl rfl d_X0_valueByChance_24 ?_
  obtain ⟨x6, f_241, e_241⟩ := bd_some e_240
  clear e_240
  refine aw_callV (b := t4) (av := []) (avr := []) hX (k_X2_value (cx_g hX) hF f_241) mi_X2_value rfl rfl w_19 w_20 w_21 (by decide) (by assumption) (LAY_lt (by assumption) (by decide)) rfl rfl (Nat.le_of_ble_eq_true rfl) (Nat.zero_le _) (Nat.zero_le _) d_X0_valueByChance_25 ?_
  refine aw_lstore (i := 4) (lv2 := [.ref 13, .int a0, .int a1, .ref t4, .long x6, jk]) hX rfl rfl d_X0_valueByChance_28 ?_
  refine aw_aload_n (i := 3) hX rfl rfl d_X0_valueByChance_30 ?_
  refine aw_aload_n (i := 0) hX rfl rfl d_X0_valueByChance_31 ?_
  obtain ⟨t7, f_242, e_242⟩ := bd_some e_241
  clear e_241
  obtain ⟨hlt7, e_243⟩ := if_some e_242
  clear e_242
  refine ar_getR hX fg_RX0_18 rfl f_242 d_X0_valueByChance_32 ?_
  refine aw_iload_n (i := 1) hX rfl rfl d_X0_valueByChance_35 ?_
  refine aw_iconst (v := 1) hX (by decide) d_X0_valueByChance_36 ?_
  refine aw_aload_n (i := 0) hX rfl rfl d_X0_valueByChance_37 ?_
  obtain ⟨t8, f_244, e_244⟩ := bd_some e_243
  clear e_243
  obtain ⟨hlt8, e_245⟩ := if_some e_244
  clear e_244
  refine ar_getR hX fg_RX0_18 rfl f_244 d_X0_valueByChance_38 ?_
  refine ar_getF hX hF fg_RX0_46 (by assumption) d_X0_valueByChance_41 ?_
  obtain ⟨q9, f_246, e_246⟩ := bd_some e_245
  clear e_245
  refine aw_callV (b := t4) (av := [.ref t7, .int a0, .int 1, .ref (t8 + 2)]) (avr := [.ref (t8 + 2), .int 1, .int a0, .ref t7]) hX (k_X2_make (cx_g hX) hF f_246) mi_X2_make rfl rfl w_97 w_98 w_99 (by decide) (by assumption) (LAY_lt (by assumption) (by decide)) rfl rfl (Nat.le_of_ble_eq_true rfl) (Nat.zero_le _) (Nat.zero_le _) d_X0_valueByChance_44 ?_
  refine aw_lload (i := 4) hX rfl d_X0_valueByChance_47 ?_
  cases e_246
  exact aw_lreturn hX (Nat.zero_le _) (Nat.zero_le _) d_X0_valueByChance_49
theorem k_X0_valueByChance {g : GP} (hg : g.1.stackTraces = false) (hF : gF g = true) {a0 : Int32} {a1 : Int32} {h hz : AH} {z : Int64} (e : s_X0_valueByChance a0 a1 h = some (z, hz)) : Ctr g yX0_valueByChance (wsY yX0_valueByChance cX0_valueByChance 6 (some .long)) 5 0 0 [.ref 13, .int a0, .int a1] NT false h (some (.long z)) NT false hz := ctr_of (lv0 := [.ref 13, .int a0, .int a1, jk, jk, jk]) rfl rfl (by decide) hg trivial (fun X hX hn => t_X0_valueByChance hF hX e)
theorem d_X0_kinder_0 : decode cX0_kinder 0 = .ok (.aload_n 0, 1) := by decide +kernel
theorem d_X0_kinder_1 : decode cX0_kinder 1 = .ok (.iload_n 1, 1) := by decide +kernel
theorem d_X0_kinder_2 : decode cX0_kinder 2 = .ok (.iconst 1, 1) := by decide +kernel
theorem d_X0_kinder_3 : decode cX0_kinder 3 = .ok (.invokevirtual 139, 3) := by decide +kernel
theorem d_X0_kinder_6 : decode cX0_kinder 6 = .ok (.lstore_n 2, 1) := by decide +kernel
theorem d_X0_kinder_7 : decode cX0_kinder 7 = .ok (.lload_n 2, 1) := by decide +kernel
theorem d_X0_kinder_8 : decode cX0_kinder 8 = .ok (.aload_n 0, 1) := by decide +kernel
theorem d_X0_kinder_9 : decode cX0_kinder 9 = .ok (.iload_n 1, 1) := by decide +kernel
theorem d_X0_kinder_10 : decode cX0_kinder 10 = .ok (.iconst 0, 1) := by decide +kernel
theorem d_X0_kinder_11 : decode cX0_kinder 11 = .ok (.invokevirtual 139, 3) := by decide +kernel
theorem d_X0_kinder_14 : decode cX0_kinder 14 = .ok (.lsub, 1) := by decide +kernel
theorem d_X0_kinder_15 : decode cX0_kinder 15 = .ok (.lstore 4, 2) := by decide +kernel
theorem d_X0_kinder_17 : decode cX0_kinder 17 = .ok (.lload 4, 2) := by decide +kernel
theorem d_X0_kinder_19 : decode cX0_kinder 19 = .ok (.lconst 0, 1) := by decide +kernel
theorem d_X0_kinder_20 : decode cX0_kinder 20 = .ok (.lcmp, 1) := by decide +kernel
theorem d_X0_kinder_21 : decode cX0_kinder 21 = .ok (.ifCond .ge 9, 3) := by decide +kernel
theorem d_X0_kinder_24 : decode cX0_kinder 24 = .ok (.ldc2_w 135, 3) := by decide +kernel
theorem d_X0_kinder_27 : decode cX0_kinder 27 = .ok (.goto 15, 3) := by decide +kernel
theorem d_X0_kinder_30 : decode cX0_kinder 30 = .ok (.ldc2_w 143, 3) := by decide +kernel
theorem d_X0_kinder_33 : decode cX0_kinder 33 = .ok (.lload 4, 2) := by decide +kernel
theorem d_X0_kinder_35 : decode cX0_kinder 35 = .ok (.ldc2_w 80, 3) := by decide +kernel
theorem d_X0_kinder_38 : decode cX0_kinder 38 = .ok (.ldiv, 1) := by decide +kernel
theorem d_X0_kinder_39 : decode cX0_kinder 39 = .ok (.invokestatic 145, 3) := by decide +kernel
theorem d_X0_kinder_42 : decode cX0_kinder 42 = .ok (.lreturn, 1) := by decide +kernel
def s_X0_kinder (a0 : Int32) (h : AH) : Option (Int64 × AH) := bd (s_X0_valueByChance a0 1 h) fun q1 => bd (s_X0_valueByChance a0 0 q1.2) fun q2 => if 0 ≤ (q1.1 - q2.1) then bd (ldivF (q1.1 - q2.1) 1000) fun x3 => some ((if x3 < 9999 then x3 else 9999), q2.2) else some ((-1), q2.2)
theorem t_X0_kinder {g : GP} {X : MX} {mcR msR : Nat} (hF : gF g = true) (hX : Cx g RX0 cX0_kinder 6 mcR msR (some .long) [] X) {a0 : Int32} {h hz : AH} {z : Int64} (e : s_X0_kinder a0 h = some (z, hz)) : AR g X 0 0 (QQ g X NT false hz (.inl (some (.long z))) 0 0) h 0 [.ref 13, .int a0, jk, jk, jk, jk] [] := by
  unfold s_X0_kinder at e
  refine aw_aload_n (i := 0) hX rfl rfl d_X0_kinder_0 ?_
  refine aw_iload_n (i := 1) hX rfl rfl d_X0_kinder_1 ?_
  refine aw_iconst (v := 1) hX (by decide) d_X0_kinder_2 ?_
  obtain ⟨q1, f_247, e_247⟩ := bd_some e
  clear e
  refine aw_callV (b := 13) (av := [.int a0, .int 1]) (avr := [.int 1, .int a0]) hX (k_X0_valueByChance (cx_g hX) hF f_247) mi_X0_valueByChance rfl rfl w_149 w_150 w_151 (by decide) rfl (LAY_lt rfl (by decide)) rfl rfl (Nat.le_of_ble_eq_true rfl) (Nat.zero_le _) (Nat.zero_le _) d_X0_kinder_3 ?_
  refine aw_lstore_n (i := 2) (lv2 := [.ref 13, .int a0, .long q1.1, jk, jk, jk]) hX rfl rfl rfl d_X0_kinder_6 ?_
  refine aw_lload_n (i := 2) hX rfl rfl d_X0_kinder_7 ?_
  refine aw_aload_n (i := 0) hX rfl rfl d_X0_kinder_8 ?_
  refine aw_iload_n (i := 1) hX rfl rfl d_X0_kinder_9 ?_
  refine aw_iconst (v := 0) hX (by decide) d_X0_kinder_10 ?_
  obtain ⟨q2, f_248, e_248⟩ := bd_some e_247
  clear e_247
  refine aw_callV (b := 13) (av := [.int a0, .int 0]) (avr := [.int 0, .int a0]) hX (k_X0_valueByChance (cx_g hX) hF f_248) mi_X0_valueByChance rfl rfl w_149 w_150 w_151 (by decide) rfl (LAY_lt rfl (by decide)) rfl rfl (Nat.le_of_ble_eq_true rfl) (Nat.zero_le _) (Nat.zero_le _) d_X0_kinder_11 ?_
  refine aw_lsub hX d_X0_kinder_14 ?_
  refine aw_lstore (i := 4) (lv2 := [.ref 13, .int a0, .long q1.1, jk, .long (q1.1 - q2.1), jk]) hX rfl rfl d_X0_kinder_15 ?_
  refine aw_lload (i := 4) hX rfl d_X0_kinder_17 ?_
  refine aw_lconst (v := 0) hX (by decide) d_X0_kinder_19 ?_
  refine aw_lcmp hX d_X0_kinder_20 ?_
  refine aw_if_ge (t := 30) hX (by decide) d_X0_kinder_21 (fun c => ?_) (fun c => ?_)
  · replace c := lc_ge.mp c
    rw [if_pos c] at e_248
    refine aw_ldc2 hX w_152 d_X0_kinder_30 ?_
    refine aw_lload (i := 4) hX rfl d_X0_kinder_33 ?_
    refine aw_ldc2 hX w_22 d_X0_kinder_35 ?_
    obtain ⟨x3, f_249, e_249⟩ := bd_some e_248
    clear e_248
    refine ar_ldiv hX f_249 d_X0_kinder_38 ?_
    refine ar_lmin hX w_153 mth_lmin (by decide) (Nat.le_of_ble_eq_true rfl) (Nat.zero_le _) (Nat.zero_le _) d_X0_kinder_39 ?_
    cases e_249
    exact aw_lreturn hX (Nat.zero_le _) (Nat.zero_le _) d_X0_kinder_42
  · replace c := fun q => c (lc_ge.mpr q)
    rw [if_neg c] at e_248
    refine aw_ldc2 hX w_146 d_X0_kinder_24 ?_
    refine aw_goto (t := 42) hX (by decide) d_X0_kinder_27 ?_
    cases e_248
    exact aw_lreturn hX (Nat.zero_le _) (Nat.zero_le _) d_X0_kinder_42
theorem k_X0_kinder {g : GP} (hg : g.1.stackTraces = false) (hF : gF g = true) {a0 : Int32} {h hz : AH} {z : Int64} (e : s_X0_kinder a0 h = some (z, hz)) : Ctr g yX0_kinder (wsY yX0_kinder cX0_kinder 6 (some .long)) 6 0 0 [.ref 13, .int a0] NT false h (some (.long z)) NT false hz := ctr_of (lv0 := [.ref 13, .int a0, jk, jk, jk, jk]) rfl rfl (by decide) hg trivial (fun X hX hn => t_X0_kinder hF hX e)
theorem d_X0_growUp_0 : decode cX0_growUp 0 = .ok (.aload_n 0, 1) := by decide +kernel
theorem d_X0_growUp_1 : decode cX0_growUp 1 = .ok (.getfield 18, 3) := by decide +kernel
theorem d_X0_growUp_4 : decode cX0_growUp 4 = .ok (.iload_n 1, 1) := by decide +kernel
theorem d_X0_growUp_5 : decode cX0_growUp 5 = .ok (.invokevirtual 76, 3) := by decide +kernel
theorem d_X0_growUp_8 : decode cX0_growUp 8 = .ok (.ifCond .ne 4, 3) := by decide +kernel
theorem d_X0_growUp_11 : decode cX0_growUp 11 = .ok (.return_, 1) := by decide +kernel
theorem d_X0_growUp_12 : decode cX0_growUp 12 = .ok (.iload_n 1, 1) := by decide +kernel
theorem d_X0_growUp_13 : decode cX0_growUp 13 = .ok (.iconst 1, 1) := by decide +kernel
theorem d_X0_growUp_14 : decode cX0_growUp 14 = .ok (.iadd, 1) := by decide +kernel
theorem d_X0_growUp_15 : decode cX0_growUp 15 = .ok (.istore_n 3, 1) := by decide +kernel
theorem d_X0_growUp_16 : decode cX0_growUp 16 = .ok (.iload_n 3, 1) := by decide +kernel
theorem d_X0_growUp_17 : decode cX0_growUp 17 = .ok (.aload_n 0, 1) := by decide +kernel
theorem d_X0_growUp_18 : decode cX0_growUp 18 = .ok (.getfield 18, 3) := by decide +kernel
theorem d_X0_growUp_21 : decode cX0_growUp 21 = .ok (.getfield 38, 3) := by decide +kernel
theorem d_X0_growUp_24 : decode cX0_growUp 24 = .ok (.if_icmp .ge 20, 3) := by decide +kernel
theorem d_X0_growUp_27 : decode cX0_growUp 27 = .ok (.aload_n 0, 1) := by decide +kernel
theorem d_X0_growUp_28 : decode cX0_growUp 28 = .ok (.getfield 18, 3) := by decide +kernel
theorem d_X0_growUp_31 : decode cX0_growUp 31 = .ok (.iload_n 3, 1) := by decide +kernel
theorem d_X0_growUp_32 : decode cX0_growUp 32 = .ok (.invokevirtual 76, 3) := by decide +kernel
theorem d_X0_growUp_35 : decode cX0_growUp 35 = .ok (.ifCond .eq 9, 3) := by decide +kernel
theorem d_X0_growUp_38 : decode cX0_growUp 38 = .ok (.iinc 3 1, 3) := by decide +kernel
theorem d_X0_growUp_41 : decode cX0_growUp 41 = .ok (.goto (-25), 3) := by decide +kernel
theorem d_X0_growUp_44 : decode cX0_growUp 44 = .ok (.iload_n 3, 1) := by decide +kernel
theorem d_X0_growUp_45 : decode cX0_growUp 45 = .ok (.aload_n 0, 1) := by decide +kernel
theorem d_X0_growUp_46 : decode cX0_growUp 46 = .ok (.getfield 18, 3) := by decide +kernel
theorem d_X0_growUp_49 : decode cX0_growUp 49 = .ok (.getfield 38, 3) := by decide +kernel
theorem d_X0_growUp_52 : decode cX0_growUp 52 = .ok (.if_icmp .ge 57, 3) := by decide +kernel
theorem d_X0_growUp_55 : decode cX0_growUp 55 = .ok (.aload_n 0, 1) := by decide +kernel
theorem d_X0_growUp_56 : decode cX0_growUp 56 = .ok (.getfield 35, 3) := by decide +kernel
theorem d_X0_growUp_59 : decode cX0_growUp 59 = .ok (.iload_n 1, 1) := by decide +kernel
theorem d_X0_growUp_60 : decode cX0_growUp 60 = .ok (.invokestatic 72, 3) := by decide +kernel
theorem d_X0_growUp_63 : decode cX0_growUp 63 = .ok (.iload_n 2, 1) := by decide +kernel
theorem d_X0_growUp_64 : decode cX0_growUp 64 = .ok (.imul, 1) := by decide +kernel
theorem d_X0_growUp_65 : decode cX0_growUp 65 = .ok (.sipush 1000, 3) := by decide +kernel
theorem d_X0_growUp_68 : decode cX0_growUp 68 = .ok (.idiv, 1) := by decide +kernel
theorem d_X0_growUp_69 : decode cX0_growUp 69 = .ok (.istore 4, 2) := by decide +kernel
theorem d_X0_growUp_71 : decode cX0_growUp 71 = .ok (.aload_n 0, 1) := by decide +kernel
theorem d_X0_growUp_72 : decode cX0_growUp 72 = .ok (.getfield 35, 3) := by decide +kernel
theorem d_X0_growUp_75 : decode cX0_growUp 75 = .ok (.iload_n 1, 1) := by decide +kernel
theorem d_X0_growUp_76 : decode cX0_growUp 76 = .ok (.aload_n 0, 1) := by decide +kernel
theorem d_X0_growUp_77 : decode cX0_growUp 77 = .ok (.getfield 35, 3) := by decide +kernel
theorem d_X0_growUp_80 : decode cX0_growUp 80 = .ok (.iload_n 1, 1) := by decide +kernel
theorem d_X0_growUp_81 : decode cX0_growUp 81 = .ok (.invokestatic 72, 3) := by decide +kernel
theorem d_X0_growUp_84 : decode cX0_growUp 84 = .ok (.iload 4, 2) := by decide +kernel
theorem d_X0_growUp_86 : decode cX0_growUp 86 = .ok (.isub, 1) := by decide +kernel
theorem d_X0_growUp_87 : decode cX0_growUp 87 = .ok (.invokestatic 68, 3) := by decide +kernel
theorem d_X0_growUp_90 : decode cX0_growUp 90 = .ok (.aload_n 0, 1) := by decide +kernel
theorem d_X0_growUp_91 : decode cX0_growUp 91 = .ok (.getfield 35, 3) := by decide +kernel
theorem d_X0_growUp_94 : decode cX0_growUp 94 = .ok (.iload_n 3, 1) := by decide +kernel
theorem d_X0_growUp_95 : decode cX0_growUp 95 = .ok (.aload_n 0, 1) := by decide +kernel
theorem d_X0_growUp_96 : decode cX0_growUp 96 = .ok (.getfield 35, 3) := by decide +kernel
theorem d_X0_growUp_99 : decode cX0_growUp 99 = .ok (.iload_n 3, 1) := by decide +kernel
theorem d_X0_growUp_100 : decode cX0_growUp 100 = .ok (.invokestatic 72, 3) := by decide +kernel
theorem d_X0_growUp_103 : decode cX0_growUp 103 = .ok (.iload 4, 2) := by decide +kernel
theorem d_X0_growUp_105 : decode cX0_growUp 105 = .ok (.iadd, 1) := by decide +kernel
theorem d_X0_growUp_106 : decode cX0_growUp 106 = .ok (.invokestatic 68, 3) := by decide +kernel
theorem d_X0_growUp_109 : decode cX0_growUp 109 = .ok (.return_, 1) := by decide +kernel
def l_X0_growUp_16 (p1 : Int32) (p2 : Int32) (s : Int32) (h : AH) : Option ((Int32 ⊕ Int32) × AH) := bd (gR h 13 1) fun t3 => if LAY t3 = (0, 8) then if (gI h t3 3) ≤ s then some (.inr s, h) else bd (gR h 13 1) fun t4 => if LAY t4 = (0, 8) then bd (s_X8_isYoung t4 s h) fun x5 => if x5 = 0 then some (.inr s, h) else some (.inl (s + 1), h) else none else none
theorem tb_X0_growUp_16 {g : GP} {X : MX} {mcR msR : Nat} (hF : gF g = true) (hX : Cx g RX0 cX0_growUp 4 mcR msR none [] X) {Q : State → Prop} {p1 : Int32} {p2 : Int32} {s : Int32} {d4 : Value} {h hz : AH} {z : (Int32 ⊕ Int32)} (e : l_X0_growUp_16 p1 p2 s h = some (z, hz)) (kI : ∀ (s2 : Int32) (xd4 : Value), z = .inl s2 → AR g X 0 0 Q hz 16 [.ref 13, .int p1, .int p2, .int s2, xd4] []) (kE0 : ∀ (yy : Int32) (y4 : Value), z = .inr yy → AR g X 0 0 Q hz 44 [.ref 13, .int p1, .int p2, .int yy, y4] []) : AR g X 0 0 Q h 16 [.ref 13, .int p1, .int p2, .int s, d4] [] := by
  unfold l_X0_growUp_16 at e
  refine aw_iload_n (i := 3) hX rfl rfl d_X0_growUp_16 ?_
  refine aw_aload_n (i := 0) hX rfl rfl d_X0_growUp_17 ?_
  obtain ⟨t3, f_250, e_250⟩ := bd_some e
  clear e
  obtain ⟨hlt3, e_251⟩ := if_some e_250
  clear e_250
  refine ar_getR hX fg_RX0_18 rfl f_250 d_X0_growUp_18 ?_
  refine ar_getI hX fg_RX0_38 (by assumption) d_X0_growUp_21 ?_
  refine aw_icmp_ge (t := 44) hX (by decide) d_X0_growUp_24 (fun c => ?_) (fun c => ?_)
  · rw [if_pos c] at e_251
    cases e_251
    exact kE0 s _ rfl
  · rw [if_neg c] at e_251
    refine aw_aload_n (i := 0) hX rfl rfl d_X0_growUp_27 ?_
    obtain ⟨t4, f_252, e_252⟩ := bd_some e_251
    clear e_251
    obtain ⟨hlt4, e_253⟩ := if_some e_252
    clear e_252
    refine ar_getR hX fg_RX0_18 rfl f_252 d_X0_growUp_28 ?_
    refine aw_iload_n (i := 3) hX rfl rfl d_X0_growUp_31 ?_
    obtain ⟨x5, f_254, e_254⟩ := bd_some e_253
    clear e_253
    refine aw_callV (b := t4) (av := [.int s]) (avr := [.int s]) hX (k_X8_isYoung (cx_g hX) hF f_254) mi_X8_isYoung rfl rfl w_25 w_26 w_27 (by decide) (by assumption) (LAY_lt (by assumption) (by decide)) rfl rfl (Nat.le_of_ble_eq_true rfl) (Nat.zero_le _) (Nat.zero_le _) d_X0_growUp_32 ?_
    refine aw_if_eq (t := 44) hX (by decide) d_X0_growUp_35 (fun c => ?_) (fun c => ?_)
    · rw [if_pos c] at e_254
      cases e_254
      exact kE0 s _ rfl
    · rw [if_neg c] at e_254
      refine aw_iinc (i := 3) (lv2 := [.ref 13, .int p1, .int p2, .int (s + 1), d4]) hX rfl rfl rfl rfl d_X0_growUp_38 ?_
      refine aw_goto (t := 16) hX (by decide) d_X0_growUp_41 ?_
      cases e_254
      exact kI (s + 1) _ rfl
theorem ti_X0_growUp_16 {g : GP} {X : MX} {mcR msR : Nat} (hF : gF g = true) (hX : Cx g RX0 cX0_growUp 4 mcR msR none [] X) {Q : State → Prop} {p1 : Int32} {p2 : Int32} {y : Int32} {hz : AH} (kE0 : ∀ (y_4 : Value), AR g X 0 0 Q hz 44 [.ref 13, .int p1, .int p2, .int y, y_4] []) (n : Nat) : ∀ (s : Int32) (d4 : Value) (h : AH), lpH (l_X0_growUp_16 p1 p2) n s h = some (y, hz) → AR g X 0 0 Q h 16 [.ref 13, .int p1, .int p2, .int s, d4] [] := by
  induction n with
  | zero => intro s d4 h e; cases e
  | succ n ih =>
    intro s d4 h e
    obtain ⟨x, h1, e1, e2⟩ := lpH_succ e
    rcases e2 with ⟨s2, rfl, e3⟩ | ⟨rfl, rfl⟩
    · exact tb_X0_growUp_16 hF hX e1 (fun s3 x0 hs => by cases hs; exact ih _ _ _ e3) (fun yy x0 hy => by cases hy)
    · exact tb_X0_growUp_16 hF hX e1 (fun s3 x0 hs => by cases hs) (fun yy x0 hy => by cases hy; exact kE0 x0)
theorem t_X0_growUp_16 {g : GP} {X : MX} {mcR msR : Nat} (hF : gF g = true) (hX : Cx g RX0 cX0_growUp 4 mcR msR none [] X) {Q : State → Prop} {p1 : Int32} {p2 : Int32} {s : Int32} {d4 : Value} {h hz : AH} {n : Nat} {y : Int32} (e : lpH (l_X0_growUp_16 p1 p2) n s h = some (y, hz)) (kE0 : ∀ (y_4 : Value), AR g X 0 0 Q hz 44 [.ref 13, .int p1, .int p2, .int y, y_4] []) : AR g X 0 0 Q h 16 [.ref 13, .int p1, .int p2, .int s, d4] [] := ti_X0_growUp_16 hF hX kE0 n _ _ _ e
def j_X0_growUp_44 (v1 : Int32) (v2 : Int32) (v3 : Int32) (h : AH) : Option (Unit × AH) := bd (gR h 13 1) fun t8 => if LAY t8 = (0, 8) then if (gI h t8 3) ≤ v3 then some ((), h) else bd (s_X9_at (some 30) v1 h) fun x9 => bd (idivF (x9 * v2) 1000) fun x10 => bd (s_X9_at (some 30) v1 h) fun x11 => bd (s_X9_put (some 30) v1 (x11 - x10) h) fun q12 => bd (s_X9_at (some 30) v3 q12.2) fun x13 => bd (s_X9_put (some 30) v3 (x13 + x10) q12.2) fun q14 => some ((), q14.2) else none
theorem tj_X0_growUp_44 {g : GP} {X : MX} {mcR msR : Nat} (hF : gF g = true) (hX : Cx g RX0 cX0_growUp 4 mcR msR none [] X) {v1 : Int32} {v2 : Int32} {v3 : Int32} {d4 : Value} {h hz : AH} {z : Unit} (e : j_X0_growUp_44 v1 v2 v3 h = some (z, hz)) : AR g X 0 0 (QQ g X NT false hz (.inl none) 0 0) h 44 [.ref 13, .int v1, .int v2, .int v3, d4] [] := by
  unfold j_X0_growUp_44 at e
  refine aw_iload_n (i := 3) hX rfl rfl d_X0_growUp_44 ?_
  refine aw_aload_n (i := 0) hX rfl rfl d_X0_growUp_45 ?_
  obtain ⟨t8, f_255, e_255⟩ := bd_some e
  clear e
  obtain ⟨hlt8, e_256⟩ := if_some e_255
  clear e_255
  refine ar_getR hX fg_RX0_18 rfl f_255 d_X0_growUp_46 ?_
  refine ar_getI hX fg_RX0_38 (by assumption) d_X0_growUp_49 ?_
  refine aw_icmp_ge (t := 109) hX (by decide) d_X0_growUp_52 (fun c => ?_) (fun c => ?_)
  · rw [if_pos c] at e_256
    cases e_256
    exact aw_return hX (Nat.zero_le _) (Nat.zero_le _) d_X0_growUp_109
  · rw [if_neg c] at e_256
    refine aw_aload_n (i := 0) hX rfl rfl d_X0_growUp_55 ?_
    refine ar_getF hX hF fg_RX0_35 rfl d_X0_growUp_56 ?_
    show AR g X 0 0 _ _ 59 _ [.ref 30]
    refine aw_iload_n (i := 1) hX rfl rfl d_X0_growUp_59 ?_
    obtain ⟨x9, f_257, e_257⟩ := bd_some e_256
    clear e_256
    refine aw_callSN (av := [.ref 30, .int v1]) (avr := [.int v1, .ref 30]) hX (k_X9_at (cx_g hX) hF f_257) mi_X9_at rfl rfl nx8 w_6 (by decide) (Nat.le_of_ble_eq_true rfl) (Nat.zero_le _) (Nat.zero_le _) d_X0_growUp_60 ?_
    refine aw_iload_n (i := 2) hX rfl rfl d_X0_growUp_63 ?_
    refine aw_imul hX d_X0_growUp_64 ?_
    refine aw_sipush (v := 1000) hX (by decide) d_X0_growUp_65 ?_
    obtain ⟨x10, f_258, e_258⟩ := bd_some e_257
    clear e_257
    refine ar_idiv hX f_258 d_X0_growUp_68 ?_
    refine aw_istore (i := 4) (lv2 := [.ref 13, .int v1, .int v2, .int v3, .int x10]) hX rfl rfl d_X0_growUp_69 ?_
    refine aw_aload_n (i := 0) hX rfl rfl d_X0_growUp_71 ?_
    refine ar_getF hX hF fg_RX0_35 rfl d_X0_growUp_72 ?_
    show AR g X 0 0 _ _ 75 _ [.ref 30]
    refine aw_iload_n (i := 1) hX rfl rfl d_X0_growUp_75 ?_
    refine aw_aload_n (i := 0) hX rfl rfl d_X0_growUp_76 ?_
    refine ar_getF hX hF fg_RX0_35 rfl d_X0_growUp_77 ?_
    show AR g X 0 0 _ _ 80 _ [.ref 30, .int v1, .ref 30]
    refine aw_iload_n (i := 1) hX rfl rfl d_X0_growUp_80 ?_
    obtain ⟨x11, f_259, e_259⟩ := bd_some e_258
    clear e_258
    refine aw_callSN (av := [.ref 30, .int v1]) (avr := [.int v1, .ref 30]) hX (k_X9_at (cx_g hX) hF f_259) mi_X9_at rfl rfl nx8 w_6 (by decide) (Nat.le_of_ble_eq_true rfl) (Nat.zero_le _) (Nat.zero_le _) d_X0_growUp_81 ?_
    refine aw_iload (i := 4) hX rfl d_X0_growUp_84 ?_
    refine aw_isub hX d_X0_growUp_86 ?_
    obtain ⟨q12, f_260, e_260⟩ := bd_some e_259
    clear e_259
    refine aw_callSN (av := [.ref 30, .int v1, .int (x11 - x10)]) (avr := [.int (x11 - x10), .int v1, .ref 30]) hX (k_X9_put (cx_g hX) hF f_260) mi_X9_put rfl rfl nx22 w_83 (by decide) (Nat.le_of_ble_eq_true rfl) (Nat.zero_le _) (Nat.zero_le _) d_X0_growUp_87 ?_
    refine aw_aload_n (i := 0) hX rfl rfl d_X0_growUp_90 ?_
    refine ar_getF hX hF fg_RX0_35 rfl d_X0_growUp_91 ?_
    show AR g X 0 0 _ _ 94 _ [.ref 30]
    refine aw_iload_n (i := 3) hX rfl rfl d_X0_growUp_94 ?_
    refine aw_aload_n (i := 0) hX rfl rfl d_X0_growUp_95 ?_
    refine ar_getF hX hF fg_RX0_35 rfl d_X0_growUp_96 ?_
    show AR g X 0 0 _ _ 99 _ [.ref 30, .int v3, .ref 30]
    refine aw_iload_n (i := 3) hX rfl rfl d_X0_growUp_99 ?_
    obtain ⟨x13, f_261, e_261⟩ := bd_some e_260
    clear e_260
    refine aw_callSN (av := [.ref 30, .int v3]) (avr := [.int v3, .ref 30]) hX (k_X9_at (cx_g hX) hF f_261) mi_X9_at rfl rfl nx8 w_6 (by decide) (Nat.le_of_ble_eq_true rfl) (Nat.zero_le _) (Nat.zero_le _) d_X0_growUp_100 ?_
    refine aw_iload (i := 4) hX rfl d_X0_growUp_103 ?_
    refine aw_iadd hX d_X0_growUp_105 ?_
    obtain ⟨q14, f_262, e_262⟩ := bd_some e_261
    clear e_261
    refine aw_callSN (av := [.ref 30, .int v3, .int (x13 + x10)]) (avr := [.int (x13 + x10), .int v3, .ref 30]) hX (k_X9_put (cx_g hX) hF f_262) mi_X9_put rfl rfl nx22 w_83 (by decide) (Nat.le_of_ble_eq_true rfl) (Nat.zero_le _) (Nat.zero_le _) d_X0_growUp_106 ?_
    cases e_262
    exact aw_return hX (Nat.zero_le _) (Nat.zero_le _) d_X0_growUp_109
def s_X0_growUp (a0 : Int32) (a1 : Int32) (h : AH) : Option (Unit × AH) := bd (gR h 13 1) fun t1 => if LAY t1 = (0, 8) then bd (s_X8_isYoung t1 a0 h) fun x2 => if x2 = 0 then some ((), h) else bd (lpH (l_X0_growUp_16 a0 a1) FU (a0 + 1) h) fun y6 => j_X0_growUp_44 a0 a1 y6.1 y6.2 else none
theorem t_X0_growUp {g : GP} {X : MX} {mcR msR : Nat} (hF : gF g = true) (hX : Cx g RX0 cX0_growUp 4 mcR msR none [] X) {a0 : Int32} {a1 : Int32} {h hz : AH} {z : Unit} (e : s_X0_growUp a0 a1 h = some (z, hz)) : AR g X 0 0 (QQ g X NT false hz (.inl none) 0 0) h 0 [.ref 13, .int a0, .int a1, jk, jk] [] := by
  unfold s_X0_growUp at e
  refine aw_aload_n (i := 0) hX rfl rfl d_X0_growUp_0 ?_
  obtain ⟨t1, f_263, e_263⟩ := bd_some e
  clear e
  obtain ⟨hlt1, e_264⟩ := if_some e_263
  clear e_263
  refine ar_getR hX fg_RX0_18 rfl f_263 d_X0_growUp_1 ?_
  refine aw_iload_n (i := 1) hX rfl rfl d_X0_growUp_4 ?_
  obtain ⟨x2, f_265, e_265⟩ := bd_some e_264
  clear e_264
  refine aw_callV (b := t1) (av := [.int a0]) (avr := [.int a0]) hX (k_X8_isYoung (cx_g hX) hF f_265) mi_X8_isYoung rfl rfl w_25 w_26 w_27 (by decide) (by assumption) (LAY_lt (by assumption) (by decide)) rfl rfl (Nat.le_of_ble_eq_true rfl) (Nat.zero_le _) (Nat.zero_le _) d_X0_growUp_5 ?_
  refine aw_if_ne (t := 12) hX (by decide) d_X0_growUp_8 (fun c => ?_) (fun c => ?_)
  · rw [if_neg c] at e_265
    refine aw_iload_n (i := 1) hX rfl rfl d_X0_growUp_12 ?_
    refine aw_iconst (v := 1) hX (by decide) d_X0_growUp_13 ?_
    refine aw_iadd hX d_X0_growUp_14 ?_
    refine aw_istore_n (i := 3) (lv2 := [.ref 13, .int a0, .int a1, .int (a0 + 1), jk]) hX rfl rfl rfl d_X0_growUp_15 ?_
    obtain ⟨y6, f_266, e_266⟩ := bd_some e_265
    clear e_265
    refine t_X0_growUp_16 hF hX f_266 (fun d7_4 => ?_)
    exact tj_X0_growUp_44 hF hX e_266
  · rw [if_pos c] at e_265
    cases e_265
    exact aw_return hX (Nat.zero_le _) (Nat.zero_le _) d_X0_growUp_11
theorem k_X0_growUp {g : GP} (hg : g.1.stackTraces = false) (hF : gF g = true) {a0 : Int32} {a1 : Int32} {h hz : AH} {z : Unit} (e : s_X0_growUp a0 a1 h = some (z, hz)) : Ctr g yX0_growUp (wsY yX0_growUp cX0_growUp 5 none) 4 0 0 [.ref 13, .int a0, .int a1] NT false h none NT false hz := ctr_of (lv0 := [.ref 13, .int a0, .int a1, jk, jk]) rfl rfl (by decide) hg trivial (fun X hX hn => t_X0_growUp hF hX e)
theorem d_X0_throughYears_0 : decode cX0_throughYears 0 = .ok (.aload_n 0, 1) := by decide +kernel
theorem d_X0_throughYears_1 : decode cX0_throughYears 1 = .ok (.getfield 18, 3) := by decide +kernel
theorem d_X0_throughYears_4 : decode cX0_throughYears 4 = .ok (.getfield 99, 3) := by decide +kernel
theorem d_X0_throughYears_7 : decode cX0_throughYears 7 = .ok (.aload_n 0, 1) := by decide +kernel
theorem d_X0_throughYears_8 : decode cX0_throughYears 8 = .ok (.getfield 35, 3) := by decide +kernel
theorem d_X0_throughYears_11 : decode cX0_throughYears 11 = .ok (.invokestatic 148, 3) := by decide +kernel
theorem d_X0_throughYears_14 : decode cX0_throughYears 14 = .ok (.lconst 0, 1) := by decide +kernel
theorem d_X0_throughYears_15 : decode cX0_throughYears 15 = .ok (.lstore 4, 2) := by decide +kernel
theorem d_X0_throughYears_17 : decode cX0_throughYears 17 = .ok (.lconst 0, 1) := by decide +kernel
theorem d_X0_throughYears_18 : decode cX0_throughYears 18 = .ok (.lstore 6, 2) := by decide +kernel
theorem d_X0_throughYears_20 : decode cX0_throughYears 20 = .ok (.iconst 0, 1) := by decide +kernel
theorem d_X0_throughYears_21 : decode cX0_throughYears 21 = .ok (.istore 8, 2) := by decide +kernel
theorem d_X0_throughYears_23 : decode cX0_throughYears 23 = .ok (.iload 8, 2) := by decide +kernel
theorem d_X0_throughYears_25 : decode cX0_throughYears 25 = .ok (.iload_n 1, 1) := by decide +kernel
theorem d_X0_throughYears_26 : decode cX0_throughYears 26 = .ok (.if_icmp .ge 65, 3) := by decide +kernel
theorem d_X0_throughYears_29 : decode cX0_throughYears 29 = .ok (.aload_n 0, 1) := by decide +kernel
theorem d_X0_throughYears_30 : decode cX0_throughYears 30 = .ok (.aload_n 0, 1) := by decide +kernel
theorem d_X0_throughYears_31 : decode cX0_throughYears 31 = .ok (.getfield 9, 3) := by decide +kernel
theorem d_X0_throughYears_34 : decode cX0_throughYears 34 = .ok (.aload_n 0, 1) := by decide +kernel
theorem d_X0_throughYears_35 : decode cX0_throughYears 35 = .ok (.getfield 18, 3) := by decide +kernel
theorem d_X0_throughYears_38 : decode cX0_throughYears 38 = .ok (.getfield 57, 3) := by decide +kernel
theorem d_X0_throughYears_41 : decode cX0_throughYears 41 = .ok (.aload_n 0, 1) := by decide +kernel
theorem d_X0_throughYears_42 : decode cX0_throughYears 42 = .ok (.getfield 35, 3) := by decide +kernel
theorem d_X0_throughYears_45 : decode cX0_throughYears 45 = .ok (.invokevirtual 152, 3) := by decide +kernel
theorem d_X0_throughYears_48 : decode cX0_throughYears 48 = .ok (.lstore 4, 2) := by decide +kernel
theorem d_X0_throughYears_50 : decode cX0_throughYears 50 = .ok (.lload 6, 2) := by decide +kernel
theorem d_X0_throughYears_52 : decode cX0_throughYears 52 = .ok (.lload 4, 2) := by decide +kernel
theorem d_X0_throughYears_54 : decode cX0_throughYears 54 = .ok (.ladd, 1) := by decide +kernel
theorem d_X0_throughYears_55 : decode cX0_throughYears 55 = .ok (.lstore 6, 2) := by decide +kernel
theorem d_X0_throughYears_57 : decode cX0_throughYears 57 = .ok (.iconst 0, 1) := by decide +kernel
theorem d_X0_throughYears_58 : decode cX0_throughYears 58 = .ok (.istore 9, 2) := by decide +kernel
theorem d_X0_throughYears_60 : decode cX0_throughYears 60 = .ok (.iload 9, 2) := by decide +kernel
theorem d_X0_throughYears_62 : decode cX0_throughYears 62 = .ok (.aload_n 0, 1) := by decide +kernel
theorem d_X0_throughYears_63 : decode cX0_throughYears 63 = .ok (.getfield 18, 3) := by decide +kernel
theorem d_X0_throughYears_66 : decode cX0_throughYears 66 = .ok (.getfield 38, 3) := by decide +kernel
theorem d_X0_throughYears_69 : decode cX0_throughYears 69 = .ok (.if_icmp .ge 16, 3) := by decide +kernel
theorem d_X0_throughYears_72 : decode cX0_throughYears 72 = .ok (.aload_n 0, 1) := by decide +kernel
theorem d_X0_throughYears_73 : decode cX0_throughYears 73 = .ok (.iload 9, 2) := by decide +kernel
theorem d_X0_throughYears_75 : decode cX0_throughYears 75 = .ok (.iload_n 2, 1) := by decide +kernel
theorem d_X0_throughYears_76 : decode cX0_throughYears 76 = .ok (.invokevirtual 156, 3) := by decide +kernel
theorem d_X0_throughYears_79 : decode cX0_throughYears 79 = .ok (.iinc 9 1, 3) := by decide +kernel
theorem d_X0_throughYears_82 : decode cX0_throughYears 82 = .ok (.goto (-22), 3) := by decide +kernel
theorem d_X0_throughYears_85 : decode cX0_throughYears 85 = .ok (.iinc 8 1, 3) := by decide +kernel
theorem d_X0_throughYears_88 : decode cX0_throughYears 88 = .ok (.goto (-65), 3) := by decide +kernel
theorem d_X0_throughYears_91 : decode cX0_throughYears 91 = .ok (.iload_n 3, 1) := by decide +kernel
theorem d_X0_throughYears_92 : decode cX0_throughYears 92 = .ok (.ifCond .ne 6, 3) := by decide +kernel
theorem d_X0_throughYears_95 : decode cX0_throughYears 95 = .ok (.lload 4, 2) := by decide +kernel
theorem d_X0_throughYears_97 : decode cX0_throughYears 97 = .ok (.lreturn, 1) := by decide +kernel
theorem d_X0_throughYears_98 : decode cX0_throughYears 98 = .ok (.iload_n 3, 1) := by decide +kernel
theorem d_X0_throughYears_99 : decode cX0_throughYears 99 = .ok (.iconst 1, 1) := by decide +kernel
theorem d_X0_throughYears_100 : decode cX0_throughYears 100 = .ok (.if_icmp .ne 8, 3) := by decide +kernel
theorem d_X0_throughYears_103 : decode cX0_throughYears 103 = .ok (.lload 6, 2) := by decide +kernel
theorem d_X0_throughYears_105 : decode cX0_throughYears 105 = .ok (.goto 14, 3) := by decide +kernel
theorem d_X0_throughYears_108 : decode cX0_throughYears 108 = .ok (.aload_n 0, 1) := by decide +kernel
theorem d_X0_throughYears_109 : decode cX0_throughYears 109 = .ok (.getfield 35, 3) := by decide +kernel
theorem d_X0_throughYears_112 : decode cX0_throughYears 112 = .ok (.iload_n 3, 1) := by decide +kernel
theorem d_X0_throughYears_113 : decode cX0_throughYears 113 = .ok (.iconst 2, 1) := by decide +kernel
theorem d_X0_throughYears_114 : decode cX0_throughYears 114 = .ok (.isub, 1) := by decide +kernel
theorem d_X0_throughYears_115 : decode cX0_throughYears 115 = .ok (.invokestatic 72, 3) := by decide +kernel
theorem d_X0_throughYears_118 : decode cX0_throughYears 118 = .ok (.i2l, 1) := by decide +kernel
theorem d_X0_throughYears_119 : decode cX0_throughYears 119 = .ok (.lreturn, 1) := by decide +kernel
def l_X0_throughYears_60 (p1 : Int32) (p2 : Int32) (p3 : Int32) (p4 : Int64) (p6 : Int64) (p8 : Int32) (s : Int32) (h : AH) : Option ((Int32 ⊕ Unit) × AH) := bd (gR h 13 1) fun t5 => if LAY t5 = (0, 8) then if (gI h t5 3) ≤ s then some (.inr (), h) else bd (s_X0_growUp s p2 h) fun q6 => some (.inl (s + 1), q6.2) else none
theorem tb_X0_throughYears_60 {g : GP} {X : MX} {mcR msR : Nat} (hF : gF g = true) (hX : Cx g RX0 cX0_throughYears 5 mcR msR (some .long) [] X) {Q : State → Prop} {p1 : Int32} {p2 : Int32} {p3 : Int32} {p4 : Int64} {p6 : Int64} {p8 : Int32} {s : Int32} {h hz : AH} {z : (Int32 ⊕ Unit)} (e : l_X0_throughYears_60 p1 p2 p3 p4 p6 p8 s h = some (z, hz)) (kI : ∀ (s2 : Int32), z = .inl s2 → AR g X 0 0 Q hz 60 [.ref 13, .int p1, .int p2, .int p3, .long p4, jk, .long p6, jk, .int p8, .int s2] []) (kE0 : ∀ (yy : Unit) (y9 : Value), z = .inr yy → AR g X 0 0 Q hz 85 [.ref 13, .int p1, .int p2, .int p3, .long p4, jk, .long p6, jk, .int p8, y9] []) : AR g X 0 0 Q h 60 [.ref 13, .int p1, .int p2, .int p3, .long p4, jk, .long p6, jk, .int p8, .int s] [] := by
  unfold l_X0_throughYears_60 at e
  refine aw_iload (i := 9) hX rfl d_X0_throughYears_60 ?_
  refine aw_aload_n (i := 0) hX rfl rfl d_X0_throughYears_62 ?_
  obtain ⟨t5, f_267, e_267⟩ := bd_some e
  clear e
  obtain ⟨hlt5, e_268⟩ := if_some e_267
  clear e_267
  refine ar_getR hX fg_RX0_18 rfl f_267 d_X0_throughYears_63 ?_
  refine ar_getI hX fg_RX0_38 (by assumption) d_X0_throughYears_66 ?_
  refine aw_icmp_ge (t := 85) hX (by decide) d_X0_throughYears_69 (fun c => ?_) (fun c => ?_)
  · rw [if_pos c] at e_268
    cases e_268
    exact kE0 () _ rfl
  · rw [if_neg c] at e_268
    refine aw_aload_n (i := 0) hX rfl rfl d_X0_throughYears_72 ?_
    refine aw_iload (i := 9) hX rfl d_X0_throughYears_73 ?_
    refine aw_iload_n (i := 2) hX rfl rfl d_X0_throughYears_75 ?_
    obtain ⟨q6, f_269, e_269⟩ := bd_some e_268
    clear e_268
    refine aw_callV (b := 13) (av := [.int s, .int p2]) (avr := [.int p2, .int s]) hX (k_X0_growUp (cx_g hX) hF f_269) mi_X0_growUp rfl rfl w_162 w_163 w_164 (by decide) rfl (LAY_lt rfl (by decide)) rfl rfl (Nat.le_of_ble_eq_true rfl) (Nat.zero_le _) (Nat.zero_le _) d_X0_throughYears_76 ?_
    refine aw_iinc (i := 9) (lv2 := [.ref 13, .int p1, .int p2, .int p3, .long p4, jk, .long p6, jk, .int p8, .int (s + 1)]) hX rfl rfl rfl rfl d_X0_throughYears_79 ?_
    refine aw_goto (t := 60) hX (by decide) d_X0_throughYears_82 ?_
    cases e_269
    exact kI (s + 1)  rfl
theorem ti_X0_throughYears_60 {g : GP} {X : MX} {mcR msR : Nat} (hF : gF g = true) (hX : Cx g RX0 cX0_throughYears 5 mcR msR (some .long) [] X) {Q : State → Prop} {p1 : Int32} {p2 : Int32} {p3 : Int32} {p4 : Int64} {p6 : Int64} {p8 : Int32} {y : Unit} {hz : AH} (kE0 : ∀ (y_9 : Value), AR g X 0 0 Q hz 85 [.ref 13, .int p1, .int p2, .int p3, .long p4, jk, .long p6, jk, .int p8, y_9] []) (n : Nat) : ∀ (s : Int32) (h : AH), lpH (l_X0_throughYears_60 p1 p2 p3 p4 p6 p8) n s h = some (y, hz) → AR g X 0 0 Q h 60 [.ref 13, .int p1, .int p2, .int p3, .long p4, jk, .long p6, jk, .int p8, .int s] [] := by
  induction n with
  | zero => intro s h e; cases e
  | succ n ih =>
    intro s h e
    obtain ⟨x, h1, e1, e2⟩ := lpH_succ e
    rcases e2 with ⟨s2, rfl, e3⟩ | ⟨rfl, rfl⟩
    · exact tb_X0_throughYears_60 hF hX e1 (fun s3  hs => by cases hs; exact ih _  _ e3) (fun yy x0 hy => by cases hy)
    · exact tb_X0_throughYears_60 hF hX e1 (fun s3  hs => by cases hs) (fun yy x0 hy => by cases hy; exact kE0 x0)
theorem t_X0_throughYears_60 {g : GP} {X : MX} {mcR msR : Nat} (hF : gF g = true) (hX : Cx g RX0 cX0_throughYears 5 mcR msR (some .long) [] X) {Q : State → Prop} {p1 : Int32} {p2 : Int32} {p3 : Int32} {p4 : Int64} {p6 : Int64} {p8 : Int32} {s : Int32} {h hz : AH} {n : Nat} {y : Unit} (e : lpH (l_X0_throughYears_60 p1 p2 p3 p4 p6 p8) n s h = some (y, hz)) (kE0 : ∀ (y_9 : Value), AR g X 0 0 Q hz 85 [.ref 13, .int p1, .int p2, .int p3, .long p4, jk, .long p6, jk, .int p8, y_9] []) : AR g X 0 0 Q h 60 [.ref 13, .int p1, .int p2, .int p3, .long p4, jk, .long p6, jk, .int p8, .int s] [] := ti_X0_throughYears_60 hF hX kE0 n _  _ e
def l_X0_throughYears_23 (p1 : Int32) (p2 : Int32) (p3 : Int32) (s : (Int64 × Int64 × Int32)) (h : AH) : Option (((Int64 × Int64 × Int32) ⊕ (Int64 × Int64)) × AH) := if p1 ≤ s.2.2 then some (.inr (s.1, s.2.1), h) else bd (gR h 13 1) fun t3 => if LAY t3 = (0, 8) then bd (s_X0_takings (some 14) (some (t3 + 7)) (some 30) h) fun x4 => bd (lpH (l_X0_throughYears_60 p1 p2 p3 x4 (s.2.1 + x4) s.2.2) FU 0 h) fun y7 => some (.inl (x4, (s.2.1 + x4), s.2.2 + 1), y7.2) else none
theorem tb_X0_throughYears_23 {g : GP} {X : MX} {mcR msR : Nat} (hF : gF g = true) (hX : Cx g RX0 cX0_throughYears 5 mcR msR (some .long) [] X) {Q : State → Prop} {p1 : Int32} {p2 : Int32} {p3 : Int32} {s : (Int64 × Int64 × Int32)} {d9 : Value} {h hz : AH} {z : ((Int64 × Int64 × Int32) ⊕ (Int64 × Int64))} (e : l_X0_throughYears_23 p1 p2 p3 s h = some (z, hz)) (kI : ∀ (s2 : (Int64 × Int64 × Int32)) (xd9 : Value), z = .inl s2 → AR g X 0 0 Q hz 23 [.ref 13, .int p1, .int p2, .int p3, .long s2.1, jk, .long s2.2.1, jk, .int s2.2.2, xd9] []) (kE0 : ∀ (yy : (Int64 × Int64)) (y1 : Value) (y2 : Value) (y8 : Value) (y9 : Value), z = .inr yy → AR g X 0 0 Q hz 91 [.ref 13, y1, y2, .int p3, .long yy.1, jk, .long yy.2, jk, y8, y9] []) : AR g X 0 0 Q h 23 [.ref 13, .int p1, .int p2, .int p3, .long s.1, jk, .long s.2.1, jk, .int s.2.2, d9] [] := by
  unfold l_X0_throughYears_23 at e
  refine aw_iload (i := 8) hX rfl d_X0_throughYears_23 ?_
  refine aw_iload_n (i := 1) hX rfl rfl d_X0_throughYears_25 ?_
  refine aw_icmp_ge (t := 91) hX (by decide) d_X0_throughYears_26 (fun c => ?_) (fun c => ?_)
  · rw [if_pos c] at e
    cases e
    exact kE0 (s.1, s.2.1) _ _ _ _ rfl
  · rw [if_neg c] at e
    refine aw_aload_n (i := 0) hX rfl rfl d_X0_throughYears_29 ?_
    refine aw_aload_n (i := 0) hX rfl rfl d_X0_throughYears_30 ?_
    refine ar_getF hX hF fg_RX0_9 rfl d_X0_throughYears_31 ?_
    show AR g X 0 0 _ _ 34 _ [.ref 14, .ref 13]
    refine aw_aload_n (i := 0) hX rfl rfl d_X0_throughYears_34 ?_
    obtain ⟨t3, f_270, e_270⟩ := bd_some e
    clear e
    obtain ⟨hlt3, e_271⟩ := if_some e_270
    clear e_270
    refine ar_getR hX fg_RX0_18 rfl f_270 d_X0_throughYears_35 ?_
    refine ar_getF hX hF fg_RX0_57 (by assumption) d_X0_throughYears_38 ?_
    refine aw_aload_n (i := 0) hX rfl rfl d_X0_throughYears_41 ?_
    refine ar_getF hX hF fg_RX0_35 rfl d_X0_throughYears_42 ?_
    show AR g X 0 0 _ _ 45 _ [.ref 30, .ref (t3 + 7), .ref 14, .ref 13]
    obtain ⟨x4, f_272, e_272⟩ := bd_some e_271
    clear e_271
    refine aw_callV (b := 13) (av := [.ref 14, .ref (t3 + 7), .ref 30]) (avr := [.ref 30, .ref (t3 + 7), .ref 14]) hX (k_X0_takings (cx_g hX) hF f_272) mi_X0_takings rfl rfl w_158 w_159 w_160 (by decide) rfl (LAY_lt rfl (by decide)) rfl rfl (Nat.le_of_ble_eq_true rfl) (Nat.zero_le _) (Nat.zero_le _) d_X0_throughYears_45 ?_
    refine aw_lstore (i := 4) (lv2 := [.ref 13, .int p1, .int p2, .int p3, .long x4, jk, .long s.2.1, jk, .int s.2.2, d9]) hX rfl rfl d_X0_throughYears_48 ?_
    refine aw_lload (i := 6) hX rfl d_X0_throughYears_50 ?_
    refine aw_lload (i := 4) hX rfl d_X0_throughYears_52 ?_
    refine aw_ladd hX d_X0_throughYears_54 ?_
    refine aw_lstore (i := 6) (lv2 := [.ref 13, .int p1, .int p2, .int p3, .long x4, jk, .long (s.2.1 + x4), jk, .int s.2.2, d9]) hX rfl rfl d_X0_throughYears_55 ?_
    refine aw_iconst (v := 0) hX (by decide) d_X0_throughYears_57 ?_
    refine aw_istore (i := 9) (lv2 := [.ref 13, .int p1, .int p2, .int p3, .long x4, jk, .long (s.2.1 + x4), jk, .int s.2.2, .int 0]) hX rfl rfl d_X0_throughYears_58 ?_
    obtain ⟨y7, f_273, e_273⟩ := bd_some e_272
    clear e_272
    refine t_X0_throughYears_60 hF hX f_273 (fun d8_9 => ?_)
    refine aw_iinc (i := 8) (lv2 := [.ref 13, .int p1, .int p2, .int p3, .long x4, jk, .long (s.2.1 + x4), jk, .int (s.2.2 + 1), d8_9]) hX rfl rfl rfl rfl d_X0_throughYears_85 ?_
    refine aw_goto (t := 23) hX (by decide) d_X0_throughYears_88 ?_
    cases e_273
    exact kI (x4, (s.2.1 + x4), s.2.2 + 1) _ rfl
theorem ti_X0_throughYears_23 {g : GP} {X : MX} {mcR msR : Nat} (hF : gF g = true) (hX : Cx g RX0 cX0_throughYears 5 mcR msR (some .long) [] X) {Q : State → Prop} {p1 : Int32} {p2 : Int32} {p3 : Int32} {y : (Int64 × Int64)} {hz : AH} (kE0 : ∀ (y_1 : Value) (y_2 : Value) (y_8 : Value) (y_9 : Value), AR g X 0 0 Q hz 91 [.ref 13, y_1, y_2, .int p3, .long y.1, jk, .long y.2, jk, y_8, y_9] []) (n : Nat) : ∀ (s : (Int64 × Int64 × Int32)) (d9 : Value) (h : AH), lpH (l_X0_throughYears_23 p1 p2 p3) n s h = some (y, hz) → AR g X 0 0 Q h 23 [.ref 13, .int p1, .int p2, .int p3, .long s.1, jk, .long s.2.1, jk, .int s.2.2, d9] [] := by
  induction n with
  | zero => intro s d9 h e; cases e
  | succ n ih =>
    intro s d9 h e
    obtain ⟨x, h1, e1, e2⟩ := lpH_succ e
    rcases e2 with ⟨s2, rfl, e3⟩ | ⟨rfl, rfl⟩
    · exact tb_X0_throughYears_23 hF hX e1 (fun s3 x0 hs => by cases hs; exact ih _ _ _ e3) (fun yy x0 x1 x2 x3 hy => by cases hy)
    · exact tb_X0_throughYears_23 hF hX e1 (fun s3 x0 hs => by cases hs) (fun yy x0 x1 x2 x3 hy => by cases hy; exact kE0 x0 x1 x2 x3)
theorem t_X0_throughYears_23 {g : GP} {X : MX} {mcR msR : Nat} (hF : gF g = true) (hX : Cx g RX0 cX0_throughYears 5 mcR msR (some .long) [] X) {Q : State → Prop} {p1 : Int32} {p2 : Int32} {p3 : Int32} {s : (Int64 × Int64 × Int32)} {d9 : Value} {h hz : AH} {n : Nat} {y : (Int64 × Int64)} (e : lpH (l_X0_throughYears_23 p1 p2 p3) n s h = some (y, hz)) (kE0 : ∀ (y_1 : Value) (y_2 : Value) (y_8 : Value) (y_9 : Value), AR g X 0 0 Q hz 91 [.ref 13, y_1, y_2, .int p3, .long y.1, jk, .long y.2, jk, y_8, y_9] []) : AR g X 0 0 Q h 23 [.ref 13, .int p1, .int p2, .int p3, .long s.1, jk, .long s.2.1, jk, .int s.2.2, d9] [] := ti_X0_throughYears_23 hF hX kE0 n _ _ _ e
def s_X0_throughYears (a0 : Int32) (a1 : Int32) (a2 : Int32) (h : AH) : Option (Int64 × AH) := bd (gR h 13 1) fun t1 => if LAY t1 = (0, 8) then bd (s_X9_copyRow (some (t1 + 4)) (some 30) h) fun q2 => bd (lpH (l_X0_throughYears_23 a0 a1 a2) FU (0, 0, 0) q2.2) fun y9 => if a2 = 0 then some (y9.1.1, y9.2) else if a2 = 1 then some (y9.1.2, y9.2) else bd (s_X9_at (some 30) (a2 - 2) y9.2) fun x11 => some (x11.toInt64, y9.2) else none
theorem t_X0_throughYears {g : GP} {X : MX} {mcR msR : Nat} (hF : gF g = true) (hX : Cx g RX0 cX0_throughYears 5 mcR msR (some .long) [] X) {a0 : Int32} {a1 : Int32} {a2 : Int32} {h hz : AH} {z : Int64} (e : s_X0_throughYears a0 a1 a2 h = some (z, hz)) : AR g X 0 0 (QQ g X NT false hz (.inl (some (.long z))) 0 0) h 0 [.ref 13, .int a0, .int a1, .int a2, jk, jk, jk, jk, jk, jk] [] := by
  unfold s_X0_throughYears at e
  refine aw_aload_n (i := 0) hX rfl rfl d_X0_throughYears_0 ?_
  obtain ⟨t1, f_274, e_274⟩ := bd_some e
  clear e
  obtain ⟨hlt1, e_275⟩ := if_some e_274
  clear e_274
  refine ar_getR hX fg_RX0_18 rfl f_274 d_X0_throughYears_1 ?_
  refine ar_getF hX hF fg_RX0_99 (by assumption) d_X0_throughYears_4 ?_
  refine aw_aload_n (i := 0) hX rfl rfl d_X0_throughYears_7 ?_
  refine ar_getF hX hF fg_RX0_35 rfl d_X0_throughYears_8 ?_
  show AR g X 0 0 _ _ 11 _ [.ref 30, .ref (t1 + 4)]
  obtain ⟨q2, f_276, e_276⟩ := bd_some e_275
  clear e_275
  refine aw_callSN (av := [.ref (t1 + 4), .ref 30]) (avr := [.ref 30, .ref (t1 + 4)]) hX (k_X9_copyRow (cx_g hX) hF f_276) mi_X9_copyRow rfl rfl nx34 w_156 (by decide) (Nat.le_of_ble_eq_true rfl) (Nat.zero_le _) (Nat.zero_le _) d_X0_throughYears_11 ?_
  refine aw_lconst (v := 0) hX (by decide) d_X0_throughYears_14 ?_
  refine aw_lstore (i := 4) (lv2 := [.ref 13, .int a0, .int a1, .int a2, .long 0, jk, jk, jk, jk, jk]) hX rfl rfl d_X0_throughYears_15 ?_
  refine aw_lconst (v := 0) hX (by decide) d_X0_throughYears_17 ?_
  refine aw_lstore (i := 6) (lv2 := [.ref 13, .int a0, .int a1, .int a2, .long 0, jk, .long 0, jk, jk, jk]) hX rfl rfl d_X0_throughYears_18 ?_
  refine aw_iconst (v := 0) hX (by decide) d_X0_throughYears_20 ?_
  refine aw_istore (i := 8) (lv2 := [.ref 13, .int a0, .int a1, .int a2, .long 0, jk, .long 0, jk, .int 0, jk]) hX rfl rfl d_X0_throughYears_21 ?_
  obtain ⟨y9, f_277, e_277⟩ := bd_some e_276
  clear e_276
  refine t_X0_throughYears_23 hF hX f_277 (fun d10_1 d10_2 d10_8 d10_9 => ?_)
  refine aw_iload_n (i := 3) hX rfl rfl d_X0_throughYears_91 ?_
  refine aw_if_ne (t := 98) hX (by decide) d_X0_throughYears_92 (fun c => ?_) (fun c => ?_)
  · rw [if_neg c] at e_277
    refine aw_iload_n (i := 3) hX rfl rfl d_X0_throughYears_98 ?_
    refine aw_iconst (v := 1) hX (by decide) d_X0_throughYears_99 ?_
    refine aw_icmp_ne (t := 108) hX (by decide) d_X0_throughYears_100 (fun c => ?_) (fun c => ?_)
    · rw [if_neg c] at e_277
      refine aw_aload_n (i := 0) hX rfl rfl d_X0_throughYears_108 ?_
      refine ar_getF hX hF fg_RX0_35 rfl d_X0_throughYears_109 ?_
      show AR g X 0 0 _ _ 112 _ [.ref 30]
      refine aw_iload_n (i := 3) hX rfl rfl d_X0_throughYears_112 ?_
      refine aw_iconst (v := 2) hX (by decide) d_X0_throughYears_113 ?_
      refine aw_isub hX d_X0_throughYears_114 ?_
      obtain ⟨x11, f_278, e_278⟩ := bd_some e_277
      clear e_277
      refine aw_callSN (av := [.ref 30, .int (a2 - 2)]) (avr := [.int (a2 - 2), .ref 30]) hX (k_X9_at (cx_g hX) hF f_278) mi_X9_at rfl rfl nx8 w_6 (by decide) (Nat.le_of_ble_eq_true rfl) (Nat.zero_le _) (Nat.zero_le _) d_X0_throughYears_115 ?_
      refine aw_i2l hX d_X0_throughYears_118 ?_
      cases e_278
      exact aw_lreturn hX (Nat.zero_le _) (Nat.zero_le _) d_X0_throughYears_119
    · rw [if_pos c] at e_277
      refine aw_lload (i := 6) hX rfl d_X0_throughYears_103 ?_
      refine aw_goto (t := 119) hX (by decide) d_X0_throughYears_105 ?_
      cases e_277
      exact aw_lreturn hX (Nat.zero_le _) (Nat.zero_le _) d_X0_throughYears_119
  · rw [if_pos c] at e_277
    refine aw_lload (i := 4) hX rfl d_X0_throughYears_95 ?_
    cases e_277
    exact aw_lreturn hX (Nat.zero_le _) (Nat.zero_le _) d_X0_throughYears_97
theorem k_X0_throughYears {g : GP} (hg : g.1.stackTraces = false) (hF : gF g = true) {a0 : Int32} {a1 : Int32} {a2 : Int32} {h hz : AH} {z : Int64} (e : s_X0_throughYears a0 a1 a2 h = some (z, hz)) : Ctr g yX0_throughYears (wsY yX0_throughYears cX0_throughYears 10 (some .long)) 5 0 0 [.ref 13, .int a0, .int a1, .int a2] NT false h (some (.long z)) NT false hz := ctr_of (lv0 := [.ref 13, .int a0, .int a1, .int a2, jk, jk, jk, jk, jk, jk]) rfl rfl (by decide) hg trivial (fun X hX hn => t_X0_throughYears hF hX e)
theorem d_X0_owing_0 : decode cX0_owing 0 = .ok (.aload_n 0, 1) := by decide +kernel
theorem d_X0_owing_1 : decode cX0_owing 1 = .ok (.getfield 9, 3) := by decide +kernel
theorem d_X0_owing_4 : decode cX0_owing 4 = .ok (.iload_n 1, 1) := by decide +kernel
theorem d_X0_owing_5 : decode cX0_owing 5 = .ok (.invokestatic 72, 3) := by decide +kernel
theorem d_X0_owing_8 : decode cX0_owing 8 = .ok (.istore_n 3, 1) := by decide +kernel
theorem d_X0_owing_9 : decode cX0_owing 9 = .ok (.aload_n 0, 1) := by decide +kernel
theorem d_X0_owing_10 : decode cX0_owing 10 = .ok (.getfield 18, 3) := by decide +kernel
theorem d_X0_owing_13 : decode cX0_owing 13 = .ok (.getfield 57, 3) := by decide +kernel
theorem d_X0_owing_16 : decode cX0_owing 16 = .ok (.iload_n 3, 1) := by decide +kernel
theorem d_X0_owing_17 : decode cX0_owing 17 = .ok (.invokestatic 72, 3) := by decide +kernel
theorem d_X0_owing_20 : decode cX0_owing 20 = .ok (.i2l, 1) := by decide +kernel
theorem d_X0_owing_21 : decode cX0_owing 21 = .ok (.lstore 4, 2) := by decide +kernel
theorem d_X0_owing_23 : decode cX0_owing 23 = .ok (.aload_n 0, 1) := by decide +kernel
theorem d_X0_owing_24 : decode cX0_owing 24 = .ok (.getfield 18, 3) := by decide +kernel
theorem d_X0_owing_27 : decode cX0_owing 27 = .ok (.getfield 86, 3) := by decide +kernel
theorem d_X0_owing_30 : decode cX0_owing 30 = .ok (.iconst 1, 1) := by decide +kernel
theorem d_X0_owing_31 : decode cX0_owing 31 = .ok (.isub, 1) := by decide +kernel
theorem d_X0_owing_32 : decode cX0_owing 32 = .ok (.iload_n 2, 1) := by decide +kernel
theorem d_X0_owing_33 : decode cX0_owing 33 = .ok (.isub, 1) := by decide +kernel
theorem d_X0_owing_34 : decode cX0_owing 34 = .ok (.istore 6, 2) := by decide +kernel
theorem d_X0_owing_36 : decode cX0_owing 36 = .ok (.aload_n 0, 1) := by decide +kernel
theorem d_X0_owing_37 : decode cX0_owing 37 = .ok (.getfield 18, 3) := by decide +kernel
theorem d_X0_owing_40 : decode cX0_owing 40 = .ok (.getfield 86, 3) := by decide +kernel
theorem d_X0_owing_43 : decode cX0_owing 43 = .ok (.istore 7, 2) := by decide +kernel
theorem d_X0_owing_45 : decode cX0_owing 45 = .ok (.iload_n 3, 1) := by decide +kernel
theorem d_X0_owing_46 : decode cX0_owing 46 = .ok (.ifCond .ne 5, 3) := by decide +kernel
theorem d_X0_owing_49 : decode cX0_owing 49 = .ok (.lconst 0, 1) := by decide +kernel
theorem d_X0_owing_50 : decode cX0_owing 50 = .ok (.lreturn, 1) := by decide +kernel
theorem d_X0_owing_51 : decode cX0_owing 51 = .ok (.iload_n 3, 1) := by decide +kernel
theorem d_X0_owing_52 : decode cX0_owing 52 = .ok (.iconst 2, 1) := by decide +kernel
theorem d_X0_owing_53 : decode cX0_owing 53 = .ok (.if_icmp .ne 47, 3) := by decide +kernel
theorem d_X0_owing_56 : decode cX0_owing 56 = .ok (.aload_n 0, 1) := by decide +kernel
theorem d_X0_owing_57 : decode cX0_owing 57 = .ok (.getfield 18, 3) := by decide +kernel
theorem d_X0_owing_60 : decode cX0_owing 60 = .ok (.getfield 160, 3) := by decide +kernel
theorem d_X0_owing_63 : decode cX0_owing 63 = .ok (.istore 8, 2) := by decide +kernel
theorem d_X0_owing_65 : decode cX0_owing 65 = .ok (.aload_n 0, 1) := by decide +kernel
theorem d_X0_owing_66 : decode cX0_owing 66 = .ok (.iload_n 1, 1) := by decide +kernel
theorem d_X0_owing_67 : decode cX0_owing 67 = .ok (.iconst 2, 1) := by decide +kernel
theorem d_X0_owing_68 : decode cX0_owing 68 = .ok (.invokevirtual 42, 3) := by decide +kernel
theorem d_X0_owing_71 : decode cX0_owing 71 = .ok (.iload_n 2, 1) := by decide +kernel
theorem d_X0_owing_72 : decode cX0_owing 72 = .ok (.invokevirtual 163, 3) := by decide +kernel
theorem d_X0_owing_75 : decode cX0_owing 75 = .ok (.lstore 9, 2) := by decide +kernel
theorem d_X0_owing_77 : decode cX0_owing 77 = .ok (.iload 8, 2) := by decide +kernel
theorem d_X0_owing_79 : decode cX0_owing 79 = .ok (.ifCond .gt 7, 3) := by decide +kernel
theorem d_X0_owing_82 : decode cX0_owing 82 = .ok (.lconst 0, 1) := by decide +kernel
theorem d_X0_owing_83 : decode cX0_owing 83 = .ok (.goto 16, 3) := by decide +kernel
theorem d_X0_owing_86 : decode cX0_owing 86 = .ok (.lload 4, 2) := by decide +kernel
theorem d_X0_owing_88 : decode cX0_owing 88 = .ok (.lload 9, 2) := by decide +kernel
theorem d_X0_owing_90 : decode cX0_owing 90 = .ok (.lmul, 1) := by decide +kernel
theorem d_X0_owing_91 : decode cX0_owing 91 = .ok (.ldc2_w 80, 3) := by decide +kernel
theorem d_X0_owing_94 : decode cX0_owing 94 = .ok (.iload 8, 2) := by decide +kernel
theorem d_X0_owing_96 : decode cX0_owing 96 = .ok (.i2l, 1) := by decide +kernel
theorem d_X0_owing_97 : decode cX0_owing 97 = .ok (.lmul, 1) := by decide +kernel
theorem d_X0_owing_98 : decode cX0_owing 98 = .ok (.ldiv, 1) := by decide +kernel
theorem d_X0_owing_99 : decode cX0_owing 99 = .ok (.lreturn, 1) := by decide +kernel
theorem d_X0_owing_100 : decode cX0_owing 100 = .ok (.iload_n 3, 1) := by decide +kernel
theorem d_X0_owing_101 : decode cX0_owing 101 = .ok (.iconst 3, 1) := by decide +kernel
theorem d_X0_owing_102 : decode cX0_owing 102 = .ok (.if_icmp .ne 25, 3) := by decide +kernel
theorem d_X0_owing_105 : decode cX0_owing 105 = .ok (.aload_n 0, 1) := by decide +kernel
theorem d_X0_owing_106 : decode cX0_owing 106 = .ok (.getfield 18, 3) := by decide +kernel
theorem d_X0_owing_109 : decode cX0_owing 109 = .ok (.iload_n 2, 1) := by decide +kernel
theorem d_X0_owing_110 : decode cX0_owing 110 = .ok (.iconst 1, 1) := by decide +kernel
theorem d_X0_owing_111 : decode cX0_owing 111 = .ok (.iadd, 1) := by decide +kernel
theorem d_X0_owing_112 : decode cX0_owing 112 = .ok (.invokevirtual 167, 3) := by decide +kernel
theorem d_X0_owing_115 : decode cX0_owing 115 = .ok (.istore 6, 2) := by decide +kernel
theorem d_X0_owing_117 : decode cX0_owing 117 = .ok (.aload_n 0, 1) := by decide +kernel
theorem d_X0_owing_118 : decode cX0_owing 118 = .ok (.getfield 18, 3) := by decide +kernel
theorem d_X0_owing_121 : decode cX0_owing 121 = .ok (.iconst 0, 1) := by decide +kernel
theorem d_X0_owing_122 : decode cX0_owing 122 = .ok (.invokevirtual 167, 3) := by decide +kernel
theorem d_X0_owing_125 : decode cX0_owing 125 = .ok (.istore 7, 2) := by decide +kernel
theorem d_X0_owing_127 : decode cX0_owing 127 = .ok (.iload 7, 2) := by decide +kernel
theorem d_X0_owing_129 : decode cX0_owing 129 = .ok (.ifCond .gt 7, 3) := by decide +kernel
theorem d_X0_owing_132 : decode cX0_owing 132 = .ok (.lconst 0, 1) := by decide +kernel
theorem d_X0_owing_133 : decode cX0_owing 133 = .ok (.goto 17, 3) := by decide +kernel
theorem d_X0_owing_136 : decode cX0_owing 136 = .ok (.ldc2_w 80, 3) := by decide +kernel
theorem d_X0_owing_139 : decode cX0_owing 139 = .ok (.lload 4, 2) := by decide +kernel
theorem d_X0_owing_141 : decode cX0_owing 141 = .ok (.lmul, 1) := by decide +kernel
theorem d_X0_owing_142 : decode cX0_owing 142 = .ok (.iload 6, 2) := by decide +kernel
theorem d_X0_owing_144 : decode cX0_owing 144 = .ok (.i2l, 1) := by decide +kernel
theorem d_X0_owing_145 : decode cX0_owing 145 = .ok (.lmul, 1) := by decide +kernel
theorem d_X0_owing_146 : decode cX0_owing 146 = .ok (.iload 7, 2) := by decide +kernel
theorem d_X0_owing_148 : decode cX0_owing 148 = .ok (.i2l, 1) := by decide +kernel
theorem d_X0_owing_149 : decode cX0_owing 149 = .ok (.ldiv, 1) := by decide +kernel
theorem d_X0_owing_150 : decode cX0_owing 150 = .ok (.lreturn, 1) := by decide +kernel
def j_X0_owing_127 (v4 : Int64) (v6 : Int32) (v7 : Int32) (h : AH) : Option Int64 := if 0 < v7 then bd (ldivF ((1000 * v4) * v6.toInt64) v7.toInt64) fun x6 => some x6 else some 0
theorem tj_X0_owing_127 {g : GP} {X : MX} {mcR msR : Nat} (hF : gF g = true) (hX : Cx g RX0 cX0_owing 3 mcR msR (some .long) [] X) {v4 : Int64} {v6 : Int32} {v7 : Int32} {d0 : Value} {d1 : Value} {d2 : Value} {d3 : Value} {d8 : Value} {d9 : Value} {d10 : Value} {h : AH} {z : Int64} (e : j_X0_owing_127 v4 v6 v7 h = some z) : AR g X 0 0 (QQ g X NT false h (.inl (some (.long z))) 0 0) h 127 [d0, d1, d2, d3, .long v4, jk, .int v6, .int v7, d8, d9, d10] [] := by
  unfold j_X0_owing_127 at e
  refine aw_iload (i := 7) hX rfl d_X0_owing_127 ?_
  refine aw_if_gt (t := 136) hX (by decide) d_X0_owing_129 (fun c => ?_) (fun c => ?_)
  · rw [if_pos c] at e
    refine aw_ldc2 hX w_22 d_X0_owing_136 ?_
    refine aw_lload (i := 4) hX rfl d_X0_owing_139 ?_
    refine aw_lmul hX d_X0_owing_141 ?_
    refine aw_iload (i := 6) hX rfl d_X0_owing_142 ?_
    refine aw_i2l hX d_X0_owing_144 ?_
    refine aw_lmul hX d_X0_owing_145 ?_
    refine aw_iload (i := 7) hX rfl d_X0_owing_146 ?_
    refine aw_i2l hX d_X0_owing_148 ?_
    obtain ⟨x6, f_284, e_284⟩ := bd_some e
    clear e
    refine ar_ldiv hX f_284 d_X0_owing_149 ?_
    cases e_284
    exact aw_lreturn hX (Nat.zero_le _) (Nat.zero_le _) d_X0_owing_150
  · rw [if_neg c] at e
    refine aw_lconst (v := 0) hX (by decide) d_X0_owing_132 ?_
    refine aw_goto (t := 150) hX (by decide) d_X0_owing_133 ?_
    cases e
    exact aw_lreturn hX (Nat.zero_le _) (Nat.zero_le _) d_X0_owing_150
def s_X0_owing (a0 : Int32) (a1 : Int32) (h : AH) : Option Int64 := bd (s_X9_at (some 14) a0 h) fun x1 => bd (gR h 13 1) fun t2 => if LAY t2 = (0, 8) then bd (s_X9_at (some (t2 + 7)) x1 h) fun x3 => bd (gR h 13 1) fun t4 => if LAY t4 = (0, 8) then bd (gR h 13 1) fun t5 => if LAY t5 = (0, 8) then if x1 = 0 then some 0 else if x1 = 2 then bd (gR h 13 1) fun t11 => if LAY t11 = (0, 8) then bd (s_X0_planOf a0 2 h) fun x12 => bd x12 fun t13 => if LAY t13 = (0, 2) then bd (s_X2_leftBehind t13 a1 h) fun x14 => if (0 : Int32) < (gI h t11 5) then bd (ldivF (x3.toInt64 * x14) (1000 * ((gI h t11 5).toInt64))) fun x15 => some x15 else some 0 else none else none else if x1 = 3 then bd (gR h 13 1) fun t7 => if LAY t7 = (0, 8) then bd (s_X8_setFrom t7 (a1 + 1) h) fun x8 => bd (gR h 13 1) fun t9 => if LAY t9 = (0, 8) then bd (s_X8_setFrom t9 0 h) fun x10 => j_X0_owing_127 x3.toInt64 x8 x10 h else none else none else j_X0_owing_127 x3.toInt64 (((gI h t4 2) - 1) - a1) (gI h t5 2) h else none else none else none
theorem t_X0_owing {g : GP} {X : MX} {mcR msR : Nat} (hF : gF g = true) (hX : Cx g RX0 cX0_owing 3 mcR msR (some .long) [] X) {a0 : Int32} {a1 : Int32} {h : AH} {z : Int64} (e : s_X0_owing a0 a1 h = some z) : AR g X 0 0 (QQ g X NT false h (.inl (some (.long z))) 0 0) h 0 [.ref 13, .int a0, .int a1, jk, jk, jk, jk, jk, jk, jk, jk] [] := by
  unfold s_X0_owing at e
  refine aw_aload_n (i := 0) hX rfl rfl d_X0_owing_0 ?_
  refine ar_getF hX hF fg_RX0_9 rfl d_X0_owing_1 ?_
  show AR g X 0 0 _ _ 4 _ [.ref 14]
  refine aw_iload_n (i := 1) hX rfl rfl d_X0_owing_4 ?_
  obtain ⟨x1, f_285, e_285⟩ := bd_some e
  clear e
  refine aw_callSN (av := [.ref 14, .int a0]) (avr := [.int a0, .ref 14]) hX (k_X9_at (cx_g hX) hF f_285) mi_X9_at rfl rfl nx8 w_6 (by decide) (Nat.le_of_ble_eq_true rfl) (Nat.zero_le _) (Nat.zero_le _) d_X0_owing_5 ?_
  refine aw_istore_n (i := 3) (lv2 := [.ref 13, .int a0, .int a1, .int x1, jk, jk, jk, jk, jk, jk, jk]) hX rfl rfl rfl d_X0_owing_8 ?_
  refine aw_aload_n (i := 0) hX rfl rfl d_X0_owing_9 ?_
  obtain ⟨t2, f_286, e_286⟩ := bd_some e_285
  clear e_285
  obtain ⟨hlt2, e_287⟩ := if_some e_286
  clear e_286
  refine ar_getR hX fg_RX0_18 rfl f_286 d_X0_owing_10 ?_
  refine ar_getF hX hF fg_RX0_57 (by assumption) d_X0_owing_13 ?_
  refine aw_iload_n (i := 3) hX rfl rfl d_X0_owing_16 ?_
  obtain ⟨x3, f_288, e_288⟩ := bd_some e_287
  clear e_287
  refine aw_callSN (av := [.ref (t2 + 7), .int x1]) (avr := [.int x1, .ref (t2 + 7)]) hX (k_X9_at (cx_g hX) hF f_288) mi_X9_at rfl rfl nx8 w_6 (by decide) (Nat.le_of_ble_eq_true rfl) (Nat.zero_le _) (Nat.zero_le _) d_X0_owing_17 ?_
  refine aw_i2l hX d_X0_owing_20 ?_
  refine aw_lstore (i := 4) (lv2 := [.ref 13, .int a0, .int a1, .int x1, .long x3.toInt64, jk, jk, jk, jk, jk, jk]) hX rfl rfl d_X0_owing_21 ?_
  refine aw_aload_n (i := 0) hX rfl rfl d_X0_owing_23 ?_
  obtain ⟨t4, f_289, e_289⟩ := bd_some e_288
  clear e_288
  obtain ⟨hlt4, e_290⟩ := if_some e_289
  clear e_289
  refine ar_getR hX fg_RX0_18 rfl f_289 d_X0_owing_24 ?_
  refine ar_getI hX fg_RX0_86 (by assumption) d_X0_owing_27 ?_
  refine aw_iconst (v := 1) hX (by decide) d_X0_owing_30 ?_
  refine aw_isub hX d_X0_owing_31 ?_
  refine aw_iload_n (i := 2) hX rfl rfl d_X0_owing_32 ?_
  refine aw_isub hX d_X0_owing_33 ?_
  refine aw_istore (i := 6) (lv2 := [.ref 13, .int a0, .int a1, .int x1, .long x3.toInt64, jk, .int (((gI h t4 2) - 1) - a1), jk, jk, jk, jk]) hX rfl rfl d_X0_owing_34 ?_
  refine aw_aload_n (i := 0) hX rfl rfl d_X0_owing_36 ?_
  obtain ⟨t5, f_291, e_291⟩ := bd_some e_290
  clear e_290
  obtain ⟨hlt5, e_292⟩ := if_some e_291
  clear e_291
  refine ar_getR hX fg_RX0_18 rfl f_291 d_X0_owing_37 ?_
  refine ar_getI hX fg_RX0_86 (by assumption) d_X0_owing_40 ?_
  refine aw_istore (i := 7) (lv2 := [.ref 13, .int a0, .int a1, .int x1, .long x3.toInt64, jk, .int (((gI h t4 2) - 1) - a1), .int (gI h t5 2), jk, jk, jk]) hX rfl rfl d_X0_owing_43 ?_
  refine aw_iload_n (i := 3) hX rfl rfl d_X0_owing_45 ?_
  refine aw_if_ne (t := 51) hX (by decide) d_X0_owing_46 (fun c => ?_) (fun c => ?_)
  · rw [if_neg c] at e_292
    refine aw_iload_n (i := 3) hX rfl rfl d_X0_owing_51 ?_
    refine aw_iconst (v := 2) hX (by decide) d_X0_owing_52 ?_
    refine aw_icmp_ne (t := 100) hX (by decide) d_X0_owing_53 (fun c => ?_) (fun c => ?_)
    · rw [if_neg c] at e_292
      refine aw_iload_n (i := 3) hX rfl rfl d_X0_owing_100 ?_
      refine aw_iconst (v := 3) hX (by decide) d_X0_owing_101 ?_
      refine aw_icmp_ne (t := 127) hX (by decide) d_X0_owing_102 (fun c => ?_) (fun c => ?_)
      · rw [if_neg c] at e_292
        exact tj_X0_owing_127 hF hX e_292
      · rw [if_pos c] at e_292
        refine aw_aload_n (i := 0) hX rfl rfl d_X0_owing_105 ?_
        obtain ⟨t7, f_293, e_293⟩ := bd_some e_292
        clear e_292
        obtain ⟨hlt7, e_294⟩ := if_some e_293
        clear e_293
        refine ar_getR hX fg_RX0_18 rfl f_293 d_X0_owing_106 ?_
        refine aw_iload_n (i := 2) hX rfl rfl d_X0_owing_109 ?_
        refine aw_iconst (v := 1) hX (by decide) d_X0_owing_110 ?_
        refine aw_iadd hX d_X0_owing_111 ?_
        obtain ⟨x8, f_295, e_295⟩ := bd_some e_294
        clear e_294
        refine aw_callV (b := t7) (av := [.int (a1 + 1)]) (avr := [.int (a1 + 1)]) hX (k_X8_setFrom (cx_g hX) hF f_295) mi_X8_setFrom rfl rfl w_168 w_169 w_170 (by decide) (by assumption) (LAY_lt (by assumption) (by decide)) rfl rfl (Nat.le_of_ble_eq_true rfl) (Nat.zero_le _) (Nat.zero_le _) d_X0_owing_112 ?_
        refine aw_istore (i := 6) (lv2 := [.ref 13, .int a0, .int a1, .int x1, .long x3.toInt64, jk, .int x8, .int (gI h t5 2), jk, jk, jk]) hX rfl rfl d_X0_owing_115 ?_
        refine aw_aload_n (i := 0) hX rfl rfl d_X0_owing_117 ?_
        obtain ⟨t9, f_296, e_296⟩ := bd_some e_295
        clear e_295
        obtain ⟨hlt9, e_297⟩ := if_some e_296
        clear e_296
        refine ar_getR hX fg_RX0_18 rfl f_296 d_X0_owing_118 ?_
        refine aw_iconst (v := 0) hX (by decide) d_X0_owing_121 ?_
        obtain ⟨x10, f_298, e_298⟩ := bd_some e_297
        clear e_297
        refine aw_callV (b := t9) (av := [.int 0]) (avr := [.int 0]) hX (k_X8_setFrom (cx_g hX) hF f_298) mi_X8_setFrom rfl rfl w_168 w_169 w_170 (by decide) (by assumption) (LAY_lt (by assumption) (by decide)) rfl rfl (Nat.le_of_ble_eq_true rfl) (Nat.zero_le _) (Nat.zero_le _) d_X0_owing_122 ?_
        refine aw_istore (i := 7) (lv2 := [.ref 13, .int a0, .int a1, .int x1, .long x3.toInt64, jk, .int x8, .int x10, jk, jk, jk]) hX rfl rfl d_X0_owing_125 ?_
        exact tj_X0_owing_127 hF hX e_298
    · rw [if_pos c] at e_292
      refine aw_aload_n (i := 0) hX rfl rfl d_X0_owing_56 ?_
      obtain ⟨t11, f_299, e_299⟩ := bd_some e_292
      clear e_292
      obtain ⟨hlt11, e_300⟩ := if_some e_299
      clear e_299
      refine ar_getR hX fg_RX0_18 rfl f_299 d_X0_owing_57 ?_
      refine ar_getI hX fg_RX0_160 (by assumption) d_X0_owing_60 ?_
      refine aw_istore (i := 8) (lv2 := [.ref 13, .int a0, .int a1, .int x1, .long x3.toInt64, jk, .int (((gI h t4 2) - 1) - a1), .int (gI h t5 2), .int (gI h t11 5), jk, jk]) hX rfl rfl d_X0_owing_63 ?_
      refine aw_aload_n (i := 0) hX rfl rfl d_X0_owing_65 ?_
      refine aw_iload_n (i := 1) hX rfl rfl d_X0_owing_66 ?_
      refine aw_iconst (v := 2) hX (by decide) d_X0_owing_67 ?_
      obtain ⟨x12, f_301, e_301⟩ := bd_some e_300
      clear e_300
      refine aw_callV (b := 13) (av := [.int a0, .int 2]) (avr := [.int 2, .int a0]) hX (k_X0_planOf (cx_g hX) hF f_301) mi_X0_planOf rfl rfl w_14 w_15 w_16 (by decide) rfl (LAY_lt rfl (by decide)) rfl rfl (Nat.le_of_ble_eq_true rfl) (Nat.zero_le _) (Nat.zero_le _) d_X0_owing_68 ?_
      refine aw_iload_n (i := 2) hX rfl rfl d_X0_owing_71 ?_
      obtain ⟨t13, f_302, e_302⟩ := bd_some e_301
      clear e_301
      obtain ⟨hlt13, e_303⟩ := if_some e_302
      clear e_302
      subst f_302
      obtain ⟨x14, f_304, e_304⟩ := bd_some e_303
      clear e_303
      refine aw_callV (b := t13) (av := [.int a1]) (avr := [.int a1]) hX (k_X2_leftBehind (cx_g hX) hF f_304) mi_X2_leftBehind rfl rfl w_173 w_174 w_175 (by decide) (by assumption) (LAY_lt (by assumption) (by decide)) rfl rfl (Nat.le_of_ble_eq_true rfl) (Nat.zero_le _) (Nat.zero_le _) d_X0_owing_72 ?_
      refine aw_lstore (i := 9) (lv2 := [.ref 13, .int a0, .int a1, .int x1, .long x3.toInt64, jk, .int (((gI h t4 2) - 1) - a1), .int (gI h t5 2), .int (gI h t11 5), .long x14, jk]) hX rfl rfl d_X0_owing_75 ?_
      refine aw_iload (i := 8) hX rfl d_X0_owing_77 ?_
      refine aw_if_gt (t := 86) hX (by decide) d_X0_owing_79 (fun c => ?_) (fun c => ?_)
      · rw [if_pos c] at e_304
        refine aw_lload (i := 4) hX rfl d_X0_owing_86 ?_
        refine aw_lload (i := 9) hX rfl d_X0_owing_88 ?_
        refine aw_lmul hX d_X0_owing_90 ?_
        refine aw_ldc2 hX w_22 d_X0_owing_91 ?_
        refine aw_iload (i := 8) hX rfl d_X0_owing_94 ?_
        refine aw_i2l hX d_X0_owing_96 ?_
        refine aw_lmul hX d_X0_owing_97 ?_
        obtain ⟨x15, f_305, e_305⟩ := bd_some e_304
        clear e_304
        refine ar_ldiv hX f_305 d_X0_owing_98 ?_
        cases e_305
        exact aw_lreturn hX (Nat.zero_le _) (Nat.zero_le _) d_X0_owing_99
      · rw [if_neg c] at e_304
        refine aw_lconst (v := 0) hX (by decide) d_X0_owing_82 ?_
        refine aw_goto (t := 99) hX (by decide) d_X0_owing_83 ?_
        cases e_304
        exact aw_lreturn hX (Nat.zero_le _) (Nat.zero_le _) d_X0_owing_99
  · rw [if_pos c] at e_292
    refine aw_lconst (v := 0) hX (by decide) d_X0_owing_49 ?_
    cases e_292
    exact aw_lreturn hX (Nat.zero_le _) (Nat.zero_le _) d_X0_owing_50
theorem k_X0_owing {g : GP} (hg : g.1.stackTraces = false) (hF : gF g = true) {a0 : Int32} {a1 : Int32} {h : AH} {z : Int64} (e : s_X0_owing a0 a1 h = some z) : Ctr g yX0_owing (wsY yX0_owing cX0_owing 11 (some .long)) 3 0 0 [.ref 13, .int a0, .int a1] NT false h (some (.long z)) NT false h := ctr_of (lv0 := [.ref 13, .int a0, .int a1, jk, jk, jk, jk, jk, jk, jk, jk]) rfl rfl (by decide) hg trivial (fun X hX hn => t_X0_owing hF hX e)
