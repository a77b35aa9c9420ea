/-! 28.reader: functions and contracts, by program -/
theorem d_X3_place_0 : decode cX3_place 0 = .ok (.aload_n 0, 1) := by decide +kernel
theorem d_X3_place_1 : decode cX3_place 1 = .ok (.getfield 29, 3) := by decide +kernel
theorem d_X3_place_4 : decode cX3_place 4 = .ok (.ireturn, 1) := by decide +kernel
def s_X3_place (h : AH) : Option Int32 := some (gI h 1 9)
theorem t_X3_place {g : GP} {X : MX} {mcR msR : Nat} (hF : gF g = true) (hX : Cx g RX3 cX3_place 1 mcR msR (some .int) [] X) {h : AH} {z : Int32} (e : s_X3_place h = some z) : AR g X 0 0 (QQ g X NT false h (.inl (some (.int z))) 0 0) h 0 [.ref 1] [] := by
  unfold s_X3_place at e
  refine aw_aload_n (i := 0) hX rfl rfl d_X3_place_0 ?_
  refine ar_getI hX fg_RX3_29 rfl d_X3_place_1 ?_
  cases e
  exact aw_ireturn hX (Nat.zero_le _) (Nat.zero_le _) d_X3_place_4
theorem k_X3_place {g : GP} (hg : g.1.stackTraces = false) (hF : gF g = true) {h : AH} {z : Int32} (e : s_X3_place h = some z) : Ctr g yX3_place (wsY yX3_place cX3_place 1 (some .int)) 1 0 0 [.ref 1] NT false h (some (.int z)) NT false h := ctr_of (lv0 := [.ref 1]) rfl rfl (by decide) hg trivial (fun X hX hn => t_X3_place hF hX e)
theorem d_X3_advance_0 : decode cX3_advance 0 = .ok (.aload_n 0, 1) := by decide +kernel
theorem d_X3_advance_1 : decode cX3_advance 1 = .ok (.getfield 45, 3) := by decide +kernel
theorem d_X3_advance_4 : decode cX3_advance 4 = .ok (.ifCond .eq 4, 3) := by decide +kernel
theorem d_X3_advance_7 : decode cX3_advance 7 = .ok (.return_, 1) := by decide +kernel
theorem d_X3_advance_8 : decode cX3_advance 8 = .ok (.aload_n 0, 1) := by decide +kernel
theorem d_X3_advance_9 : decode cX3_advance 9 = .ok (.aload_n 0, 1) := by decide +kernel
theorem d_X3_advance_10 : decode cX3_advance 10 = .ok (.getfield 39, 3) := by decide +kernel
theorem d_X3_advance_13 : decode cX3_advance 13 = .ok (.putfield 193, 3) := by decide +kernel
theorem d_X3_advance_16 : decode cX3_advance 16 = .ok (.aload_n 0, 1) := by decide +kernel
theorem d_X3_advance_17 : decode cX3_advance 17 = .ok (.getfield 193, 3) := by decide +kernel
theorem d_X3_advance_20 : decode cX3_advance 20 = .ok (.aload_n 0, 1) := by decide +kernel
theorem d_X3_advance_21 : decode cX3_advance 21 = .ok (.getfield 36, 3) := by decide +kernel
theorem d_X3_advance_24 : decode cX3_advance 24 = .ok (.if_icmp .ge 31, 3) := by decide +kernel
theorem d_X3_advance_27 : decode cX3_advance 27 = .ok (.aload_n 0, 1) := by decide +kernel
theorem d_X3_advance_28 : decode cX3_advance 28 = .ok (.getfield 18, 3) := by decide +kernel
theorem d_X3_advance_31 : decode cX3_advance 31 = .ok (.aload_n 0, 1) := by decide +kernel
theorem d_X3_advance_32 : decode cX3_advance 32 = .ok (.getfield 193, 3) := by decide +kernel
theorem d_X3_advance_35 : decode cX3_advance 35 = .ok (.invokestatic 51, 3) := by decide +kernel
theorem d_X3_advance_38 : decode cX3_advance 38 = .ok (.iconst 4, 1) := by decide +kernel
theorem d_X3_advance_39 : decode cX3_advance 39 = .ok (.if_icmp .ne 16, 3) := by decide +kernel
theorem d_X3_advance_42 : decode cX3_advance 42 = .ok (.aload_n 0, 1) := by decide +kernel
theorem d_X3_advance_43 : decode cX3_advance 43 = .ok (.dup, 1) := by decide +kernel
theorem d_X3_advance_44 : decode cX3_advance 44 = .ok (.getfield 193, 3) := by decide +kernel
theorem d_X3_advance_47 : decode cX3_advance 47 = .ok (.iconst 1, 1) := by decide +kernel
theorem d_X3_advance_48 : decode cX3_advance 48 = .ok (.iadd, 1) := by decide +kernel
theorem d_X3_advance_49 : decode cX3_advance 49 = .ok (.putfield 193, 3) := by decide +kernel
theorem d_X3_advance_52 : decode cX3_advance 52 = .ok (.goto (-36), 3) := by decide +kernel
theorem d_X3_advance_55 : decode cX3_advance 55 = .ok (.aload_n 0, 1) := by decide +kernel
theorem d_X3_advance_56 : decode cX3_advance 56 = .ok (.aload_n 0, 1) := by decide +kernel
theorem d_X3_advance_57 : decode cX3_advance 57 = .ok (.getfield 193, 3) := by decide +kernel
theorem d_X3_advance_60 : decode cX3_advance 60 = .ok (.aload_n 0, 1) := by decide +kernel
theorem d_X3_advance_61 : decode cX3_advance 61 = .ok (.getfield 36, 3) := by decide +kernel
theorem d_X3_advance_64 : decode cX3_advance 64 = .ok (.if_icmp .ge 17, 3) := by decide +kernel
theorem d_X3_advance_67 : decode cX3_advance 67 = .ok (.aload_n 0, 1) := by decide +kernel
theorem d_X3_advance_68 : decode cX3_advance 68 = .ok (.getfield 18, 3) := by decide +kernel
theorem d_X3_advance_71 : decode cX3_advance 71 = .ok (.aload_n 0, 1) := by decide +kernel
theorem d_X3_advance_72 : decode cX3_advance 72 = .ok (.getfield 193, 3) := by decide +kernel
theorem d_X3_advance_75 : decode cX3_advance 75 = .ok (.invokestatic 51, 3) := by decide +kernel
theorem d_X3_advance_78 : decode cX3_advance 78 = .ok (.goto 4, 3) := by decide +kernel
theorem d_X3_advance_81 : decode cX3_advance 81 = .ok (.iconst 0, 1) := by decide +kernel
theorem d_X3_advance_82 : decode cX3_advance 82 = .ok (.putfield 66, 3) := by decide +kernel
theorem d_X3_advance_85 : decode cX3_advance 85 = .ok (.aload_n 0, 1) := by decide +kernel
theorem d_X3_advance_86 : decode cX3_advance 86 = .ok (.aload_n 0, 1) := by decide +kernel
theorem d_X3_advance_87 : decode cX3_advance 87 = .ok (.getfield 36, 3) := by decide +kernel
theorem d_X3_advance_90 : decode cX3_advance 90 = .ok (.aload_n 0, 1) := by decide +kernel
theorem d_X3_advance_91 : decode cX3_advance 91 = .ok (.getfield 193, 3) := by decide +kernel
theorem d_X3_advance_94 : decode cX3_advance 94 = .ok (.iconst 1, 1) := by decide +kernel
theorem d_X3_advance_95 : decode cX3_advance 95 = .ok (.iadd, 1) := by decide +kernel
theorem d_X3_advance_96 : decode cX3_advance 96 = .ok (.invokestatic 196, 3) := by decide +kernel
theorem d_X3_advance_99 : decode cX3_advance 99 = .ok (.putfield 39, 3) := by decide +kernel
theorem d_X3_advance_102 : decode cX3_advance 102 = .ok (.aload_n 0, 1) := by decide +kernel
theorem d_X3_advance_103 : decode cX3_advance 103 = .ok (.getfield 66, 3) := by decide +kernel
theorem d_X3_advance_106 : decode cX3_advance 106 = .ok (.iconst 1, 1) := by decide +kernel
theorem d_X3_advance_107 : decode cX3_advance 107 = .ok (.if_icmp .eq 11, 3) := by decide +kernel
theorem d_X3_advance_110 : decode cX3_advance 110 = .ok (.aload_n 0, 1) := by decide +kernel
theorem d_X3_advance_111 : decode cX3_advance 111 = .ok (.getfield 66, 3) := by decide +kernel
theorem d_X3_advance_114 : decode cX3_advance 114 = .ok (.iconst 2, 1) := by decide +kernel
theorem d_X3_advance_115 : decode cX3_advance 115 = .ok (.if_icmp .ne 7, 3) := by decide +kernel
theorem d_X3_advance_118 : decode cX3_advance 118 = .ok (.iconst 1, 1) := by decide +kernel
theorem d_X3_advance_119 : decode cX3_advance 119 = .ok (.goto 4, 3) := by decide +kernel
theorem d_X3_advance_122 : decode cX3_advance 122 = .ok (.iconst 0, 1) := by decide +kernel
theorem d_X3_advance_123 : decode cX3_advance 123 = .ok (.istore_n 1, 1) := by decide +kernel
theorem d_X3_advance_124 : decode cX3_advance 124 = .ok (.iload_n 1, 1) := by decide +kernel
theorem d_X3_advance_125 : decode cX3_advance 125 = .ok (.ifCond .eq 45, 3) := by decide +kernel
theorem d_X3_advance_128 : decode cX3_advance 128 = .ok (.aload_n 0, 1) := by decide +kernel
theorem d_X3_advance_129 : decode cX3_advance 129 = .ok (.getfield 39, 3) := by decide +kernel
theorem d_X3_advance_132 : decode cX3_advance 132 = .ok (.aload_n 0, 1) := by decide +kernel
theorem d_X3_advance_133 : decode cX3_advance 133 = .ok (.getfield 36, 3) := by decide +kernel
theorem d_X3_advance_136 : decode cX3_advance 136 = .ok (.if_icmp .ge 34, 3) := by decide +kernel
theorem d_X3_advance_139 : decode cX3_advance 139 = .ok (.aload_n 0, 1) := by decide +kernel
theorem d_X3_advance_140 : decode cX3_advance 140 = .ok (.getfield 18, 3) := by decide +kernel
theorem d_X3_advance_143 : decode cX3_advance 143 = .ok (.aload_n 0, 1) := by decide +kernel
theorem d_X3_advance_144 : decode cX3_advance 144 = .ok (.getfield 39, 3) := by decide +kernel
theorem d_X3_advance_147 : decode cX3_advance 147 = .ok (.invokestatic 51, 3) := by decide +kernel
theorem d_X3_advance_150 : decode cX3_advance 150 = .ok (.aload_n 0, 1) := by decide +kernel
theorem d_X3_advance_151 : decode cX3_advance 151 = .ok (.getfield 66, 3) := by decide +kernel
theorem d_X3_advance_154 : decode cX3_advance 154 = .ok (.if_icmp .ne 16, 3) := by decide +kernel
theorem d_X3_advance_157 : decode cX3_advance 157 = .ok (.aload_n 0, 1) := by decide +kernel
theorem d_X3_advance_158 : decode cX3_advance 158 = .ok (.dup, 1) := by decide +kernel
theorem d_X3_advance_159 : decode cX3_advance 159 = .ok (.getfield 39, 3) := by decide +kernel
theorem d_X3_advance_162 : decode cX3_advance 162 = .ok (.iconst 1, 1) := by decide +kernel
theorem d_X3_advance_163 : decode cX3_advance 163 = .ok (.iadd, 1) := by decide +kernel
theorem d_X3_advance_164 : decode cX3_advance 164 = .ok (.putfield 39, 3) := by decide +kernel
theorem d_X3_advance_167 : decode cX3_advance 167 = .ok (.goto (-43), 3) := by decide +kernel
theorem d_X3_advance_170 : decode cX3_advance 170 = .ok (.return_, 1) := by decide +kernel
def l_X3_advance_16 (s : Unit) (h : AH) : Option ((Unit ⊕ Unit) × AH) := if (gI h 1 3) ≤ (gI h 1 5) then some (.inr (), h) else bd (s_X9_at (some 4) (gI h 1 5) h) fun x1 => if x1 = 4 then some (.inl (), sI h 1 5 ((gI h 1 5) + 1)) else some (.inr (), h)
theorem tb_X3_advance_16 {g : GP} {X : MX} {mcR msR : Nat} (hF : gF g = true) (hX : Cx g RX3 cX3_advance 2 mcR msR none [] X) {Q : State → Prop} {s : Unit} {d1 : Value} {h hz : AH} {z : (Unit ⊕ Unit)} (e : l_X3_advance_16 s h = some (z, hz)) (kI : ∀ (s2 : Unit) (xd1 : Value), z = .inl s2 → AR g X 0 0 Q hz 16 [.ref 1, xd1] []) (kE0 : ∀ (yy : Unit) (y1 : Value), z = .inr yy → AR g X 0 0 Q hz 55 [.ref 1, y1] []) : AR g X 0 0 Q h 16 [.ref 1, d1] [] := by
  unfold l_X3_advance_16 at e
  refine aw_aload_n (i := 0) hX rfl rfl d_X3_advance_16 ?_
  refine ar_getI hX fg_RX3_193 rfl d_X3_advance_17 ?_
  refine aw_aload_n (i := 0) hX rfl rfl d_X3_advance_20 ?_
  refine ar_getI hX fg_RX3_36 rfl d_X3_advance_21 ?_
  refine aw_icmp_ge (t := 55) hX (by decide) d_X3_advance_24 (fun c => ?_) (fun c => ?_)
  · rw [if_pos c] at e
    cases e
    exact kE0 () _ rfl
  · rw [if_neg c] at e
    refine aw_aload_n (i := 0) hX rfl rfl d_X3_advance_27 ?_
    refine ar_getF hX hF fg_RX3_18 rfl d_X3_advance_28 ?_
    show AR g X 0 0 _ _ 31 _ [.ref 4]
    refine aw_aload_n (i := 0) hX rfl rfl d_X3_advance_31 ?_
    refine ar_getI hX fg_RX3_193 rfl d_X3_advance_32 ?_
    obtain ⟨x1, f_360, e_360⟩ := bd_some e
    clear e
    refine aw_callSN (av := [.ref 4, .int (gI h 1 5)]) (avr := [.int (gI h 1 5), .ref 4]) hX (k_X9_at (cx_g hX) hF f_360) mi_X9_at rfl rfl nx16 w_6 (by decide) (Nat.le_of_ble_eq_true rfl) (Nat.zero_le _) (Nat.zero_le _) d_X3_advance_35 ?_
    refine aw_iconst (v := 4) hX (by decide) d_X3_advance_38 ?_
    refine aw_icmp_ne (t := 55) hX (by decide) d_X3_advance_39 (fun c => ?_) (fun c => ?_)
    · rw [if_neg c] at e_360
      cases e_360
      exact kE0 () _ rfl
    · rw [if_pos c] at e_360
      refine aw_aload_n (i := 0) hX rfl rfl d_X3_advance_42 ?_
      refine aw_dup hX rfl d_X3_advance_43 ?_
      refine ar_getI hX fg_RX3_193 rfl d_X3_advance_44 ?_
      refine aw_iconst (v := 1) hX (by decide) d_X3_advance_47 ?_
      refine aw_iadd hX d_X3_advance_48 ?_
      refine ar_putI hX fp_RX3_193 rfl d_X3_advance_49 ?_
      refine aw_goto (t := 16) hX (by decide) d_X3_advance_52 ?_
      cases e_360
      exact kI () _ rfl
theorem ti_X3_advance_16 {g : GP} {X : MX} {mcR msR : Nat} (hF : gF g = true) (hX : Cx g RX3 cX3_advance 2 mcR msR none [] X) {Q : State → Prop} {y : Unit} {hz : AH} (kE0 : ∀ (y_1 : Value), AR g X 0 0 Q hz 55 [.ref 1, y_1] []) (n : Nat) : ∀ (s : Unit) (d1 : Value) (h : AH), lpH (l_X3_advance_16) n s h = some (y, hz) → AR g X 0 0 Q h 16 [.ref 1, d1] [] := by
  induction n with
  | zero => intro s d1 h e; cases e
  | succ n ih =>
    intro s d1 h e
    obtain ⟨x, h1, e1, e2⟩ := lpH_succ e
    rcases e2 with ⟨s2, rfl, e3⟩ | ⟨rfl, rfl⟩
    · exact tb_X3_advance_16 hF hX e1 (fun s3 x0 hs => by cases hs; exact ih _ _ _ e3) (fun yy x0 hy => by cases hy)
    · exact tb_X3_advance_16 hF hX e1 (fun s3 x0 hs => by cases hs) (fun yy x0 hy => by cases hy; exact kE0 x0)
theorem t_X3_advance_16 {g : GP} {X : MX} {mcR msR : Nat} (hF : gF g = true) (hX : Cx g RX3 cX3_advance 2 mcR msR none [] X) {Q : State → Prop} {s : Unit} {d1 : Value} {h hz : AH} {n : Nat} {y : Unit} (e : lpH (l_X3_advance_16) n s h = some (y, hz)) (kE0 : ∀ (y_1 : Value), AR g X 0 0 Q hz 55 [.ref 1, y_1] []) : AR g X 0 0 Q h 16 [.ref 1, d1] [] := ti_X3_advance_16 hF hX kE0 n _ _ _ e
def l_X3_advance_124 (p1 : Int32) (s : Unit) (h : AH) : Option ((Unit ⊕ Unit) × AH) := if p1 = 0 then some (.inr (), h) else if (gI h 1 3) ≤ (gI h 1 6) then some (.inr (), h) else bd (s_X9_at (some 4) (gI h 1 6) h) fun x4 => if x4 = (gI h 1 4) then some (.inl (), sI h 1 6 ((gI h 1 6) + 1)) else some (.inr (), h)
theorem tb_X3_advance_124 {g : GP} {X : MX} {mcR msR : Nat} (hF : gF g = true) (hX : Cx g RX3 cX3_advance 2 mcR msR none [] X) {Q : State → Prop} {p1 : Int32} {s : Unit} {h hz : AH} {z : (Unit ⊕ Unit)} (e : l_X3_advance_124 p1 s h = some (z, hz)) (kI : ∀ (s2 : Unit), z = .inl s2 → AR g X 0 0 Q hz 124 [.ref 1, .int p1] []) (kE0 : ∀ (yy : Unit) (y0 : Value) (y1 : Value), z = .inr yy → AR g X 0 0 Q hz 170 [y0, y1] []) : AR g X 0 0 Q h 124 [.ref 1, .int p1] [] := by
  unfold l_X3_advance_124 at e
  refine aw_iload_n (i := 1) hX rfl rfl d_X3_advance_124 ?_
  refine aw_if_eq (t := 170) hX (by decide) d_X3_advance_125 (fun c => ?_) (fun c => ?_)
  · rw [if_pos c] at e
    cases e
    exact kE0 () _ _ rfl
  · rw [if_neg c] at e
    refine aw_aload_n (i := 0) hX rfl rfl d_X3_advance_128 ?_
    refine ar_getI hX fg_RX3_39 rfl d_X3_advance_129 ?_
    refine aw_aload_n (i := 0) hX rfl rfl d_X3_advance_132 ?_
    refine ar_getI hX fg_RX3_36 rfl d_X3_advance_133 ?_
    refine aw_icmp_ge (t := 170) hX (by decide) d_X3_advance_136 (fun c => ?_) (fun c => ?_)
    · rw [if_pos c] at e
      cases e
      exact kE0 () _ _ rfl
    · rw [if_neg c] at e
      refine aw_aload_n (i := 0) hX rfl rfl d_X3_advance_139 ?_
      refine ar_getF hX hF fg_RX3_18 rfl d_X3_advance_140 ?_
      show AR g X 0 0 _ _ 143 _ [.ref 4]
      refine aw_aload_n (i := 0) hX rfl rfl d_X3_advance_143 ?_
      refine ar_getI hX fg_RX3_39 rfl d_X3_advance_144 ?_
      obtain ⟨x4, f_361, e_361⟩ := bd_some e
      clear e
      refine aw_callSN (av := [.ref 4, .int (gI h 1 6)]) (avr := [.int (gI h 1 6), .ref 4]) hX (k_X9_at (cx_g hX) hF f_361) mi_X9_at rfl rfl nx16 w_6 (by decide) (Nat.le_of_ble_eq_true rfl) (Nat.zero_le _) (Nat.zero_le _) d_X3_advance_147 ?_
      refine aw_aload_n (i := 0) hX rfl rfl d_X3_advance_150 ?_
      refine ar_getI hX fg_RX3_66 rfl d_X3_advance_151 ?_
      refine aw_icmp_ne (t := 170) hX (by decide) d_X3_advance_154 (fun c => ?_) (fun c => ?_)
      · rw [if_neg c] at e_361
        cases e_361
        exact kE0 () _ _ rfl
      · rw [if_pos c] at e_361
        refine aw_aload_n (i := 0) hX rfl rfl d_X3_advance_157 ?_
        refine aw_dup hX rfl d_X3_advance_158 ?_
        refine ar_getI hX fg_RX3_39 rfl d_X3_advance_159 ?_
        refine aw_iconst (v := 1) hX (by decide) d_X3_advance_162 ?_
        refine aw_iadd hX d_X3_advance_163 ?_
        refine ar_putI hX fp_RX3_39 rfl d_X3_advance_164 ?_
        refine aw_goto (t := 124) hX (by decide) d_X3_advance_167 ?_
        cases e_361
        exact kI ()  rfl
theorem ti_X3_advance_124 {g : GP} {X : MX} {mcR msR : Nat} (hF : gF g = true) (hX : Cx g RX3 cX3_advance 2 mcR msR none [] X) {Q : State → Prop} {p1 : Int32} {y : Unit} {hz : AH} (kE0 : ∀ (y_0 : Value) (y_1 : Value), AR g X 0 0 Q hz 170 [y_0, y_1] []) (n : Nat) : ∀ (s : Unit) (h : AH), lpH (l_X3_advance_124 p1) n s h = some (y, hz) → AR g X 0 0 Q h 124 [.ref 1, .int p1] [] := by
  induction n with
  | zero => intro s h e; cases e
  | succ n ih =>
    intro s h e
    obtain ⟨x, h1, e1, e2⟩ := lpH_succ e
    rcases e2 with ⟨s2, rfl, e3⟩ | ⟨rfl, rfl⟩
    · exact tb_X3_advance_124 hF hX e1 (fun s3  hs => by cases hs; exact ih _  _ e3) (fun yy x0 x1 hy => by cases hy)
    · exact tb_X3_advance_124 hF hX e1 (fun s3  hs => by cases hs) (fun yy x0 x1 hy => by cases hy; exact kE0 x0 x1)
theorem t_X3_advance_124 {g : GP} {X : MX} {mcR msR : Nat} (hF : gF g = true) (hX : Cx g RX3 cX3_advance 2 mcR msR none [] X) {Q : State → Prop} {p1 : Int32} {s : Unit} {h hz : AH} {n : Nat} {y : Unit} (e : lpH (l_X3_advance_124 p1) n s h = some (y, hz)) (kE0 : ∀ (y_0 : Value) (y_1 : Value), AR g X 0 0 Q hz 170 [y_0, y_1] []) : AR g X 0 0 Q h 124 [.ref 1, .int p1] [] := ti_X3_advance_124 hF hX kE0 n _  _ e
def j_X3_advance_123 (k0 : Int32) (h : AH) : Option (Unit × AH) := bd (lpH (l_X3_advance_124 k0) FU () h) fun y5 => some ((), y5.2)
theorem tj_X3_advance_123 {g : GP} {X : MX} {mcR msR : Nat} (hF : gF g = true) (hX : Cx g RX3 cX3_advance 2 mcR msR none [] X) {k0 : Int32} {d1 : Value} {h hz : AH} {z : Unit} (e : j_X3_advance_123 k0 h = some (z, hz)) : AR g X 0 0 (QQ g X NT false hz (.inl none) 0 0) h 123 [.ref 1, d1] [.int k0] := by
  unfold j_X3_advance_123 at e
  refine aw_istore_n (i := 1) (lv2 := [.ref 1, .int k0]) hX rfl rfl rfl d_X3_advance_123 ?_
  obtain ⟨y5, f_362, e_362⟩ := bd_some e
  clear e
  refine t_X3_advance_124 hF hX f_362 (fun d6_0 d6_1 => ?_)
  cases e_362
  exact aw_return hX (Nat.zero_le _) (Nat.zero_le _) d_X3_advance_170
def j_X3_advance_118 (h : AH) : Option (Unit × AH) := j_X3_advance_123 1 h
theorem tj_X3_advance_118 {g : GP} {X : MX} {mcR msR : Nat} (hF : gF g = true) (hX : Cx g RX3 cX3_advance 2 mcR msR none [] X) {d1 : Value} {h hz : AH} {z : Unit} (e : j_X3_advance_118 h = some (z, hz)) : AR g X 0 0 (QQ g X NT false hz (.inl none) 0 0) h 118 [.ref 1, d1] [] := by
  unfold j_X3_advance_118 at e
  refine aw_iconst (v := 1) hX (by decide) d_X3_advance_118 ?_
  refine aw_goto (t := 123) hX (by decide) d_X3_advance_119 ?_
  exact tj_X3_advance_123 hF hX e
def j_X3_advance_82 (k0 : Int32) (h : AH) : Option (Unit × AH) := if (gI (sI (sI h 1 4 k0) 1 6 (if ((gI (sI h 1 4 k0) 1 5) + 1) < (gI (sI h 1 4 k0) 1 3) then ((gI (sI h 1 4 k0) 1 5) + 1) else (gI (sI h 1 4 k0) 1 3))) 1 4) = 1 then j_X3_advance_118 (sI (sI h 1 4 k0) 1 6 (if ((gI (sI h 1 4 k0) 1 5) + 1) < (gI (sI h 1 4 k0) 1 3) then ((gI (sI h 1 4 k0) 1 5) + 1) else (gI (sI h 1 4 k0) 1 3))) else if (gI (sI (sI h 1 4 k0) 1 6 (if ((gI (sI h 1 4 k0) 1 5) + 1) < (gI (sI h 1 4 k0) 1 3) then ((gI (sI h 1 4 k0) 1 5) + 1) else (gI (sI h 1 4 k0) 1 3))) 1 4) = 2 then j_X3_advance_118 (sI (sI h 1 4 k0) 1 6 (if ((gI (sI h 1 4 k0) 1 5) + 1) < (gI (sI h 1 4 k0) 1 3) then ((gI (sI h 1 4 k0) 1 5) + 1) else (gI (sI h 1 4 k0) 1 3))) else j_X3_advance_123 0 (sI (sI h 1 4 k0) 1 6 (if ((gI (sI h 1 4 k0) 1 5) + 1) < (gI (sI h 1 4 k0) 1 3) then ((gI (sI h 1 4 k0) 1 5) + 1) else (gI (sI h 1 4 k0) 1 3)))
theorem tj_X3_advance_82 {g : GP} {X : MX} {mcR msR : Nat} (hF : gF g = true) (hX : Cx g RX3 cX3_advance 2 mcR msR none [] X) {k0 : Int32} {d1 : Value} {h hz : AH} {z : Unit} (e : j_X3_advance_82 k0 h = some (z, hz)) : AR g X 0 0 (QQ g X NT false hz (.inl none) 0 0) h 82 [.ref 1, d1] [.int k0, .ref 1] := by
  unfold j_X3_advance_82 at e
  refine ar_putI hX fp_RX3_66 rfl d_X3_advance_82 ?_
  refine aw_aload_n (i := 0) hX rfl rfl d_X3_advance_85 ?_
  refine aw_aload_n (i := 0) hX rfl rfl d_X3_advance_86 ?_
  refine ar_getI hX fg_RX3_36 rfl d_X3_advance_87 ?_
  refine aw_aload_n (i := 0) hX rfl rfl d_X3_advance_90 ?_
  refine ar_getI hX fg_RX3_193 rfl d_X3_advance_91 ?_
  refine aw_iconst (v := 1) hX (by decide) d_X3_advance_94 ?_
  refine aw_iadd hX d_X3_advance_95 ?_
  refine ar_imin hX w_219 mth_imin (by decide) (Nat.le_of_ble_eq_true rfl) (Nat.zero_le _) (Nat.zero_le _) d_X3_advance_96 ?_
  refine ar_putI hX fp_RX3_39 rfl d_X3_advance_99 ?_
  refine aw_aload_n (i := 0) hX rfl rfl d_X3_advance_102 ?_
  refine ar_getI hX fg_RX3_66 rfl d_X3_advance_103 ?_
  refine aw_iconst (v := 1) hX (by decide) d_X3_advance_106 ?_
  refine aw_icmp_eq (t := 118) hX (by decide) d_X3_advance_107 (fun c => ?_) (fun c => ?_)
  · rw [if_pos c] at e
    exact tj_X3_advance_118 hF hX e
  · rw [if_neg c] at e
    refine aw_aload_n (i := 0) hX rfl rfl d_X3_advance_110 ?_
    refine ar_getI hX fg_RX3_66 rfl d_X3_advance_111 ?_
    refine aw_iconst (v := 2) hX (by decide) d_X3_advance_114 ?_
    refine aw_icmp_ne (t := 122) hX (by decide) d_X3_advance_115 (fun c => ?_) (fun c => ?_)
    · rw [if_neg c] at e
      refine aw_iconst (v := 0) hX (by decide) d_X3_advance_122 ?_
      exact tj_X3_advance_123 hF hX e
    · rw [if_pos c] at e
      exact tj_X3_advance_118 hF hX e
def j_X3_advance_55 (h : AH) : Option (Unit × AH) := if (gI h 1 3) ≤ (gI h 1 5) then j_X3_advance_82 0 h else bd (s_X9_at (some 4) (gI h 1 5) h) fun x7 => j_X3_advance_82 x7 h
theorem tj_X3_advance_55 {g : GP} {X : MX} {mcR msR : Nat} (hF : gF g = true) (hX : Cx g RX3 cX3_advance 2 mcR msR none [] X) {d1 : Value} {h hz : AH} {z : Unit} (e : j_X3_advance_55 h = some (z, hz)) : AR g X 0 0 (QQ g X NT false hz (.inl none) 0 0) h 55 [.ref 1, d1] [] := by
  unfold j_X3_advance_55 at e
  refine aw_aload_n (i := 0) hX rfl rfl d_X3_advance_55 ?_
  refine aw_aload_n (i := 0) hX rfl rfl d_X3_advance_56 ?_
  refine ar_getI hX fg_RX3_193 rfl d_X3_advance_57 ?_
  refine aw_aload_n (i := 0) hX rfl rfl d_X3_advance_60 ?_
  refine ar_getI hX fg_RX3_36 rfl d_X3_advance_61 ?_
  refine aw_icmp_ge (t := 81) hX (by decide) d_X3_advance_64 (fun c => ?_) (fun c => ?_)
  · rw [if_pos c] at e
    refine aw_iconst (v := 0) hX (by decide) d_X3_advance_81 ?_
    exact tj_X3_advance_82 hF hX e
  · rw [if_neg c] at e
    refine aw_aload_n (i := 0) hX rfl rfl d_X3_advance_67 ?_
    refine ar_getF hX hF fg_RX3_18 rfl d_X3_advance_68 ?_
    show AR g X 0 0 _ _ 71 _ [.ref 4, .ref 1]
    refine aw_aload_n (i := 0) hX rfl rfl d_X3_advance_71 ?_
    refine ar_getI hX fg_RX3_193 rfl d_X3_advance_72 ?_
    obtain ⟨x7, f_363, e_363⟩ := bd_some e
    clear e
    refine aw_callSN (av := [.ref 4, .int (gI h 1 5)]) (avr := [.int (gI h 1 5), .ref 4]) hX (k_X9_at (cx_g hX) hF f_363) mi_X9_at rfl rfl nx16 w_6 (by decide) (Nat.le_of_ble_eq_true rfl) (Nat.zero_le _) (Nat.zero_le _) d_X3_advance_75 ?_
    refine aw_goto (t := 82) hX (by decide) d_X3_advance_78 ?_
    exact tj_X3_advance_82 hF hX e_363
def s_X3_advance (h : AH) : Option (Unit × AH) := if (gI h 1 8) = 0 then bd (lpH (l_X3_advance_16) FU () (sI h 1 5 (gI h 1 6))) fun y2 => j_X3_advance_55 y2.2 else some ((), h)
theorem t_X3_advance {g : GP} {X : MX} {mcR msR : Nat} (hF : gF g = true) (hX : Cx g RX3 cX3_advance 2 mcR msR none [] X) {h hz : AH} {z : Unit} (e : s_X3_advance h = some (z, hz)) : AR g X 0 0 (QQ g X NT false hz (.inl none) 0 0) h 0 [.ref 1, jk] [] := by
  unfold s_X3_advance at e
  refine aw_aload_n (i := 0) hX rfl rfl d_X3_advance_0 ?_
  refine ar_getI hX fg_RX3_45 rfl d_X3_advance_1 ?_
  refine aw_if_eq (t := 8) hX (by decide) d_X3_advance_4 (fun c => ?_) (fun c => ?_)
  · rw [if_pos c] at e
    refine aw_aload_n (i := 0) hX rfl rfl d_X3_advance_8 ?_
    refine aw_aload_n (i := 0) hX rfl rfl d_X3_advance_9 ?_
    refine ar_getI hX fg_RX3_39 rfl d_X3_advance_10 ?_
    refine ar_putI hX fp_RX3_193 rfl d_X3_advance_13 ?_
    obtain ⟨y2, f_364, e_364⟩ := bd_some e
    clear e
    refine t_X3_advance_16 hF hX f_364 (fun d3_1 => ?_)
    exact tj_X3_advance_55 hF hX e_364
  · rw [if_neg c] at e
    cases e
    exact aw_return hX (Nat.zero_le _) (Nat.zero_le _) d_X3_advance_7
theorem k_X3_advance {g : GP} (hg : g.1.stackTraces = false) (hF : gF g = true) {h hz : AH} {z : Unit} (e : s_X3_advance h = some (z, hz)) : Ctr g yX3_advance (wsY yX3_advance cX3_advance 2 none) 2 0 0 [.ref 1] NT false h none NT false hz := ctr_of (lv0 := [.ref 1, jk]) rfl rfl (by decide) hg trivial (fun X hX hn => t_X3_advance hF hX e)
theorem d_X3_isWord_0 : decode cX3_isWord 0 = .ok (.aload_n 0, 1) := by decide +kernel
theorem d_X3_isWord_1 : decode cX3_isWord 1 = .ok (.getfield 66, 3) := by decide +kernel
theorem d_X3_isWord_4 : decode cX3_isWord 4 = .ok (.iconst 1, 1) := by decide +kernel
theorem d_X3_isWord_5 : decode cX3_isWord 5 = .ok (.if_icmp .ne 19, 3) := by decide +kernel
theorem d_X3_isWord_8 : decode cX3_isWord 8 = .ok (.aload_n 0, 1) := by decide +kernel
theorem d_X3_isWord_9 : decode cX3_isWord 9 = .ok (.getfield 39, 3) := by decide +kernel
theorem d_X3_isWord_12 : decode cX3_isWord 12 = .ok (.aload_n 0, 1) := by decide +kernel
theorem d_X3_isWord_13 : decode cX3_isWord 13 = .ok (.getfield 193, 3) := by decide +kernel
theorem d_X3_isWord_16 : decode cX3_isWord 16 = .ok (.isub, 1) := by decide +kernel
theorem d_X3_isWord_17 : decode cX3_isWord 17 = .ok (.aload_n 1, 1) := by decide +kernel
theorem d_X3_isWord_18 : decode cX3_isWord 18 = .ok (.invokevirtual 201, 3) := by decide +kernel
theorem d_X3_isWord_21 : decode cX3_isWord 21 = .ok (.if_icmp .eq 5, 3) := by decide +kernel
theorem d_X3_isWord_24 : decode cX3_isWord 24 = .ok (.iconst 0, 1) := by decide +kernel
theorem d_X3_isWord_25 : decode cX3_isWord 25 = .ok (.ireturn, 1) := by decide +kernel
theorem d_X3_isWord_26 : decode cX3_isWord 26 = .ok (.iconst 0, 1) := by decide +kernel
theorem d_X3_isWord_27 : decode cX3_isWord 27 = .ok (.istore_n 2, 1) := by decide +kernel
theorem d_X3_isWord_28 : decode cX3_isWord 28 = .ok (.iload_n 2, 1) := by decide +kernel
theorem d_X3_isWord_29 : decode cX3_isWord 29 = .ok (.aload_n 1, 1) := by decide +kernel
theorem d_X3_isWord_30 : decode cX3_isWord 30 = .ok (.invokevirtual 201, 3) := by decide +kernel
theorem d_X3_isWord_33 : decode cX3_isWord 33 = .ok (.if_icmp .ge 35, 3) := by decide +kernel
theorem d_X3_isWord_36 : decode cX3_isWord 36 = .ok (.aload_n 0, 1) := by decide +kernel
theorem d_X3_isWord_37 : decode cX3_isWord 37 = .ok (.getfield 12, 3) := by decide +kernel
theorem d_X3_isWord_40 : decode cX3_isWord 40 = .ok (.getfield 48, 3) := by decide +kernel
theorem d_X3_isWord_43 : decode cX3_isWord 43 = .ok (.aload_n 0, 1) := by decide +kernel
theorem d_X3_isWord_44 : decode cX3_isWord 44 = .ok (.getfield 193, 3) := by decide +kernel
theorem d_X3_isWord_47 : decode cX3_isWord 47 = .ok (.iload_n 2, 1) := by decide +kernel
theorem d_X3_isWord_48 : decode cX3_isWord 48 = .ok (.iadd, 1) := by decide +kernel
theorem d_X3_isWord_49 : decode cX3_isWord 49 = .ok (.invokestatic 51, 3) := by decide +kernel
theorem d_X3_isWord_52 : decode cX3_isWord 52 = .ok (.aload_n 1, 1) := by decide +kernel
theorem d_X3_isWord_53 : decode cX3_isWord 53 = .ok (.iload_n 2, 1) := by decide +kernel
theorem d_X3_isWord_54 : decode cX3_isWord 54 = .ok (.invokevirtual 205, 3) := by decide +kernel
theorem d_X3_isWord_57 : decode cX3_isWord 57 = .ok (.if_icmp .eq 5, 3) := by decide +kernel
theorem d_X3_isWord_60 : decode cX3_isWord 60 = .ok (.iconst 0, 1) := by decide +kernel
theorem d_X3_isWord_61 : decode cX3_isWord 61 = .ok (.ireturn, 1) := by decide +kernel
theorem d_X3_isWord_62 : decode cX3_isWord 62 = .ok (.iinc 2 1, 3) := by decide +kernel
theorem d_X3_isWord_65 : decode cX3_isWord 65 = .ok (.goto (-37), 3) := by decide +kernel
theorem d_X3_isWord_68 : decode cX3_isWord 68 = .ok (.iconst 1, 1) := by decide +kernel
theorem d_X3_isWord_69 : decode cX3_isWord 69 = .ok (.ireturn, 1) := by decide +kernel
def l_X3_isWord_28 (p1 : Nat) (h : AH) (s : Int32) : Option (Int32 ⊕ (Unit ⊕ Unit)) := if p1 < nJ then if (strLn p1) ≤ s then some (.inr (.inr ())) else bd (s_X9_at (some 3) ((gI h 1 5) + s) h) fun x1 => bd (strCh p1 s) fun x2 => if x1 = x2 then some (.inl (s + 1)) else some (.inr (.inl ())) else none
theorem tb_X3_isWord_28 {g : GP} {X : MX} {mcR msR : Nat} (hF : gF g = true) (hX : Cx g RX3 cX3_isWord 5 mcR msR (some .boolean) [] X) {Q : State → Prop} {p1 : Nat} {s : Int32} {h : AH} {z : (Int32 ⊕ (Unit ⊕ Unit))} (e : l_X3_isWord_28 p1 h s = some z) (kI : ∀ (s2 : Int32), z = .inl s2 → AR g X 0 0 Q h 28 [.ref 1, .ref (100000 + p1), .int s2] []) (kE0 : ∀ (yy : Unit) (y0 : Value) (y1 : Value) (y2 : Value), z = .inr (.inl yy) → AR g X 0 0 Q h 60 [y0, y1, y2] []) (kE1 : ∀ (yy : Unit) (y0 : Value) (y1 : Value) (y2 : Value), z = .inr (.inr yy) → AR g X 0 0 Q h 68 [y0, y1, y2] []) : AR g X 0 0 Q h 28 [.ref 1, .ref (100000 + p1), .int s] [] := by
  unfold l_X3_isWord_28 at e
  refine aw_iload_n (i := 2) hX rfl rfl d_X3_isWord_28 ?_
  refine aw_aload_n (i := 1) hX rfl rfl d_X3_isWord_29 ?_
  obtain ⟨hJ, e_365⟩ := if_some e
  clear e
  refine ar_strLen hX hJ (by decide) w_220 (Nat.le_of_ble_eq_true rfl) d_X3_isWord_30 ?_
  refine aw_icmp_ge (t := 68) hX (by decide) d_X3_isWord_33 (fun c => ?_) (fun c => ?_)
  · rw [if_pos c] at e_365
    cases e_365
    exact kE1 () _ _ _ rfl
  · rw [if_neg c] at e_365
    refine aw_aload_n (i := 0) hX rfl rfl d_X3_isWord_36 ?_
    refine ar_getF hX hF fg_RX3_12 rfl d_X3_isWord_37 ?_
    show AR g X 0 0 _ _ 40 _ [.ref 2]
    refine ar_getF hX hF fg_RX3_48 rfl d_X3_isWord_40 ?_
    show AR g X 0 0 _ _ 43 _ [.ref 3]
    refine aw_aload_n (i := 0) hX rfl rfl d_X3_isWord_43 ?_
    refine ar_getI hX fg_RX3_193 rfl d_X3_isWord_44 ?_
    refine aw_iload_n (i := 2) hX rfl rfl d_X3_isWord_47 ?_
    refine aw_iadd hX d_X3_isWord_48 ?_
    obtain ⟨x1, f_366, e_366⟩ := bd_some e_365
    clear e_365
    refine aw_callSN (av := [.ref 3, .int ((gI h 1 5) + s)]) (avr := [.int ((gI h 1 5) + s), .ref 3]) hX (k_X9_at (cx_g hX) hF f_366) mi_X9_at rfl rfl nx16 w_6 (by decide) (Nat.le_of_ble_eq_true rfl) (Nat.zero_le _) (Nat.zero_le _) d_X3_isWord_49 ?_
    refine aw_aload_n (i := 1) hX rfl rfl d_X3_isWord_52 ?_
    refine aw_iload_n (i := 2) hX rfl rfl d_X3_isWord_53 ?_
    obtain ⟨x2, f_367, e_367⟩ := bd_some e_366
    clear e_366
    refine ar_strCh hX f_367 (by decide) w_223 (Nat.le_of_ble_eq_true rfl) d_X3_isWord_54 ?_
    refine aw_icmp_eq (t := 62) hX (by decide) d_X3_isWord_57 (fun c => ?_) (fun c => ?_)
    · rw [if_pos c] at e_367
      refine aw_iinc (i := 2) (lv2 := [.ref 1, .ref (100000 + p1), .int (s + 1)]) hX rfl rfl rfl rfl d_X3_isWord_62 ?_
      refine aw_goto (t := 28) hX (by decide) d_X3_isWord_65 ?_
      cases e_367
      exact kI (s + 1)  rfl
    · rw [if_neg c] at e_367
      cases e_367
      exact kE0 () _ _ _ rfl
theorem ti_X3_isWord_28 {g : GP} {X : MX} {mcR msR : Nat} (hF : gF g = true) (hX : Cx g RX3 cX3_isWord 5 mcR msR (some .boolean) [] X) {Q : State → Prop} {p1 : Nat} {y : (Unit ⊕ Unit)} {h : AH} (kE0 : ∀ (yy : Unit) (y_0 : Value) (y_1 : Value) (y_2 : Value), y = .inl yy → AR g X 0 0 Q h 60 [y_0, y_1, y_2] []) (kE1 : ∀ (yy : Unit) (y_0 : Value) (y_1 : Value) (y_2 : Value), y = .inr yy → AR g X 0 0 Q h 68 [y_0, y_1, y_2] []) (n : Nat) : ∀ (s : Int32), lpP (l_X3_isWord_28 p1 h) n s = some y → AR g X 0 0 Q h 28 [.ref 1, .ref (100000 + p1), .int s] [] := by
  induction n with
  | zero => intro s e; cases e
  | succ n ih =>
    intro s e
    obtain ⟨x, e1, e2⟩ := lpP_succ e
    rcases e2 with ⟨s2, rfl, e3⟩ | rfl
    · exact tb_X3_isWord_28 hF hX e1 (fun s3  hs => by cases hs; exact ih _   e3) (fun yy x0 x1 x2 hy => by cases hy) (fun yy x0 x1 x2 hy => by cases hy)
    · exact tb_X3_isWord_28 hF hX e1 (fun s3  hs => by cases hs) (fun yy x0 x1 x2 hy => by cases hy; exact kE0 _ x0 x1 x2 rfl) (fun yy x0 x1 x2 hy => by cases hy; exact kE1 _ x0 x1 x2 rfl)
theorem t_X3_isWord_28 {g : GP} {X : MX} {mcR msR : Nat} (hF : gF g = true) (hX : Cx g RX3 cX3_isWord 5 mcR msR (some .boolean) [] X) {Q : State → Prop} {p1 : Nat} {s : Int32} {h : AH} {n : Nat} {y : (Unit ⊕ Unit)} (e : lpP (l_X3_isWord_28 p1 h) n s = some y) (kE0 : ∀ (yy : Unit) (y_0 : Value) (y_1 : Value) (y_2 : Value), y = .inl yy → AR g X 0 0 Q h 60 [y_0, y_1, y_2] []) (kE1 : ∀ (yy : Unit) (y_0 : Value) (y_1 : Value) (y_2 : Value), y = .inr yy → AR g X 0 0 Q h 68 [y_0, y_1, y_2] []) : AR g X 0 0 Q h 28 [.ref 1, .ref (100000 + p1), .int s] [] := ti_X3_isWord_28 hF hX kE0 kE1 n _   e
def s_X3_isWord (a0 : Nat) (h : AH) : Option Int32 := if (gI h 1 4) = 1 then if a0 < nJ then if ((gI h 1 6) - (gI h 1 5)) = (strLn a0) then bd (lpP (l_X3_isWord_28 a0 h) FU 0) fun y3 => (fun q => sm q (fun z4 => some 0) (fun z6 => some 1)) y3 else some 0 else none else some 0
theorem t_X3_isWord {g : GP} {X : MX} {mcR msR : Nat} (hF : gF g = true) (hX : Cx g RX3 cX3_isWord 5 mcR msR (some .boolean) [] X) {a0 : Nat} {h : AH} {z : Int32} (e : s_X3_isWord a0 h = some z) : AR g X 0 0 (QQ g X NT false h (.inl (some (.int z))) 0 0) h 0 [.ref 1, .ref (100000 + a0), jk] [] := by
  unfold s_X3_isWord at e
  refine aw_aload_n (i := 0) hX rfl rfl d_X3_isWord_0 ?_
  refine ar_getI hX fg_RX3_66 rfl d_X3_isWord_1 ?_
  refine aw_iconst (v := 1) hX (by decide) d_X3_isWord_4 ?_
  refine aw_icmp_ne (t := 24) hX (by decide) d_X3_isWord_5 (fun c => ?_) (fun c => ?_)
  · rw [if_neg c] at e
    refine aw_iconst (v := 0) hX (by decide) d_X3_isWord_24 ?_
    cases e
    exact aw_zreturn hX (by decide) (Nat.zero_le _) (Nat.zero_le _) d_X3_isWord_25
  · rw [if_pos c] at e
    refine aw_aload_n (i := 0) hX rfl rfl d_X3_isWord_8 ?_
    refine ar_getI hX fg_RX3_39 rfl d_X3_isWord_9 ?_
    refine aw_aload_n (i := 0) hX rfl rfl d_X3_isWord_12 ?_
    refine ar_getI hX fg_RX3_193 rfl d_X3_isWord_13 ?_
    refine aw_isub hX d_X3_isWord_16 ?_
    refine aw_aload_n (i := 1) hX rfl rfl d_X3_isWord_17 ?_
    obtain ⟨hJ, e_368⟩ := if_some e
    clear e
    refine ar_strLen hX hJ (by decide) w_220 (Nat.le_of_ble_eq_true rfl) d_X3_isWord_18 ?_
    refine aw_icmp_eq (t := 26) hX (by decide) d_X3_isWord_21 (fun c => ?_) (fun c => ?_)
    · rw [if_pos c] at e_368
      refine aw_iconst (v := 0) hX (by decide) d_X3_isWord_26 ?_
      refine aw_istore_n (i := 2) (lv2 := [.ref 1, .ref (100000 + a0), .int 0]) hX rfl rfl rfl d_X3_isWord_27 ?_
      obtain ⟨y3, f_369, e_369⟩ := bd_some e_368
      clear e_368
      refine t_X3_isWord_28 hF hX f_369 (fun z4 d5_0 d5_1 d5_2 hy => ?_) (fun z6 d7_0 d7_1 d7_2 hy => ?_)
      · simp only [hy, sm] at e_369
        refine aw_iconst (v := 0) hX (by decide) d_X3_isWord_60 ?_
        cases e_369
        exact aw_zreturn hX (by decide) (Nat.zero_le _) (Nat.zero_le _) d_X3_isWord_61
      · simp only [hy, sm] at e_369
        refine aw_iconst (v := 1) hX (by decide) d_X3_isWord_68 ?_
        cases e_369
        exact aw_zreturn hX (by decide) (Nat.zero_le _) (Nat.zero_le _) d_X3_isWord_69
    · rw [if_neg c] at e_368
      refine aw_iconst (v := 0) hX (by decide) d_X3_isWord_24 ?_
      cases e_368
      exact aw_zreturn hX (by decide) (Nat.zero_le _) (Nat.zero_le _) d_X3_isWord_25
theorem k_X3_isWord {g : GP} (hg : g.1.stackTraces = false) (hF : gF g = true) {a0 : Nat} {h : AH} {z : Int32} (e : s_X3_isWord a0 h = some z) : Ctr g yX3_isWord (wsY yX3_isWord cX3_isWord 3 (some .boolean)) 5 0 0 [.ref 1, .ref (100000 + a0)] NT false h (some (.int z)) NT false h := ctr_of (lv0 := [.ref 1, .ref (100000 + a0), jk]) rfl rfl (by decide) hg trivial (fun X hX hn => t_X3_isWord hF hX e)
theorem d_X3_refuse_0 : decode cX3_refuse 0 = .ok (.aload_n 0, 1) := by decide +kernel
theorem d_X3_refuse_1 : decode cX3_refuse 1 = .ok (.getfield 45, 3) := by decide +kernel
theorem d_X3_refuse_4 : decode cX3_refuse 4 = .ok (.ifCond .ne 16, 3) := by decide +kernel
theorem d_X3_refuse_7 : decode cX3_refuse 7 = .ok (.aload_n 0, 1) := by decide +kernel
theorem d_X3_refuse_8 : decode cX3_refuse 8 = .ok (.iload_n 1, 1) := by decide +kernel
theorem d_X3_refuse_9 : decode cX3_refuse 9 = .ok (.putfield 45, 3) := by decide +kernel
theorem d_X3_refuse_12 : decode cX3_refuse 12 = .ok (.aload_n 0, 1) := by decide +kernel
theorem d_X3_refuse_13 : decode cX3_refuse 13 = .ok (.aload_n 0, 1) := by decide +kernel
theorem d_X3_refuse_14 : decode cX3_refuse 14 = .ok (.getfield 193, 3) := by decide +kernel
theorem d_X3_refuse_17 : decode cX3_refuse 17 = .ok (.putfield 29, 3) := by decide +kernel
theorem d_X3_refuse_20 : decode cX3_refuse 20 = .ok (.return_, 1) := by decide +kernel
def s_X3_refuse (a0 : Int32) (h : AH) : Option (Unit × AH) := if (gI h 1 8) = 0 then some ((), sI (sI h 1 8 a0) 1 9 (gI (sI h 1 8 a0) 1 5)) else some ((), h)
theorem t_X3_refuse {g : GP} {X : MX} {mcR msR : Nat} (hF : gF g = true) (hX : Cx g RX3 cX3_refuse 1 mcR msR none [] X) {a0 : Int32} {h hz : AH} {z : Unit} (e : s_X3_refuse a0 h = some (z, hz)) : AR g X 0 0 (QQ g X NT false hz (.inl none) 0 0) h 0 [.ref 1, .int a0] [] := by
  unfold s_X3_refuse at e
  refine aw_aload_n (i := 0) hX rfl rfl d_X3_refuse_0 ?_
  refine ar_getI hX fg_RX3_45 rfl d_X3_refuse_1 ?_
  refine aw_if_ne (t := 20) hX (by decide) d_X3_refuse_4 (fun c => ?_) (fun c => ?_)
  · rw [if_neg c] at e
    cases e
    exact aw_return hX (Nat.zero_le _) (Nat.zero_le _) d_X3_refuse_20
  · rw [if_pos c] at e
    refine aw_aload_n (i := 0) hX rfl rfl d_X3_refuse_7 ?_
    refine aw_iload_n (i := 1) hX rfl rfl d_X3_refuse_8 ?_
    refine ar_putI hX fp_RX3_45 rfl d_X3_refuse_9 ?_
    refine aw_aload_n (i := 0) hX rfl rfl d_X3_refuse_12 ?_
    refine aw_aload_n (i := 0) hX rfl rfl d_X3_refuse_13 ?_
    refine ar_getI hX fg_RX3_193 rfl d_X3_refuse_14 ?_
    refine ar_putI hX fp_RX3_29 rfl d_X3_refuse_17 ?_
    cases e
    exact aw_return hX (Nat.zero_le _) (Nat.zero_le _) d_X3_refuse_20
theorem k_X3_refuse {g : GP} (hg : g.1.stackTraces = false) (hF : gF g = true) {a0 : Int32} {h hz : AH} {z : Unit} (e : s_X3_refuse a0 h = some (z, hz)) : Ctr g yX3_refuse (wsY yX3_refuse cX3_refuse 2 none) 1 0 0 [.ref 1, .int a0] NT false h none NT false hz := ctr_of (lv0 := [.ref 1, .int a0]) rfl rfl (by decide) hg trivial (fun X hX hn => t_X3_refuse hF hX e)
theorem d_X3_needStop_0 : decode cX3_needStop 0 = .ok (.aload_n 0, 1) := by decide +kernel
theorem d_X3_needStop_1 : decode cX3_needStop 1 = .ok (.getfield 66, 3) := by decide +kernel
theorem d_X3_needStop_4 : decode cX3_needStop 4 = .ok (.iconst 3, 1) := by decide +kernel
theorem d_X3_needStop_5 : decode cX3_needStop 5 = .ok (.if_icmp .ne 10, 3) := by decide +kernel
theorem d_X3_needStop_8 : decode cX3_needStop 8 = .ok (.aload_n 0, 1) := by decide +kernel
theorem d_X3_needStop_9 : decode cX3_needStop 9 = .ok (.invokevirtual 63, 3) := by decide +kernel
theorem d_X3_needStop_12 : decode cX3_needStop 12 = .ok (.goto 8, 3) := by decide +kernel
theorem d_X3_needStop_15 : decode cX3_needStop 15 = .ok (.aload_n 0, 1) := by decide +kernel
theorem d_X3_needStop_16 : decode cX3_needStop 16 = .ok (.iconst 1, 1) := by decide +kernel
theorem d_X3_needStop_17 : decode cX3_needStop 17 = .ok (.invokevirtual 124, 3) := by decide +kernel
theorem d_X3_needStop_20 : decode cX3_needStop 20 = .ok (.return_, 1) := by decide +kernel
def s_X3_needStop (h : AH) : Option (Unit × AH) := if (gI h 1 4) = 3 then bd (s_X3_advance h) fun q2 => some ((), q2.2) else bd (s_X3_refuse 1 h) fun q1 => some ((), q1.2)
theorem t_X3_needStop {g : GP} {X : MX} {mcR msR : Nat} (hF : gF g = true) (hX : Cx g RX3 cX3_needStop 3 mcR msR none [] X) {h hz : AH} {z : Unit} (e : s_X3_needStop h = some (z, hz)) : AR g X 0 0 (QQ g X NT false hz (.inl none) 0 0) h 0 [.ref 1] [] := by
  unfold s_X3_needStop at e
  refine aw_aload_n (i := 0) hX rfl rfl d_X3_needStop_0 ?_
  refine ar_getI hX fg_RX3_66 rfl d_X3_needStop_1 ?_
  refine aw_iconst (v := 3) hX (by decide) d_X3_needStop_4 ?_
  refine aw_icmp_ne (t := 15) hX (by decide) d_X3_needStop_5 (fun c => ?_) (fun c => ?_)
  · rw [if_neg c] at e
    refine aw_aload_n (i := 0) hX rfl rfl d_X3_needStop_15 ?_
    refine aw_iconst (v := 1) hX (by decide) d_X3_needStop_16 ?_
    obtain ⟨q1, f_370, e_370⟩ := bd_some e
    clear e
    refine aw_callV (b := 1) (av := [.int 1]) (avr := [.int 1]) hX (k_X3_refuse (cx_g hX) hF f_370) mi_X3_refuse rfl rfl w_226 w_227 w_228 (by decide) rfl (LAY_lt rfl (by decide)) rfl rfl (Nat.le_of_ble_eq_true rfl) (Nat.zero_le _) (Nat.zero_le _) d_X3_needStop_17 ?_
    cases e_370
    exact aw_return hX (Nat.zero_le _) (Nat.zero_le _) d_X3_needStop_20
  · rw [if_pos c] at e
    refine aw_aload_n (i := 0) hX rfl rfl d_X3_needStop_8 ?_
    obtain ⟨q2, f_371, e_371⟩ := bd_some e
    clear e
    refine aw_callV (b := 1) (av := []) (avr := []) hX (k_X3_advance (cx_g hX) hF f_371) mi_X3_advance rfl rfl w_230 w_231 w_232 (by decide) rfl (LAY_lt rfl (by decide)) rfl rfl (Nat.le_of_ble_eq_true rfl) (Nat.zero_le _) (Nat.zero_le _) d_X3_needStop_9 ?_
    refine aw_goto (t := 20) hX (by decide) d_X3_needStop_12 ?_
    cases e_371
    exact aw_return hX (Nat.zero_le _) (Nat.zero_le _) d_X3_needStop_20
theorem k_X3_needStop {g : GP} (hg : g.1.stackTraces = false) (hF : gF g = true) {h hz : AH} {z : Unit} (e : s_X3_needStop h = some (z, hz)) : Ctr g yX3_needStop (wsY yX3_needStop cX3_needStop 1 none) 3 0 0 [.ref 1] NT false h none NT false hz := ctr_of (lv0 := [.ref 1]) rfl rfl (by decide) hg trivial (fun X hX hn => t_X3_needStop hF hX e)
theorem d_X3_number_0 : decode cX3_number 0 = .ok (.aload_n 0, 1) := by decide +kernel
theorem d_X3_number_1 : decode cX3_number 1 = .ok (.getfield 66, 3) := by decide +kernel
theorem d_X3_number_4 : decode cX3_number 4 = .ok (.iconst 2, 1) := by decide +kernel
theorem d_X3_number_5 : decode cX3_number 5 = .ok (.if_icmp .ne 16, 3) := by decide +kernel
theorem d_X3_number_8 : decode cX3_number 8 = .ok (.aload_n 0, 1) := by decide +kernel
theorem d_X3_number_9 : decode cX3_number 9 = .ok (.getfield 39, 3) := by decide +kernel
theorem d_X3_number_12 : decode cX3_number 12 = .ok (.aload_n 0, 1) := by decide +kernel
theorem d_X3_number_13 : decode cX3_number 13 = .ok (.getfield 193, 3) := by decide +kernel
theorem d_X3_number_16 : decode cX3_number 16 = .ok (.isub, 1) := by decide +kernel
theorem d_X3_number_17 : decode cX3_number 17 = .ok (.iconst 4, 1) := by decide +kernel
theorem d_X3_number_18 : decode cX3_number 18 = .ok (.if_icmp .le 5, 3) := by decide +kernel
theorem d_X3_number_21 : decode cX3_number 21 = .ok (.iconst (-1), 1) := by decide +kernel
theorem d_X3_number_22 : decode cX3_number 22 = .ok (.ireturn, 1) := by decide +kernel
theorem d_X3_number_23 : decode cX3_number 23 = .ok (.iconst 0, 1) := by decide +kernel
theorem d_X3_number_24 : decode cX3_number 24 = .ok (.istore_n 1, 1) := by decide +kernel
theorem d_X3_number_25 : decode cX3_number 25 = .ok (.aload_n 0, 1) := by decide +kernel
theorem d_X3_number_26 : decode cX3_number 26 = .ok (.getfield 193, 3) := by decide +kernel
theorem d_X3_number_29 : decode cX3_number 29 = .ok (.istore_n 2, 1) := by decide +kernel
theorem d_X3_number_30 : decode cX3_number 30 = .ok (.iload_n 2, 1) := by decide +kernel
theorem d_X3_number_31 : decode cX3_number 31 = .ok (.aload_n 0, 1) := by decide +kernel
theorem d_X3_number_32 : decode cX3_number 32 = .ok (.getfield 39, 3) := by decide +kernel
theorem d_X3_number_35 : decode cX3_number 35 = .ok (.if_icmp .ge 29, 3) := by decide +kernel
theorem d_X3_number_38 : decode cX3_number 38 = .ok (.iload_n 1, 1) := by decide +kernel
theorem d_X3_number_39 : decode cX3_number 39 = .ok (.bipush 10, 2) := by decide +kernel
theorem d_X3_number_41 : decode cX3_number 41 = .ok (.imul, 1) := by decide +kernel
theorem d_X3_number_42 : decode cX3_number 42 = .ok (.aload_n 0, 1) := by decide +kernel
theorem d_X3_number_43 : decode cX3_number 43 = .ok (.getfield 12, 3) := by decide +kernel
theorem d_X3_number_46 : decode cX3_number 46 = .ok (.getfield 48, 3) := by decide +kernel
theorem d_X3_number_49 : decode cX3_number 49 = .ok (.iload_n 2, 1) := by decide +kernel
theorem d_X3_number_50 : decode cX3_number 50 = .ok (.invokestatic 51, 3) := by decide +kernel
theorem d_X3_number_53 : decode cX3_number 53 = .ok (.iadd, 1) := by decide +kernel
theorem d_X3_number_54 : decode cX3_number 54 = .ok (.bipush 48, 2) := by decide +kernel
theorem d_X3_number_56 : decode cX3_number 56 = .ok (.isub, 1) := by decide +kernel
theorem d_X3_number_57 : decode cX3_number 57 = .ok (.istore_n 1, 1) := by decide +kernel
theorem d_X3_number_58 : decode cX3_number 58 = .ok (.iinc 2 1, 3) := by decide +kernel
theorem d_X3_number_61 : decode cX3_number 61 = .ok (.goto (-31), 3) := by decide +kernel
theorem d_X3_number_64 : decode cX3_number 64 = .ok (.iload_n 1, 1) := by decide +kernel
theorem d_X3_number_65 : decode cX3_number 65 = .ok (.ireturn, 1) := by decide +kernel
def l_X3_number_30 (h : AH) (s : (Int32 × Int32)) : Option ((Int32 × Int32) ⊕ Int32) := if (gI h 1 6) ≤ s.2 then some (.inr s.1) else bd (s_X9_at (some 3) s.2 h) fun x1 => some (.inl ((((s.1 * 10) + x1) - 48), s.2 + 1))
theorem tb_X3_number_30 {g : GP} {X : MX} {mcR msR : Nat} (hF : gF g = true) (hX : Cx g RX3 cX3_number 2 mcR msR (some .int) [] X) {Q : State → Prop} {s : (Int32 × Int32)} {h : AH} {z : ((Int32 × Int32) ⊕ Int32)} (e : l_X3_number_30 h s = some z) (kI : ∀ (s2 : (Int32 × Int32)), z = .inl s2 → AR g X 0 0 Q h 30 [.ref 1, .int s2.1, .int s2.2] []) (kE0 : ∀ (yy : Int32) (y0 : Value) (y2 : Value), z = .inr yy → AR g X 0 0 Q h 64 [y0, .int yy, y2] []) : AR g X 0 0 Q h 30 [.ref 1, .int s.1, .int s.2] [] := by
  unfold l_X3_number_30 at e
  refine aw_iload_n (i := 2) hX rfl rfl d_X3_number_30 ?_
  refine aw_aload_n (i := 0) hX rfl rfl d_X3_number_31 ?_
  refine ar_getI hX fg_RX3_39 rfl d_X3_number_32 ?_
  refine aw_icmp_ge (t := 64) hX (by decide) d_X3_number_35 (fun c => ?_) (fun c => ?_)
  · rw [if_pos c] at e
    cases e
    exact kE0 s.1 _ _ rfl
  · rw [if_neg c] at e
    refine aw_iload_n (i := 1) hX rfl rfl d_X3_number_38 ?_
    refine aw_bipush (v := 10) hX (by decide) d_X3_number_39 ?_
    refine aw_imul hX d_X3_number_41 ?_
    refine aw_aload_n (i := 0) hX rfl rfl d_X3_number_42 ?_
    refine ar_getF hX hF fg_RX3_12 rfl d_X3_number_43 ?_
    show AR g X 0 0 _ _ 46 _ [.ref 2, .int (s.1 * 10)]
    refine ar_getF hX hF fg_RX3_48 rfl d_X3_number_46 ?_
    show AR g X 0 0 _ _ 49 _ [.ref 3, .int (s.1 * 10)]
    refine aw_iload_n (i := 2) hX rfl rfl d_X3_number_49 ?_
    obtain ⟨x1, f_372, e_372⟩ := bd_some e
    clear e
    refine aw_callSN (av := [.ref 3, .int s.2]) (avr := [.int s.2, .ref 3]) hX (k_X9_at (cx_g hX) hF f_372) mi_X9_at rfl rfl nx16 w_6 (by decide) (Nat.le_of_ble_eq_true rfl) (Nat.zero_le _) (Nat.zero_le _) d_X3_number_50 ?_
    refine aw_iadd hX d_X3_number_53 ?_
    refine aw_bipush (v := 48) hX (by decide) d_X3_number_54 ?_
    refine aw_isub hX d_X3_number_56 ?_
    refine aw_istore_n (i := 1) (lv2 := [.ref 1, .int (((s.1 * 10) + x1) - 48), .int s.2]) hX rfl rfl rfl d_X3_number_57 ?_
    refine aw_iinc (i := 2) (lv2 := [.ref 1, .int (((s.1 * 10) + x1) - 48), .int (s.2 + 1)]) hX rfl rfl rfl rfl d_X3_number_58 ?_
    refine aw_goto (t := 30) hX (by decide) d_X3_number_61 ?_
    cases e_372
    exact kI ((((s.1 * 10) + x1) - 48), s.2 + 1)  rfl
theorem ti_X3_number_30 {g : GP} {X : MX} {mcR msR : Nat} (hF : gF g = true) (hX : Cx g RX3 cX3_number 2 mcR msR (some .int) [] X) {Q : State → Prop} {y : Int32} {h : AH} (kE0 : ∀ (y_0 : Value) (y_2 : Value), AR g X 0 0 Q h 64 [y_0, .int y, y_2] []) (n : Nat) : ∀ (s : (Int32 × Int32)), lpP (l_X3_number_30 h) n s = some y → AR g X 0 0 Q h 30 [.ref 1, .int s.1, .int s.2] [] := by
  induction n with
  | zero => intro s e; cases e
  | succ n ih =>
    intro s e
    obtain ⟨x, e1, e2⟩ := lpP_succ e
    rcases e2 with ⟨s2, rfl, e3⟩ | rfl
    · exact tb_X3_number_30 hF hX e1 (fun s3  hs => by cases hs; exact ih _   e3) (fun yy x0 x1 hy => by cases hy)
    · exact tb_X3_number_30 hF hX e1 (fun s3  hs => by cases hs) (fun yy x0 x1 hy => by cases hy; exact kE0 x0 x1)
theorem t_X3_number_30 {g : GP} {X : MX} {mcR msR : Nat} (hF : gF g = true) (hX : Cx g RX3 cX3_number 2 mcR msR (some .int) [] X) {Q : State → Prop} {s : (Int32 × Int32)} {h : AH} {n : Nat} {y : Int32} (e : lpP (l_X3_number_30 h) n s = some y) (kE0 : ∀ (y_0 : Value) (y_2 : Value), AR g X 0 0 Q h 64 [y_0, .int y, y_2] []) : AR g X 0 0 Q h 30 [.ref 1, .int s.1, .int s.2] [] := ti_X3_number_30 hF hX kE0 n _   e
def s_X3_number (h : AH) : Option Int32 := if (gI h 1 4) = 2 then if ((gI h 1 6) - (gI h 1 5)) ≤ 4 then bd (lpP (l_X3_number_30 h) FU (0, (gI h 1 5))) fun y2 => some y2 else some (-1) else some (-1)
theorem t_X3_number {g : GP} {X : MX} {mcR msR : Nat} (hF : gF g = true) (hX : Cx g RX3 cX3_number 2 mcR msR (some .int) [] X) {h : AH} {z : Int32} (e : s_X3_number h = some z) : AR g X 0 0 (QQ g X NT false h (.inl (some (.int z))) 0 0) h 0 [.ref 1, jk, jk] [] := by
  unfold s_X3_number at e
  refine aw_aload_n (i := 0) hX rfl rfl d_X3_number_0 ?_
  refine ar_getI hX fg_RX3_66 rfl d_X3_number_1 ?_
  refine aw_iconst (v := 2) hX (by decide) d_X3_number_4 ?_
  refine aw_icmp_ne (t := 21) hX (by decide) d_X3_number_5 (fun c => ?_) (fun c => ?_)
  · rw [if_neg c] at e
    refine aw_iconst (v := (-1)) hX (by decide) d_X3_number_21 ?_
    cases e
    exact aw_ireturn hX (Nat.zero_le _) (Nat.zero_le _) d_X3_number_22
  · rw [if_pos c] at e
    refine aw_aload_n (i := 0) hX rfl rfl d_X3_number_8 ?_
    refine ar_getI hX fg_RX3_39 rfl d_X3_number_9 ?_
    refine aw_aload_n (i := 0) hX rfl rfl d_X3_number_12 ?_
    refine ar_getI hX fg_RX3_193 rfl d_X3_number_13 ?_
    refine aw_isub hX d_X3_number_16 ?_
    refine aw_iconst (v := 4) hX (by decide) d_X3_number_17 ?_
    refine aw_icmp_le (t := 23) hX (by decide) d_X3_number_18 (fun c => ?_) (fun c => ?_)
    · rw [if_pos c] at e
      refine aw_iconst (v := 0) hX (by decide) d_X3_number_23 ?_
      refine aw_istore_n (i := 1) (lv2 := [.ref 1, .int 0, jk]) hX rfl rfl rfl d_X3_number_24 ?_
      refine aw_aload_n (i := 0) hX rfl rfl d_X3_number_25 ?_
      refine ar_getI hX fg_RX3_193 rfl d_X3_number_26 ?_
      refine aw_istore_n (i := 2) (lv2 := [.ref 1, .int 0, .int (gI h 1 5)]) hX rfl rfl rfl d_X3_number_29 ?_
      obtain ⟨y2, f_373, e_373⟩ := bd_some e
      clear e
      refine t_X3_number_30 hF hX f_373 (fun d3_0 d3_2 => ?_)
      refine aw_iload_n (i := 1) hX rfl rfl d_X3_number_64 ?_
      cases e_373
      exact aw_ireturn hX (Nat.zero_le _) (Nat.zero_le _) d_X3_number_65
    · rw [if_neg c] at e
      refine aw_iconst (v := (-1)) hX (by decide) d_X3_number_21 ?_
      cases e
      exact aw_ireturn hX (Nat.zero_le _) (Nat.zero_le _) d_X3_number_22
theorem k_X3_number {g : GP} (hg : g.1.stackTraces = false) (hF : gF g = true) {h : AH} {z : Int32} (e : s_X3_number h = some z) : Ctr g yX3_number (wsY yX3_number cX3_number 3 (some .int)) 2 0 0 [.ref 1] NT false h (some (.int z)) NT false h := ctr_of (lv0 := [.ref 1, jk, jk]) rfl rfl (by decide) hg trivial (fun X hX hn => t_X3_number hF hX e)
theorem d_X3_takeNumber_0 : decode cX3_takeNumber 0 = .ok (.aload_n 0, 1) := by decide +kernel
theorem d_X3_takeNumber_1 : decode cX3_takeNumber 1 = .ok (.invokevirtual 186, 3) := by decide +kernel
theorem d_X3_takeNumber_4 : decode cX3_takeNumber 4 = .ok (.istore_n 3, 1) := by decide +kernel
theorem d_X3_takeNumber_5 : decode cX3_takeNumber 5 = .ok (.aload_n 0, 1) := by decide +kernel
theorem d_X3_takeNumber_6 : decode cX3_takeNumber 6 = .ok (.getfield 66, 3) := by decide +kernel
theorem d_X3_takeNumber_9 : decode cX3_takeNumber 9 = .ok (.iconst 2, 1) := by decide +kernel
theorem d_X3_takeNumber_10 : decode cX3_takeNumber 10 = .ok (.if_icmp .eq 11, 3) := by decide +kernel
theorem d_X3_takeNumber_13 : decode cX3_takeNumber 13 = .ok (.aload_n 0, 1) := by decide +kernel
theorem d_X3_takeNumber_14 : decode cX3_takeNumber 14 = .ok (.iconst 1, 1) := by decide +kernel
theorem d_X3_takeNumber_15 : decode cX3_takeNumber 15 = .ok (.invokevirtual 124, 3) := by decide +kernel
theorem d_X3_takeNumber_18 : decode cX3_takeNumber 18 = .ok (.goto 25, 3) := by decide +kernel
theorem d_X3_takeNumber_21 : decode cX3_takeNumber 21 = .ok (.iload_n 3, 1) := by decide +kernel
theorem d_X3_takeNumber_22 : decode cX3_takeNumber 22 = .ok (.iload_n 1, 1) := by decide +kernel
theorem d_X3_takeNumber_23 : decode cX3_takeNumber 23 = .ok (.if_icmp .lt 8, 3) := by decide +kernel
theorem d_X3_takeNumber_26 : decode cX3_takeNumber 26 = .ok (.iload_n 3, 1) := by decide +kernel
theorem d_X3_takeNumber_27 : decode cX3_takeNumber 27 = .ok (.iload_n 2, 1) := by decide +kernel
theorem d_X3_takeNumber_28 : decode cX3_takeNumber 28 = .ok (.if_icmp .le 11, 3) := by decide +kernel
theorem d_X3_takeNumber_31 : decode cX3_takeNumber 31 = .ok (.aload_n 0, 1) := by decide +kernel
theorem d_X3_takeNumber_32 : decode cX3_takeNumber 32 = .ok (.iconst 2, 1) := by decide +kernel
theorem d_X3_takeNumber_33 : decode cX3_takeNumber 33 = .ok (.invokevirtual 124, 3) := by decide +kernel
theorem d_X3_takeNumber_36 : decode cX3_takeNumber 36 = .ok (.goto 7, 3) := by decide +kernel
theorem d_X3_takeNumber_39 : decode cX3_takeNumber 39 = .ok (.aload_n 0, 1) := by decide +kernel
theorem d_X3_takeNumber_40 : decode cX3_takeNumber 40 = .ok (.invokevirtual 63, 3) := by decide +kernel
theorem d_X3_takeNumber_43 : decode cX3_takeNumber 43 = .ok (.iload_n 3, 1) := by decide +kernel
theorem d_X3_takeNumber_44 : decode cX3_takeNumber 44 = .ok (.ireturn, 1) := by decide +kernel
def j_X3_takeNumber_31 (v3 : Int32) (h : AH) : Option (Int32 × AH) := bd (s_X3_refuse 2 h) fun q2 => some (v3, q2.2)
theorem tj_X3_takeNumber_31 {g : GP} {X : MX} {mcR msR : Nat} (hF : gF g = true) (hX : Cx g RX3 cX3_takeNumber 3 mcR msR (some .int) [] X) {v3 : Int32} {d1 : Value} {d2 : Value} {h hz : AH} {z : Int32} (e : j_X3_takeNumber_31 v3 h = some (z, hz)) : AR g X 0 0 (QQ g X NT false hz (.inl (some (.int z))) 0 0) h 31 [.ref 1, d1, d2, .int v3] [] := by
  unfold j_X3_takeNumber_31 at e
  refine aw_aload_n (i := 0) hX rfl rfl d_X3_takeNumber_31 ?_
  refine aw_iconst (v := 2) hX (by decide) d_X3_takeNumber_32 ?_
  obtain ⟨q2, f_374, e_374⟩ := bd_some e
  clear e
  refine aw_callV (b := 1) (av := [.int 2]) (avr := [.int 2]) hX (k_X3_refuse (cx_g hX) hF f_374) mi_X3_refuse rfl rfl w_226 w_227 w_228 (by decide) rfl (LAY_lt rfl (by decide)) rfl rfl (Nat.le_of_ble_eq_true rfl) (Nat.zero_le _) (Nat.zero_le _) d_X3_takeNumber_33 ?_
  refine aw_goto (t := 43) hX (by decide) d_X3_takeNumber_36 ?_
  refine aw_iload_n (i := 3) hX rfl rfl d_X3_takeNumber_43 ?_
  cases e_374
  exact aw_ireturn hX (Nat.zero_le _) (Nat.zero_le _) d_X3_takeNumber_44
def s_X3_takeNumber (a0 : Int32) (a1 : Int32) (h : AH) : Option (Int32 × AH) := bd (s_X3_number h) fun x1 => if (gI h 1 4) = 2 then if x1 < a0 then j_X3_takeNumber_31 x1 h else if x1 ≤ a1 then bd (s_X3_advance h) fun q3 => some (x1, q3.2) else j_X3_takeNumber_31 x1 h else bd (s_X3_refuse 1 h) fun q4 => some (x1, q4.2)
theorem t_X3_takeNumber {g : GP} {X : MX} {mcR msR : Nat} (hF : gF g = true) (hX : Cx g RX3 cX3_takeNumber 3 mcR msR (some .int) [] X) {a0 : Int32} {a1 : Int32} {h hz : AH} {z : Int32} (e : s_X3_takeNumber a0 a1 h = some (z, hz)) : AR g X 0 0 (QQ g X NT false hz (.inl (some (.int z))) 0 0) h 0 [.ref 1, .int a0, .int a1, jk] [] := by
  unfold s_X3_takeNumber at e
  refine aw_aload_n (i := 0) hX rfl rfl d_X3_takeNumber_0 ?_
  obtain ⟨x1, f_375, e_375⟩ := bd_some e
  clear e
  refine aw_callV (b := 1) (av := []) (avr := []) hX (k_X3_number (cx_g hX) hF f_375) mi_X3_number rfl rfl w_234 w_235 w_236 (by decide) rfl (LAY_lt rfl (by decide)) rfl rfl (Nat.le_of_ble_eq_true rfl) (Nat.zero_le _) (Nat.zero_le _) d_X3_takeNumber_1 ?_
  refine aw_istore_n (i := 3) (lv2 := [.ref 1, .int a0, .int a1, .int x1]) hX rfl rfl rfl d_X3_takeNumber_4 ?_
  refine aw_aload_n (i := 0) hX rfl rfl d_X3_takeNumber_5 ?_
  refine ar_getI hX fg_RX3_66 rfl d_X3_takeNumber_6 ?_
  refine aw_iconst (v := 2) hX (by decide) d_X3_takeNumber_9 ?_
  refine aw_icmp_eq (t := 21) hX (by decide) d_X3_takeNumber_10 (fun c => ?_) (fun c => ?_)
  · rw [if_pos c] at e_375
    refine aw_iload_n (i := 3) hX rfl rfl d_X3_takeNumber_21 ?_
    refine aw_iload_n (i := 1) hX rfl rfl d_X3_takeNumber_22 ?_
    refine aw_icmp_lt (t := 31) hX (by decide) d_X3_takeNumber_23 (fun c => ?_) (fun c => ?_)
    · rw [if_pos c] at e_375
      exact tj_X3_takeNumber_31 hF hX e_375
    · rw [if_neg c] at e_375
      refine aw_iload_n (i := 3) hX rfl rfl d_X3_takeNumber_26 ?_
      refine aw_iload_n (i := 2) hX rfl rfl d_X3_takeNumber_27 ?_
      refine aw_icmp_le (t := 39) hX (by decide) d_X3_takeNumber_28 (fun c => ?_) (fun c => ?_)
      · rw [if_pos c] at e_375
        refine aw_aload_n (i := 0) hX rfl rfl d_X3_takeNumber_39 ?_
        obtain ⟨q3, f_376, e_376⟩ := bd_some e_375
        clear e_375
        refine aw_callV (b := 1) (av := []) (avr := []) hX (k_X3_advance (cx_g hX) hF f_376) mi_X3_advance rfl rfl w_230 w_231 w_232 (by decide) rfl (LAY_lt rfl (by decide)) rfl rfl (Nat.le_of_ble_eq_true rfl) (Nat.zero_le _) (Nat.zero_le _) d_X3_takeNumber_40 ?_
        refine aw_iload_n (i := 3) hX rfl rfl d_X3_takeNumber_43 ?_
        cases e_376
        exact aw_ireturn hX (Nat.zero_le _) (Nat.zero_le _) d_X3_takeNumber_44
      · rw [if_neg c] at e_375
        exact tj_X3_takeNumber_31 hF hX e_375
  · rw [if_neg c] at e_375
    refine aw_aload_n (i := 0) hX rfl rfl d_X3_takeNumber_13 ?_
    refine aw_iconst (v := 1) hX (by decide) d_X3_takeNumber_14 ?_
    obtain ⟨q4, f_377, e_377⟩ := bd_some e_375
    clear e_375
    refine aw_callV (b := 1) (av := [.int 1]) (avr := [.int 1]) hX (k_X3_refuse (cx_g hX) hF f_377) mi_X3_refuse rfl rfl w_226 w_227 w_228 (by decide) rfl (LAY_lt rfl (by decide)) rfl rfl (Nat.le_of_ble_eq_true rfl) (Nat.zero_le _) (Nat.zero_le _) d_X3_takeNumber_15 ?_
    refine aw_goto (t := 43) hX (by decide) d_X3_takeNumber_18 ?_
    refine aw_iload_n (i := 3) hX rfl rfl d_X3_takeNumber_43 ?_
    cases e_377
    exact aw_ireturn hX (Nat.zero_le _) (Nat.zero_le _) d_X3_takeNumber_44
theorem k_X3_takeNumber {g : GP} (hg : g.1.stackTraces = false) (hF : gF g = true) {a0 : Int32} {a1 : Int32} {h hz : AH} {z : Int32} (e : s_X3_takeNumber a0 a1 h = some (z, hz)) : Ctr g yX3_takeNumber (wsY yX3_takeNumber cX3_takeNumber 4 (some .int)) 3 0 0 [.ref 1, .int a0, .int a1] NT false h (some (.int z)) NT false hz := ctr_of (lv0 := [.ref 1, .int a0, .int a1, jk]) rfl rfl (by decide) hg trivial (fun X hX hn => t_X3_takeNumber hF hX e)
theorem d_X3_takesWord_0 : decode cX3_takesWord 0 = .ok (.aload_n 0, 1) := by decide +kernel
theorem d_X3_takesWord_1 : decode cX3_takesWord 1 = .ok (.aload_n 1, 1) := by decide +kernel
theorem d_X3_takesWord_2 : decode cX3_takesWord 2 = .ok (.invokevirtual 74, 3) := by decide +kernel
theorem d_X3_takesWord_5 : decode cX3_takesWord 5 = .ok (.istore_n 2, 1) := by decide +kernel
theorem d_X3_takesWord_6 : decode cX3_takesWord 6 = .ok (.iload_n 2, 1) := by decide +kernel
theorem d_X3_takesWord_7 : decode cX3_takesWord 7 = .ok (.ifCond .eq 7, 3) := by decide +kernel
theorem d_X3_takesWord_10 : decode cX3_takesWord 10 = .ok (.aload_n 0, 1) := by decide +kernel
theorem d_X3_takesWord_11 : decode cX3_takesWord 11 = .ok (.invokevirtual 63, 3) := by decide +kernel
theorem d_X3_takesWord_14 : decode cX3_takesWord 14 = .ok (.iload_n 2, 1) := by decide +kernel
theorem d_X3_takesWord_15 : decode cX3_takesWord 15 = .ok (.ireturn, 1) := by decide +kernel
def s_X3_takesWord (a0 : Nat) (h : AH) : Option (Int32 × AH) := bd (s_X3_isWord a0 h) fun x1 => if x1 = 0 then if x1 = 0 ∨ x1 = 1 then some (x1, h) else none else bd (s_X3_advance h) fun q2 => if x1 = 0 ∨ x1 = 1 then some (x1, q2.2) else none
theorem t_X3_takesWord {g : GP} {X : MX} {mcR msR : Nat} (hF : gF g = true) (hX : Cx g RX3 cX3_takesWord 6 mcR msR (some .boolean) [] X) {a0 : Nat} {h hz : AH} {z : Int32} (e : s_X3_takesWord a0 h = some (z, hz)) : AR g X 0 0 (QQ g X NT false hz (.inl (some (.int z))) 0 0) h 0 [.ref 1, .ref (100000 + a0), jk] [] := by
  unfold s_X3_takesWord at e
  refine aw_aload_n (i := 0) hX rfl rfl d_X3_takesWord_0 ?_
  refine aw_aload_n (i := 1) hX rfl rfl d_X3_takesWord_1 ?_
  obtain ⟨x1, f_378, e_378⟩ := bd_some e
  clear e
  refine aw_callV (b := 1) (av := [.ref (100000 + a0)]) (avr := [.ref (100000 + a0)]) hX (k_X3_isWord (cx_g hX) hF f_378) mi_X3_isWord rfl rfl w_238 w_239 w_240 (by decide) rfl (LAY_lt rfl (by decide)) rfl rfl (Nat.le_of_ble_eq_true rfl) (Nat.zero_le _) (Nat.zero_le _) d_X3_takesWord_2 ?_
  refine aw_istore_n (i := 2) (lv2 := [.ref 1, .ref (100000 + a0), .int x1]) hX rfl rfl rfl d_X3_takesWord_5 ?_
  refine aw_iload_n (i := 2) hX rfl rfl d_X3_takesWord_6 ?_
  refine aw_if_eq (t := 14) hX (by decide) d_X3_takesWord_7 (fun c => ?_) (fun c => ?_)
  · rw [if_pos c] at e_378
    refine aw_iload_n (i := 2) hX rfl rfl d_X3_takesWord_14 ?_
    obtain ⟨hz1, e_379⟩ := if_some e_378
    clear e_378
    cases e_379
    exact aw_zreturn hX hz1 (Nat.zero_le _) (Nat.zero_le _) d_X3_takesWord_15
  · rw [if_neg c] at e_378
    refine aw_aload_n (i := 0) hX rfl rfl d_X3_takesWord_10 ?_
    obtain ⟨q2, f_380, e_380⟩ := bd_some e_378
    clear e_378
    refine aw_callV (b := 1) (av := []) (avr := []) hX (k_X3_advance (cx_g hX) hF f_380) mi_X3_advance rfl rfl w_230 w_231 w_232 (by decide) rfl (LAY_lt rfl (by decide)) rfl rfl (Nat.le_of_ble_eq_true rfl) (Nat.zero_le _) (Nat.zero_le _) d_X3_takesWord_11 ?_
    refine aw_iload_n (i := 2) hX rfl rfl d_X3_takesWord_14 ?_
    obtain ⟨hz1, e_381⟩ := if_some e_380
    clear e_380
    cases e_381
    exact aw_zreturn hX hz1 (Nat.zero_le _) (Nat.zero_le _) d_X3_takesWord_15
theorem k_X3_takesWord {g : GP} (hg : g.1.stackTraces = false) (hF : gF g = true) {a0 : Nat} {h hz : AH} {z : Int32} (e : s_X3_takesWord a0 h = some (z, hz)) : Ctr g yX3_takesWord (wsY yX3_takesWord cX3_takesWord 3 (some .boolean)) 6 0 0 [.ref 1, .ref (100000 + a0)] NT false h (some (.int z)) NT false hz := ctr_of (lv0 := [.ref 1, .ref (100000 + a0), jk]) rfl rfl (by decide) hg trivial (fun X hX hn => t_X3_takesWord hF hX e)
theorem d_X3_tellNext_0 : decode cX3_tellNext 0 = .ok (.iload_n 1, 1) := by decide +kernel
theorem d_X3_tellNext_1 : decode cX3_tellNext 1 = .ok (.iload_n 2, 1) := by decide +kernel
theorem d_X3_tellNext_2 : decode cX3_tellNext 2 = .ok (.if_icmp .lt 8, 3) := by decide +kernel
theorem d_X3_tellNext_5 : decode cX3_tellNext 5 = .ok (.aload_n 0, 1) := by decide +kernel
theorem d_X3_tellNext_6 : decode cX3_tellNext 6 = .ok (.iconst 2, 1) := by decide +kernel
theorem d_X3_tellNext_7 : decode cX3_tellNext 7 = .ok (.invokevirtual 124, 3) := by decide +kernel
theorem d_X3_tellNext_10 : decode cX3_tellNext 10 = .ok (.aload_n 0, 1) := by decide +kernel
theorem d_X3_tellNext_11 : decode cX3_tellNext 11 = .ok (.invokevirtual 63, 3) := by decide +kernel
theorem d_X3_tellNext_14 : decode cX3_tellNext 14 = .ok (.return_, 1) := by decide +kernel
def j_X3_tellNext_10 (h : AH) : Option (Unit × AH) := bd (s_X3_advance h) fun q1 => some ((), q1.2)
theorem tj_X3_tellNext_10 {g : GP} {X : MX} {mcR msR : Nat} (hF : gF g = true) (hX : Cx g RX3 cX3_tellNext 3 mcR msR none [] X) {d1 : Value} {d2 : Value} {h hz : AH} {z : Unit} (e : j_X3_tellNext_10 h = some (z, hz)) : AR g X 0 0 (QQ g X NT false hz (.inl none) 0 0) h 10 [.ref 1, d1, d2] [] := by
  unfold j_X3_tellNext_10 at e
  refine aw_aload_n (i := 0) hX rfl rfl d_X3_tellNext_10 ?_
  obtain ⟨q1, f_382, e_382⟩ := bd_some e
  clear e
  refine aw_callV (b := 1) (av := []) (avr := []) hX (k_X3_advance (cx_g hX) hF f_382) mi_X3_advance rfl rfl w_230 w_231 w_232 (by decide) rfl (LAY_lt rfl (by decide)) rfl rfl (Nat.le_of_ble_eq_true rfl) (Nat.zero_le _) (Nat.zero_le _) d_X3_tellNext_11 ?_
  cases e_382
  exact aw_return hX (Nat.zero_le _) (Nat.zero_le _) d_X3_tellNext_14
def s_X3_tellNext (a0 : Int32) (a1 : Int32) (h : AH) : Option (Unit × AH) := if a0 < a1 then j_X3_tellNext_10 h else bd (s_X3_refuse 2 h) fun q2 => j_X3_tellNext_10 q2.2
theorem t_X3_tellNext {g : GP} {X : MX} {mcR msR : Nat} (hF : gF g = true) (hX : Cx g RX3 cX3_tellNext 3 mcR msR none [] X) {a0 : Int32} {a1 : Int32} {h hz : AH} {z : Unit} (e : s_X3_tellNext a0 a1 h = some (z, hz)) : AR g X 0 0 (QQ g X NT false hz (.inl none) 0 0) h 0 [.ref 1, .int a0, .int a1] [] := by
  unfold s_X3_tellNext at e
  refine aw_iload_n (i := 1) hX rfl rfl d_X3_tellNext_0 ?_
  refine aw_iload_n (i := 2) hX rfl rfl d_X3_tellNext_1 ?_
  refine aw_icmp_lt (t := 10) hX (by decide) d_X3_tellNext_2 (fun c => ?_) (fun c => ?_)
  · rw [if_pos c] at e
    exact tj_X3_tellNext_10 hF hX e
  · rw [if_neg c] at e
    refine aw_aload_n (i := 0) hX rfl rfl d_X3_tellNext_5 ?_
    refine aw_iconst (v := 2) hX (by decide) d_X3_tellNext_6 ?_
    obtain ⟨q2, f_383, e_383⟩ := bd_some e
    clear e
    refine aw_callV (b := 1) (av := [.int 2]) (avr := [.int 2]) hX (k_X3_refuse (cx_g hX) hF f_383) mi_X3_refuse rfl rfl w_226 w_227 w_228 (by decide) rfl (LAY_lt rfl (by decide)) rfl rfl (Nat.le_of_ble_eq_true rfl) (Nat.zero_le _) (Nat.zero_le _) d_X3_tellNext_7 ?_
    exact tj_X3_tellNext_10 hF hX e_383
theorem k_X3_tellNext {g : GP} (hg : g.1.stackTraces = false) (hF : gF g = true) {a0 : Int32} {a1 : Int32} {h hz : AH} {z : Unit} (e : s_X3_tellNext a0 a1 h = some (z, hz)) : Ctr g yX3_tellNext (wsY yX3_tellNext cX3_tellNext 3 none) 3 0 0 [.ref 1, .int a0, .int a1] NT false h none NT false hz := ctr_of (lv0 := [.ref 1, .int a0, .int a1]) rfl rfl (by decide) hg trivial (fun X hX hn => t_X3_tellNext hF hX e)
theorem d_X3_readEvening_0 : decode cX3_readEvening 0 = .ok (.aload_n 0, 1) := by decide +kernel
theorem d_X3_readEvening_1 : decode cX3_readEvening 1 = .ok (.aload_n 0, 1) := by decide +kernel
theorem d_X3_readEvening_2 : decode cX3_readEvening 2 = .ok (.getfield 25, 3) := by decide +kernel
theorem d_X3_readEvening_5 : decode cX3_readEvening 5 = .ok (.getfield 130, 3) := by decide +kernel
theorem d_X3_readEvening_8 : decode cX3_readEvening 8 = .ok (.bipush 16, 2) := by decide +kernel
theorem d_X3_readEvening_10 : decode cX3_readEvening 10 = .ok (.invokevirtual 133, 3) := by decide +kernel
theorem d_X3_readEvening_13 : decode cX3_readEvening 13 = .ok (.aload_n 0, 1) := by decide +kernel
theorem d_X3_readEvening_14 : decode cX3_readEvening 14 = .ok (.getfield 25, 3) := by decide +kernel
theorem d_X3_readEvening_17 : decode cX3_readEvening 17 = .ok (.getfield 130, 3) := by decide +kernel
theorem d_X3_readEvening_20 : decode cX3_readEvening 20 = .ok (.iconst 3, 1) := by decide +kernel
theorem d_X3_readEvening_21 : decode cX3_readEvening 21 = .ok (.imul, 1) := by decide +kernel
theorem d_X3_readEvening_22 : decode cX3_readEvening 22 = .ok (.istore_n 1, 1) := by decide +kernel
theorem d_X3_readEvening_23 : decode cX3_readEvening 23 = .ok (.aload_n 0, 1) := by decide +kernel
theorem d_X3_readEvening_24 : decode cX3_readEvening 24 = .ok (.getfield 25, 3) := by decide +kernel
theorem d_X3_readEvening_27 : decode cX3_readEvening 27 = .ok (.getfield 137, 3) := by decide +kernel
theorem d_X3_readEvening_30 : decode cX3_readEvening 30 = .ok (.iload_n 1, 1) := by decide +kernel
theorem d_X3_readEvening_31 : decode cX3_readEvening 31 = .ok (.iconst 0, 1) := by decide +kernel
theorem d_X3_readEvening_32 : decode cX3_readEvening 32 = .ok (.iadd, 1) := by decide +kernel
theorem d_X3_readEvening_33 : decode cX3_readEvening 33 = .ok (.aload_n 0, 1) := by decide +kernel
theorem d_X3_readEvening_34 : decode cX3_readEvening 34 = .ok (.iconst 0, 1) := by decide +kernel
theorem d_X3_readEvening_35 : decode cX3_readEvening 35 = .ok (.iconst 3, 1) := by decide +kernel
theorem d_X3_readEvening_36 : decode cX3_readEvening 36 = .ok (.invokevirtual 82, 3) := by decide +kernel
theorem d_X3_readEvening_39 : decode cX3_readEvening 39 = .ok (.invokestatic 59, 3) := by decide +kernel
theorem d_X3_readEvening_42 : decode cX3_readEvening 42 = .ok (.aload_n 0, 1) := by decide +kernel
theorem d_X3_readEvening_43 : decode cX3_readEvening 43 = .ok (.getfield 25, 3) := by decide +kernel
theorem d_X3_readEvening_46 : decode cX3_readEvening 46 = .ok (.getfield 137, 3) := by decide +kernel
theorem d_X3_readEvening_49 : decode cX3_readEvening 49 = .ok (.iload_n 1, 1) := by decide +kernel
theorem d_X3_readEvening_50 : decode cX3_readEvening 50 = .ok (.iconst 1, 1) := by decide +kernel
theorem d_X3_readEvening_51 : decode cX3_readEvening 51 = .ok (.iadd, 1) := by decide +kernel
theorem d_X3_readEvening_52 : decode cX3_readEvening 52 = .ok (.aload_n 0, 1) := by decide +kernel
theorem d_X3_readEvening_53 : decode cX3_readEvening 53 = .ok (.iconst 0, 1) := by decide +kernel
theorem d_X3_readEvening_54 : decode cX3_readEvening 54 = .ok (.sipush 999, 3) := by decide +kernel
theorem d_X3_readEvening_57 : decode cX3_readEvening 57 = .ok (.invokevirtual 82, 3) := by decide +kernel
theorem d_X3_readEvening_60 : decode cX3_readEvening 60 = .ok (.invokestatic 59, 3) := by decide +kernel
theorem d_X3_readEvening_63 : decode cX3_readEvening 63 = .ok (.aload_n 0, 1) := by decide +kernel
theorem d_X3_readEvening_64 : decode cX3_readEvening 64 = .ok (.getfield 25, 3) := by decide +kernel
theorem d_X3_readEvening_67 : decode cX3_readEvening 67 = .ok (.getfield 137, 3) := by decide +kernel
theorem d_X3_readEvening_70 : decode cX3_readEvening 70 = .ok (.iload_n 1, 1) := by decide +kernel
theorem d_X3_readEvening_71 : decode cX3_readEvening 71 = .ok (.iconst 2, 1) := by decide +kernel
theorem d_X3_readEvening_72 : decode cX3_readEvening 72 = .ok (.iadd, 1) := by decide +kernel
theorem d_X3_readEvening_73 : decode cX3_readEvening 73 = .ok (.aload_n 0, 1) := by decide +kernel
theorem d_X3_readEvening_74 : decode cX3_readEvening 74 = .ok (.ldc 140, 2) := by decide +kernel
theorem d_X3_readEvening_76 : decode cX3_readEvening 76 = .ok (.invokevirtual 142, 3) := by decide +kernel
theorem d_X3_readEvening_79 : decode cX3_readEvening 79 = .ok (.ifCond .eq 14, 3) := by decide +kernel
theorem d_X3_readEvening_82 : decode cX3_readEvening 82 = .ok (.aload_n 0, 1) := by decide +kernel
theorem d_X3_readEvening_83 : decode cX3_readEvening 83 = .ok (.iconst 0, 1) := by decide +kernel
theorem d_X3_readEvening_84 : decode cX3_readEvening 84 = .ok (.sipush 1000, 3) := by decide +kernel
theorem d_X3_readEvening_87 : decode cX3_readEvening 87 = .ok (.invokevirtual 82, 3) := by decide +kernel
theorem d_X3_readEvening_90 : decode cX3_readEvening 90 = .ok (.goto 4, 3) := by decide +kernel
theorem d_X3_readEvening_93 : decode cX3_readEvening 93 = .ok (.iconst 0, 1) := by decide +kernel
theorem d_X3_readEvening_94 : decode cX3_readEvening 94 = .ok (.invokestatic 59, 3) := by decide +kernel
theorem d_X3_readEvening_97 : decode cX3_readEvening 97 = .ok (.aload_n 0, 1) := by decide +kernel
theorem d_X3_readEvening_98 : decode cX3_readEvening 98 = .ok (.getfield 25, 3) := by decide +kernel
theorem d_X3_readEvening_101 : decode cX3_readEvening 101 = .ok (.dup, 1) := by decide +kernel
theorem d_X3_readEvening_102 : decode cX3_readEvening 102 = .ok (.getfield 130, 3) := by decide +kernel
theorem d_X3_readEvening_105 : decode cX3_readEvening 105 = .ok (.iconst 1, 1) := by decide +kernel
theorem d_X3_readEvening_106 : decode cX3_readEvening 106 = .ok (.iadd, 1) := by decide +kernel
theorem d_X3_readEvening_107 : decode cX3_readEvening 107 = .ok (.putfield 130, 3) := by decide +kernel
theorem d_X3_readEvening_110 : decode cX3_readEvening 110 = .ok (.return_, 1) := by decide +kernel
def j_X3_readEvening_94 (k0 : Int32) (k1 : Int32) (k2 : Nat) (h : AH) : Option (Unit × AH) := bd (s_X9_put (some k2) k1 k0 h) fun q12 => bd (gR q12.2 1 2) fun t13 => if LAY t13 = (0, 8) then some ((), sI q12.2 t13 2 ((gI q12.2 t13 2) + 1)) else none
theorem tj_X3_readEvening_94 {g : GP} {X : MX} {mcR msR : Nat} (hF : gF g = true) (hX : Cx g RX3 cX3_readEvening 7 mcR msR none [] X) {k0 : Int32} {k1 : Int32} {k2 : Nat} {d1 : Value} {h hz : AH} {z : Unit} (e : j_X3_readEvening_94 k0 k1 k2 h = some (z, hz)) : AR g X 0 0 (QQ g X NT false hz (.inl none) 0 0) h 94 [.ref 1, d1] [.int k0, .int k1, .ref k2] := by
  unfold j_X3_readEvening_94 at e
  obtain ⟨q12, f_384, e_384⟩ := bd_some e
  clear e
  refine aw_callSN (av := [.ref k2, .int k1, .int k0]) (avr := [.int k0, .int k1, .ref k2]) hX (k_X9_put (cx_g hX) hF f_384) mi_X9_put rfl rfl nx17 w_83 (by decide) (Nat.le_of_ble_eq_true rfl) (Nat.zero_le _) (Nat.zero_le _) d_X3_readEvening_94 ?_
  refine aw_aload_n (i := 0) hX rfl rfl d_X3_readEvening_97 ?_
  obtain ⟨t13, f_385, e_385⟩ := bd_some e_384
  clear e_384
  obtain ⟨hlt13, e_386⟩ := if_some e_385
  clear e_385
  refine ar_getR hX fg_RX3_25 rfl f_385 d_X3_readEvening_98 ?_
  refine aw_dup hX rfl d_X3_readEvening_101 ?_
  refine ar_getI hX fg_RX3_130 (by assumption) d_X3_readEvening_102 ?_
  refine aw_iconst (v := 1) hX (by decide) d_X3_readEvening_105 ?_
  refine aw_iadd hX d_X3_readEvening_106 ?_
  refine ar_putI hX fp_RX3_130 (by assumption) d_X3_readEvening_107 ?_
  cases e_386
  exact aw_return hX (Nat.zero_le _) (Nat.zero_le _) d_X3_readEvening_110
def s_X3_readEvening (h : AH) : Option (Unit × AH) := bd (gR h 1 2) fun t1 => if LAY t1 = (0, 8) then bd (s_X3_tellNext (gI h t1 2) 16 h) fun q2 => bd (gR q2.2 1 2) fun t3 => if LAY t3 = (0, 8) then bd (gR q2.2 1 2) fun t4 => if LAY t4 = (0, 8) then bd (s_X3_takeNumber 0 3 q2.2) fun q5 => bd (s_X9_put (some (t4 + 1)) (((gI q2.2 t3 2) * 3) + 0) q5.1 q5.2) fun q6 => bd (gR q6.2 1 2) fun t7 => if LAY t7 = (0, 8) then bd (s_X3_takeNumber 0 999 q6.2) fun q8 => bd (s_X9_put (some (t7 + 1)) (((gI q2.2 t3 2) * 3) + 1) q8.1 q8.2) fun q9 => bd (gR q9.2 1 2) fun t10 => if LAY t10 = (0, 8) then bd (s_X3_takesWord 3 q9.2) fun q11 => if q11.1 = 0 then j_X3_readEvening_94 0 (((gI q2.2 t3 2) * 3) + 2) (t10 + 1) q11.2 else bd (s_X3_takeNumber 0 1000 q11.2) fun q14 => j_X3_readEvening_94 q14.1 (((gI q2.2 t3 2) * 3) + 2) (t10 + 1) q14.2 else none else none else none else none else none
theorem t_X3_readEvening {g : GP} {X : MX} {mcR msR : Nat} (hF : gF g = true) (hX : Cx g RX3 cX3_readEvening 7 mcR msR none [] X) {h hz : AH} {z : Unit} (e : s_X3_readEvening h = some (z, hz)) : AR g X 0 0 (QQ g X NT false hz (.inl none) 0 0) h 0 [.ref 1, jk] [] := by
  unfold s_X3_readEvening at e
  refine aw_aload_n (i := 0) hX rfl rfl d_X3_readEvening_0 ?_
  refine aw_aload_n (i := 0) hX rfl rfl d_X3_readEvening_1 ?_
  obtain ⟨t1, f_387, e_387⟩ := bd_some e
  clear e
  obtain ⟨hlt1, e_388⟩ := if_some e_387
  clear e_387
  refine ar_getR hX fg_RX3_25 rfl f_387 d_X3_readEvening_2 ?_
  refine ar_getI hX fg_RX3_130 (by assumption) d_X3_readEvening_5 ?_
  refine aw_bipush (v := 16) hX (by decide) d_X3_readEvening_8 ?_
  obtain ⟨q2, f_389, e_389⟩ := bd_some e_388
  clear e_388
  refine aw_callV (b := 1) (av := [.int (gI h t1 2), .int 16]) (avr := [.int 16, .int (gI h t1 2)]) hX (k_X3_tellNext (cx_g hX) hF f_389) mi_X3_tellNext rfl rfl w_244 w_245 w_246 (by decide) rfl (LAY_lt rfl (by decide)) rfl rfl (Nat.le_of_ble_eq_true rfl) (Nat.zero_le _) (Nat.zero_le _) d_X3_readEvening_10 ?_
  refine aw_aload_n (i := 0) hX rfl rfl d_X3_readEvening_13 ?_
  obtain ⟨t3, f_390, e_390⟩ := bd_some e_389
  clear e_389
  obtain ⟨hlt3, e_391⟩ := if_some e_390
  clear e_390
  refine ar_getR hX fg_RX3_25 rfl f_390 d_X3_readEvening_14 ?_
  refine ar_getI hX fg_RX3_130 (by assumption) d_X3_readEvening_17 ?_
  refine aw_iconst (v := 3) hX (by decide) d_X3_readEvening_20 ?_
  refine aw_imul hX d_X3_readEvening_21 ?_
  refine aw_istore_n (i := 1) (lv2 := [.ref 1, .int ((gI q2.2 t3 2) * 3)]) hX rfl rfl rfl d_X3_readEvening_22 ?_
  refine aw_aload_n (i := 0) hX rfl rfl d_X3_readEvening_23 ?_
  obtain ⟨t4, f_392, e_392⟩ := bd_some e_391
  clear e_391
  obtain ⟨hlt4, e_393⟩ := if_some e_392
  clear e_392
  refine ar_getR hX fg_RX3_25 rfl f_392 d_X3_readEvening_24 ?_
  refine ar_getF hX hF fg_RX3_137 (by assumption) d_X3_readEvening_27 ?_
  refine aw_iload_n (i := 1) hX rfl rfl d_X3_readEvening_30 ?_
  refine aw_iconst (v := 0) hX (by decide) d_X3_readEvening_31 ?_
  refine aw_iadd hX d_X3_readEvening_32 ?_
  refine aw_aload_n (i := 0) hX rfl rfl d_X3_readEvening_33 ?_
  refine aw_iconst (v := 0) hX (by decide) d_X3_readEvening_34 ?_
  refine aw_iconst (v := 3) hX (by decide) d_X3_readEvening_35 ?_
  obtain ⟨q5, f_394, e_394⟩ := bd_some e_393
  clear e_393
  refine aw_callV (b := 1) (av := [.int 0, .int 3]) (avr := [.int 3, .int 0]) hX (k_X3_takeNumber (cx_g hX) hF f_394) mi_X3_takeNumber rfl rfl w_249 w_250 w_251 (by decide) rfl (LAY_lt rfl (by decide)) rfl rfl (Nat.le_of_ble_eq_true rfl) (Nat.zero_le _) (Nat.zero_le _) d_X3_readEvening_36 ?_
  obtain ⟨q6, f_395, e_395⟩ := bd_some e_394
  clear e_394
  refine aw_callSN (av := [.ref (t4 + 1), .int (((gI q2.2 t3 2) * 3) + 0), .int q5.1]) (avr := [.int q5.1, .int (((gI q2.2 t3 2) * 3) + 0), .ref (t4 + 1)]) hX (k_X9_put (cx_g hX) hF f_395) mi_X9_put rfl rfl nx17 w_83 (by decide) (Nat.le_of_ble_eq_true rfl) (Nat.zero_le _) (Nat.zero_le _) d_X3_readEvening_39 ?_
  refine aw_aload_n (i := 0) hX rfl rfl d_X3_readEvening_42 ?_
  obtain ⟨t7, f_396, e_396⟩ := bd_some e_395
  clear e_395
  obtain ⟨hlt7, e_397⟩ := if_some e_396
  clear e_396
  refine ar_getR hX fg_RX3_25 rfl f_396 d_X3_readEvening_43 ?_
  refine ar_getF hX hF fg_RX3_137 (by assumption) d_X3_readEvening_46 ?_
  refine aw_iload_n (i := 1) hX rfl rfl d_X3_readEvening_49 ?_
  refine aw_iconst (v := 1) hX (by decide) d_X3_readEvening_50 ?_
  refine aw_iadd hX d_X3_readEvening_51 ?_
  refine aw_aload_n (i := 0) hX rfl rfl d_X3_readEvening_52 ?_
  refine aw_iconst (v := 0) hX (by decide) d_X3_readEvening_53 ?_
  refine aw_sipush (v := 999) hX (by decide) d_X3_readEvening_54 ?_
  obtain ⟨q8, f_398, e_398⟩ := bd_some e_397
  clear e_397
  refine aw_callV (b := 1) (av := [.int 0, .int 999]) (avr := [.int 999, .int 0]) hX (k_X3_takeNumber (cx_g hX) hF f_398) mi_X3_takeNumber rfl rfl w_249 w_250 w_251 (by decide) rfl (LAY_lt rfl (by decide)) rfl rfl (Nat.le_of_ble_eq_true rfl) (Nat.zero_le _) (Nat.zero_le _) d_X3_readEvening_57 ?_
  obtain ⟨q9, f_399, e_399⟩ := bd_some e_398
  clear e_398
  refine aw_callSN (av := [.ref (t7 + 1), .int (((gI q2.2 t3 2) * 3) + 1), .int q8.1]) (avr := [.int q8.1, .int (((gI q2.2 t3 2) * 3) + 1), .ref (t7 + 1)]) hX (k_X9_put (cx_g hX) hF f_399) mi_X9_put rfl rfl nx17 w_83 (by decide) (Nat.le_of_ble_eq_true rfl) (Nat.zero_le _) (Nat.zero_le _) d_X3_readEvening_60 ?_
  refine aw_aload_n (i := 0) hX rfl rfl d_X3_readEvening_63 ?_
  obtain ⟨t10, f_400, e_400⟩ := bd_some e_399
  clear e_399
  obtain ⟨hlt10, e_401⟩ := if_some e_400
  clear e_400
  refine ar_getR hX fg_RX3_25 rfl f_400 d_X3_readEvening_64 ?_
  refine ar_getF hX hF fg_RX3_137 (by assumption) d_X3_readEvening_67 ?_
  refine aw_iload_n (i := 1) hX rfl rfl d_X3_readEvening_70 ?_
  refine aw_iconst (v := 2) hX (by decide) d_X3_readEvening_71 ?_
  refine aw_iadd hX d_X3_readEvening_72 ?_
  refine aw_aload_n (i := 0) hX rfl rfl d_X3_readEvening_73 ?_
  refine ar_ldcS (i := 3) hX rfl (by decide) rfl d_X3_readEvening_74 ?_
  obtain ⟨q11, f_402, e_402⟩ := bd_some e_401
  clear e_401
  refine aw_callV (b := 1) (av := [.ref (100000 + 3)]) (avr := [.ref (100000 + 3)]) hX (k_X3_takesWord (cx_g hX) hF f_402) mi_X3_takesWord rfl rfl w_253 w_254 w_255 (by decide) rfl (LAY_lt rfl (by decide)) rfl rfl (Nat.le_of_ble_eq_true rfl) (Nat.zero_le _) (Nat.zero_le _) d_X3_readEvening_76 ?_
  refine aw_if_eq (t := 93) hX (by decide) d_X3_readEvening_79 (fun c => ?_) (fun c => ?_)
  · rw [if_pos c] at e_402
    refine aw_iconst (v := 0) hX (by decide) d_X3_readEvening_93 ?_
    exact tj_X3_readEvening_94 hF hX e_402
  · rw [if_neg c] at e_402
    refine aw_aload_n (i := 0) hX rfl rfl d_X3_readEvening_82 ?_
    refine aw_iconst (v := 0) hX (by decide) d_X3_readEvening_83 ?_
    refine aw_sipush (v := 1000) hX (by decide) d_X3_readEvening_84 ?_
    obtain ⟨q14, f_403, e_403⟩ := bd_some e_402
    clear e_402
    refine aw_callV (b := 1) (av := [.int 0, .int 1000]) (avr := [.int 1000, .int 0]) hX (k_X3_takeNumber (cx_g hX) hF f_403) mi_X3_takeNumber rfl rfl w_249 w_250 w_251 (by decide) rfl (LAY_lt rfl (by decide)) rfl rfl (Nat.le_of_ble_eq_true rfl) (Nat.zero_le _) (Nat.zero_le _) d_X3_readEvening_87 ?_
    refine aw_goto (t := 94) hX (by decide) d_X3_readEvening_90 ?_
    exact tj_X3_readEvening_94 hF hX e_403
theorem k_X3_readEvening {g : GP} (hg : g.1.stackTraces = false) (hF : gF g = true) {h hz : AH} {z : Unit} (e : s_X3_readEvening h = some (z, hz)) : Ctr g yX3_readEvening (wsY yX3_readEvening cX3_readEvening 2 none) 7 0 0 [.ref 1] NT false h none NT false hz := ctr_of (lv0 := [.ref 1, jk]) rfl rfl (by decide) hg trivial (fun X hX hn => t_X3_readEvening hF hX e)
theorem d_X3_needWord_0 : decode cX3_needWord 0 = .ok (.aload_n 0, 1) := by decide +kernel
theorem d_X3_needWord_1 : decode cX3_needWord 1 = .ok (.aload_n 1, 1) := by decide +kernel
theorem d_X3_needWord_2 : decode cX3_needWord 2 = .ok (.invokevirtual 74, 3) := by decide +kernel
theorem d_X3_needWord_5 : decode cX3_needWord 5 = .ok (.ifCond .eq 10, 3) := by decide +kernel
theorem d_X3_needWord_8 : decode cX3_needWord 8 = .ok (.aload_n 0, 1) := by decide +kernel
theorem d_X3_needWord_9 : decode cX3_needWord 9 = .ok (.invokevirtual 63, 3) := by decide +kernel
theorem d_X3_needWord_12 : decode cX3_needWord 12 = .ok (.goto 8, 3) := by decide +kernel
theorem d_X3_needWord_15 : decode cX3_needWord 15 = .ok (.aload_n 0, 1) := by decide +kernel
theorem d_X3_needWord_16 : decode cX3_needWord 16 = .ok (.iconst 1, 1) := by decide +kernel
theorem d_X3_needWord_17 : decode cX3_needWord 17 = .ok (.invokevirtual 124, 3) := by decide +kernel
theorem d_X3_needWord_20 : decode cX3_needWord 20 = .ok (.return_, 1) := by decide +kernel
def s_X3_needWord (a0 : Nat) (h : AH) : Option (Unit × AH) := bd (s_X3_isWord a0 h) fun x1 => if x1 = 0 then bd (s_X3_refuse 1 h) fun q2 => some ((), q2.2) else bd (s_X3_advance h) fun q3 => some ((), q3.2)
theorem t_X3_needWord {g : GP} {X : MX} {mcR msR : Nat} (hF : gF g = true) (hX : Cx g RX3 cX3_needWord 6 mcR msR none [] X) {a0 : Nat} {h hz : AH} {z : Unit} (e : s_X3_needWord a0 h = some (z, hz)) : AR g X 0 0 (QQ g X NT false hz (.inl none) 0 0) h 0 [.ref 1, .ref (100000 + a0)] [] := by
  unfold s_X3_needWord at e
  refine aw_aload_n (i := 0) hX rfl rfl d_X3_needWord_0 ?_
  refine aw_aload_n (i := 1) hX rfl rfl d_X3_needWord_1 ?_
  obtain ⟨x1, f_404, e_404⟩ := bd_some e
  clear e
  refine aw_callV (b := 1) (av := [.ref (100000 + a0)]) (avr := [.ref (100000 + a0)]) hX (k_X3_isWord (cx_g hX) hF f_404) mi_X3_isWord rfl rfl w_238 w_239 w_240 (by decide) rfl (LAY_lt rfl (by decide)) rfl rfl (Nat.le_of_ble_eq_true rfl) (Nat.zero_le _) (Nat.zero_le _) d_X3_needWord_2 ?_
  refine aw_if_eq (t := 15) hX (by decide) d_X3_needWord_5 (fun c => ?_) (fun c => ?_)
  · rw [if_pos c] at e_404
    refine aw_aload_n (i := 0) hX rfl rfl d_X3_needWord_15 ?_
    refine aw_iconst (v := 1) hX (by decide) d_X3_needWord_16 ?_
    obtain ⟨q2, f_405, e_405⟩ := bd_some e_404
    clear e_404
    refine aw_callV (b := 1) (av := [.int 1]) (avr := [.int 1]) hX (k_X3_refuse (cx_g hX) hF f_405) mi_X3_refuse rfl rfl w_226 w_227 w_228 (by decide) rfl (LAY_lt rfl (by decide)) rfl rfl (Nat.le_of_ble_eq_true rfl) (Nat.zero_le _) (Nat.zero_le _) d_X3_needWord_17 ?_
    cases e_405
    exact aw_return hX (Nat.zero_le _) (Nat.zero_le _) d_X3_needWord_20
  · rw [if_neg c] at e_404
    refine aw_aload_n (i := 0) hX rfl rfl d_X3_needWord_8 ?_
    obtain ⟨q3, f_406, e_406⟩ := bd_some e_404
    clear e_404
    refine aw_callV (b := 1) (av := []) (avr := []) hX (k_X3_advance (cx_g hX) hF f_406) mi_X3_advance rfl rfl w_230 w_231 w_232 (by decide) rfl (LAY_lt rfl (by decide)) rfl rfl (Nat.le_of_ble_eq_true rfl) (Nat.zero_le _) (Nat.zero_le _) d_X3_needWord_9 ?_
    refine aw_goto (t := 20) hX (by decide) d_X3_needWord_12 ?_
    cases e_406
    exact aw_return hX (Nat.zero_le _) (Nat.zero_le _) d_X3_needWord_20
theorem k_X3_needWord {g : GP} (hg : g.1.stackTraces = false) (hF : gF g = true) {a0 : Nat} {h hz : AH} {z : Unit} (e : s_X3_needWord a0 h = some (z, hz)) : Ctr g yX3_needWord (wsY yX3_needWord cX3_needWord 2 none) 6 0 0 [.ref 1, .ref (100000 + a0)] NT false h none NT false hz := ctr_of (lv0 := [.ref 1, .ref (100000 + a0)]) rfl rfl (by decide) hg trivial (fun X hX hn => t_X3_needWord hF hX e)
theorem d_X3_readPeople_0 : decode cX3_readPeople 0 = .ok (.aload_n 0, 1) := by decide +kernel
theorem d_X3_readPeople_1 : decode cX3_readPeople 1 = .ok (.aload_n 0, 1) := by decide +kernel
theorem d_X3_readPeople_2 : decode cX3_readPeople 2 = .ok (.getfield 25, 3) := by decide +kernel
theorem d_X3_readPeople_5 : decode cX3_readPeople 5 = .ok (.getfield 145, 3) := by decide +kernel
theorem d_X3_readPeople_8 : decode cX3_readPeople 8 = .ok (.bipush 6, 2) := by decide +kernel
theorem d_X3_readPeople_10 : decode cX3_readPeople 10 = .ok (.invokevirtual 133, 3) := by decide +kernel
theorem d_X3_readPeople_13 : decode cX3_readPeople 13 = .ok (.aload_n 0, 1) := by decide +kernel
theorem d_X3_readPeople_14 : decode cX3_readPeople 14 = .ok (.getfield 25, 3) := by decide +kernel
theorem d_X3_readPeople_17 : decode cX3_readPeople 17 = .ok (.getfield 145, 3) := by decide +kernel
theorem d_X3_readPeople_20 : decode cX3_readPeople 20 = .ok (.bipush 11, 2) := by decide +kernel
theorem d_X3_readPeople_22 : decode cX3_readPeople 22 = .ok (.imul, 1) := by decide +kernel
theorem d_X3_readPeople_23 : decode cX3_readPeople 23 = .ok (.istore_n 1, 1) := by decide +kernel
theorem d_X3_readPeople_24 : decode cX3_readPeople 24 = .ok (.aload_n 0, 1) := by decide +kernel
theorem d_X3_readPeople_25 : decode cX3_readPeople 25 = .ok (.iconst 0, 1) := by decide +kernel
theorem d_X3_readPeople_26 : decode cX3_readPeople 26 = .ok (.bipush 60, 2) := by decide +kernel
theorem d_X3_readPeople_28 : decode cX3_readPeople 28 = .ok (.invokevirtual 82, 3) := by decide +kernel
theorem d_X3_readPeople_31 : decode cX3_readPeople 31 = .ok (.istore_n 2, 1) := by decide +kernel
theorem d_X3_readPeople_32 : decode cX3_readPeople 32 = .ok (.aload_n 0, 1) := by decide +kernel
theorem d_X3_readPeople_33 : decode cX3_readPeople 33 = .ok (.getfield 25, 3) := by decide +kernel
theorem d_X3_readPeople_36 : decode cX3_readPeople 36 = .ok (.getfield 148, 3) := by decide +kernel
theorem d_X3_readPeople_39 : decode cX3_readPeople 39 = .ok (.aload_n 0, 1) := by decide +kernel
theorem d_X3_readPeople_40 : decode cX3_readPeople 40 = .ok (.getfield 25, 3) := by decide +kernel
theorem d_X3_readPeople_43 : decode cX3_readPeople 43 = .ok (.getfield 145, 3) := by decide +kernel
theorem d_X3_readPeople_46 : decode cX3_readPeople 46 = .ok (.iload_n 2, 1) := by decide +kernel
theorem d_X3_readPeople_47 : decode cX3_readPeople 47 = .ok (.invokestatic 59, 3) := by decide +kernel
theorem d_X3_readPeople_50 : decode cX3_readPeople 50 = .ok (.aload_n 0, 1) := by decide +kernel
theorem d_X3_readPeople_51 : decode cX3_readPeople 51 = .ok (.getfield 25, 3) := by decide +kernel
theorem d_X3_readPeople_54 : decode cX3_readPeople 54 = .ok (.getfield 151, 3) := by decide +kernel
theorem d_X3_readPeople_57 : decode cX3_readPeople 57 = .ok (.iload_n 1, 1) := by decide +kernel
theorem d_X3_readPeople_58 : decode cX3_readPeople 58 = .ok (.iconst 0, 1) := by decide +kernel
theorem d_X3_readPeople_59 : decode cX3_readPeople 59 = .ok (.iadd, 1) := by decide +kernel
theorem d_X3_readPeople_60 : decode cX3_readPeople 60 = .ok (.iload_n 2, 1) := by decide +kernel
theorem d_X3_readPeople_61 : decode cX3_readPeople 61 = .ok (.invokestatic 59, 3) := by decide +kernel
theorem d_X3_readPeople_64 : decode cX3_readPeople 64 = .ok (.aload_n 0, 1) := by decide +kernel
theorem d_X3_readPeople_65 : decode cX3_readPeople 65 = .ok (.ldc 154, 2) := by decide +kernel
theorem d_X3_readPeople_67 : decode cX3_readPeople 67 = .ok (.invokevirtual 156, 3) := by decide +kernel
theorem d_X3_readPeople_70 : decode cX3_readPeople 70 = .ok (.aload_n 0, 1) := by decide +kernel
theorem d_X3_readPeople_71 : decode cX3_readPeople 71 = .ok (.iconst 0, 1) := by decide +kernel
theorem d_X3_readPeople_72 : decode cX3_readPeople 72 = .ok (.sipush 1000, 3) := by decide +kernel
theorem d_X3_readPeople_75 : decode cX3_readPeople 75 = .ok (.invokevirtual 82, 3) := by decide +kernel
theorem d_X3_readPeople_78 : decode cX3_readPeople 78 = .ok (.istore_n 3, 1) := by decide +kernel
theorem d_X3_readPeople_79 : decode cX3_readPeople 79 = .ok (.aload_n 0, 1) := by decide +kernel
theorem d_X3_readPeople_80 : decode cX3_readPeople 80 = .ok (.getfield 25, 3) := by decide +kernel
theorem d_X3_readPeople_83 : decode cX3_readPeople 83 = .ok (.getfield 151, 3) := by decide +kernel
theorem d_X3_readPeople_86 : decode cX3_readPeople 86 = .ok (.iload_n 1, 1) := by decide +kernel
theorem d_X3_readPeople_87 : decode cX3_readPeople 87 = .ok (.iconst 1, 1) := by decide +kernel
theorem d_X3_readPeople_88 : decode cX3_readPeople 88 = .ok (.iadd, 1) := by decide +kernel
theorem d_X3_readPeople_89 : decode cX3_readPeople 89 = .ok (.iload_n 3, 1) := by decide +kernel
theorem d_X3_readPeople_90 : decode cX3_readPeople 90 = .ok (.invokestatic 59, 3) := by decide +kernel
theorem d_X3_readPeople_93 : decode cX3_readPeople 93 = .ok (.aload_n 0, 1) := by decide +kernel
theorem d_X3_readPeople_94 : decode cX3_readPeople 94 = .ok (.getfield 25, 3) := by decide +kernel
theorem d_X3_readPeople_97 : decode cX3_readPeople 97 = .ok (.getfield 151, 3) := by decide +kernel
theorem d_X3_readPeople_100 : decode cX3_readPeople 100 = .ok (.iload_n 1, 1) := by decide +kernel
theorem d_X3_readPeople_101 : decode cX3_readPeople 101 = .ok (.iconst 2, 1) := by decide +kernel
theorem d_X3_readPeople_102 : decode cX3_readPeople 102 = .ok (.iadd, 1) := by decide +kernel
theorem d_X3_readPeople_103 : decode cX3_readPeople 103 = .ok (.aload_n 0, 1) := by decide +kernel
theorem d_X3_readPeople_104 : decode cX3_readPeople 104 = .ok (.ldc 160, 2) := by decide +kernel
theorem d_X3_readPeople_106 : decode cX3_readPeople 106 = .ok (.invokevirtual 142, 3) := by decide +kernel
theorem d_X3_readPeople_109 : decode cX3_readPeople 109 = .ok (.ifCond .eq 14, 3) := by decide +kernel
theorem d_X3_readPeople_112 : decode cX3_readPeople 112 = .ok (.aload_n 0, 1) := by decide +kernel
theorem d_X3_readPeople_113 : decode cX3_readPeople 113 = .ok (.iconst 0, 1) := by decide +kernel
theorem d_X3_readPeople_114 : decode cX3_readPeople 114 = .ok (.sipush 1000, 3) := by decide +kernel
theorem d_X3_readPeople_117 : decode cX3_readPeople 117 = .ok (.invokevirtual 82, 3) := by decide +kernel
theorem d_X3_readPeople_120 : decode cX3_readPeople 120 = .ok (.goto 4, 3) := by decide +kernel
theorem d_X3_readPeople_123 : decode cX3_readPeople 123 = .ok (.iload_n 3, 1) := by decide +kernel
theorem d_X3_readPeople_124 : decode cX3_readPeople 124 = .ok (.invokestatic 59, 3) := by decide +kernel
theorem d_X3_readPeople_127 : decode cX3_readPeople 127 = .ok (.aload_n 0, 1) := by decide +kernel
theorem d_X3_readPeople_128 : decode cX3_readPeople 128 = .ok (.getfield 25, 3) := by decide +kernel
theorem d_X3_readPeople_131 : decode cX3_readPeople 131 = .ok (.getfield 151, 3) := by decide +kernel
theorem d_X3_readPeople_134 : decode cX3_readPeople 134 = .ok (.iload_n 1, 1) := by decide +kernel
theorem d_X3_readPeople_135 : decode cX3_readPeople 135 = .ok (.iconst 3, 1) := by decide +kernel
theorem d_X3_readPeople_136 : decode cX3_readPeople 136 = .ok (.iadd, 1) := by decide +kernel
theorem d_X3_readPeople_137 : decode cX3_readPeople 137 = .ok (.aload_n 0, 1) := by decide +kernel
theorem d_X3_readPeople_138 : decode cX3_readPeople 138 = .ok (.ldc 162, 2) := by decide +kernel
theorem d_X3_readPeople_140 : decode cX3_readPeople 140 = .ok (.invokevirtual 142, 3) := by decide +kernel
theorem d_X3_readPeople_143 : decode cX3_readPeople 143 = .ok (.ifCond .eq 14, 3) := by decide +kernel
theorem d_X3_readPeople_146 : decode cX3_readPeople 146 = .ok (.aload_n 0, 1) := by decide +kernel
theorem d_X3_readPeople_147 : decode cX3_readPeople 147 = .ok (.iconst 0, 1) := by decide +kernel
theorem d_X3_readPeople_148 : decode cX3_readPeople 148 = .ok (.sipush 1000, 3) := by decide +kernel
theorem d_X3_readPeople_151 : decode cX3_readPeople 151 = .ok (.invokevirtual 82, 3) := by decide +kernel
theorem d_X3_readPeople_154 : decode cX3_readPeople 154 = .ok (.goto 4, 3) := by decide +kernel
theorem d_X3_readPeople_157 : decode cX3_readPeople 157 = .ok (.iconst 0, 1) := by decide +kernel
theorem d_X3_readPeople_158 : decode cX3_readPeople 158 = .ok (.invokestatic 59, 3) := by decide +kernel
theorem d_X3_readPeople_161 : decode cX3_readPeople 161 = .ok (.aload_n 0, 1) := by decide +kernel
theorem d_X3_readPeople_162 : decode cX3_readPeople 162 = .ok (.getfield 25, 3) := by decide +kernel
theorem d_X3_readPeople_165 : decode cX3_readPeople 165 = .ok (.getfield 151, 3) := by decide +kernel
theorem d_X3_readPeople_168 : decode cX3_readPeople 168 = .ok (.iload_n 1, 1) := by decide +kernel
theorem d_X3_readPeople_169 : decode cX3_readPeople 169 = .ok (.iconst 4, 1) := by decide +kernel
theorem d_X3_readPeople_170 : decode cX3_readPeople 170 = .ok (.iadd, 1) := by decide +kernel
theorem d_X3_readPeople_171 : decode cX3_readPeople 171 = .ok (.aload_n 0, 1) := by decide +kernel
theorem d_X3_readPeople_172 : decode cX3_readPeople 172 = .ok (.ldc 164, 2) := by decide +kernel
theorem d_X3_readPeople_174 : decode cX3_readPeople 174 = .ok (.invokevirtual 142, 3) := by decide +kernel
theorem d_X3_readPeople_177 : decode cX3_readPeople 177 = .ok (.ifCond .eq 14, 3) := by decide +kernel
theorem d_X3_readPeople_180 : decode cX3_readPeople 180 = .ok (.aload_n 0, 1) := by decide +kernel
theorem d_X3_readPeople_181 : decode cX3_readPeople 181 = .ok (.iconst 0, 1) := by decide +kernel
theorem d_X3_readPeople_182 : decode cX3_readPeople 182 = .ok (.sipush 1000, 3) := by decide +kernel
theorem d_X3_readPeople_185 : decode cX3_readPeople 185 = .ok (.invokevirtual 82, 3) := by decide +kernel
theorem d_X3_readPeople_188 : decode cX3_readPeople 188 = .ok (.goto 4, 3) := by decide +kernel
theorem d_X3_readPeople_191 : decode cX3_readPeople 191 = .ok (.iconst 0, 1) := by decide +kernel
theorem d_X3_readPeople_192 : decode cX3_readPeople 192 = .ok (.invokestatic 59, 3) := by decide +kernel
theorem d_X3_readPeople_195 : decode cX3_readPeople 195 = .ok (.aload_n 0, 1) := by decide +kernel
theorem d_X3_readPeople_196 : decode cX3_readPeople 196 = .ok (.getfield 25, 3) := by decide +kernel
theorem d_X3_readPeople_199 : decode cX3_readPeople 199 = .ok (.getfield 151, 3) := by decide +kernel
theorem d_X3_readPeople_202 : decode cX3_readPeople 202 = .ok (.iload_n 1, 1) := by decide +kernel
theorem d_X3_readPeople_203 : decode cX3_readPeople 203 = .ok (.iconst 5, 1) := by decide +kernel
theorem d_X3_readPeople_204 : decode cX3_readPeople 204 = .ok (.iadd, 1) := by decide +kernel
theorem d_X3_readPeople_205 : decode cX3_readPeople 205 = .ok (.aload_n 0, 1) := by decide +kernel
theorem d_X3_readPeople_206 : decode cX3_readPeople 206 = .ok (.ldc 166, 2) := by decide +kernel
theorem d_X3_readPeople_208 : decode cX3_readPeople 208 = .ok (.invokevirtual 142, 3) := by decide +kernel
theorem d_X3_readPeople_211 : decode cX3_readPeople 211 = .ok (.ifCond .eq 14, 3) := by decide +kernel
theorem d_X3_readPeople_214 : decode cX3_readPeople 214 = .ok (.aload_n 0, 1) := by decide +kernel
theorem d_X3_readPeople_215 : decode cX3_readPeople 215 = .ok (.iconst 0, 1) := by decide +kernel
theorem d_X3_readPeople_216 : decode cX3_readPeople 216 = .ok (.sipush 500, 3) := by decide +kernel
theorem d_X3_readPeople_219 : decode cX3_readPeople 219 = .ok (.invokevirtual 82, 3) := by decide +kernel
theorem d_X3_readPeople_222 : decode cX3_readPeople 222 = .ok (.goto 4, 3) := by decide +kernel
theorem d_X3_readPeople_225 : decode cX3_readPeople 225 = .ok (.iconst 0, 1) := by decide +kernel
theorem d_X3_readPeople_226 : decode cX3_readPeople 226 = .ok (.invokestatic 59, 3) := by decide +kernel
theorem d_X3_readPeople_229 : decode cX3_readPeople 229 = .ok (.aload_n 0, 1) := by decide +kernel
theorem d_X3_readPeople_230 : decode cX3_readPeople 230 = .ok (.ldc 168, 2) := by decide +kernel
theorem d_X3_readPeople_232 : decode cX3_readPeople 232 = .ok (.invokevirtual 156, 3) := by decide +kernel
theorem d_X3_readPeople_235 : decode cX3_readPeople 235 = .ok (.iconst 0, 1) := by decide +kernel
theorem d_X3_readPeople_236 : decode cX3_readPeople 236 = .ok (.istore 4, 2) := by decide +kernel
theorem d_X3_readPeople_238 : decode cX3_readPeople 238 = .ok (.iload 4, 2) := by decide +kernel
theorem d_X3_readPeople_240 : decode cX3_readPeople 240 = .ok (.iconst 4, 1) := by decide +kernel
theorem d_X3_readPeople_241 : decode cX3_readPeople 241 = .ok (.if_icmp .ge 34, 3) := by decide +kernel
theorem d_X3_readPeople_244 : decode cX3_readPeople 244 = .ok (.aload_n 0, 1) := by decide +kernel
theorem d_X3_readPeople_245 : decode cX3_readPeople 245 = .ok (.getfield 25, 3) := by decide +kernel
theorem d_X3_readPeople_248 : decode cX3_readPeople 248 = .ok (.getfield 151, 3) := by decide +kernel
theorem d_X3_readPeople_251 : decode cX3_readPeople 251 = .ok (.iload_n 1, 1) := by decide +kernel
theorem d_X3_readPeople_252 : decode cX3_readPeople 252 = .ok (.bipush 6, 2) := by decide +kernel
theorem d_X3_readPeople_254 : decode cX3_readPeople 254 = .ok (.iadd, 1) := by decide +kernel
theorem d_X3_readPeople_255 : decode cX3_readPeople 255 = .ok (.iload 4, 2) := by decide +kernel
theorem d_X3_readPeople_257 : decode cX3_readPeople 257 = .ok (.iadd, 1) := by decide +kernel
theorem d_X3_readPeople_258 : decode cX3_readPeople 258 = .ok (.aload_n 0, 1) := by decide +kernel
theorem d_X3_readPeople_259 : decode cX3_readPeople 259 = .ok (.iconst 0, 1) := by decide +kernel
theorem d_X3_readPeople_260 : decode cX3_readPeople 260 = .ok (.sipush 999, 3) := by decide +kernel
theorem d_X3_readPeople_263 : decode cX3_readPeople 263 = .ok (.invokevirtual 82, 3) := by decide +kernel
theorem d_X3_readPeople_266 : decode cX3_readPeople 266 = .ok (.invokestatic 59, 3) := by decide +kernel
theorem d_X3_readPeople_269 : decode cX3_readPeople 269 = .ok (.iinc 4 1, 3) := by decide +kernel
theorem d_X3_readPeople_272 : decode cX3_readPeople 272 = .ok (.goto (-34), 3) := by decide +kernel
theorem d_X3_readPeople_275 : decode cX3_readPeople 275 = .ok (.aload_n 0, 1) := by decide +kernel
theorem d_X3_readPeople_276 : decode cX3_readPeople 276 = .ok (.getfield 25, 3) := by decide +kernel
theorem d_X3_readPeople_279 : decode cX3_readPeople 279 = .ok (.getfield 151, 3) := by decide +kernel
theorem d_X3_readPeople_282 : decode cX3_readPeople 282 = .ok (.iload_n 1, 1) := by decide +kernel
theorem d_X3_readPeople_283 : decode cX3_readPeople 283 = .ok (.bipush 10, 2) := by decide +kernel
theorem d_X3_readPeople_285 : decode cX3_readPeople 285 = .ok (.iadd, 1) := by decide +kernel
theorem d_X3_readPeople_286 : decode cX3_readPeople 286 = .ok (.aload_n 0, 1) := by decide +kernel
theorem d_X3_readPeople_287 : decode cX3_readPeople 287 = .ok (.ldc 170, 2) := by decide +kernel
theorem d_X3_readPeople_289 : decode cX3_readPeople 289 = .ok (.invokevirtual 142, 3) := by decide +kernel
theorem d_X3_readPeople_292 : decode cX3_readPeople 292 = .ok (.ifCond .eq 7, 3) := by decide +kernel
theorem d_X3_readPeople_295 : decode cX3_readPeople 295 = .ok (.iconst 1, 1) := by decide +kernel
theorem d_X3_readPeople_296 : decode cX3_readPeople 296 = .ok (.goto 4, 3) := by decide +kernel
theorem d_X3_readPeople_299 : decode cX3_readPeople 299 = .ok (.iconst 0, 1) := by decide +kernel
theorem d_X3_readPeople_300 : decode cX3_readPeople 300 = .ok (.invokestatic 59, 3) := by decide +kernel
theorem d_X3_readPeople_303 : decode cX3_readPeople 303 = .ok (.aload_n 0, 1) := by decide +kernel
theorem d_X3_readPeople_304 : decode cX3_readPeople 304 = .ok (.getfield 25, 3) := by decide +kernel
theorem d_X3_readPeople_307 : decode cX3_readPeople 307 = .ok (.dup, 1) := by decide +kernel
theorem d_X3_readPeople_308 : decode cX3_readPeople 308 = .ok (.getfield 145, 3) := by decide +kernel
theorem d_X3_readPeople_311 : decode cX3_readPeople 311 = .ok (.iconst 1, 1) := by decide +kernel
theorem d_X3_readPeople_312 : decode cX3_readPeople 312 = .ok (.iadd, 1) := by decide +kernel
theorem d_X3_readPeople_313 : decode cX3_readPeople 313 = .ok (.putfield 145, 3) := by decide +kernel
theorem d_X3_readPeople_316 : decode cX3_readPeople 316 = .ok (.return_, 1) := by decide +kernel
def l_X3_readPeople_238 (p1 : Int32) (s : Int32) (h : AH) : Option ((Int32 ⊕ Unit) × AH) := if 4 ≤ s then some (.inr (), h) else bd (gR h 1 2) fun t27 => if LAY t27 = (0, 8) then bd (s_X3_takeNumber 0 999 h) fun q28 => bd (s_X9_put (some (t27 + 3)) ((p1 + 6) + s) q28.1 q28.2) fun q29 => some (.inl (s + 1), q29.2) else none
theorem tb_X3_readPeople_238 {g : GP} {X : MX} {mcR msR : Nat} (hF : gF g = true) (hX : Cx g RX3 cX3_readPeople 7 mcR msR none [] X) {Q : State → Prop} {p1 : Int32} {s : Int32} {d2 : Value} {d3 : Value} {h hz : AH} {z : (Int32 ⊕ Unit)} (e : l_X3_readPeople_238 p1 s h = some (z, hz)) (kI : ∀ (s2 : Int32) (xd2 : Value) (xd3 : Value), z = .inl s2 → AR g X 0 0 Q hz 238 [.ref 1, .int p1, xd2, xd3, .int s2] []) (kE0 : ∀ (yy : Unit) (y2 : Value) (y3 : Value) (y4 : Value), z = .inr yy → AR g X 0 0 Q hz 275 [.ref 1, .int p1, y2, y3, y4] []) : AR g X 0 0 Q h 238 [.ref 1, .int p1, d2, d3, .int s] [] := by
  unfold l_X3_readPeople_238 at e
  refine aw_iload (i := 4) hX rfl d_X3_readPeople_238 ?_
  refine aw_iconst (v := 4) hX (by decide) d_X3_readPeople_240 ?_
  refine aw_icmp_ge (t := 275) hX (by decide) d_X3_readPeople_241 (fun c => ?_) (fun c => ?_)
  · rw [if_pos c] at e
    cases e
    exact kE0 () _ _ _ rfl
  · rw [if_neg c] at e
    refine aw_aload_n (i := 0) hX rfl rfl d_X3_readPeople_244 ?_
    obtain ⟨t27, f_407, e_407⟩ := bd_some e
    clear e
    obtain ⟨hlt27, e_408⟩ := if_some e_407
    clear e_407
    refine ar_getR hX fg_RX3_25 rfl f_407 d_X3_readPeople_245 ?_
    refine ar_getF hX hF fg_RX3_151 (by assumption) d_X3_readPeople_248 ?_
    refine aw_iload_n (i := 1) hX rfl rfl d_X3_readPeople_251 ?_
    refine aw_bipush (v := 6) hX (by decide) d_X3_readPeople_252 ?_
    refine aw_iadd hX d_X3_readPeople_254 ?_
    refine aw_iload (i := 4) hX rfl d_X3_readPeople_255 ?_
    refine aw_iadd hX d_X3_readPeople_257 ?_
    refine aw_aload_n (i := 0) hX rfl rfl d_X3_readPeople_258 ?_
    refine aw_iconst (v := 0) hX (by decide) d_X3_readPeople_259 ?_
    refine aw_sipush (v := 999) hX (by decide) d_X3_readPeople_260 ?_
    obtain ⟨q28, f_409, e_409⟩ := bd_some e_408
    clear e_408
    refine aw_callV (b := 1) (av := [.int 0, .int 999]) (avr := [.int 999, .int 0]) hX (k_X3_takeNumber (cx_g hX) hF f_409) mi_X3_takeNumber rfl rfl w_249 w_250 w_251 (by decide) rfl (LAY_lt rfl (by decide)) rfl rfl (Nat.le_of_ble_eq_true rfl) (Nat.zero_le _) (Nat.zero_le _) d_X3_readPeople_263 ?_
    obtain ⟨q29, f_410, e_410⟩ := bd_some e_409
    clear e_409
    refine aw_callSN (av := [.ref (t27 + 3), .int ((p1 + 6) + s), .int q28.1]) (avr := [.int q28.1, .int ((p1 + 6) + s), .ref (t27 + 3)]) hX (k_X9_put (cx_g hX) hF f_410) mi_X9_put rfl rfl nx17 w_83 (by decide) (Nat.le_of_ble_eq_true rfl) (Nat.zero_le _) (Nat.zero_le _) d_X3_readPeople_266 ?_
    refine aw_iinc (i := 4) (lv2 := [.ref 1, .int p1, d2, _, .int (s + 1)]) hX rfl rfl rfl rfl d_X3_readPeople_269 ?_
    refine aw_goto (t := 238) hX (by decide) d_X3_readPeople_272 ?_
    cases e_410
    exact kI (s + 1) _ _ rfl
theorem ti_X3_readPeople_238 {g : GP} {X : MX} {mcR msR : Nat} (hF : gF g = true) (hX : Cx g RX3 cX3_readPeople 7 mcR msR none [] X) {Q : State → Prop} {p1 : Int32} {y : Unit} {hz : AH} (kE0 : ∀ (y_2 : Value) (y_3 : Value) (y_4 : Value), AR g X 0 0 Q hz 275 [.ref 1, .int p1, y_2, y_3, y_4] []) (n : Nat) : ∀ (s : Int32) (d2 : Value) (d3 : Value) (h : AH), lpH (l_X3_readPeople_238 p1) n s h = some (y, hz) → AR g X 0 0 Q h 238 [.ref 1, .int p1, d2, d3, .int s] [] := by
  induction n with
  | zero => intro s d2 d3 h e; cases e
  | succ n ih =>
    intro s d2 d3 h e
    obtain ⟨x, h1, e1, e2⟩ := lpH_succ e
    rcases e2 with ⟨s2, rfl, e3⟩ | ⟨rfl, rfl⟩
    · exact tb_X3_readPeople_238 hF hX e1 (fun s3 x0 x1 hs => by cases hs; exact ih _ _ _ _ e3) (fun yy x0 x1 x2 hy => by cases hy)
    · exact tb_X3_readPeople_238 hF hX e1 (fun s3 x0 x1 hs => by cases hs) (fun yy x0 x1 x2 hy => by cases hy; exact kE0 x0 x1 x2)
theorem t_X3_readPeople_238 {g : GP} {X : MX} {mcR msR : Nat} (hF : gF g = true) (hX : Cx g RX3 cX3_readPeople 7 mcR msR none [] X) {Q : State → Prop} {p1 : Int32} {s : Int32} {d2 : Value} {d3 : Value} {h hz : AH} {n : Nat} {y : Unit} (e : lpH (l_X3_readPeople_238 p1) n s h = some (y, hz)) (kE0 : ∀ (y_2 : Value) (y_3 : Value) (y_4 : Value), AR g X 0 0 Q hz 275 [.ref 1, .int p1, y_2, y_3, y_4] []) : AR g X 0 0 Q h 238 [.ref 1, .int p1, d2, d3, .int s] [] := ti_X3_readPeople_238 hF hX kE0 n _ _ _ _ e
def j_X3_readPeople_300 (k0 : Int32) (k1 : Int32) (k2 : Nat) (h : AH) : Option (Unit × AH) := bd (s_X9_put (some k2) k1 k0 h) fun q34 => bd (gR q34.2 1 2) fun t35 => if LAY t35 = (0, 8) then some ((), sI q34.2 t35 3 ((gI q34.2 t35 3) + 1)) else none
theorem tj_X3_readPeople_300 {g : GP} {X : MX} {mcR msR : Nat} (hF : gF g = true) (hX : Cx g RX3 cX3_readPeople 7 mcR msR none [] X) {k0 : Int32} {k1 : Int32} {k2 : Nat} {d1 : Value} {d2 : Value} {d3 : Value} {d4 : Value} {h hz : AH} {z : Unit} (e : j_X3_readPeople_300 k0 k1 k2 h = some (z, hz)) : AR g X 0 0 (QQ g X NT false hz (.inl none) 0 0) h 300 [.ref 1, d1, d2, d3, d4] [.int k0, .int k1, .ref k2] := by
  unfold j_X3_readPeople_300 at e
  obtain ⟨q34, f_411, e_411⟩ := bd_some e
  clear e
  refine aw_callSN (av := [.ref k2, .int k1, .int k0]) (avr := [.int k0, .int k1, .ref k2]) hX (k_X9_put (cx_g hX) hF f_411) mi_X9_put rfl rfl nx17 w_83 (by decide) (Nat.le_of_ble_eq_true rfl) (Nat.zero_le _) (Nat.zero_le _) d_X3_readPeople_300 ?_
  refine aw_aload_n (i := 0) hX rfl rfl d_X3_readPeople_303 ?_
  obtain ⟨t35, f_412, e_412⟩ := bd_some e_411
  clear e_411
  obtain ⟨hlt35, e_413⟩ := if_some e_412
  clear e_412
  refine ar_getR hX fg_RX3_25 rfl f_412 d_X3_readPeople_304 ?_
  refine aw_dup hX rfl d_X3_readPeople_307 ?_
  refine ar_getI hX fg_RX3_145 (by assumption) d_X3_readPeople_308 ?_
  refine aw_iconst (v := 1) hX (by decide) d_X3_readPeople_311 ?_
  refine aw_iadd hX d_X3_readPeople_312 ?_
  refine ar_putI hX fp_RX3_145 (by assumption) d_X3_readPeople_313 ?_
  cases e_413
  exact aw_return hX (Nat.zero_le _) (Nat.zero_le _) d_X3_readPeople_316
def j_X3_readPeople_226 (v1 : Int32) (k0 : Int32) (k1 : Int32) (k2 : Nat) (h : AH) : Option (Unit × AH) := bd (s_X9_put (some k2) k1 k0 h) fun q25 => bd (s_X3_needWord 10 q25.2) fun q26 => bd (lpH (l_X3_readPeople_238 v1) FU 0 q26.2) fun y30 => bd (gR y30.2 1 2) fun t32 => if LAY t32 = (0, 8) then bd (s_X3_takesWord 11 y30.2) fun q33 => if q33.1 = 0 then j_X3_readPeople_300 0 (v1 + 10) (t32 + 3) q33.2 else j_X3_readPeople_300 1 (v1 + 10) (t32 + 3) q33.2 else none
theorem tj_X3_readPeople_226 {g : GP} {X : MX} {mcR msR : Nat} (hF : gF g = true) (hX : Cx g RX3 cX3_readPeople 7 mcR msR none [] X) {v1 : Int32} {k0 : Int32} {k1 : Int32} {k2 : Nat} {d2 : Value} {d3 : Value} {d4 : Value} {h hz : AH} {z : Unit} (e : j_X3_readPeople_226 v1 k0 k1 k2 h = some (z, hz)) : AR g X 0 0 (QQ g X NT false hz (.inl none) 0 0) h 226 [.ref 1, .int v1, d2, d3, d4] [.int k0, .int k1, .ref k2] := by
  unfold j_X3_readPeople_226 at e
  obtain ⟨q25, f_414, e_414⟩ := bd_some e
  clear e
  refine aw_callSN (av := [.ref k2, .int k1, .int k0]) (avr := [.int k0, .int k1, .ref k2]) hX (k_X9_put (cx_g hX) hF f_414) mi_X9_put rfl rfl nx17 w_83 (by decide) (Nat.le_of_ble_eq_true rfl) (Nat.zero_le _) (Nat.zero_le _) d_X3_readPeople_226 ?_
  refine aw_aload_n (i := 0) hX rfl rfl d_X3_readPeople_229 ?_
  refine ar_ldcS (i := 10) hX rfl (by decide) rfl d_X3_readPeople_230 ?_
  obtain ⟨q26, f_415, e_415⟩ := bd_some e_414
  clear e_414
  refine aw_callV (b := 1) (av := [.ref (100000 + 10)]) (avr := [.ref (100000 + 10)]) hX (k_X3_needWord (cx_g hX) hF f_415) mi_X3_needWord rfl rfl w_260 w_261 w_262 (by decide) rfl (LAY_lt rfl (by decide)) rfl rfl (Nat.le_of_ble_eq_true rfl) (Nat.zero_le _) (Nat.zero_le _) d_X3_readPeople_232 ?_
  refine aw_iconst (v := 0) hX (by decide) d_X3_readPeople_235 ?_
  refine aw_istore (i := 4) (lv2 := [.ref 1, .int v1, d2, _, .int 0]) hX rfl rfl d_X3_readPeople_236 ?_
  obtain ⟨y30, f_416, e_416⟩ := bd_some e_415
  clear e_415
  refine t_X3_readPeople_238 hF hX f_416 (fun d31_2 d31_3 d31_4 => ?_)
  refine aw_aload_n (i := 0) hX rfl rfl d_X3_readPeople_275 ?_
  obtain ⟨t32, f_417, e_417⟩ := bd_some e_416
  clear e_416
  obtain ⟨hlt32, e_418⟩ := if_some e_417
  clear e_417
  refine ar_getR hX fg_RX3_25 rfl f_417 d_X3_readPeople_276 ?_
  refine ar_getF hX hF fg_RX3_151 (by assumption) d_X3_readPeople_279 ?_
  refine aw_iload_n (i := 1) hX rfl rfl d_X3_readPeople_282 ?_
  refine aw_bipush (v := 10) hX (by decide) d_X3_readPeople_283 ?_
  refine aw_iadd hX d_X3_readPeople_285 ?_
  refine aw_aload_n (i := 0) hX rfl rfl d_X3_readPeople_286 ?_
  refine ar_ldcS (i := 11) hX rfl (by decide) rfl d_X3_readPeople_287 ?_
  obtain ⟨q33, f_419, e_419⟩ := bd_some e_418
  clear e_418
  refine aw_callV (b := 1) (av := [.ref (100000 + 11)]) (avr := [.ref (100000 + 11)]) hX (k_X3_takesWord (cx_g hX) hF f_419) mi_X3_takesWord rfl rfl w_253 w_254 w_255 (by decide) rfl (LAY_lt rfl (by decide)) rfl rfl (Nat.le_of_ble_eq_true rfl) (Nat.zero_le _) (Nat.zero_le _) d_X3_readPeople_289 ?_
  refine aw_if_eq (t := 299) hX (by decide) d_X3_readPeople_292 (fun c => ?_) (fun c => ?_)
  · rw [if_pos c] at e_419
    refine aw_iconst (v := 0) hX (by decide) d_X3_readPeople_299 ?_
    exact tj_X3_readPeople_300 hF hX e_419
  · rw [if_neg c] at e_419
    refine aw_iconst (v := 1) hX (by decide) d_X3_readPeople_295 ?_
    refine aw_goto (t := 300) hX (by decide) d_X3_readPeople_296 ?_
    exact tj_X3_readPeople_300 hF hX e_419
def j_X3_readPeople_192 (v1 : Int32) (k0 : Int32) (k1 : Int32) (k2 : Nat) (h : AH) : Option (Unit × AH) := bd (s_X9_put (some k2) k1 k0 h) fun q22 => bd (gR q22.2 1 2) fun t23 => if LAY t23 = (0, 8) then bd (s_X3_takesWord 9 q22.2) fun q24 => if q24.1 = 0 then j_X3_readPeople_226 v1 0 (v1 + 5) (t23 + 3) q24.2 else bd (s_X3_takeNumber 0 500 q24.2) fun q36 => j_X3_readPeople_226 v1 q36.1 (v1 + 5) (t23 + 3) q36.2 else none
theorem tj_X3_readPeople_192 {g : GP} {X : MX} {mcR msR : Nat} (hF : gF g = true) (hX : Cx g RX3 cX3_readPeople 7 mcR msR none [] X) {v1 : Int32} {k0 : Int32} {k1 : Int32} {k2 : Nat} {d2 : Value} {d3 : Value} {d4 : Value} {h hz : AH} {z : Unit} (e : j_X3_readPeople_192 v1 k0 k1 k2 h = some (z, hz)) : AR g X 0 0 (QQ g X NT false hz (.inl none) 0 0) h 192 [.ref 1, .int v1, d2, d3, d4] [.int k0, .int k1, .ref k2] := by
  unfold j_X3_readPeople_192 at e
  obtain ⟨q22, f_420, e_420⟩ := bd_some e
  clear e
  refine aw_callSN (av := [.ref k2, .int k1, .int k0]) (avr := [.int k0, .int k1, .ref k2]) hX (k_X9_put (cx_g hX) hF f_420) mi_X9_put rfl rfl nx17 w_83 (by decide) (Nat.le_of_ble_eq_true rfl) (Nat.zero_le _) (Nat.zero_le _) d_X3_readPeople_192 ?_
  refine aw_aload_n (i := 0) hX rfl rfl d_X3_readPeople_195 ?_
  obtain ⟨t23, f_421, e_421⟩ := bd_some e_420
  clear e_420
  obtain ⟨hlt23, e_422⟩ := if_some e_421
  clear e_421
  refine ar_getR hX fg_RX3_25 rfl f_421 d_X3_readPeople_196 ?_
  refine ar_getF hX hF fg_RX3_151 (by assumption) d_X3_readPeople_199 ?_
  refine aw_iload_n (i := 1) hX rfl rfl d_X3_readPeople_202 ?_
  refine aw_iconst (v := 5) hX (by decide) d_X3_readPeople_203 ?_
  refine aw_iadd hX d_X3_readPeople_204 ?_
  refine aw_aload_n (i := 0) hX rfl rfl d_X3_readPeople_205 ?_
  refine ar_ldcS (i := 9) hX rfl (by decide) rfl d_X3_readPeople_206 ?_
  obtain ⟨q24, f_423, e_423⟩ := bd_some e_422
  clear e_422
  refine aw_callV (b := 1) (av := [.ref (100000 + 9)]) (avr := [.ref (100000 + 9)]) hX (k_X3_takesWord (cx_g hX) hF f_423) mi_X3_takesWord rfl rfl w_253 w_254 w_255 (by decide) rfl (LAY_lt rfl (by decide)) rfl rfl (Nat.le_of_ble_eq_true rfl) (Nat.zero_le _) (Nat.zero_le _) d_X3_readPeople_208 ?_
  refine aw_if_eq (t := 225) hX (by decide) d_X3_readPeople_211 (fun c => ?_) (fun c => ?_)
  · rw [if_pos c] at e_423
    refine aw_iconst (v := 0) hX (by decide) d_X3_readPeople_225 ?_
    exact tj_X3_readPeople_226 hF hX e_423
  · rw [if_neg c] at e_423
    refine aw_aload_n (i := 0) hX rfl rfl d_X3_readPeople_214 ?_
    refine aw_iconst (v := 0) hX (by decide) d_X3_readPeople_215 ?_
    refine aw_sipush (v := 500) hX (by decide) d_X3_readPeople_216 ?_
    obtain ⟨q36, f_424, e_424⟩ := bd_some e_423
    clear e_423
    refine aw_callV (b := 1) (av := [.int 0, .int 500]) (avr := [.int 500, .int 0]) hX (k_X3_takeNumber (cx_g hX) hF f_424) mi_X3_takeNumber rfl rfl w_249 w_250 w_251 (by decide) rfl (LAY_lt rfl (by decide)) rfl rfl (Nat.le_of_ble_eq_true rfl) (Nat.zero_le _) (Nat.zero_le _) d_X3_readPeople_219 ?_
    refine aw_goto (t := 226) hX (by decide) d_X3_readPeople_222 ?_
    exact tj_X3_readPeople_226 hF hX e_424
def j_X3_readPeople_158 (v1 : Int32) (k0 : Int32) (k1 : Int32) (k2 : Nat) (h : AH) : Option (Unit × AH) := bd (s_X9_put (some k2) k1 k0 h) fun q19 => bd (gR q19.2 1 2) fun t20 => if LAY t20 = (0, 8) then bd (s_X3_takesWord 8 q19.2) fun q21 => if q21.1 = 0 then j_X3_readPeople_192 v1 0 (v1 + 4) (t20 + 3) q21.2 else bd (s_X3_takeNumber 0 1000 q21.2) fun q37 => j_X3_readPeople_192 v1 q37.1 (v1 + 4) (t20 + 3) q37.2 else none
theorem tj_X3_readPeople_158 {g : GP} {X : MX} {mcR msR : Nat} (hF : gF g = true) (hX : Cx g RX3 cX3_readPeople 7 mcR msR none [] X) {v1 : Int32} {k0 : Int32} {k1 : Int32} {k2 : Nat} {d2 : Value} {d3 : Value} {d4 : Value} {h hz : AH} {z : Unit} (e : j_X3_readPeople_158 v1 k0 k1 k2 h = some (z, hz)) : AR g X 0 0 (QQ g X NT false hz (.inl none) 0 0) h 158 [.ref 1, .int v1, d2, d3, d4] [.int k0, .int k1, .ref k2] := by
  unfold j_X3_readPeople_158 at e
  obtain ⟨q19, f_425, e_425⟩ := bd_some e
  clear e
  refine aw_callSN (av := [.ref k2, .int k1, .int k0]) (avr := [.int k0, .int k1, .ref k2]) hX (k_X9_put (cx_g hX) hF f_425) mi_X9_put rfl rfl nx17 w_83 (by decide) (Nat.le_of_ble_eq_true rfl) (Nat.zero_le _) (Nat.zero_le _) d_X3_readPeople_158 ?_
  refine aw_aload_n (i := 0) hX rfl rfl d_X3_readPeople_161 ?_
  obtain ⟨t20, f_426, e_426⟩ := bd_some e_425
  clear e_425
  obtain ⟨hlt20, e_427⟩ := if_some e_426
  clear e_426
  refine ar_getR hX fg_RX3_25 rfl f_426 d_X3_readPeople_162 ?_
  refine ar_getF hX hF fg_RX3_151 (by assumption) d_X3_readPeople_165 ?_
  refine aw_iload_n (i := 1) hX rfl rfl d_X3_readPeople_168 ?_
  refine aw_iconst (v := 4) hX (by decide) d_X3_readPeople_169 ?_
  refine aw_iadd hX d_X3_readPeople_170 ?_
  refine aw_aload_n (i := 0) hX rfl rfl d_X3_readPeople_171 ?_
  refine ar_ldcS (i := 8) hX rfl (by decide) rfl d_X3_readPeople_172 ?_
  obtain ⟨q21, f_428, e_428⟩ := bd_some e_427
  clear e_427
  refine aw_callV (b := 1) (av := [.ref (100000 + 8)]) (avr := [.ref (100000 + 8)]) hX (k_X3_takesWord (cx_g hX) hF f_428) mi_X3_takesWord rfl rfl w_253 w_254 w_255 (by decide) rfl (LAY_lt rfl (by decide)) rfl rfl (Nat.le_of_ble_eq_true rfl) (Nat.zero_le _) (Nat.zero_le _) d_X3_readPeople_174 ?_
  refine aw_if_eq (t := 191) hX (by decide) d_X3_readPeople_177 (fun c => ?_) (fun c => ?_)
  · rw [if_pos c] at e_428
    refine aw_iconst (v := 0) hX (by decide) d_X3_readPeople_191 ?_
    exact tj_X3_readPeople_192 hF hX e_428
  · rw [if_neg c] at e_428
    refine aw_aload_n (i := 0) hX rfl rfl d_X3_readPeople_180 ?_
    refine aw_iconst (v := 0) hX (by decide) d_X3_readPeople_181 ?_
    refine aw_sipush (v := 1000) hX (by decide) d_X3_readPeople_182 ?_
    obtain ⟨q37, f_429, e_429⟩ := bd_some e_428
    clear e_428
    refine aw_callV (b := 1) (av := [.int 0, .int 1000]) (avr := [.int 1000, .int 0]) hX (k_X3_takeNumber (cx_g hX) hF f_429) mi_X3_takeNumber rfl rfl w_249 w_250 w_251 (by decide) rfl (LAY_lt rfl (by decide)) rfl rfl (Nat.le_of_ble_eq_true rfl) (Nat.zero_le _) (Nat.zero_le _) d_X3_readPeople_185 ?_
    refine aw_goto (t := 192) hX (by decide) d_X3_readPeople_188 ?_
    exact tj_X3_readPeople_192 hF hX e_429
def j_X3_readPeople_124 (v1 : Int32) (k0 : Int32) (k1 : Int32) (k2 : Nat) (h : AH) : Option (Unit × AH) := bd (s_X9_put (some k2) k1 k0 h) fun q16 => bd (gR q16.2 1 2) fun t17 => if LAY t17 = (0, 8) then bd (s_X3_takesWord 7 q16.2) fun q18 => if q18.1 = 0 then j_X3_readPeople_158 v1 0 (v1 + 3) (t17 + 3) q18.2 else bd (s_X3_takeNumber 0 1000 q18.2) fun q38 => j_X3_readPeople_158 v1 q38.1 (v1 + 3) (t17 + 3) q38.2 else none
theorem tj_X3_readPeople_124 {g : GP} {X : MX} {mcR msR : Nat} (hF : gF g = true) (hX : Cx g RX3 cX3_readPeople 7 mcR msR none [] X) {v1 : Int32} {k0 : Int32} {k1 : Int32} {k2 : Nat} {d2 : Value} {d3 : Value} {d4 : Value} {h hz : AH} {z : Unit} (e : j_X3_readPeople_124 v1 k0 k1 k2 h = some (z, hz)) : AR g X 0 0 (QQ g X NT false hz (.inl none) 0 0) h 124 [.ref 1, .int v1, d2, d3, d4] [.int k0, .int k1, .ref k2] := by
  unfold j_X3_readPeople_124 at e
  obtain ⟨q16, f_430, e_430⟩ := bd_some e
  clear e
  refine aw_callSN (av := [.ref k2, .int k1, .int k0]) (avr := [.int k0, .int k1, .ref k2]) hX (k_X9_put (cx_g hX) hF f_430) mi_X9_put rfl rfl nx17 w_83 (by decide) (Nat.le_of_ble_eq_true rfl) (Nat.zero_le _) (Nat.zero_le _) d_X3_readPeople_124 ?_
  refine aw_aload_n (i := 0) hX rfl rfl d_X3_readPeople_127 ?_
  obtain ⟨t17, f_431, e_431⟩ := bd_some e_430
  clear e_430
  obtain ⟨hlt17, e_432⟩ := if_some e_431
  clear e_431
  refine ar_getR hX fg_RX3_25 rfl f_431 d_X3_readPeople_128 ?_
  refine ar_getF hX hF fg_RX3_151 (by assumption) d_X3_readPeople_131 ?_
  refine aw_iload_n (i := 1) hX rfl rfl d_X3_readPeople_134 ?_
  refine aw_iconst (v := 3) hX (by decide) d_X3_readPeople_135 ?_
  refine aw_iadd hX d_X3_readPeople_136 ?_
  refine aw_aload_n (i := 0) hX rfl rfl d_X3_readPeople_137 ?_
  refine ar_ldcS (i := 7) hX rfl (by decide) rfl d_X3_readPeople_138 ?_
  obtain ⟨q18, f_433, e_433⟩ := bd_some e_432
  clear e_432
  refine aw_callV (b := 1) (av := [.ref (100000 + 7)]) (avr := [.ref (100000 + 7)]) hX (k_X3_takesWord (cx_g hX) hF f_433) mi_X3_takesWord rfl rfl w_253 w_254 w_255 (by decide) rfl (LAY_lt rfl (by decide)) rfl rfl (Nat.le_of_ble_eq_true rfl) (Nat.zero_le _) (Nat.zero_le _) d_X3_readPeople_140 ?_
  refine aw_if_eq (t := 157) hX (by decide) d_X3_readPeople_143 (fun c => ?_) (fun c => ?_)
  · rw [if_pos c] at e_433
    refine aw_iconst (v := 0) hX (by decide) d_X3_readPeople_157 ?_
    exact tj_X3_readPeople_158 hF hX e_433
  · rw [if_neg c] at e_433
    refine aw_aload_n (i := 0) hX rfl rfl d_X3_readPeople_146 ?_
    refine aw_iconst (v := 0) hX (by decide) d_X3_readPeople_147 ?_
    refine aw_sipush (v := 1000) hX (by decide) d_X3_readPeople_148 ?_
    obtain ⟨q38, f_434, e_434⟩ := bd_some e_433
    clear e_433
    refine aw_callV (b := 1) (av := [.int 0, .int 1000]) (avr := [.int 1000, .int 0]) hX (k_X3_takeNumber (cx_g hX) hF f_434) mi_X3_takeNumber rfl rfl w_249 w_250 w_251 (by decide) rfl (LAY_lt rfl (by decide)) rfl rfl (Nat.le_of_ble_eq_true rfl) (Nat.zero_le _) (Nat.zero_le _) d_X3_readPeople_151 ?_
    refine aw_goto (t := 158) hX (by decide) d_X3_readPeople_154 ?_
    exact tj_X3_readPeople_158 hF hX e_434
def s_X3_readPeople (h : AH) : Option (Unit × AH) := bd (gR h 1 2) fun t1 => if LAY t1 = (0, 8) then bd (s_X3_tellNext (gI h t1 3) 6 h) fun q2 => bd (gR q2.2 1 2) fun t3 => if LAY t3 = (0, 8) then bd (s_X3_takeNumber 0 60 q2.2) fun q4 => bd (gR q4.2 1 2) fun t5 => if LAY t5 = (0, 8) then bd (gR q4.2 1 2) fun t6 => if LAY t6 = (0, 8) then bd (s_X9_put (some (t5 + 4)) (gI q4.2 t6 3) q4.1 q4.2) fun q7 => bd (gR q7.2 1 2) fun t8 => if LAY t8 = (0, 8) then bd (s_X9_put (some (t8 + 3)) (((gI q2.2 t3 3) * 11) + 0) q4.1 q7.2) fun q9 => bd (s_X3_needWord 5 q9.2) fun q10 => bd (s_X3_takeNumber 0 1000 q10.2) fun q11 => bd (gR q11.2 1 2) fun t12 => if LAY t12 = (0, 8) then bd (s_X9_put (some (t12 + 3)) (((gI q2.2 t3 3) * 11) + 1) q11.1 q11.2) fun q13 => bd (gR q13.2 1 2) fun t14 => if LAY t14 = (0, 8) then bd (s_X3_takesWord 6 q13.2) fun q15 => if q15.1 = 0 then j_X3_readPeople_124 ((gI q2.2 t3 3) * 11) q11.1 (((gI q2.2 t3 3) * 11) + 2) (t14 + 3) q15.2 else bd (s_X3_takeNumber 0 1000 q15.2) fun q39 => j_X3_readPeople_124 ((gI q2.2 t3 3) * 11) q39.1 (((gI q2.2 t3 3) * 11) + 2) (t14 + 3) q39.2 else none else none else none else none else none else none else none
theorem t_X3_readPeople {g : GP} {X : MX} {mcR msR : Nat} (hF : gF g = true) (hX : Cx g RX3 cX3_readPeople 7 mcR msR none [] X) {h hz : AH} {z : Unit} (e : s_X3_readPeople h = some (z, hz)) : AR g X 0 0 (QQ g X NT false hz (.inl none) 0 0) h 0 [.ref 1, jk, jk, jk, jk] [] := by
  unfold s_X3_readPeople at e
  refine aw_aload_n (i := 0) hX rfl rfl d_X3_readPeople_0 ?_
  refine aw_aload_n (i := 0) hX rfl rfl d_X3_readPeople_1 ?_
  obtain ⟨t1, f_435, e_435⟩ := bd_some e
  clear e
  obtain ⟨hlt1, e_436⟩ := if_some e_435
  clear e_435
  refine ar_getR hX fg_RX3_25 rfl f_435 d_X3_readPeople_2 ?_
  refine ar_getI hX fg_RX3_145 (by assumption) d_X3_readPeople_5 ?_
  refine aw_bipush (v := 6) hX (by decide) d_X3_readPeople_8 ?_
  obtain ⟨q2, f_437, e_437⟩ := bd_some e_436
  clear e_436
  refine aw_callV (b := 1) (av := [.int (gI h t1 3), .int 6]) (avr := [.int 6, .int (gI h t1 3)]) hX (k_X3_tellNext (cx_g hX) hF f_437) mi_X3_tellNext rfl rfl w_244 w_245 w_246 (by decide) rfl (LAY_lt rfl (by decide)) rfl rfl (Nat.le_of_ble_eq_true rfl) (Nat.zero_le _) (Nat.zero_le _) d_X3_readPeople_10 ?_
  refine aw_aload_n (i := 0) hX rfl rfl d_X3_readPeople_13 ?_
  obtain ⟨t3, f_438, e_438⟩ := bd_some e_437
  clear e_437
  obtain ⟨hlt3, e_439⟩ := if_some e_438
  clear e_438
  refine ar_getR hX fg_RX3_25 rfl f_438 d_X3_readPeople_14 ?_
  refine ar_getI hX fg_RX3_145 (by assumption) d_X3_readPeople_17 ?_
  refine aw_bipush (v := 11) hX (by decide) d_X3_readPeople_20 ?_
  refine aw_imul hX d_X3_readPeople_22 ?_
  refine aw_istore_n (i := 1) (lv2 := [.ref 1, .int ((gI q2.2 t3 3) * 11), jk, jk, jk]) hX rfl rfl rfl d_X3_readPeople_23 ?_
  refine aw_aload_n (i := 0) hX rfl rfl d_X3_readPeople_24 ?_
  refine aw_iconst (v := 0) hX (by decide) d_X3_readPeople_25 ?_
  refine aw_bipush (v := 60) hX (by decide) d_X3_readPeople_26 ?_
  obtain ⟨q4, f_440, e_440⟩ := bd_some e_439
  clear e_439
  refine aw_callV (b := 1) (av := [.int 0, .int 60]) (avr := [.int 60, .int 0]) hX (k_X3_takeNumber (cx_g hX) hF f_440) mi_X3_takeNumber rfl rfl w_249 w_250 w_251 (by decide) rfl (LAY_lt rfl (by decide)) rfl rfl (Nat.le_of_ble_eq_true rfl) (Nat.zero_le _) (Nat.zero_le _) d_X3_readPeople_28 ?_
  refine aw_istore_n (i := 2) (lv2 := [.ref 1, .int ((gI q2.2 t3 3) * 11), .int q4.1, jk, jk]) hX rfl rfl rfl d_X3_readPeople_31 ?_
  refine aw_aload_n (i := 0) hX rfl rfl d_X3_readPeople_32 ?_
  obtain ⟨t5, f_441, e_441⟩ := bd_some e_440
  clear e_440
  obtain ⟨hlt5, e_442⟩ := if_some e_441
  clear e_441
  refine ar_getR hX fg_RX3_25 rfl f_441 d_X3_readPeople_33 ?_
  refine ar_getF hX hF fg_RX3_148 (by assumption) d_X3_readPeople_36 ?_
  refine aw_aload_n (i := 0) hX rfl rfl d_X3_readPeople_39 ?_
  obtain ⟨t6, f_443, e_443⟩ := bd_some e_442
  clear e_442
  obtain ⟨hlt6, e_444⟩ := if_some e_443
  clear e_443
  refine ar_getR hX fg_RX3_25 rfl f_443 d_X3_readPeople_40 ?_
  refine ar_getI hX fg_RX3_145 (by assumption) d_X3_readPeople_43 ?_
  refine aw_iload_n (i := 2) hX rfl rfl d_X3_readPeople_46 ?_
  obtain ⟨q7, f_445, e_445⟩ := bd_some e_444
  clear e_444
  refine aw_callSN (av := [.ref (t5 + 4), .int (gI q4.2 t6 3), .int q4.1]) (avr := [.int q4.1, .int (gI q4.2 t6 3), .ref (t5 + 4)]) hX (k_X9_put (cx_g hX) hF f_445) mi_X9_put rfl rfl nx17 w_83 (by decide) (Nat.le_of_ble_eq_true rfl) (Nat.zero_le _) (Nat.zero_le _) d_X3_readPeople_47 ?_
  refine aw_aload_n (i := 0) hX rfl rfl d_X3_readPeople_50 ?_
  obtain ⟨t8, f_446, e_446⟩ := bd_some e_445
  clear e_445
  obtain ⟨hlt8, e_447⟩ := if_some e_446
  clear e_446
  refine ar_getR hX fg_RX3_25 rfl f_446 d_X3_readPeople_51 ?_
  refine ar_getF hX hF fg_RX3_151 (by assumption) d_X3_readPeople_54 ?_
  refine aw_iload_n (i := 1) hX rfl rfl d_X3_readPeople_57 ?_
  refine aw_iconst (v := 0) hX (by decide) d_X3_readPeople_58 ?_
  refine aw_iadd hX d_X3_readPeople_59 ?_
  refine aw_iload_n (i := 2) hX rfl rfl d_X3_readPeople_60 ?_
  obtain ⟨q9, f_448, e_448⟩ := bd_some e_447
  clear e_447
  refine aw_callSN (av := [.ref (t8 + 3), .int (((gI q2.2 t3 3) * 11) + 0), .int q4.1]) (avr := [.int q4.1, .int (((gI q2.2 t3 3) * 11) + 0), .ref (t8 + 3)]) hX (k_X9_put (cx_g hX) hF f_448) mi_X9_put rfl rfl nx17 w_83 (by decide) (Nat.le_of_ble_eq_true rfl) (Nat.zero_le _) (Nat.zero_le _) d_X3_readPeople_61 ?_
  refine aw_aload_n (i := 0) hX rfl rfl d_X3_readPeople_64 ?_
  refine ar_ldcS (i := 5) hX rfl (by decide) rfl d_X3_readPeople_65 ?_
  obtain ⟨q10, f_449, e_449⟩ := bd_some e_448
  clear e_448
  refine aw_callV (b := 1) (av := [.ref (100000 + 5)]) (avr := [.ref (100000 + 5)]) hX (k_X3_needWord (cx_g hX) hF f_449) mi_X3_needWord rfl rfl w_260 w_261 w_262 (by decide) rfl (LAY_lt rfl (by decide)) rfl rfl (Nat.le_of_ble_eq_true rfl) (Nat.zero_le _) (Nat.zero_le _) d_X3_readPeople_67 ?_
  refine aw_aload_n (i := 0) hX rfl rfl d_X3_readPeople_70 ?_
  refine aw_iconst (v := 0) hX (by decide) d_X3_readPeople_71 ?_
  refine aw_sipush (v := 1000) hX (by decide) d_X3_readPeople_72 ?_
  obtain ⟨q11, f_450, e_450⟩ := bd_some e_449
  clear e_449
  refine aw_callV (b := 1) (av := [.int 0, .int 1000]) (avr := [.int 1000, .int 0]) hX (k_X3_takeNumber (cx_g hX) hF f_450) mi_X3_takeNumber rfl rfl w_249 w_250 w_251 (by decide) rfl (LAY_lt rfl (by decide)) rfl rfl (Nat.le_of_ble_eq_true rfl) (Nat.zero_le _) (Nat.zero_le _) d_X3_readPeople_75 ?_
  refine aw_istore_n (i := 3) (lv2 := [.ref 1, .int ((gI q2.2 t3 3) * 11), .int q4.1, .int q11.1, jk]) hX rfl rfl rfl d_X3_readPeople_78 ?_
  refine aw_aload_n (i := 0) hX rfl rfl d_X3_readPeople_79 ?_
  obtain ⟨t12, f_451, e_451⟩ := bd_some e_450
  clear e_450
  obtain ⟨hlt12, e_452⟩ := if_some e_451
  clear e_451
  refine ar_getR hX fg_RX3_25 rfl f_451 d_X3_readPeople_80 ?_
  refine ar_getF hX hF fg_RX3_151 (by assumption) d_X3_readPeople_83 ?_
  refine aw_iload_n (i := 1) hX rfl rfl d_X3_readPeople_86 ?_
  refine aw_iconst (v := 1) hX (by decide) d_X3_readPeople_87 ?_
  refine aw_iadd hX d_X3_readPeople_88 ?_
  refine aw_iload_n (i := 3) hX rfl rfl d_X3_readPeople_89 ?_
  obtain ⟨q13, f_453, e_453⟩ := bd_some e_452
  clear e_452
  refine aw_callSN (av := [.ref (t12 + 3), .int (((gI q2.2 t3 3) * 11) + 1), .int q11.1]) (avr := [.int q11.1, .int (((gI q2.2 t3 3) * 11) + 1), .ref (t12 + 3)]) hX (k_X9_put (cx_g hX) hF f_453) mi_X9_put rfl rfl nx17 w_83 (by decide) (Nat.le_of_ble_eq_true rfl) (Nat.zero_le _) (Nat.zero_le _) d_X3_readPeople_90 ?_
  refine aw_aload_n (i := 0) hX rfl rfl d_X3_readPeople_93 ?_
  obtain ⟨t14, f_454, e_454⟩ := bd_some e_453
  clear e_453
  obtain ⟨hlt14, e_455⟩ := if_some e_454
  clear e_454
  refine ar_getR hX fg_RX3_25 rfl f_454 d_X3_readPeople_94 ?_
  refine ar_getF hX hF fg_RX3_151 (by assumption) d_X3_readPeople_97 ?_
  refine aw_iload_n (i := 1) hX rfl rfl d_X3_readPeople_100 ?_
  refine aw_iconst (v := 2) hX (by decide) d_X3_readPeople_101 ?_
  refine aw_iadd hX d_X3_readPeople_102 ?_
  refine aw_aload_n (i := 0) hX rfl rfl d_X3_readPeople_103 ?_
  refine ar_ldcS (i := 6) hX rfl (by decide) rfl d_X3_readPeople_104 ?_
  obtain ⟨q15, f_456, e_456⟩ := bd_some e_455
  clear e_455
  refine aw_callV (b := 1) (av := [.ref (100000 + 6)]) (avr := [.ref (100000 + 6)]) hX (k_X3_takesWord (cx_g hX) hF f_456) mi_X3_takesWord rfl rfl w_253 w_254 w_255 (by decide) rfl (LAY_lt rfl (by decide)) rfl rfl (Nat.le_of_ble_eq_true rfl) (Nat.zero_le _) (Nat.zero_le _) d_X3_readPeople_106 ?_
  refine aw_if_eq (t := 123) hX (by decide) d_X3_readPeople_109 (fun c => ?_) (fun c => ?_)
  · rw [if_pos c] at e_456
    refine aw_iload_n (i := 3) hX rfl rfl d_X3_readPeople_123 ?_
    exact tj_X3_readPeople_124 hF hX e_456
  · rw [if_neg c] at e_456
    refine aw_aload_n (i := 0) hX rfl rfl d_X3_readPeople_112 ?_
    refine aw_iconst (v := 0) hX (by decide) d_X3_readPeople_113 ?_
    refine aw_sipush (v := 1000) hX (by decide) d_X3_readPeople_114 ?_
    obtain ⟨q39, f_457, e_457⟩ := bd_some e_456
    clear e_456
    refine aw_callV (b := 1) (av := [.int 0, .int 1000]) (avr := [.int 1000, .int 0]) hX (k_X3_takeNumber (cx_g hX) hF f_457) mi_X3_takeNumber rfl rfl w_249 w_250 w_251 (by decide) rfl (LAY_lt rfl (by decide)) rfl rfl (Nat.le_of_ble_eq_true rfl) (Nat.zero_le _) (Nat.zero_le _) d_X3_readPeople_117 ?_
    refine aw_goto (t := 124) hX (by decide) d_X3_readPeople_120 ?_
    exact tj_X3_readPeople_124 hF hX e_457
theorem k_X3_readPeople {g : GP} (hg : g.1.stackTraces = false) (hF : gF g = true) {h hz : AH} {z : Unit} (e : s_X3_readPeople h = some (z, hz)) : Ctr g yX3_readPeople (wsY yX3_readPeople cX3_readPeople 5 none) 7 0 0 [.ref 1] NT false h none NT false hz := ctr_of (lv0 := [.ref 1, jk, jk, jk, jk]) rfl rfl (by decide) hg trivial (fun X hX hn => t_X3_readPeople hF hX e)
theorem d_X3_readSeats_0 : decode cX3_readSeats 0 = .ok (.aload_n 0, 1) := by decide +kernel
theorem d_X3_readSeats_1 : decode cX3_readSeats 1 = .ok (.aload_n 0, 1) := by decide +kernel
theorem d_X3_readSeats_2 : decode cX3_readSeats 2 = .ok (.getfield 25, 3) := by decide +kernel
theorem d_X3_readSeats_5 : decode cX3_readSeats 5 = .ok (.getfield 172, 3) := by decide +kernel
theorem d_X3_readSeats_8 : decode cX3_readSeats 8 = .ok (.iconst 4, 1) := by decide +kernel
theorem d_X3_readSeats_9 : decode cX3_readSeats 9 = .ok (.invokevirtual 133, 3) := by decide +kernel
theorem d_X3_readSeats_12 : decode cX3_readSeats 12 = .ok (.aload_n 0, 1) := by decide +kernel
theorem d_X3_readSeats_13 : decode cX3_readSeats 13 = .ok (.getfield 25, 3) := by decide +kernel
theorem d_X3_readSeats_16 : decode cX3_readSeats 16 = .ok (.getfield 175, 3) := by decide +kernel
theorem d_X3_readSeats_19 : decode cX3_readSeats 19 = .ok (.aload_n 0, 1) := by decide +kernel
theorem d_X3_readSeats_20 : decode cX3_readSeats 20 = .ok (.getfield 25, 3) := by decide +kernel
theorem d_X3_readSeats_23 : decode cX3_readSeats 23 = .ok (.getfield 172, 3) := by decide +kernel
theorem d_X3_readSeats_26 : decode cX3_readSeats 26 = .ok (.aload_n 0, 1) := by decide +kernel
theorem d_X3_readSeats_27 : decode cX3_readSeats 27 = .ok (.iconst 1, 1) := by decide +kernel
theorem d_X3_readSeats_28 : decode cX3_readSeats 28 = .ok (.sipush 400, 3) := by decide +kernel
theorem d_X3_readSeats_31 : decode cX3_readSeats 31 = .ok (.invokevirtual 82, 3) := by decide +kernel
theorem d_X3_readSeats_34 : decode cX3_readSeats 34 = .ok (.invokestatic 59, 3) := by decide +kernel
theorem d_X3_readSeats_37 : decode cX3_readSeats 37 = .ok (.aload_n 0, 1) := by decide +kernel
theorem d_X3_readSeats_38 : decode cX3_readSeats 38 = .ok (.ldc 177, 2) := by decide +kernel
theorem d_X3_readSeats_40 : decode cX3_readSeats 40 = .ok (.invokevirtual 156, 3) := by decide +kernel
theorem d_X3_readSeats_43 : decode cX3_readSeats 43 = .ok (.aload_n 0, 1) := by decide +kernel
theorem d_X3_readSeats_44 : decode cX3_readSeats 44 = .ok (.getfield 25, 3) := by decide +kernel
theorem d_X3_readSeats_47 : decode cX3_readSeats 47 = .ok (.getfield 179, 3) := by decide +kernel
theorem d_X3_readSeats_50 : decode cX3_readSeats 50 = .ok (.aload_n 0, 1) := by decide +kernel
theorem d_X3_readSeats_51 : decode cX3_readSeats 51 = .ok (.getfield 25, 3) := by decide +kernel
theorem d_X3_readSeats_54 : decode cX3_readSeats 54 = .ok (.getfield 172, 3) := by decide +kernel
theorem d_X3_readSeats_57 : decode cX3_readSeats 57 = .ok (.aload_n 0, 1) := by decide +kernel
theorem d_X3_readSeats_58 : decode cX3_readSeats 58 = .ok (.iconst 0, 1) := by decide +kernel
theorem d_X3_readSeats_59 : decode cX3_readSeats 59 = .ok (.bipush 99, 2) := by decide +kernel
theorem d_X3_readSeats_61 : decode cX3_readSeats 61 = .ok (.invokevirtual 82, 3) := by decide +kernel
theorem d_X3_readSeats_64 : decode cX3_readSeats 64 = .ok (.invokestatic 59, 3) := by decide +kernel
theorem d_X3_readSeats_67 : decode cX3_readSeats 67 = .ok (.aload_n 0, 1) := by decide +kernel
theorem d_X3_readSeats_68 : decode cX3_readSeats 68 = .ok (.getfield 25, 3) := by decide +kernel
theorem d_X3_readSeats_71 : decode cX3_readSeats 71 = .ok (.dup, 1) := by decide +kernel
theorem d_X3_readSeats_72 : decode cX3_readSeats 72 = .ok (.getfield 172, 3) := by decide +kernel
theorem d_X3_readSeats_75 : decode cX3_readSeats 75 = .ok (.iconst 1, 1) := by decide +kernel
theorem d_X3_readSeats_76 : decode cX3_readSeats 76 = .ok (.iadd, 1) := by decide +kernel
theorem d_X3_readSeats_77 : decode cX3_readSeats 77 = .ok (.putfield 172, 3) := by decide +kernel
theorem d_X3_readSeats_80 : decode cX3_readSeats 80 = .ok (.return_, 1) := by decide +kernel
def s_X3_readSeats (h : AH) : Option (Unit × AH) := bd (gR h 1 2) fun t1 => if LAY t1 = (0, 8) then bd (s_X3_tellNext (gI h t1 4) 4 h) fun q2 => bd (gR q2.2 1 2) fun t3 => if LAY t3 = (0, 8) then bd (gR q2.2 1 2) fun t4 => if LAY t4 = (0, 8) then bd (s_X3_takeNumber 1 400 q2.2) fun q5 => bd (s_X9_put (some (t3 + 5)) (gI q2.2 t4 4) q5.1 q5.2) fun q6 => bd (s_X3_needWord 13 q6.2) fun q7 => bd (gR q7.2 1 2) fun t8 => if LAY t8 = (0, 8) then bd (gR q7.2 1 2) fun t9 => if LAY t9 = (0, 8) then bd (s_X3_takeNumber 0 99 q7.2) fun q10 => bd (s_X9_put (some (t8 + 6)) (gI q7.2 t9 4) q10.1 q10.2) fun q11 => bd (gR q11.2 1 2) fun t12 => if LAY t12 = (0, 8) then some ((), sI q11.2 t12 4 ((gI q11.2 t12 4) + 1)) else none else none else none else none else none else none
theorem t_X3_readSeats {g : GP} {X : MX} {mcR msR : Nat} (hF : gF g = true) (hX : Cx g RX3 cX3_readSeats 7 mcR msR none [] X) {h hz : AH} {z : Unit} (e : s_X3_readSeats h = some (z, hz)) : AR g X 0 0 (QQ g X NT false hz (.inl none) 0 0) h 0 [.ref 1] [] := by
  unfold s_X3_readSeats at e
  refine aw_aload_n (i := 0) hX rfl rfl d_X3_readSeats_0 ?_
  refine aw_aload_n (i := 0) hX rfl rfl d_X3_readSeats_1 ?_
  obtain ⟨t1, f_458, e_458⟩ := bd_some e
  clear e
  obtain ⟨hlt1, e_459⟩ := if_some e_458
  clear e_458
  refine ar_getR hX fg_RX3_25 rfl f_458 d_X3_readSeats_2 ?_
  refine ar_getI hX fg_RX3_172 (by assumption) d_X3_readSeats_5 ?_
  refine aw_iconst (v := 4) hX (by decide) d_X3_readSeats_8 ?_
  obtain ⟨q2, f_460, e_460⟩ := bd_some e_459
  clear e_459
  refine aw_callV (b := 1) (av := [.int (gI h t1 4), .int 4]) (avr := [.int 4, .int (gI h t1 4)]) hX (k_X3_tellNext (cx_g hX) hF f_460) mi_X3_tellNext rfl rfl w_244 w_245 w_246 (by decide) rfl (LAY_lt rfl (by decide)) rfl rfl (Nat.le_of_ble_eq_true rfl) (Nat.zero_le _) (Nat.zero_le _) d_X3_readSeats_9 ?_
  refine aw_aload_n (i := 0) hX rfl rfl d_X3_readSeats_12 ?_
  obtain ⟨t3, f_461, e_461⟩ := bd_some e_460
  clear e_460
  obtain ⟨hlt3, e_462⟩ := if_some e_461
  clear e_461
  refine ar_getR hX fg_RX3_25 rfl f_461 d_X3_readSeats_13 ?_
  refine ar_getF hX hF fg_RX3_175 (by assumption) d_X3_readSeats_16 ?_
  refine aw_aload_n (i := 0) hX rfl rfl d_X3_readSeats_19 ?_
  obtain ⟨t4, f_463, e_463⟩ := bd_some e_462
  clear e_462
  obtain ⟨hlt4, e_464⟩ := if_some e_463
  clear e_463
  refine ar_getR hX fg_RX3_25 rfl f_463 d_X3_readSeats_20 ?_
  refine ar_getI hX fg_RX3_172 (by assumption) d_X3_readSeats_23 ?_
  refine aw_aload_n (i := 0) hX rfl rfl d_X3_readSeats_26 ?_
  refine aw_iconst (v := 1) hX (by decide) d_X3_readSeats_27 ?_
  refine aw_sipush (v := 400) hX (by decide) d_X3_readSeats_28 ?_
  obtain ⟨q5, f_465, e_465⟩ := bd_some e_464
  clear e_464
  refine aw_callV (b := 1) (av := [.int 1, .int 400]) (avr := [.int 400, .int 1]) hX (k_X3_takeNumber (cx_g hX) hF f_465) mi_X3_takeNumber rfl rfl w_249 w_250 w_251 (by decide) rfl (LAY_lt rfl (by decide)) rfl rfl (Nat.le_of_ble_eq_true rfl) (Nat.zero_le _) (Nat.zero_le _) d_X3_readSeats_31 ?_
  obtain ⟨q6, f_466, e_466⟩ := bd_some e_465
  clear e_465
  refine aw_callSN (av := [.ref (t3 + 5), .int (gI q2.2 t4 4), .int q5.1]) (avr := [.int q5.1, .int (gI q2.2 t4 4), .ref (t3 + 5)]) hX (k_X9_put (cx_g hX) hF f_466) mi_X9_put rfl rfl nx17 w_83 (by decide) (Nat.le_of_ble_eq_true rfl) (Nat.zero_le _) (Nat.zero_le _) d_X3_readSeats_34 ?_
  refine aw_aload_n (i := 0) hX rfl rfl d_X3_readSeats_37 ?_
  refine ar_ldcS (i := 13) hX rfl (by decide) rfl d_X3_readSeats_38 ?_
  obtain ⟨q7, f_467, e_467⟩ := bd_some e_466
  clear e_466
  refine aw_callV (b := 1) (av := [.ref (100000 + 13)]) (avr := [.ref (100000 + 13)]) hX (k_X3_needWord (cx_g hX) hF f_467) mi_X3_needWord rfl rfl w_260 w_261 w_262 (by decide) rfl (LAY_lt rfl (by decide)) rfl rfl (Nat.le_of_ble_eq_true rfl) (Nat.zero_le _) (Nat.zero_le _) d_X3_readSeats_40 ?_
  refine aw_aload_n (i := 0) hX rfl rfl d_X3_readSeats_43 ?_
  obtain ⟨t8, f_468, e_468⟩ := bd_some e_467
  clear e_467
  obtain ⟨hlt8, e_469⟩ := if_some e_468
  clear e_468
  refine ar_getR hX fg_RX3_25 rfl f_468 d_X3_readSeats_44 ?_
  refine ar_getF hX hF fg_RX3_179 (by assumption) d_X3_readSeats_47 ?_
  refine aw_aload_n (i := 0) hX rfl rfl d_X3_readSeats_50 ?_
  obtain ⟨t9, f_470, e_470⟩ := bd_some e_469
  clear e_469
  obtain ⟨hlt9, e_471⟩ := if_some e_470
  clear e_470
  refine ar_getR hX fg_RX3_25 rfl f_470 d_X3_readSeats_51 ?_
  refine ar_getI hX fg_RX3_172 (by assumption) d_X3_readSeats_54 ?_
  refine aw_aload_n (i := 0) hX rfl rfl d_X3_readSeats_57 ?_
  refine aw_iconst (v := 0) hX (by decide) d_X3_readSeats_58 ?_
  refine aw_bipush (v := 99) hX (by decide) d_X3_readSeats_59 ?_
  obtain ⟨q10, f_472, e_472⟩ := bd_some e_471
  clear e_471
  refine aw_callV (b := 1) (av := [.int 0, .int 99]) (avr := [.int 99, .int 0]) hX (k_X3_takeNumber (cx_g hX) hF f_472) mi_X3_takeNumber rfl rfl w_249 w_250 w_251 (by decide) rfl (LAY_lt rfl (by decide)) rfl rfl (Nat.le_of_ble_eq_true rfl) (Nat.zero_le _) (Nat.zero_le _) d_X3_readSeats_61 ?_
  obtain ⟨q11, f_473, e_473⟩ := bd_some e_472
  clear e_472
  refine aw_callSN (av := [.ref (t8 + 6), .int (gI q7.2 t9 4), .int q10.1]) (avr := [.int q10.1, .int (gI q7.2 t9 4), .ref (t8 + 6)]) hX (k_X9_put (cx_g hX) hF f_473) mi_X9_put rfl rfl nx17 w_83 (by decide) (Nat.le_of_ble_eq_true rfl) (Nat.zero_le _) (Nat.zero_le _) d_X3_readSeats_64 ?_
  refine aw_aload_n (i := 0) hX rfl rfl d_X3_readSeats_67 ?_
  obtain ⟨t12, f_474, e_474⟩ := bd_some e_473
  clear e_473
  obtain ⟨hlt12, e_475⟩ := if_some e_474
  clear e_474
  refine ar_getR hX fg_RX3_25 rfl f_474 d_X3_readSeats_68 ?_
  refine aw_dup hX rfl d_X3_readSeats_71 ?_
  refine ar_getI hX fg_RX3_172 (by assumption) d_X3_readSeats_72 ?_
  refine aw_iconst (v := 1) hX (by decide) d_X3_readSeats_75 ?_
  refine aw_iadd hX d_X3_readSeats_76 ?_
  refine ar_putI hX fp_RX3_172 (by assumption) d_X3_readSeats_77 ?_
  cases e_475
  exact aw_return hX (Nat.zero_le _) (Nat.zero_le _) d_X3_readSeats_80
theorem k_X3_readSeats {g : GP} (hg : g.1.stackTraces = false) (hF : gF g = true) {h hz : AH} {z : Unit} (e : s_X3_readSeats h = some (z, hz)) : Ctr g yX3_readSeats (wsY yX3_readSeats cX3_readSeats 1 none) 7 0 0 [.ref 1] NT false h none NT false hz := ctr_of (lv0 := [.ref 1]) rfl rfl (by decide) hg trivial (fun X hX hn => t_X3_readSeats hF hX e)
theorem d_X3_takeSetEvening_0 : decode cX3_takeSetEvening 0 = .ok (.aload_n 0, 1) := by decide +kernel
theorem d_X3_takeSetEvening_1 : decode cX3_takeSetEvening 1 = .ok (.invokevirtual 186, 3) := by decide +kernel
theorem d_X3_takeSetEvening_4 : decode cX3_takeSetEvening 4 = .ok (.istore_n 1, 1) := by decide +kernel
theorem d_X3_takeSetEvening_5 : decode cX3_takeSetEvening 5 = .ok (.aload_n 0, 1) := by decide +kernel
theorem d_X3_takeSetEvening_6 : decode cX3_takeSetEvening 6 = .ok (.getfield 66, 3) := by decide +kernel
theorem d_X3_takeSetEvening_9 : decode cX3_takeSetEvening 9 = .ok (.iconst 2, 1) := by decide +kernel
theorem d_X3_takeSetEvening_10 : decode cX3_takeSetEvening 10 = .ok (.if_icmp .eq 11, 3) := by decide +kernel
theorem d_X3_takeSetEvening_13 : decode cX3_takeSetEvening 13 = .ok (.aload_n 0, 1) := by decide +kernel
theorem d_X3_takeSetEvening_14 : decode cX3_takeSetEvening 14 = .ok (.iconst 1, 1) := by decide +kernel
theorem d_X3_takeSetEvening_15 : decode cX3_takeSetEvening 15 = .ok (.invokevirtual 124, 3) := by decide +kernel
theorem d_X3_takeSetEvening_18 : decode cX3_takeSetEvening 18 = .ok (.goto 74, 3) := by decide +kernel
theorem d_X3_takeSetEvening_21 : decode cX3_takeSetEvening 21 = .ok (.iload_n 1, 1) := by decide +kernel
theorem d_X3_takeSetEvening_22 : decode cX3_takeSetEvening 22 = .ok (.iconst (-1), 1) := by decide +kernel
theorem d_X3_takeSetEvening_23 : decode cX3_takeSetEvening 23 = .ok (.if_icmp .ne 11, 3) := by decide +kernel
theorem d_X3_takeSetEvening_26 : decode cX3_takeSetEvening 26 = .ok (.aload_n 0, 1) := by decide +kernel
theorem d_X3_takeSetEvening_27 : decode cX3_takeSetEvening 27 = .ok (.iconst 2, 1) := by decide +kernel
theorem d_X3_takeSetEvening_28 : decode cX3_takeSetEvening 28 = .ok (.invokevirtual 124, 3) := by decide +kernel
theorem d_X3_takeSetEvening_31 : decode cX3_takeSetEvening 31 = .ok (.goto 61, 3) := by decide +kernel
theorem d_X3_takeSetEvening_34 : decode cX3_takeSetEvening 34 = .ok (.iload_n 1, 1) := by decide +kernel
theorem d_X3_takeSetEvening_35 : decode cX3_takeSetEvening 35 = .ok (.aload_n 0, 1) := by decide +kernel
theorem d_X3_takeSetEvening_36 : decode cX3_takeSetEvening 36 = .ok (.getfield 25, 3) := by decide +kernel
theorem d_X3_takeSetEvening_39 : decode cX3_takeSetEvening 39 = .ok (.getfield 130, 3) := by decide +kernel
theorem d_X3_takeSetEvening_42 : decode cX3_takeSetEvening 42 = .ok (.if_icmp .lt 11, 3) := by decide +kernel
theorem d_X3_takeSetEvening_45 : decode cX3_takeSetEvening 45 = .ok (.aload_n 0, 1) := by decide +kernel
theorem d_X3_takeSetEvening_46 : decode cX3_takeSetEvening 46 = .ok (.iconst 3, 1) := by decide +kernel
theorem d_X3_takeSetEvening_47 : decode cX3_takeSetEvening 47 = .ok (.invokevirtual 124, 3) := by decide +kernel
theorem d_X3_takeSetEvening_50 : decode cX3_takeSetEvening 50 = .ok (.goto 42, 3) := by decide +kernel
theorem d_X3_takeSetEvening_53 : decode cX3_takeSetEvening 53 = .ok (.aload_n 0, 1) := by decide +kernel
theorem d_X3_takeSetEvening_54 : decode cX3_takeSetEvening 54 = .ok (.getfield 25, 3) := by decide +kernel
theorem d_X3_takeSetEvening_57 : decode cX3_takeSetEvening 57 = .ok (.getfield 190, 3) := by decide +kernel
theorem d_X3_takeSetEvening_60 : decode cX3_takeSetEvening 60 = .ok (.iload_n 1, 1) := by decide +kernel
theorem d_X3_takeSetEvening_61 : decode cX3_takeSetEvening 61 = .ok (.invokestatic 51, 3) := by decide +kernel
theorem d_X3_takeSetEvening_64 : decode cX3_takeSetEvening 64 = .ok (.iconst 1, 1) := by decide +kernel
theorem d_X3_takeSetEvening_65 : decode cX3_takeSetEvening 65 = .ok (.if_icmp .ne 11, 3) := by decide +kernel
theorem d_X3_takeSetEvening_68 : decode cX3_takeSetEvening 68 = .ok (.aload_n 0, 1) := by decide +kernel
theorem d_X3_takeSetEvening_69 : decode cX3_takeSetEvening 69 = .ok (.iconst 4, 1) := by decide +kernel
theorem d_X3_takeSetEvening_70 : decode cX3_takeSetEvening 70 = .ok (.invokevirtual 124, 3) := by decide +kernel
theorem d_X3_takeSetEvening_73 : decode cX3_takeSetEvening 73 = .ok (.goto 19, 3) := by decide +kernel
theorem d_X3_takeSetEvening_76 : decode cX3_takeSetEvening 76 = .ok (.aload_n 0, 1) := by decide +kernel
theorem d_X3_takeSetEvening_77 : decode cX3_takeSetEvening 77 = .ok (.getfield 25, 3) := by decide +kernel
theorem d_X3_takeSetEvening_80 : decode cX3_takeSetEvening 80 = .ok (.getfield 190, 3) := by decide +kernel
theorem d_X3_takeSetEvening_83 : decode cX3_takeSetEvening 83 = .ok (.iload_n 1, 1) := by decide +kernel
theorem d_X3_takeSetEvening_84 : decode cX3_takeSetEvening 84 = .ok (.iconst 1, 1) := by decide +kernel
theorem d_X3_takeSetEvening_85 : decode cX3_takeSetEvening 85 = .ok (.invokestatic 59, 3) := by decide +kernel
theorem d_X3_takeSetEvening_88 : decode cX3_takeSetEvening 88 = .ok (.aload_n 0, 1) := by decide +kernel
theorem d_X3_takeSetEvening_89 : decode cX3_takeSetEvening 89 = .ok (.invokevirtual 63, 3) := by decide +kernel
theorem d_X3_takeSetEvening_92 : decode cX3_takeSetEvening 92 = .ok (.return_, 1) := by decide +kernel
def s_X3_takeSetEvening (h : AH) : Option (Unit × AH) := bd (s_X3_number h) fun x1 => if (gI h 1 4) = 2 then if x1 = (-1) then bd (s_X3_refuse 2 h) fun q10 => some ((), q10.2) else bd (gR h 1 2) fun t2 => if LAY t2 = (0, 8) then if x1 < (gI h t2 2) then bd (gR h 1 2) fun t3 => if LAY t3 = (0, 8) then bd (s_X9_at (some (t3 + 2)) x1 h) fun x4 => if x4 = 1 then bd (s_X3_refuse 4 h) fun q8 => some ((), q8.2) else bd (gR h 1 2) fun t5 => if LAY t5 = (0, 8) then bd (s_X9_put (some (t5 + 2)) x1 1 h) fun q6 => bd (s_X3_advance q6.2) fun q7 => some ((), q7.2) else none else none else bd (s_X3_refuse 3 h) fun q9 => some ((), q9.2) else none else bd (s_X3_refuse 1 h) fun q11 => some ((), q11.2)
theorem t_X3_takeSetEvening {g : GP} {X : MX} {mcR msR : Nat} (hF : gF g = true) (hX : Cx g RX3 cX3_takeSetEvening 3 mcR msR none [] X) {h hz : AH} {z : Unit} (e : s_X3_takeSetEvening h = some (z, hz)) : AR g X 0 0 (QQ g X NT false hz (.inl none) 0 0) h 0 [.ref 1, jk] [] := by
  unfold s_X3_takeSetEvening at e
  refine aw_aload_n (i := 0) hX rfl rfl d_X3_takeSetEvening_0 ?_
  obtain ⟨x1, f_476, e_476⟩ := bd_some e
  clear e
  refine aw_callV (b := 1) (av := []) (avr := []) hX (k_X3_number (cx_g hX) hF f_476) mi_X3_number rfl rfl w_234 w_235 w_236 (by decide) rfl (LAY_lt rfl (by decide)) rfl rfl (Nat.le_of_ble_eq_true rfl) (Nat.zero_le _) (Nat.zero_le _) d_X3_takeSetEvening_1 ?_
  refine aw_istore_n (i := 1) (lv2 := [.ref 1, .int x1]) hX rfl rfl rfl d_X3_takeSetEvening_4 ?_
  refine aw_aload_n (i := 0) hX rfl rfl d_X3_takeSetEvening_5 ?_
  refine ar_getI hX fg_RX3_66 rfl d_X3_takeSetEvening_6 ?_
  refine aw_iconst (v := 2) hX (by decide) d_X3_takeSetEvening_9 ?_
  refine aw_icmp_eq (t := 21) hX (by decide) d_X3_takeSetEvening_10 (fun c => ?_) (fun c => ?_)
  · rw [if_pos c] at e_476
    refine aw_iload_n (i := 1) hX rfl rfl d_X3_takeSetEvening_21 ?_
    refine aw_iconst (v := (-1)) hX (by decide) d_X3_takeSetEvening_22 ?_
    refine aw_icmp_ne (t := 34) hX (by decide) d_X3_takeSetEvening_23 (fun c => ?_) (fun c => ?_)
    · rw [if_neg c] at e_476
      refine aw_iload_n (i := 1) hX rfl rfl d_X3_takeSetEvening_34 ?_
      refine aw_aload_n (i := 0) hX rfl rfl d_X3_takeSetEvening_35 ?_
      obtain ⟨t2, f_477, e_477⟩ := bd_some e_476
      clear e_476
      obtain ⟨hlt2, e_478⟩ := if_some e_477
      clear e_477
      refine ar_getR hX fg_RX3_25 rfl f_477 d_X3_takeSetEvening_36 ?_
      refine ar_getI hX fg_RX3_130 (by assumption) d_X3_takeSetEvening_39 ?_
      refine aw_icmp_lt (t := 53) hX (by decide) d_X3_takeSetEvening_42 (fun c => ?_) (fun c => ?_)
      · rw [if_pos c] at e_478
        refine aw_aload_n (i := 0) hX rfl rfl d_X3_takeSetEvening_53 ?_
        obtain ⟨t3, f_479, e_479⟩ := bd_some e_478
        clear e_478
        obtain ⟨hlt3, e_480⟩ := if_some e_479
        clear e_479
        refine ar_getR hX fg_RX3_25 rfl f_479 d_X3_takeSetEvening_54 ?_
        refine ar_getF hX hF fg_RX3_190 (by assumption) d_X3_takeSetEvening_57 ?_
        refine aw_iload_n (i := 1) hX rfl rfl d_X3_takeSetEvening_60 ?_
        obtain ⟨x4, f_481, e_481⟩ := bd_some e_480
        clear e_480
        refine aw_callSN (av := [.ref (t3 + 2), .int x1]) (avr := [.int x1, .ref (t3 + 2)]) hX (k_X9_at (cx_g hX) hF f_481) mi_X9_at rfl rfl nx16 w_6 (by decide) (Nat.le_of_ble_eq_true rfl) (Nat.zero_le _) (Nat.zero_le _) d_X3_takeSetEvening_61 ?_
        refine aw_iconst (v := 1) hX (by decide) d_X3_takeSetEvening_64 ?_
        refine aw_icmp_ne (t := 76) hX (by decide) d_X3_takeSetEvening_65 (fun c => ?_) (fun c => ?_)
        · rw [if_neg c] at e_481
          refine aw_aload_n (i := 0) hX rfl rfl d_X3_takeSetEvening_76 ?_
          obtain ⟨t5, f_482, e_482⟩ := bd_some e_481
          clear e_481
          obtain ⟨hlt5, e_483⟩ := if_some e_482
          clear e_482
          refine ar_getR hX fg_RX3_25 rfl f_482 d_X3_takeSetEvening_77 ?_
          refine ar_getF hX hF fg_RX3_190 (by assumption) d_X3_takeSetEvening_80 ?_
          refine aw_iload_n (i := 1) hX rfl rfl d_X3_takeSetEvening_83 ?_
          refine aw_iconst (v := 1) hX (by decide) d_X3_takeSetEvening_84 ?_
          obtain ⟨q6, f_484, e_484⟩ := bd_some e_483
          clear e_483
          refine aw_callSN (av := [.ref (t5 + 2), .int x1, .int 1]) (avr := [.int 1, .int x1, .ref (t5 + 2)]) hX (k_X9_put (cx_g hX) hF f_484) mi_X9_put rfl rfl nx17 w_83 (by decide) (Nat.le_of_ble_eq_true rfl) (Nat.zero_le _) (Nat.zero_le _) d_X3_takeSetEvening_85 ?_
          refine aw_aload_n (i := 0) hX rfl rfl d_X3_takeSetEvening_88 ?_
          obtain ⟨q7, f_485, e_485⟩ := bd_some e_484
          clear e_484
          refine aw_callV (b := 1) (av := []) (avr := []) hX (k_X3_advance (cx_g hX) hF f_485) mi_X3_advance rfl rfl w_230 w_231 w_232 (by decide) rfl (LAY_lt rfl (by decide)) rfl rfl (Nat.le_of_ble_eq_true rfl) (Nat.zero_le _) (Nat.zero_le _) d_X3_takeSetEvening_89 ?_
          cases e_485
          exact aw_return hX (Nat.zero_le _) (Nat.zero_le _) d_X3_takeSetEvening_92
        · rw [if_pos c] at e_481
          refine aw_aload_n (i := 0) hX rfl rfl d_X3_takeSetEvening_68 ?_
          refine aw_iconst (v := 4) hX (by decide) d_X3_takeSetEvening_69 ?_
          obtain ⟨q8, f_486, e_486⟩ := bd_some e_481
          clear e_481
          refine aw_callV (b := 1) (av := [.int 4]) (avr := [.int 4]) hX (k_X3_refuse (cx_g hX) hF f_486) mi_X3_refuse rfl rfl w_226 w_227 w_228 (by decide) rfl (LAY_lt rfl (by decide)) rfl rfl (Nat.le_of_ble_eq_true rfl) (Nat.zero_le _) (Nat.zero_le _) d_X3_takeSetEvening_70 ?_
          refine aw_goto (t := 92) hX (by decide) d_X3_takeSetEvening_73 ?_
          cases e_486
          exact aw_return hX (Nat.zero_le _) (Nat.zero_le _) d_X3_takeSetEvening_92
      · rw [if_neg c] at e_478
        refine aw_aload_n (i := 0) hX rfl rfl d_X3_takeSetEvening_45 ?_
        refine aw_iconst (v := 3) hX (by decide) d_X3_takeSetEvening_46 ?_
        obtain ⟨q9, f_487, e_487⟩ := bd_some e_478
        clear e_478
        refine aw_callV (b := 1) (av := [.int 3]) (avr := [.int 3]) hX (k_X3_refuse (cx_g hX) hF f_487) mi_X3_refuse rfl rfl w_226 w_227 w_228 (by decide) rfl (LAY_lt rfl (by decide)) rfl rfl (Nat.le_of_ble_eq_true rfl) (Nat.zero_le _) (Nat.zero_le _) d_X3_takeSetEvening_47 ?_
        refine aw_goto (t := 92) hX (by decide) d_X3_takeSetEvening_50 ?_
        cases e_487
        exact aw_return hX (Nat.zero_le _) (Nat.zero_le _) d_X3_takeSetEvening_92
    · rw [if_pos c] at e_476
      refine aw_aload_n (i := 0) hX rfl rfl d_X3_takeSetEvening_26 ?_
      refine aw_iconst (v := 2) hX (by decide) d_X3_takeSetEvening_27 ?_
      obtain ⟨q10, f_488, e_488⟩ := bd_some e_476
      clear e_476
      refine aw_callV (b := 1) (av := [.int 2]) (avr := [.int 2]) hX (k_X3_refuse (cx_g hX) hF f_488) mi_X3_refuse rfl rfl w_226 w_227 w_228 (by decide) rfl (LAY_lt rfl (by decide)) rfl rfl (Nat.le_of_ble_eq_true rfl) (Nat.zero_le _) (Nat.zero_le _) d_X3_takeSetEvening_28 ?_
      refine aw_goto (t := 92) hX (by decide) d_X3_takeSetEvening_31 ?_
      cases e_488
      exact aw_return hX (Nat.zero_le _) (Nat.zero_le _) d_X3_takeSetEvening_92
  · rw [if_neg c] at e_476
    refine aw_aload_n (i := 0) hX rfl rfl d_X3_takeSetEvening_13 ?_
    refine aw_iconst (v := 1) hX (by decide) d_X3_takeSetEvening_14 ?_
    obtain ⟨q11, f_489, e_489⟩ := bd_some e_476
    clear e_476
    refine aw_callV (b := 1) (av := [.int 1]) (avr := [.int 1]) hX (k_X3_refuse (cx_g hX) hF f_489) mi_X3_refuse rfl rfl w_226 w_227 w_228 (by decide) rfl (LAY_lt rfl (by decide)) rfl rfl (Nat.le_of_ble_eq_true rfl) (Nat.zero_le _) (Nat.zero_le _) d_X3_takeSetEvening_15 ?_
    refine aw_goto (t := 92) hX (by decide) d_X3_takeSetEvening_18 ?_
    cases e_489
    exact aw_return hX (Nat.zero_le _) (Nat.zero_le _) d_X3_takeSetEvening_92
theorem k_X3_takeSetEvening {g : GP} (hg : g.1.stackTraces = false) (hF : gF g = true) {h hz : AH} {z : Unit} (e : s_X3_takeSetEvening h = some (z, hz)) : Ctr g yX3_takeSetEvening (wsY yX3_takeSetEvening cX3_takeSetEvening 2 none) 3 0 0 [.ref 1] NT false h none NT false hz := ctr_of (lv0 := [.ref 1, jk]) rfl rfl (by decide) hg trivial (fun X hX hn => t_X3_takeSetEvening hF hX e)
theorem d_X3_tellOnce_0 : decode cX3_tellOnce 0 = .ok (.aload_n 0, 1) := by decide +kernel
theorem d_X3_tellOnce_1 : decode cX3_tellOnce 1 = .ok (.getfield 42, 3) := by decide +kernel
theorem d_X3_tellOnce_4 : decode cX3_tellOnce 4 = .ok (.iload_n 1, 1) := by decide +kernel
theorem d_X3_tellOnce_5 : decode cX3_tellOnce 5 = .ok (.iand, 1) := by decide +kernel
theorem d_X3_tellOnce_6 : decode cX3_tellOnce 6 = .ok (.ifCond .eq 8, 3) := by decide +kernel
theorem d_X3_tellOnce_9 : decode cX3_tellOnce 9 = .ok (.aload_n 0, 1) := by decide +kernel
theorem d_X3_tellOnce_10 : decode cX3_tellOnce 10 = .ok (.iconst 5, 1) := by decide +kernel
theorem d_X3_tellOnce_11 : decode cX3_tellOnce 11 = .ok (.invokevirtual 124, 3) := by decide +kernel
theorem d_X3_tellOnce_14 : decode cX3_tellOnce 14 = .ok (.aload_n 0, 1) := by decide +kernel
theorem d_X3_tellOnce_15 : decode cX3_tellOnce 15 = .ok (.dup, 1) := by decide +kernel
theorem d_X3_tellOnce_16 : decode cX3_tellOnce 16 = .ok (.getfield 42, 3) := by decide +kernel
theorem d_X3_tellOnce_19 : decode cX3_tellOnce 19 = .ok (.iload_n 1, 1) := by decide +kernel
theorem d_X3_tellOnce_20 : decode cX3_tellOnce 20 = .ok (.ior, 1) := by decide +kernel
theorem d_X3_tellOnce_21 : decode cX3_tellOnce 21 = .ok (.putfield 42, 3) := by decide +kernel
theorem d_X3_tellOnce_24 : decode cX3_tellOnce 24 = .ok (.aload_n 0, 1) := by decide +kernel
theorem d_X3_tellOnce_25 : decode cX3_tellOnce 25 = .ok (.invokevirtual 63, 3) := by decide +kernel
theorem d_X3_tellOnce_28 : decode cX3_tellOnce 28 = .ok (.return_, 1) := by decide +kernel
def j_X3_tellOnce_14 (v1 : Int32) (h : AH) : Option (Unit × AH) := bd (s_X3_advance (sI h 1 7 ((gI h 1 7) ||| v1))) fun q1 => some ((), q1.2)
theorem tj_X3_tellOnce_14 {g : GP} {X : MX} {mcR msR : Nat} (hF : gF g = true) (hX : Cx g RX3 cX3_tellOnce 3 mcR msR none [] X) {v1 : Int32} {h hz : AH} {z : Unit} (e : j_X3_tellOnce_14 v1 h = some (z, hz)) : AR g X 0 0 (QQ g X NT false hz (.inl none) 0 0) h 14 [.ref 1, .int v1] [] := by
  unfold j_X3_tellOnce_14 at e
  refine aw_aload_n (i := 0) hX rfl rfl d_X3_tellOnce_14 ?_
  refine aw_dup hX rfl d_X3_tellOnce_15 ?_
  refine ar_getI hX fg_RX3_42 rfl d_X3_tellOnce_16 ?_
  refine aw_iload_n (i := 1) hX rfl rfl d_X3_tellOnce_19 ?_
  refine aw_ior hX d_X3_tellOnce_20 ?_
  refine ar_putI hX fp_RX3_42 rfl d_X3_tellOnce_21 ?_
  refine aw_aload_n (i := 0) hX rfl rfl d_X3_tellOnce_24 ?_
  obtain ⟨q1, f_490, e_490⟩ := bd_some e
  clear e
  refine aw_callV (b := 1) (av := []) (avr := []) hX (k_X3_advance (cx_g hX) hF f_490) mi_X3_advance rfl rfl w_230 w_231 w_232 (by decide) rfl (LAY_lt rfl (by decide)) rfl rfl (Nat.le_of_ble_eq_true rfl) (Nat.zero_le _) (Nat.zero_le _) d_X3_tellOnce_25 ?_
  cases e_490
  exact aw_return hX (Nat.zero_le _) (Nat.zero_le _) d_X3_tellOnce_28
def s_X3_tellOnce (a0 : Int32) (h : AH) : Option (Unit × AH) := if ((gI h 1 7) &&& a0) = 0 then j_X3_tellOnce_14 a0 h else bd (s_X3_refuse 5 h) fun q2 => j_X3_tellOnce_14 a0 q2.2
theorem t_X3_tellOnce {g : GP} {X : MX} {mcR msR : Nat} (hF : gF g = true) (hX : Cx g RX3 cX3_tellOnce 3 mcR msR none [] X) {a0 : Int32} {h hz : AH} {z : Unit} (e : s_X3_tellOnce a0 h = some (z, hz)) : AR g X 0 0 (QQ g X NT false hz (.inl none) 0 0) h 0 [.ref 1, .int a0] [] := by
  unfold s_X3_tellOnce at e
  refine aw_aload_n (i := 0) hX rfl rfl d_X3_tellOnce_0 ?_
  refine ar_getI hX fg_RX3_42 rfl d_X3_tellOnce_1 ?_
  refine aw_iload_n (i := 1) hX rfl rfl d_X3_tellOnce_4 ?_
  refine aw_iand hX d_X3_tellOnce_5 ?_
  refine aw_if_eq (t := 14) hX (by decide) d_X3_tellOnce_6 (fun c => ?_) (fun c => ?_)
  · rw [if_pos c] at e
    exact tj_X3_tellOnce_14 hF hX e
  · rw [if_neg c] at e
    refine aw_aload_n (i := 0) hX rfl rfl d_X3_tellOnce_9 ?_
    refine aw_iconst (v := 5) hX (by decide) d_X3_tellOnce_10 ?_
    obtain ⟨q2, f_491, e_491⟩ := bd_some e
    clear e
    refine aw_callV (b := 1) (av := [.int 5]) (avr := [.int 5]) hX (k_X3_refuse (cx_g hX) hF f_491) mi_X3_refuse rfl rfl w_226 w_227 w_228 (by decide) rfl (LAY_lt rfl (by decide)) rfl rfl (Nat.le_of_ble_eq_true rfl) (Nat.zero_le _) (Nat.zero_le _) d_X3_tellOnce_11 ?_
    exact tj_X3_tellOnce_14 hF hX e_491
theorem k_X3_tellOnce {g : GP} (hg : g.1.stackTraces = false) (hF : gF g = true) {a0 : Int32} {h hz : AH} {z : Unit} (e : s_X3_tellOnce a0 h = some (z, hz)) : Ctr g yX3_tellOnce (wsY yX3_tellOnce cX3_tellOnce 2 none) 3 0 0 [.ref 1, .int a0] NT false h none NT false hz := ctr_of (lv0 := [.ref 1, .int a0]) rfl rfl (by decide) hg trivial (fun X hX hn => t_X3_tellOnce hF hX e)
theorem d_X3_readSet_0 : decode cX3_readSet 0 = .ok (.aload_n 0, 1) := by decide +kernel
theorem d_X3_readSet_1 : decode cX3_readSet 1 = .ok (.bipush 8, 2) := by decide +kernel
theorem d_X3_readSet_3 : decode cX3_readSet 3 = .ok (.invokevirtual 78, 3) := by decide +kernel
theorem d_X3_readSet_6 : decode cX3_readSet 6 = .ok (.aload_n 0, 1) := by decide +kernel
theorem d_X3_readSet_7 : decode cX3_readSet 7 = .ok (.getfield 25, 3) := by decide +kernel
theorem d_X3_readSet_10 : decode cX3_readSet 10 = .ok (.getfield 109, 3) := by decide +kernel
theorem d_X3_readSet_13 : decode cX3_readSet 13 = .ok (.iconst 3, 1) := by decide +kernel
theorem d_X3_readSet_14 : decode cX3_readSet 14 = .ok (.aload_n 0, 1) := by decide +kernel
theorem d_X3_readSet_15 : decode cX3_readSet 15 = .ok (.iconst 0, 1) := by decide +kernel
theorem d_X3_readSet_16 : decode cX3_readSet 16 = .ok (.sipush 9999, 3) := by decide +kernel
theorem d_X3_readSet_19 : decode cX3_readSet 19 = .ok (.invokevirtual 82, 3) := by decide +kernel
theorem d_X3_readSet_22 : decode cX3_readSet 22 = .ok (.invokestatic 59, 3) := by decide +kernel
theorem d_X3_readSet_25 : decode cX3_readSet 25 = .ok (.aload_n 0, 1) := by decide +kernel
theorem d_X3_readSet_26 : decode cX3_readSet 26 = .ok (.ldc 181, 2) := by decide +kernel
theorem d_X3_readSet_28 : decode cX3_readSet 28 = .ok (.invokevirtual 156, 3) := by decide +kernel
theorem d_X3_readSet_31 : decode cX3_readSet 31 = .ok (.iconst 0, 1) := by decide +kernel
theorem d_X3_readSet_32 : decode cX3_readSet 32 = .ok (.istore_n 1, 1) := by decide +kernel
theorem d_X3_readSet_33 : decode cX3_readSet 33 = .ok (.iload_n 1, 1) := by decide +kernel
theorem d_X3_readSet_34 : decode cX3_readSet 34 = .ok (.bipush 16, 2) := by decide +kernel
theorem d_X3_readSet_36 : decode cX3_readSet 36 = .ok (.if_icmp .gt 25, 3) := by decide +kernel
theorem d_X3_readSet_39 : decode cX3_readSet 39 = .ok (.iload_n 1, 1) := by decide +kernel
theorem d_X3_readSet_40 : decode cX3_readSet 40 = .ok (.ifCond .eq 11, 3) := by decide +kernel
theorem d_X3_readSet_43 : decode cX3_readSet 43 = .ok (.aload_n 0, 1) := by decide +kernel
theorem d_X3_readSet_44 : decode cX3_readSet 44 = .ok (.getfield 66, 3) := by decide +kernel
theorem d_X3_readSet_47 : decode cX3_readSet 47 = .ok (.iconst 2, 1) := by decide +kernel
theorem d_X3_readSet_48 : decode cX3_readSet 48 = .ok (.if_icmp .ne 13, 3) := by decide +kernel
theorem d_X3_readSet_51 : decode cX3_readSet 51 = .ok (.aload_n 0, 1) := by decide +kernel
theorem d_X3_readSet_52 : decode cX3_readSet 52 = .ok (.invokevirtual 183, 3) := by decide +kernel
theorem d_X3_readSet_55 : decode cX3_readSet 55 = .ok (.iinc 1 1, 3) := by decide +kernel
theorem d_X3_readSet_58 : decode cX3_readSet 58 = .ok (.goto (-25), 3) := by decide +kernel
theorem d_X3_readSet_61 : decode cX3_readSet 61 = .ok (.return_, 1) := by decide +kernel
def j_X3_readSet_51_33 (v1 : Int32) (h : AH) : Option ((Int32 ⊕ Unit) × AH) := bd (s_X3_takeSetEvening h) fun q6 => some (.inl (v1 + 1), q6.2)
theorem tj_X3_readSet_51_33 {g : GP} {X : MX} {mcR msR : Nat} (hF : gF g = true) (hX : Cx g RX3 cX3_readSet 7 mcR msR none [] X) {Q : State → Prop} {v1 : Int32} {h hz : AH} {z : (Int32 ⊕ Unit)} (e : j_X3_readSet_51_33 v1 h = some (z, hz)) (kI : ∀ (s2 : Int32), z = .inl s2 → AR g X 0 0 Q hz 33 [.ref 1, .int s2] []) (kE0 : ∀ (yy : Unit) (y0 : Value) (y1 : Value), z = .inr yy → AR g X 0 0 Q hz 61 [y0, y1] []) : AR g X 0 0 Q h 51 [.ref 1, .int v1] [] := by
  unfold j_X3_readSet_51_33 at e
  refine aw_aload_n (i := 0) hX rfl rfl d_X3_readSet_51 ?_
  obtain ⟨q6, f_492, e_492⟩ := bd_some e
  clear e
  refine aw_callV (b := 1) (av := []) (avr := []) hX (k_X3_takeSetEvening (cx_g hX) hF f_492) mi_X3_takeSetEvening rfl rfl w_274 w_275 w_276 (by decide) rfl (LAY_lt rfl (by decide)) rfl rfl (Nat.le_of_ble_eq_true rfl) (Nat.zero_le _) (Nat.zero_le _) d_X3_readSet_52 ?_
  refine aw_iinc (i := 1) (lv2 := [.ref 1, .int (v1 + 1)]) hX rfl rfl rfl rfl d_X3_readSet_55 ?_
  refine aw_goto (t := 33) hX (by decide) d_X3_readSet_58 ?_
  cases e_492
  exact kI (v1 + 1)  rfl
def l_X3_readSet_33 (s : Int32) (h : AH) : Option ((Int32 ⊕ Unit) × AH) := if 16 < s then some (.inr (), h) else if s = 0 then j_X3_readSet_51_33 s h else if (gI h 1 4) = 2 then j_X3_readSet_51_33 s h else some (.inr (), h)
theorem tb_X3_readSet_33 {g : GP} {X : MX} {mcR msR : Nat} (hF : gF g = true) (hX : Cx g RX3 cX3_readSet 7 mcR msR none [] X) {Q : State → Prop} {s : Int32} {h hz : AH} {z : (Int32 ⊕ Unit)} (e : l_X3_readSet_33 s h = some (z, hz)) (kI : ∀ (s2 : Int32), z = .inl s2 → AR g X 0 0 Q hz 33 [.ref 1, .int s2] []) (kE0 : ∀ (yy : Unit) (y0 : Value) (y1 : Value), z = .inr yy → AR g X 0 0 Q hz 61 [y0, y1] []) : AR g X 0 0 Q h 33 [.ref 1, .int s] [] := by
  unfold l_X3_readSet_33 at e
  refine aw_iload_n (i := 1) hX rfl rfl d_X3_readSet_33 ?_
  refine aw_bipush (v := 16) hX (by decide) d_X3_readSet_34 ?_
  refine aw_icmp_gt (t := 61) hX (by decide) d_X3_readSet_36 (fun c => ?_) (fun c => ?_)
  · rw [if_pos c] at e
    cases e
    exact kE0 () _ _ rfl
  · rw [if_neg c] at e
    refine aw_iload_n (i := 1) hX rfl rfl d_X3_readSet_39 ?_
    refine aw_if_eq (t := 51) hX (by decide) d_X3_readSet_40 (fun c => ?_) (fun c => ?_)
    · rw [if_pos c] at e
      exact tj_X3_readSet_51_33 hF hX e kI kE0
    · rw [if_neg c] at e
      refine aw_aload_n (i := 0) hX rfl rfl d_X3_readSet_43 ?_
      refine ar_getI hX fg_RX3_66 rfl d_X3_readSet_44 ?_
      refine aw_iconst (v := 2) hX (by decide) d_X3_readSet_47 ?_
      refine aw_icmp_ne (t := 61) hX (by decide) d_X3_readSet_48 (fun c => ?_) (fun c => ?_)
      · rw [if_neg c] at e
        cases e
        exact kE0 () _ _ rfl
      · rw [if_pos c] at e
        exact tj_X3_readSet_51_33 hF hX e kI kE0
theorem ti_X3_readSet_33 {g : GP} {X : MX} {mcR msR : Nat} (hF : gF g = true) (hX : Cx g RX3 cX3_readSet 7 mcR msR none [] X) {Q : State → Prop} {y : Unit} {hz : AH} (kE0 : ∀ (y_0 : Value) (y_1 : Value), AR g X 0 0 Q hz 61 [y_0, y_1] []) (n : Nat) : ∀ (s : Int32) (h : AH), lpH (l_X3_readSet_33) n s h = some (y, hz) → AR g X 0 0 Q h 33 [.ref 1, .int s] [] := by
  induction n with
  | zero => intro s h e; cases e
  | succ n ih =>
    intro s h e
    obtain ⟨x, h1, e1, e2⟩ := lpH_succ e
    rcases e2 with ⟨s2, rfl, e3⟩ | ⟨rfl, rfl⟩
    · exact tb_X3_readSet_33 hF hX e1 (fun s3  hs => by cases hs; exact ih _  _ e3) (fun yy x0 x1 hy => by cases hy)
    · exact tb_X3_readSet_33 hF hX e1 (fun s3  hs => by cases hs) (fun yy x0 x1 hy => by cases hy; exact kE0 x0 x1)
theorem t_X3_readSet_33 {g : GP} {X : MX} {mcR msR : Nat} (hF : gF g = true) (hX : Cx g RX3 cX3_readSet 7 mcR msR none [] X) {Q : State → Prop} {s : Int32} {h hz : AH} {n : Nat} {y : Unit} (e : lpH (l_X3_readSet_33) n s h = some (y, hz)) (kE0 : ∀ (y_0 : Value) (y_1 : Value), AR g X 0 0 Q hz 61 [y_0, y_1] []) : AR g X 0 0 Q h 33 [.ref 1, .int s] [] := ti_X3_readSet_33 hF hX kE0 n _  _ e
def s_X3_readSet (h : AH) : Option (Unit × AH) := bd (s_X3_tellOnce 8 h) fun q1 => bd (gR q1.2 1 2) fun t2 => if LAY t2 = (0, 8) then bd (s_X3_takeNumber 0 9999 q1.2) fun q3 => bd (s_X9_put (some (t2 + 7)) 3 q3.1 q3.2) fun q4 => bd (s_X3_needWord 17 q4.2) fun q5 => bd (lpH (l_X3_readSet_33) FU 0 q5.2) fun y7 => some ((), y7.2) else none
theorem t_X3_readSet {g : GP} {X : MX} {mcR msR : Nat} (hF : gF g = true) (hX : Cx g RX3 cX3_readSet 7 mcR msR none [] X) {h hz : AH} {z : Unit} (e : s_X3_readSet h = some (z, hz)) : AR g X 0 0 (QQ g X NT false hz (.inl none) 0 0) h 0 [.ref 1, jk] [] := by
  unfold s_X3_readSet at e
  refine aw_aload_n (i := 0) hX rfl rfl d_X3_readSet_0 ?_
  refine aw_bipush (v := 8) hX (by decide) d_X3_readSet_1 ?_
  obtain ⟨q1, f_493, e_493⟩ := bd_some e
  clear e
  refine aw_callV (b := 1) (av := [.int 8]) (avr := [.int 8]) hX (k_X3_tellOnce (cx_g hX) hF f_493) mi_X3_tellOnce rfl rfl w_269 w_270 w_271 (by decide) rfl (LAY_lt rfl (by decide)) rfl rfl (Nat.le_of_ble_eq_true rfl) (Nat.zero_le _) (Nat.zero_le _) d_X3_readSet_3 ?_
  refine aw_aload_n (i := 0) hX rfl rfl d_X3_readSet_6 ?_
  obtain ⟨t2, f_494, e_494⟩ := bd_some e_493
  clear e_493
  obtain ⟨hlt2, e_495⟩ := if_some e_494
  clear e_494
  refine ar_getR hX fg_RX3_25 rfl f_494 d_X3_readSet_7 ?_
  refine ar_getF hX hF fg_RX3_109 (by assumption) d_X3_readSet_10 ?_
  refine aw_iconst (v := 3) hX (by decide) d_X3_readSet_13 ?_
  refine aw_aload_n (i := 0) hX rfl rfl d_X3_readSet_14 ?_
  refine aw_iconst (v := 0) hX (by decide) d_X3_readSet_15 ?_
  refine aw_sipush (v := 9999) hX (by decide) d_X3_readSet_16 ?_
  obtain ⟨q3, f_496, e_496⟩ := bd_some e_495
  clear e_495
  refine aw_callV (b := 1) (av := [.int 0, .int 9999]) (avr := [.int 9999, .int 0]) hX (k_X3_takeNumber (cx_g hX) hF f_496) mi_X3_takeNumber rfl rfl w_249 w_250 w_251 (by decide) rfl (LAY_lt rfl (by decide)) rfl rfl (Nat.le_of_ble_eq_true rfl) (Nat.zero_le _) (Nat.zero_le _) d_X3_readSet_19 ?_
  obtain ⟨q4, f_497, e_497⟩ := bd_some e_496
  clear e_496
  refine aw_callSN (av := [.ref (t2 + 7), .int 3, .int q3.1]) (avr := [.int q3.1, .int 3, .ref (t2 + 7)]) hX (k_X9_put (cx_g hX) hF f_497) mi_X9_put rfl rfl nx17 w_83 (by decide) (Nat.le_of_ble_eq_true rfl) (Nat.zero_le _) (Nat.zero_le _) d_X3_readSet_22 ?_
  refine aw_aload_n (i := 0) hX rfl rfl d_X3_readSet_25 ?_
  refine ar_ldcS (i := 17) hX rfl (by decide) rfl d_X3_readSet_26 ?_
  obtain ⟨q5, f_498, e_498⟩ := bd_some e_497
  clear e_497
  refine aw_callV (b := 1) (av := [.ref (100000 + 17)]) (avr := [.ref (100000 + 17)]) hX (k_X3_needWord (cx_g hX) hF f_498) mi_X3_needWord rfl rfl w_260 w_261 w_262 (by decide) rfl (LAY_lt rfl (by decide)) rfl rfl (Nat.le_of_ble_eq_true rfl) (Nat.zero_le _) (Nat.zero_le _) d_X3_readSet_28 ?_
  refine aw_iconst (v := 0) hX (by decide) d_X3_readSet_31 ?_
  refine aw_istore_n (i := 1) (lv2 := [.ref 1, .int 0]) hX rfl rfl rfl d_X3_readSet_32 ?_
  obtain ⟨y7, f_499, e_499⟩ := bd_some e_498
  clear e_498
  refine t_X3_readSet_33 hF hX f_499 (fun d8_0 d8_1 => ?_)
  cases e_499
  exact aw_return hX (Nat.zero_le _) (Nat.zero_le _) d_X3_readSet_61
theorem k_X3_readSet {g : GP} (hg : g.1.stackTraces = false) (hF : gF g = true) {h hz : AH} {z : Unit} (e : s_X3_readSet h = some (z, hz)) : Ctr g yX3_readSet (wsY yX3_readSet cX3_readSet 2 none) 7 0 0 [.ref 1] NT false h none NT false hz := ctr_of (lv0 := [.ref 1, jk]) rfl rfl (by decide) hg trivial (fun X hX hn => t_X3_readSet hF hX e)
theorem d_X3_readLine_0 : decode cX3_readLine 0 = .ok (.aload_n 0, 1) := by decide +kernel
theorem d_X3_readLine_1 : decode cX3_readLine 1 = .ok (.ldc 72, 2) := by decide +kernel
theorem d_X3_readLine_3 : decode cX3_readLine 3 = .ok (.invokevirtual 74, 3) := by decide +kernel
theorem d_X3_readLine_6 : decode cX3_readLine 6 = .ok (.ifCond .eq 27, 3) := by decide +kernel
theorem d_X3_readLine_9 : decode cX3_readLine 9 = .ok (.aload_n 0, 1) := by decide +kernel
theorem d_X3_readLine_10 : decode cX3_readLine 10 = .ok (.bipush 32, 2) := by decide +kernel
theorem d_X3_readLine_12 : decode cX3_readLine 12 = .ok (.invokevirtual 78, 3) := by decide +kernel
theorem d_X3_readLine_15 : decode cX3_readLine 15 = .ok (.aload_n 0, 1) := by decide +kernel
theorem d_X3_readLine_16 : decode cX3_readLine 16 = .ok (.getfield 25, 3) := by decide +kernel
theorem d_X3_readLine_19 : decode cX3_readLine 19 = .ok (.aload_n 0, 1) := by decide +kernel
theorem d_X3_readLine_20 : decode cX3_readLine 20 = .ok (.iconst 1, 1) := by decide +kernel
theorem d_X3_readLine_21 : decode cX3_readLine 21 = .ok (.sipush 400, 3) := by decide +kernel
theorem d_X3_readLine_24 : decode cX3_readLine 24 = .ok (.invokevirtual 82, 3) := by decide +kernel
theorem d_X3_readLine_27 : decode cX3_readLine 27 = .ok (.putfield 86, 3) := by decide +kernel
theorem d_X3_readLine_30 : decode cX3_readLine 30 = .ok (.goto 228, 3) := by decide +kernel
theorem d_X3_readLine_33 : decode cX3_readLine 33 = .ok (.aload_n 0, 1) := by decide +kernel
theorem d_X3_readLine_34 : decode cX3_readLine 34 = .ok (.ldc 88, 2) := by decide +kernel
theorem d_X3_readLine_36 : decode cX3_readLine 36 = .ok (.invokevirtual 74, 3) := by decide +kernel
theorem d_X3_readLine_39 : decode cX3_readLine 39 = .ok (.ifCond .eq 27, 3) := by decide +kernel
theorem d_X3_readLine_42 : decode cX3_readLine 42 = .ok (.aload_n 0, 1) := by decide +kernel
theorem d_X3_readLine_43 : decode cX3_readLine 43 = .ok (.bipush 64, 2) := by decide +kernel
theorem d_X3_readLine_45 : decode cX3_readLine 45 = .ok (.invokevirtual 78, 3) := by decide +kernel
theorem d_X3_readLine_48 : decode cX3_readLine 48 = .ok (.aload_n 0, 1) := by decide +kernel
theorem d_X3_readLine_49 : decode cX3_readLine 49 = .ok (.getfield 25, 3) := by decide +kernel
theorem d_X3_readLine_52 : decode cX3_readLine 52 = .ok (.aload_n 0, 1) := by decide +kernel
theorem d_X3_readLine_53 : decode cX3_readLine 53 = .ok (.iconst 0, 1) := by decide +kernel
theorem d_X3_readLine_54 : decode cX3_readLine 54 = .ok (.sipush 9999, 3) := by decide +kernel
theorem d_X3_readLine_57 : decode cX3_readLine 57 = .ok (.invokevirtual 82, 3) := by decide +kernel
theorem d_X3_readLine_60 : decode cX3_readLine 60 = .ok (.putfield 90, 3) := by decide +kernel
theorem d_X3_readLine_63 : decode cX3_readLine 63 = .ok (.goto 195, 3) := by decide +kernel
theorem d_X3_readLine_66 : decode cX3_readLine 66 = .ok (.aload_n 0, 1) := by decide +kernel
theorem d_X3_readLine_67 : decode cX3_readLine 67 = .ok (.ldc 92, 2) := by decide +kernel
theorem d_X3_readLine_69 : decode cX3_readLine 69 = .ok (.invokevirtual 74, 3) := by decide +kernel
theorem d_X3_readLine_72 : decode cX3_readLine 72 = .ok (.ifCond .eq 10, 3) := by decide +kernel
theorem d_X3_readLine_75 : decode cX3_readLine 75 = .ok (.aload_n 0, 1) := by decide +kernel
theorem d_X3_readLine_76 : decode cX3_readLine 76 = .ok (.invokevirtual 94, 3) := by decide +kernel
theorem d_X3_readLine_79 : decode cX3_readLine 79 = .ok (.goto 179, 3) := by decide +kernel
theorem d_X3_readLine_82 : decode cX3_readLine 82 = .ok (.aload_n 0, 1) := by decide +kernel
theorem d_X3_readLine_83 : decode cX3_readLine 83 = .ok (.ldc 97, 2) := by decide +kernel
theorem d_X3_readLine_85 : decode cX3_readLine 85 = .ok (.invokevirtual 74, 3) := by decide +kernel
theorem d_X3_readLine_88 : decode cX3_readLine 88 = .ok (.ifCond .eq 10, 3) := by decide +kernel
theorem d_X3_readLine_91 : decode cX3_readLine 91 = .ok (.aload_n 0, 1) := by decide +kernel
theorem d_X3_readLine_92 : decode cX3_readLine 92 = .ok (.invokevirtual 99, 3) := by decide +kernel
theorem d_X3_readLine_95 : decode cX3_readLine 95 = .ok (.goto 163, 3) := by decide +kernel
theorem d_X3_readLine_98 : decode cX3_readLine 98 = .ok (.aload_n 0, 1) := by decide +kernel
theorem d_X3_readLine_99 : decode cX3_readLine 99 = .ok (.ldc 102, 2) := by decide +kernel
theorem d_X3_readLine_101 : decode cX3_readLine 101 = .ok (.invokevirtual 74, 3) := by decide +kernel
theorem d_X3_readLine_104 : decode cX3_readLine 104 = .ok (.ifCond .eq 10, 3) := by decide +kernel
theorem d_X3_readLine_107 : decode cX3_readLine 107 = .ok (.aload_n 0, 1) := by decide +kernel
theorem d_X3_readLine_108 : decode cX3_readLine 108 = .ok (.invokevirtual 104, 3) := by decide +kernel
theorem d_X3_readLine_111 : decode cX3_readLine 111 = .ok (.goto 147, 3) := by decide +kernel
theorem d_X3_readLine_114 : decode cX3_readLine 114 = .ok (.aload_n 0, 1) := by decide +kernel
theorem d_X3_readLine_115 : decode cX3_readLine 115 = .ok (.ldc 107, 2) := by decide +kernel
theorem d_X3_readLine_117 : decode cX3_readLine 117 = .ok (.invokevirtual 74, 3) := by decide +kernel
theorem d_X3_readLine_120 : decode cX3_readLine 120 = .ok (.ifCond .eq 30, 3) := by decide +kernel
theorem d_X3_readLine_123 : decode cX3_readLine 123 = .ok (.aload_n 0, 1) := by decide +kernel
theorem d_X3_readLine_124 : decode cX3_readLine 124 = .ok (.iconst 2, 1) := by decide +kernel
theorem d_X3_readLine_125 : decode cX3_readLine 125 = .ok (.invokevirtual 78, 3) := by decide +kernel
theorem d_X3_readLine_128 : decode cX3_readLine 128 = .ok (.aload_n 0, 1) := by decide +kernel
theorem d_X3_readLine_129 : decode cX3_readLine 129 = .ok (.getfield 25, 3) := by decide +kernel
theorem d_X3_readLine_132 : decode cX3_readLine 132 = .ok (.getfield 109, 3) := by decide +kernel
theorem d_X3_readLine_135 : decode cX3_readLine 135 = .ok (.iconst 1, 1) := by decide +kernel
theorem d_X3_readLine_136 : decode cX3_readLine 136 = .ok (.aload_n 0, 1) := by decide +kernel
theorem d_X3_readLine_137 : decode cX3_readLine 137 = .ok (.iconst 0, 1) := by decide +kernel
theorem d_X3_readLine_138 : decode cX3_readLine 138 = .ok (.sipush 9999, 3) := by decide +kernel
theorem d_X3_readLine_141 : decode cX3_readLine 141 = .ok (.invokevirtual 82, 3) := by decide +kernel
theorem d_X3_readLine_144 : decode cX3_readLine 144 = .ok (.invokestatic 59, 3) := by decide +kernel
theorem d_X3_readLine_147 : decode cX3_readLine 147 = .ok (.goto 111, 3) := by decide +kernel
theorem d_X3_readLine_150 : decode cX3_readLine 150 = .ok (.aload_n 0, 1) := by decide +kernel
theorem d_X3_readLine_151 : decode cX3_readLine 151 = .ok (.ldc 112, 2) := by decide +kernel
theorem d_X3_readLine_153 : decode cX3_readLine 153 = .ok (.invokevirtual 74, 3) := by decide +kernel
theorem d_X3_readLine_156 : decode cX3_readLine 156 = .ok (.ifCond .eq 44, 3) := by decide +kernel
theorem d_X3_readLine_159 : decode cX3_readLine 159 = .ok (.aload_n 0, 1) := by decide +kernel
theorem d_X3_readLine_160 : decode cX3_readLine 160 = .ok (.iconst 4, 1) := by decide +kernel
theorem d_X3_readLine_161 : decode cX3_readLine 161 = .ok (.invokevirtual 78, 3) := by decide +kernel
theorem d_X3_readLine_164 : decode cX3_readLine 164 = .ok (.aload_n 0, 1) := by decide +kernel
theorem d_X3_readLine_165 : decode cX3_readLine 165 = .ok (.getfield 25, 3) := by decide +kernel
theorem d_X3_readLine_168 : decode cX3_readLine 168 = .ok (.aload_n 0, 1) := by decide +kernel
theorem d_X3_readLine_169 : decode cX3_readLine 169 = .ok (.iconst 1, 1) := by decide +kernel
theorem d_X3_readLine_170 : decode cX3_readLine 170 = .ok (.bipush 12, 2) := by decide +kernel
theorem d_X3_readLine_172 : decode cX3_readLine 172 = .ok (.invokevirtual 82, 3) := by decide +kernel
theorem d_X3_readLine_175 : decode cX3_readLine 175 = .ok (.putfield 114, 3) := by decide +kernel
theorem d_X3_readLine_178 : decode cX3_readLine 178 = .ok (.aload_n 0, 1) := by decide +kernel
theorem d_X3_readLine_179 : decode cX3_readLine 179 = .ok (.getfield 25, 3) := by decide +kernel
theorem d_X3_readLine_182 : decode cX3_readLine 182 = .ok (.getfield 109, 3) := by decide +kernel
theorem d_X3_readLine_185 : decode cX3_readLine 185 = .ok (.iconst 2, 1) := by decide +kernel
theorem d_X3_readLine_186 : decode cX3_readLine 186 = .ok (.aload_n 0, 1) := by decide +kernel
theorem d_X3_readLine_187 : decode cX3_readLine 187 = .ok (.iconst 0, 1) := by decide +kernel
theorem d_X3_readLine_188 : decode cX3_readLine 188 = .ok (.sipush 9999, 3) := by decide +kernel
theorem d_X3_readLine_191 : decode cX3_readLine 191 = .ok (.invokevirtual 82, 3) := by decide +kernel
theorem d_X3_readLine_194 : decode cX3_readLine 194 = .ok (.invokestatic 59, 3) := by decide +kernel
theorem d_X3_readLine_197 : decode cX3_readLine 197 = .ok (.goto 61, 3) := by decide +kernel
theorem d_X3_readLine_200 : decode cX3_readLine 200 = .ok (.aload_n 0, 1) := by decide +kernel
theorem d_X3_readLine_201 : decode cX3_readLine 201 = .ok (.ldc 117, 2) := by decide +kernel
theorem d_X3_readLine_203 : decode cX3_readLine 203 = .ok (.invokevirtual 74, 3) := by decide +kernel
theorem d_X3_readLine_206 : decode cX3_readLine 206 = .ok (.ifCond .eq 10, 3) := by decide +kernel
theorem d_X3_readLine_209 : decode cX3_readLine 209 = .ok (.aload_n 0, 1) := by decide +kernel
theorem d_X3_readLine_210 : decode cX3_readLine 210 = .ok (.invokevirtual 119, 3) := by decide +kernel
theorem d_X3_readLine_213 : decode cX3_readLine 213 = .ok (.goto 45, 3) := by decide +kernel
theorem d_X3_readLine_216 : decode cX3_readLine 216 = .ok (.aload_n 0, 1) := by decide +kernel
theorem d_X3_readLine_217 : decode cX3_readLine 217 = .ok (.ldc 122, 2) := by decide +kernel
theorem d_X3_readLine_219 : decode cX3_readLine 219 = .ok (.invokevirtual 74, 3) := by decide +kernel
theorem d_X3_readLine_222 : decode cX3_readLine 222 = .ok (.ifCond .eq 31, 3) := by decide +kernel
theorem d_X3_readLine_225 : decode cX3_readLine 225 = .ok (.aload_n 0, 1) := by decide +kernel
theorem d_X3_readLine_226 : decode cX3_readLine 226 = .ok (.bipush 16, 2) := by decide +kernel
theorem d_X3_readLine_228 : decode cX3_readLine 228 = .ok (.invokevirtual 78, 3) := by decide +kernel
theorem d_X3_readLine_231 : decode cX3_readLine 231 = .ok (.aload_n 0, 1) := by decide +kernel
theorem d_X3_readLine_232 : decode cX3_readLine 232 = .ok (.getfield 25, 3) := by decide +kernel
theorem d_X3_readLine_235 : decode cX3_readLine 235 = .ok (.getfield 109, 3) := by decide +kernel
theorem d_X3_readLine_238 : decode cX3_readLine 238 = .ok (.iconst 4, 1) := by decide +kernel
theorem d_X3_readLine_239 : decode cX3_readLine 239 = .ok (.aload_n 0, 1) := by decide +kernel
theorem d_X3_readLine_240 : decode cX3_readLine 240 = .ok (.iconst 0, 1) := by decide +kernel
theorem d_X3_readLine_241 : decode cX3_readLine 241 = .ok (.sipush 9999, 3) := by decide +kernel
theorem d_X3_readLine_244 : decode cX3_readLine 244 = .ok (.invokevirtual 82, 3) := by decide +kernel
theorem d_X3_readLine_247 : decode cX3_readLine 247 = .ok (.invokestatic 59, 3) := by decide +kernel
theorem d_X3_readLine_250 : decode cX3_readLine 250 = .ok (.goto 8, 3) := by decide +kernel
theorem d_X3_readLine_253 : decode cX3_readLine 253 = .ok (.aload_n 0, 1) := by decide +kernel
theorem d_X3_readLine_254 : decode cX3_readLine 254 = .ok (.iconst 1, 1) := by decide +kernel
theorem d_X3_readLine_255 : decode cX3_readLine 255 = .ok (.invokevirtual 124, 3) := by decide +kernel
theorem d_X3_readLine_258 : decode cX3_readLine 258 = .ok (.aload_n 0, 1) := by decide +kernel
theorem d_X3_readLine_259 : decode cX3_readLine 259 = .ok (.invokevirtual 127, 3) := by decide +kernel
theorem d_X3_readLine_262 : decode cX3_readLine 262 = .ok (.return_, 1) := by decide +kernel
def j_X3_readLine_258 (h : AH) : Option (Unit × AH) := bd (s_X3_needStop h) fun q11 => some ((), q11.2)
theorem tj_X3_readLine_258 {g : GP} {X : MX} {mcR msR : Nat} (hF : gF g = true) (hX : Cx g RX3 cX3_readLine 8 mcR msR none [] X) {h hz : AH} {z : Unit} (e : j_X3_readLine_258 h = some (z, hz)) : AR g X 0 0 (QQ g X NT false hz (.inl none) 0 0) h 258 [.ref 1] [] := by
  unfold j_X3_readLine_258 at e
  refine aw_aload_n (i := 0) hX rfl rfl d_X3_readLine_258 ?_
  obtain ⟨q11, f_500, e_500⟩ := bd_some e
  clear e
  refine aw_callV (b := 1) (av := []) (avr := []) hX (k_X3_needStop (cx_g hX) hF f_500) mi_X3_needStop rfl rfl w_278 w_279 w_280 (by decide) rfl (LAY_lt rfl (by decide)) rfl rfl (Nat.le_of_ble_eq_true rfl) (Nat.zero_le _) (Nat.zero_le _) d_X3_readLine_259 ?_
  cases e_500
  exact aw_return hX (Nat.zero_le _) (Nat.zero_le _) d_X3_readLine_262
def s_X3_readLine (h : AH) : Option (Unit × AH) := bd (s_X3_isWord 0 h) fun x1 => if x1 = 0 then bd (s_X3_isWord 1 h) fun x2 => if x2 = 0 then bd (s_X3_isWord 2 h) fun x3 => if x3 = 0 then bd (s_X3_isWord 4 h) fun x4 => if x4 = 0 then bd (s_X3_isWord 12 h) fun x5 => if x5 = 0 then bd (s_X3_isWord 14 h) fun x6 => if x6 = 0 then bd (s_X3_isWord 15 h) fun x7 => if x7 = 0 then bd (s_X3_isWord 16 h) fun x8 => if x8 = 0 then bd (s_X3_isWord 18 h) fun x9 => if x9 = 0 then bd (s_X3_refuse 1 h) fun q10 => j_X3_readLine_258 q10.2 else bd (s_X3_tellOnce 16 h) fun q12 => bd (gR q12.2 1 2) fun t13 => if LAY t13 = (0, 8) then bd (s_X3_takeNumber 0 9999 q12.2) fun q14 => bd (s_X9_put (some (t13 + 7)) 4 q14.1 q14.2) fun q15 => j_X3_readLine_258 q15.2 else none else bd (s_X3_readSet h) fun q16 => j_X3_readLine_258 q16.2 else bd (s_X3_tellOnce 4 h) fun q17 => bd (gR q17.2 1 2) fun t18 => if LAY t18 = (0, 8) then bd (s_X3_takeNumber 1 12 q17.2) fun q19 => bd (gR (sI q19.2 t18 5 q19.1) 1 2) fun t20 => if LAY t20 = (0, 8) then bd (s_X3_takeNumber 0 9999 (sI q19.2 t18 5 q19.1)) fun q21 => bd (s_X9_put (some (t20 + 7)) 2 q21.1 q21.2) fun q22 => j_X3_readLine_258 q22.2 else none else none else bd (s_X3_tellOnce 2 h) fun q23 => bd (gR q23.2 1 2) fun t24 => if LAY t24 = (0, 8) then bd (s_X3_takeNumber 0 9999 q23.2) fun q25 => bd (s_X9_put (some (t24 + 7)) 1 q25.1 q25.2) fun q26 => j_X3_readLine_258 q26.2 else none else bd (s_X3_readSeats h) fun q27 => j_X3_readLine_258 q27.2 else bd (s_X3_readPeople h) fun q28 => j_X3_readLine_258 q28.2 else bd (s_X3_readEvening h) fun q29 => j_X3_readLine_258 q29.2 else bd (s_X3_tellOnce 64 h) fun q30 => bd (gR q30.2 1 2) fun t31 => if LAY t31 = (0, 8) then bd (s_X3_takeNumber 0 9999 q30.2) fun q32 => j_X3_readLine_258 (sI q32.2 t31 1 q32.1) else none else bd (s_X3_tellOnce 32 h) fun q33 => bd (gR q33.2 1 2) fun t34 => if LAY t34 = (0, 8) then bd (s_X3_takeNumber 1 400 q33.2) fun q35 => j_X3_readLine_258 (sI q35.2 t34 0 q35.1) else none
theorem t_X3_readLine {g : GP} {X : MX} {mcR msR : Nat} (hF : gF g = true) (hX : Cx g RX3 cX3_readLine 8 mcR msR none [] X) {h hz : AH} {z : Unit} (e : s_X3_readLine h = some (z, hz)) : AR g X 0 0 (QQ g X NT false hz (.inl none) 0 0) h 0 [.ref 1] [] := by
  unfold s_X3_readLine at e
  refine aw_aload_n (i := 0) hX rfl rfl d_X3_readLine_0 ?_
  refine ar_ldcS (i := 0) hX rfl (by decide) rfl d_X3_readLine_1 ?_
  obtain ⟨x1, f_501, e_501⟩ := bd_some e
  clear e
  refine aw_callV (b := 1) (av := [.ref (100000 + 0)]) (avr := [.ref (100000 + 0)]) hX (k_X3_isWord (cx_g hX) hF f_501) mi_X3_isWord rfl rfl w_238 w_239 w_240 (by decide) rfl (LAY_lt rfl (by decide)) rfl rfl (Nat.le_of_ble_eq_true rfl) (Nat.zero_le _) (Nat.zero_le _) d_X3_readLine_3 ?_
  refine aw_if_eq (t := 33) hX (by decide) d_X3_readLine_6 (fun c => ?_) (fun c => ?_)
  · rw [if_pos c] at e_501
    refine aw_aload_n (i := 0) hX rfl rfl d_X3_readLine_33 ?_
    refine ar_ldcS (i := 1) hX rfl (by decide) rfl d_X3_readLine_34 ?_
    obtain ⟨x2, f_502, e_502⟩ := bd_some e_501
    clear e_501
    refine aw_callV (b := 1) (av := [.ref (100000 + 1)]) (avr := [.ref (100000 + 1)]) hX (k_X3_isWord (cx_g hX) hF f_502) mi_X3_isWord rfl rfl w_238 w_239 w_240 (by decide) rfl (LAY_lt rfl (by decide)) rfl rfl (Nat.le_of_ble_eq_true rfl) (Nat.zero_le _) (Nat.zero_le _) d_X3_readLine_36 ?_
    refine aw_if_eq (t := 66) hX (by decide) d_X3_readLine_39 (fun c => ?_) (fun c => ?_)
    · rw [if_pos c] at e_502
      refine aw_aload_n (i := 0) hX rfl rfl d_X3_readLine_66 ?_
      refine ar_ldcS (i := 2) hX rfl (by decide) rfl d_X3_readLine_67 ?_
      obtain ⟨x3, f_503, e_503⟩ := bd_some e_502
      clear e_502
      refine aw_callV (b := 1) (av := [.ref (100000 + 2)]) (avr := [.ref (100000 + 2)]) hX (k_X3_isWord (cx_g hX) hF f_503) mi_X3_isWord rfl rfl w_238 w_239 w_240 (by decide) rfl (LAY_lt rfl (by decide)) rfl rfl (Nat.le_of_ble_eq_true rfl) (Nat.zero_le _) (Nat.zero_le _) d_X3_readLine_69 ?_
      refine aw_if_eq (t := 82) hX (by decide) d_X3_readLine_72 (fun c => ?_) (fun c => ?_)
      · rw [if_pos c] at e_503
        refine aw_aload_n (i := 0) hX rfl rfl d_X3_readLine_82 ?_
        refine ar_ldcS (i := 4) hX rfl (by decide) rfl d_X3_readLine_83 ?_
        obtain ⟨x4, f_504, e_504⟩ := bd_some e_503
        clear e_503
        refine aw_callV (b := 1) (av := [.ref (100000 + 4)]) (avr := [.ref (100000 + 4)]) hX (k_X3_isWord (cx_g hX) hF f_504) mi_X3_isWord rfl rfl w_238 w_239 w_240 (by decide) rfl (LAY_lt rfl (by decide)) rfl rfl (Nat.le_of_ble_eq_true rfl) (Nat.zero_le _) (Nat.zero_le _) d_X3_readLine_85 ?_
        refine aw_if_eq (t := 98) hX (by decide) d_X3_readLine_88 (fun c => ?_) (fun c => ?_)
        · rw [if_pos c] at e_504
          refine aw_aload_n (i := 0) hX rfl rfl d_X3_readLine_98 ?_
          refine ar_ldcS (i := 12) hX rfl (by decide) rfl d_X3_readLine_99 ?_
          obtain ⟨x5, f_505, e_505⟩ := bd_some e_504
          clear e_504
          refine aw_callV (b := 1) (av := [.ref (100000 + 12)]) (avr := [.ref (100000 + 12)]) hX (k_X3_isWord (cx_g hX) hF f_505) mi_X3_isWord rfl rfl w_238 w_239 w_240 (by decide) rfl (LAY_lt rfl (by decide)) rfl rfl (Nat.le_of_ble_eq_true rfl) (Nat.zero_le _) (Nat.zero_le _) d_X3_readLine_101 ?_
          refine aw_if_eq (t := 114) hX (by decide) d_X3_readLine_104 (fun c => ?_) (fun c => ?_)
          · rw [if_pos c] at e_505
            refine aw_aload_n (i := 0) hX rfl rfl d_X3_readLine_114 ?_
            refine ar_ldcS (i := 14) hX rfl (by decide) rfl d_X3_readLine_115 ?_
            obtain ⟨x6, f_506, e_506⟩ := bd_some e_505
            clear e_505
            refine aw_callV (b := 1) (av := [.ref (100000 + 14)]) (avr := [.ref (100000 + 14)]) hX (k_X3_isWord (cx_g hX) hF f_506) mi_X3_isWord rfl rfl w_238 w_239 w_240 (by decide) rfl (LAY_lt rfl (by decide)) rfl rfl (Nat.le_of_ble_eq_true rfl) (Nat.zero_le _) (Nat.zero_le _) d_X3_readLine_117 ?_
            refine aw_if_eq (t := 150) hX (by decide) d_X3_readLine_120 (fun c => ?_) (fun c => ?_)
            · rw [if_pos c] at e_506
              refine aw_aload_n (i := 0) hX rfl rfl d_X3_readLine_150 ?_
              refine ar_ldcS (i := 15) hX rfl (by decide) rfl d_X3_readLine_151 ?_
              obtain ⟨x7, f_507, e_507⟩ := bd_some e_506
              clear e_506
              refine aw_callV (b := 1) (av := [.ref (100000 + 15)]) (avr := [.ref (100000 + 15)]) hX (k_X3_isWord (cx_g hX) hF f_507) mi_X3_isWord rfl rfl w_238 w_239 w_240 (by decide) rfl (LAY_lt rfl (by decide)) rfl rfl (Nat.le_of_ble_eq_true rfl) (Nat.zero_le _) (Nat.zero_le _) d_X3_readLine_153 ?_
              refine aw_if_eq (t := 200) hX (by decide) d_X3_readLine_156 (fun c => ?_) (fun c => ?_)
              · rw [if_pos c] at e_507
                refine aw_aload_n (i := 0) hX rfl rfl d_X3_readLine_200 ?_
                refine ar_ldcS (i := 16) hX rfl (by decide) rfl d_X3_readLine_201 ?_
                obtain ⟨x8, f_508, e_508⟩ := bd_some e_507
                clear e_507
                refine aw_callV (b := 1) (av := [.ref (100000 + 16)]) (avr := [.ref (100000 + 16)]) hX (k_X3_isWord (cx_g hX) hF f_508) mi_X3_isWord rfl rfl w_238 w_239 w_240 (by decide) rfl (LAY_lt rfl (by decide)) rfl rfl (Nat.le_of_ble_eq_true rfl) (Nat.zero_le _) (Nat.zero_le _) d_X3_readLine_203 ?_
                refine aw_if_eq (t := 216) hX (by decide) d_X3_readLine_206 (fun c => ?_) (fun c => ?_)
                · rw [if_pos c] at e_508
                  refine aw_aload_n (i := 0) hX rfl rfl d_X3_readLine_216 ?_
                  refine ar_ldcS (i := 18) hX rfl (by decide) rfl d_X3_readLine_217 ?_
                  obtain ⟨x9, f_509, e_509⟩ := bd_some e_508
                  clear e_508
                  refine aw_callV (b := 1) (av := [.ref (100000 + 18)]) (avr := [.ref (100000 + 18)]) hX (k_X3_isWord (cx_g hX) hF f_509) mi_X3_isWord rfl rfl w_238 w_239 w_240 (by decide) rfl (LAY_lt rfl (by decide)) rfl rfl (Nat.le_of_ble_eq_true rfl) (Nat.zero_le _) (Nat.zero_le _) d_X3_readLine_219 ?_
                  refine aw_if_eq (t := 253) hX (by decide) d_X3_readLine_222 (fun c => ?_) (fun c => ?_)
                  · rw [if_pos c] at e_509
                    refine aw_aload_n (i := 0) hX rfl rfl d_X3_readLine_253 ?_
                    refine aw_iconst (v := 1) hX (by decide) d_X3_readLine_254 ?_
                    obtain ⟨q10, f_510, e_510⟩ := bd_some e_509
                    clear e_509
                    refine aw_callV (b := 1) (av := [.int 1]) (avr := [.int 1]) hX (k_X3_refuse (cx_g hX) hF f_510) mi_X3_refuse rfl rfl w_226 w_227 w_228 (by decide) rfl (LAY_lt rfl (by decide)) rfl rfl (Nat.le_of_ble_eq_true rfl) (Nat.zero_le _) (Nat.zero_le _) d_X3_readLine_255 ?_
                    exact tj_X3_readLine_258 hF hX e_510
                  · rw [if_neg c] at e_509
                    refine aw_aload_n (i := 0) hX rfl rfl d_X3_readLine_225 ?_
                    refine aw_bipush (v := 16) hX (by decide) d_X3_readLine_226 ?_
                    obtain ⟨q12, f_511, e_511⟩ := bd_some e_509
                    clear e_509
                    refine aw_callV (b := 1) (av := [.int 16]) (avr := [.int 16]) hX (k_X3_tellOnce (cx_g hX) hF f_511) mi_X3_tellOnce rfl rfl w_269 w_270 w_271 (by decide) rfl (LAY_lt rfl (by decide)) rfl rfl (Nat.le_of_ble_eq_true rfl) (Nat.zero_le _) (Nat.zero_le _) d_X3_readLine_228 ?_
                    refine aw_aload_n (i := 0) hX rfl rfl d_X3_readLine_231 ?_
                    obtain ⟨t13, f_512, e_512⟩ := bd_some e_511
                    clear e_511
                    obtain ⟨hlt13, e_513⟩ := if_some e_512
                    clear e_512
                    refine ar_getR hX fg_RX3_25 rfl f_512 d_X3_readLine_232 ?_
                    refine ar_getF hX hF fg_RX3_109 (by assumption) d_X3_readLine_235 ?_
                    refine aw_iconst (v := 4) hX (by decide) d_X3_readLine_238 ?_
                    refine aw_aload_n (i := 0) hX rfl rfl d_X3_readLine_239 ?_
                    refine aw_iconst (v := 0) hX (by decide) d_X3_readLine_240 ?_
                    refine aw_sipush (v := 9999) hX (by decide) d_X3_readLine_241 ?_
                    obtain ⟨q14, f_514, e_514⟩ := bd_some e_513
                    clear e_513
                    refine aw_callV (b := 1) (av := [.int 0, .int 9999]) (avr := [.int 9999, .int 0]) hX (k_X3_takeNumber (cx_g hX) hF f_514) mi_X3_takeNumber rfl rfl w_249 w_250 w_251 (by decide) rfl (LAY_lt rfl (by decide)) rfl rfl (Nat.le_of_ble_eq_true rfl) (Nat.zero_le _) (Nat.zero_le _) d_X3_readLine_244 ?_
                    obtain ⟨q15, f_515, e_515⟩ := bd_some e_514
                    clear e_514
                    refine aw_callSN (av := [.ref (t13 + 7), .int 4, .int q14.1]) (avr := [.int q14.1, .int 4, .ref (t13 + 7)]) hX (k_X9_put (cx_g hX) hF f_515) mi_X9_put rfl rfl nx17 w_83 (by decide) (Nat.le_of_ble_eq_true rfl) (Nat.zero_le _) (Nat.zero_le _) d_X3_readLine_247 ?_
                    refine aw_goto (t := 258) hX (by decide) d_X3_readLine_250 ?_
                    exact tj_X3_readLine_258 hF hX e_515
                · rw [if_neg c] at e_508
                  refine aw_aload_n (i := 0) hX rfl rfl d_X3_readLine_209 ?_
                  obtain ⟨q16, f_516, e_516⟩ := bd_some e_508
                  clear e_508
                  refine aw_callV (b := 1) (av := []) (avr := []) hX (k_X3_readSet (cx_g hX) hF f_516) mi_X3_readSet rfl rfl w_282 w_283 w_284 (by decide) rfl (LAY_lt rfl (by decide)) rfl rfl (Nat.le_of_ble_eq_true rfl) (Nat.zero_le _) (Nat.zero_le _) d_X3_readLine_210 ?_
                  refine aw_goto (t := 258) hX (by decide) d_X3_readLine_213 ?_
                  exact tj_X3_readLine_258 hF hX e_516
              · rw [if_neg c] at e_507
                refine aw_aload_n (i := 0) hX rfl rfl d_X3_readLine_159 ?_
                refine aw_iconst (v := 4) hX (by decide) d_X3_readLine_160 ?_
                obtain ⟨q17, f_517, e_517⟩ := bd_some e_507
                clear e_507
                refine aw_callV (b := 1) (av := [.int 4]) (avr := [.int 4]) hX (k_X3_tellOnce (cx_g hX) hF f_517) mi_X3_tellOnce rfl rfl w_269 w_270 w_271 (by decide) rfl (LAY_lt rfl (by decide)) rfl rfl (Nat.le_of_ble_eq_true rfl) (Nat.zero_le _) (Nat.zero_le _) d_X3_readLine_161 ?_
                refine aw_aload_n (i := 0) hX rfl rfl d_X3_readLine_164 ?_
                obtain ⟨t18, f_518, e_518⟩ := bd_some e_517
                clear e_517
                obtain ⟨hlt18, e_519⟩ := if_some e_518
                clear e_518
                refine ar_getR hX fg_RX3_25 rfl f_518 d_X3_readLine_165 ?_
                refine aw_aload_n (i := 0) hX rfl rfl d_X3_readLine_168 ?_
                refine aw_iconst (v := 1) hX (by decide) d_X3_readLine_169 ?_
                refine aw_bipush (v := 12) hX (by decide) d_X3_readLine_170 ?_
                obtain ⟨q19, f_520, e_520⟩ := bd_some e_519
                clear e_519
                refine aw_callV (b := 1) (av := [.int 1, .int 12]) (avr := [.int 12, .int 1]) hX (k_X3_takeNumber (cx_g hX) hF f_520) mi_X3_takeNumber rfl rfl w_249 w_250 w_251 (by decide) rfl (LAY_lt rfl (by decide)) rfl rfl (Nat.le_of_ble_eq_true rfl) (Nat.zero_le _) (Nat.zero_le _) d_X3_readLine_172 ?_
                refine ar_putI hX fp_RX3_114 (by assumption) d_X3_readLine_175 ?_
                refine aw_aload_n (i := 0) hX rfl rfl d_X3_readLine_178 ?_
                obtain ⟨t20, f_521, e_521⟩ := bd_some e_520
                clear e_520
                obtain ⟨hlt20, e_522⟩ := if_some e_521
                clear e_521
                refine ar_getR hX fg_RX3_25 rfl f_521 d_X3_readLine_179 ?_
                refine ar_getF hX hF fg_RX3_109 (by assumption) d_X3_readLine_182 ?_
                refine aw_iconst (v := 2) hX (by decide) d_X3_readLine_185 ?_
                refine aw_aload_n (i := 0) hX rfl rfl d_X3_readLine_186 ?_
                refine aw_iconst (v := 0) hX (by decide) d_X3_readLine_187 ?_
                refine aw_sipush (v := 9999) hX (by decide) d_X3_readLine_188 ?_
                obtain ⟨q21, f_523, e_523⟩ := bd_some e_522
                clear e_522
                refine aw_callV (b := 1) (av := [.int 0, .int 9999]) (avr := [.int 9999, .int 0]) hX (k_X3_takeNumber (cx_g hX) hF f_523) mi_X3_takeNumber rfl rfl w_249 w_250 w_251 (by decide) rfl (LAY_lt rfl (by decide)) rfl rfl (Nat.le_of_ble_eq_true rfl) (Nat.zero_le _) (Nat.zero_le _) d_X3_readLine_191 ?_
                obtain ⟨q22, f_524, e_524⟩ := bd_some e_523
                clear e_523
                refine aw_callSN (av := [.ref (t20 + 7), .int 2, .int q21.1]) (avr := [.int q21.1, .int 2, .ref (t20 + 7)]) hX (k_X9_put (cx_g hX) hF f_524) mi_X9_put rfl rfl nx17 w_83 (by decide) (Nat.le_of_ble_eq_true rfl) (Nat.zero_le _) (Nat.zero_le _) d_X3_readLine_194 ?_
                refine aw_goto (t := 258) hX (by decide) d_X3_readLine_197 ?_
                exact tj_X3_readLine_258 hF hX e_524
            · rw [if_neg c] at e_506
              refine aw_aload_n (i := 0) hX rfl rfl d_X3_readLine_123 ?_
              refine aw_iconst (v := 2) hX (by decide) d_X3_readLine_124 ?_
              obtain ⟨q23, f_525, e_525⟩ := bd_some e_506
              clear e_506
              refine aw_callV (b := 1) (av := [.int 2]) (avr := [.int 2]) hX (k_X3_tellOnce (cx_g hX) hF f_525) mi_X3_tellOnce rfl rfl w_269 w_270 w_271 (by decide) rfl (LAY_lt rfl (by decide)) rfl rfl (Nat.le_of_ble_eq_true rfl) (Nat.zero_le _) (Nat.zero_le _) d_X3_readLine_125 ?_
              refine aw_aload_n (i := 0) hX rfl rfl d_X3_readLine_128 ?_
              obtain ⟨t24, f_526, e_526⟩ := bd_some e_525
              clear e_525
              obtain ⟨hlt24, e_527⟩ := if_some e_526
              clear e_526
              refine ar_getR hX fg_RX3_25 rfl f_526 d_X3_readLine_129 ?_
              refine ar_getF hX hF fg_RX3_109 (by assumption) d_X3_readLine_132 ?_
              refine aw_iconst (v := 1) hX (by decide) d_X3_readLine_135 ?_
              refine aw_aload_n (i := 0) hX rfl rfl d_X3_readLine_136 ?_
              refine aw_iconst (v := 0) hX (by decide) d_X3_readLine_137 ?_
              refine aw_sipush (v := 9999) hX (by decide) d_X3_readLine_138 ?_
              obtain ⟨q25, f_528, e_528⟩ := bd_some e_527
              clear e_527
              refine aw_callV (b := 1) (av := [.int 0, .int 9999]) (avr := [.int 9999, .int 0]) hX (k_X3_takeNumber (cx_g hX) hF f_528) mi_X3_takeNumber rfl rfl w_249 w_250 w_251 (by decide) rfl (LAY_lt rfl (by decide)) rfl rfl (Nat.le_of_ble_eq_true rfl) (Nat.zero_le _) (Nat.zero_le _) d_X3_readLine_141 ?_
              obtain ⟨q26, f_529, e_529⟩ := bd_some e_528
              clear e_528
              refine aw_callSN (av := [.ref (t24 + 7), .int 1, .int q25.1]) (avr := [.int q25.1, .int 1, .ref (t24 + 7)]) hX (k_X9_put (cx_g hX) hF f_529) mi_X9_put rfl rfl nx17 w_83 (by decide) (Nat.le_of_ble_eq_true rfl) (Nat.zero_le _) (Nat.zero_le _) d_X3_readLine_144 ?_
              refine aw_goto (t := 258) hX (by decide) d_X3_readLine_147 ?_
              exact tj_X3_readLine_258 hF hX e_529
          · rw [if_neg c] at e_505
            refine aw_aload_n (i := 0) hX rfl rfl d_X3_readLine_107 ?_
            obtain ⟨q27, f_530, e_530⟩ := bd_some e_505
            clear e_505
            refine aw_callV (b := 1) (av := []) (avr := []) hX (k_X3_readSeats (cx_g hX) hF f_530) mi_X3_readSeats rfl rfl w_287 w_288 w_289 (by decide) rfl (LAY_lt rfl (by decide)) rfl rfl (Nat.le_of_ble_eq_true rfl) (Nat.zero_le _) (Nat.zero_le _) d_X3_readLine_108 ?_
            refine aw_goto (t := 258) hX (by decide) d_X3_readLine_111 ?_
            exact tj_X3_readLine_258 hF hX e_530
        · rw [if_neg c] at e_504
          refine aw_aload_n (i := 0) hX rfl rfl d_X3_readLine_91 ?_
          obtain ⟨q28, f_531, e_531⟩ := bd_some e_504
          clear e_504
          refine aw_callV (b := 1) (av := []) (avr := []) hX (k_X3_readPeople (cx_g hX) hF f_531) mi_X3_readPeople rfl rfl w_291 w_292 w_293 (by decide) rfl (LAY_lt rfl (by decide)) rfl rfl (Nat.le_of_ble_eq_true rfl) (Nat.zero_le _) (Nat.zero_le _) d_X3_readLine_92 ?_
          refine aw_goto (t := 258) hX (by decide) d_X3_readLine_95 ?_
          exact tj_X3_readLine_258 hF hX e_531
      · rw [if_neg c] at e_503
        refine aw_aload_n (i := 0) hX rfl rfl d_X3_readLine_75 ?_
        obtain ⟨q29, f_532, e_532⟩ := bd_some e_503
        clear e_503
        refine aw_callV (b := 1) (av := []) (avr := []) hX (k_X3_readEvening (cx_g hX) hF f_532) mi_X3_readEvening rfl rfl w_295 w_296 w_297 (by decide) rfl (LAY_lt rfl (by decide)) rfl rfl (Nat.le_of_ble_eq_true rfl) (Nat.zero_le _) (Nat.zero_le _) d_X3_readLine_76 ?_
        refine aw_goto (t := 258) hX (by decide) d_X3_readLine_79 ?_
        exact tj_X3_readLine_258 hF hX e_532
    · rw [if_neg c] at e_502
      refine aw_aload_n (i := 0) hX rfl rfl d_X3_readLine_42 ?_
      refine aw_bipush (v := 64) hX (by decide) d_X3_readLine_43 ?_
      obtain ⟨q30, f_533, e_533⟩ := bd_some e_502
      clear e_502
      refine aw_callV (b := 1) (av := [.int 64]) (avr := [.int 64]) hX (k_X3_tellOnce (cx_g hX) hF f_533) mi_X3_tellOnce rfl rfl w_269 w_270 w_271 (by decide) rfl (LAY_lt rfl (by decide)) rfl rfl (Nat.le_of_ble_eq_true rfl) (Nat.zero_le _) (Nat.zero_le _) d_X3_readLine_45 ?_
      refine aw_aload_n (i := 0) hX rfl rfl d_X3_readLine_48 ?_
      obtain ⟨t31, f_534, e_534⟩ := bd_some e_533
      clear e_533
      obtain ⟨hlt31, e_535⟩ := if_some e_534
      clear e_534
      refine ar_getR hX fg_RX3_25 rfl f_534 d_X3_readLine_49 ?_
      refine aw_aload_n (i := 0) hX rfl rfl d_X3_readLine_52 ?_
      refine aw_iconst (v := 0) hX (by decide) d_X3_readLine_53 ?_
      refine aw_sipush (v := 9999) hX (by decide) d_X3_readLine_54 ?_
      obtain ⟨q32, f_536, e_536⟩ := bd_some e_535
      clear e_535
      refine aw_callV (b := 1) (av := [.int 0, .int 9999]) (avr := [.int 9999, .int 0]) hX (k_X3_takeNumber (cx_g hX) hF f_536) mi_X3_takeNumber rfl rfl w_249 w_250 w_251 (by decide) rfl (LAY_lt rfl (by decide)) rfl rfl (Nat.le_of_ble_eq_true rfl) (Nat.zero_le _) (Nat.zero_le _) d_X3_readLine_57 ?_
      refine ar_putI hX fp_RX3_90 (by assumption) d_X3_readLine_60 ?_
      refine aw_goto (t := 258) hX (by decide) d_X3_readLine_63 ?_
      exact tj_X3_readLine_258 hF hX e_536
  · rw [if_neg c] at e_501
    refine aw_aload_n (i := 0) hX rfl rfl d_X3_readLine_9 ?_
    refine aw_bipush (v := 32) hX (by decide) d_X3_readLine_10 ?_
    obtain ⟨q33, f_537, e_537⟩ := bd_some e_501
    clear e_501
    refine aw_callV (b := 1) (av := [.int 32]) (avr := [.int 32]) hX (k_X3_tellOnce (cx_g hX) hF f_537) mi_X3_tellOnce rfl rfl w_269 w_270 w_271 (by decide) rfl (LAY_lt rfl (by decide)) rfl rfl (Nat.le_of_ble_eq_true rfl) (Nat.zero_le _) (Nat.zero_le _) d_X3_readLine_12 ?_
    refine aw_aload_n (i := 0) hX rfl rfl d_X3_readLine_15 ?_
    obtain ⟨t34, f_538, e_538⟩ := bd_some e_537
    clear e_537
    obtain ⟨hlt34, e_539⟩ := if_some e_538
    clear e_538
    refine ar_getR hX fg_RX3_25 rfl f_538 d_X3_readLine_16 ?_
    refine aw_aload_n (i := 0) hX rfl rfl d_X3_readLine_19 ?_
    refine aw_iconst (v := 1) hX (by decide) d_X3_readLine_20 ?_
    refine aw_sipush (v := 400) hX (by decide) d_X3_readLine_21 ?_
    obtain ⟨q35, f_540, e_540⟩ := bd_some e_539
    clear e_539
    refine aw_callV (b := 1) (av := [.int 1, .int 400]) (avr := [.int 400, .int 1]) hX (k_X3_takeNumber (cx_g hX) hF f_540) mi_X3_takeNumber rfl rfl w_249 w_250 w_251 (by decide) rfl (LAY_lt rfl (by decide)) rfl rfl (Nat.le_of_ble_eq_true rfl) (Nat.zero_le _) (Nat.zero_le _) d_X3_readLine_24 ?_
    refine ar_putI hX fp_RX3_86 (by assumption) d_X3_readLine_27 ?_
    refine aw_goto (t := 258) hX (by decide) d_X3_readLine_30 ?_
    exact tj_X3_readLine_258 hF hX e_540
theorem k_X3_readLine {g : GP} (hg : g.1.stackTraces = false) (hF : gF g = true) {h hz : AH} {z : Unit} (e : s_X3_readLine h = some (z, hz)) : Ctr g yX3_readLine (wsY yX3_readLine cX3_readLine 1 none) 8 0 0 [.ref 1] NT false h none NT false hz := ctr_of (lv0 := [.ref 1]) rfl rfl (by decide) hg trivial (fun X hX hn => t_X3_readLine hF hX e)
theorem d_X3_typeOf_0 : decode cX3_typeOf 0 = .ok (.iload_n 0, 1) := by decide +kernel
theorem d_X3_typeOf_1 : decode cX3_typeOf 1 = .ok (.bipush 32, 2) := by decide +kernel
theorem d_X3_typeOf_3 : decode cX3_typeOf 3 = .ok (.if_icmp .eq 9, 3) := by decide +kernel
theorem d_X3_typeOf_6 : decode cX3_typeOf 6 = .ok (.iload_n 0, 1) := by decide +kernel
theorem d_X3_typeOf_7 : decode cX3_typeOf 7 = .ok (.bipush 10, 2) := by decide +kernel
theorem d_X3_typeOf_9 : decode cX3_typeOf 9 = .ok (.if_icmp .ne 5, 3) := by decide +kernel
theorem d_X3_typeOf_12 : decode cX3_typeOf 12 = .ok (.iconst 4, 1) := by decide +kernel
theorem d_X3_typeOf_13 : decode cX3_typeOf 13 = .ok (.ireturn, 1) := by decide +kernel
theorem d_X3_typeOf_14 : decode cX3_typeOf 14 = .ok (.iload_n 0, 1) := by decide +kernel
theorem d_X3_typeOf_15 : decode cX3_typeOf 15 = .ok (.bipush 97, 2) := by decide +kernel
theorem d_X3_typeOf_17 : decode cX3_typeOf 17 = .ok (.if_icmp .lt 11, 3) := by decide +kernel
theorem d_X3_typeOf_20 : decode cX3_typeOf 20 = .ok (.iload_n 0, 1) := by decide +kernel
theorem d_X3_typeOf_21 : decode cX3_typeOf 21 = .ok (.bipush 122, 2) := by decide +kernel
theorem d_X3_typeOf_23 : decode cX3_typeOf 23 = .ok (.if_icmp .gt 5, 3) := by decide +kernel
theorem d_X3_typeOf_26 : decode cX3_typeOf 26 = .ok (.iconst 1, 1) := by decide +kernel
theorem d_X3_typeOf_27 : decode cX3_typeOf 27 = .ok (.ireturn, 1) := by decide +kernel
theorem d_X3_typeOf_28 : decode cX3_typeOf 28 = .ok (.iload_n 0, 1) := by decide +kernel
theorem d_X3_typeOf_29 : decode cX3_typeOf 29 = .ok (.bipush 48, 2) := by decide +kernel
theorem d_X3_typeOf_31 : decode cX3_typeOf 31 = .ok (.if_icmp .lt 11, 3) := by decide +kernel
theorem d_X3_typeOf_34 : decode cX3_typeOf 34 = .ok (.iload_n 0, 1) := by decide +kernel
theorem d_X3_typeOf_35 : decode cX3_typeOf 35 = .ok (.bipush 57, 2) := by decide +kernel
theorem d_X3_typeOf_37 : decode cX3_typeOf 37 = .ok (.if_icmp .gt 5, 3) := by decide +kernel
theorem d_X3_typeOf_40 : decode cX3_typeOf 40 = .ok (.iconst 2, 1) := by decide +kernel
theorem d_X3_typeOf_41 : decode cX3_typeOf 41 = .ok (.ireturn, 1) := by decide +kernel
theorem d_X3_typeOf_42 : decode cX3_typeOf 42 = .ok (.iload_n 0, 1) := by decide +kernel
theorem d_X3_typeOf_43 : decode cX3_typeOf 43 = .ok (.bipush 59, 2) := by decide +kernel
theorem d_X3_typeOf_45 : decode cX3_typeOf 45 = .ok (.if_icmp .ne 7, 3) := by decide +kernel
theorem d_X3_typeOf_48 : decode cX3_typeOf 48 = .ok (.iconst 3, 1) := by decide +kernel
theorem d_X3_typeOf_49 : decode cX3_typeOf 49 = .ok (.goto 4, 3) := by decide +kernel
theorem d_X3_typeOf_52 : decode cX3_typeOf 52 = .ok (.iconst 5, 1) := by decide +kernel
theorem d_X3_typeOf_53 : decode cX3_typeOf 53 = .ok (.ireturn, 1) := by decide +kernel
def j_X3_typeOf_42 (v0 : Int32) (h : AH) : Option Int32 := if v0 = 59 then some 3 else some 5
theorem tj_X3_typeOf_42 {g : GP} {X : MX} {mcR msR : Nat} (hF : gF g = true) (hX : Cx g RX3 cX3_typeOf 1 mcR msR (some .int) [] X) {v0 : Int32} {h : AH} {z : Int32} (e : j_X3_typeOf_42 v0 h = some z) : AR g X 0 0 (QQ g X NT false h (.inl (some (.int z))) 0 0) h 42 [.int v0] [] := by
  unfold j_X3_typeOf_42 at e
  refine aw_iload_n (i := 0) hX rfl rfl d_X3_typeOf_42 ?_
  refine aw_bipush (v := 59) hX (by decide) d_X3_typeOf_43 ?_
  refine aw_icmp_ne (t := 52) hX (by decide) d_X3_typeOf_45 (fun c => ?_) (fun c => ?_)
  · rw [if_neg c] at e
    refine aw_iconst (v := 5) hX (by decide) d_X3_typeOf_52 ?_
    cases e
    exact aw_ireturn hX (Nat.zero_le _) (Nat.zero_le _) d_X3_typeOf_53
  · rw [if_pos c] at e
    refine aw_iconst (v := 3) hX (by decide) d_X3_typeOf_48 ?_
    refine aw_goto (t := 53) hX (by decide) d_X3_typeOf_49 ?_
    cases e
    exact aw_ireturn hX (Nat.zero_le _) (Nat.zero_le _) d_X3_typeOf_53
def j_X3_typeOf_28 (v0 : Int32) (h : AH) : Option Int32 := if v0 < 48 then j_X3_typeOf_42 v0 h else if 57 < v0 then j_X3_typeOf_42 v0 h else some 2
theorem tj_X3_typeOf_28 {g : GP} {X : MX} {mcR msR : Nat} (hF : gF g = true) (hX : Cx g RX3 cX3_typeOf 1 mcR msR (some .int) [] X) {v0 : Int32} {h : AH} {z : Int32} (e : j_X3_typeOf_28 v0 h = some z) : AR g X 0 0 (QQ g X NT false h (.inl (some (.int z))) 0 0) h 28 [.int v0] [] := by
  unfold j_X3_typeOf_28 at e
  refine aw_iload_n (i := 0) hX rfl rfl d_X3_typeOf_28 ?_
  refine aw_bipush (v := 48) hX (by decide) d_X3_typeOf_29 ?_
  refine aw_icmp_lt (t := 42) hX (by decide) d_X3_typeOf_31 (fun c => ?_) (fun c => ?_)
  · rw [if_pos c] at e
    exact tj_X3_typeOf_42 hF hX e
  · rw [if_neg c] at e
    refine aw_iload_n (i := 0) hX rfl rfl d_X3_typeOf_34 ?_
    refine aw_bipush (v := 57) hX (by decide) d_X3_typeOf_35 ?_
    refine aw_icmp_gt (t := 42) hX (by decide) d_X3_typeOf_37 (fun c => ?_) (fun c => ?_)
    · rw [if_pos c] at e
      exact tj_X3_typeOf_42 hF hX e
    · rw [if_neg c] at e
      refine aw_iconst (v := 2) hX (by decide) d_X3_typeOf_40 ?_
      cases e
      exact aw_ireturn hX (Nat.zero_le _) (Nat.zero_le _) d_X3_typeOf_41
def s_X3_typeOf (a0 : Int32) (h : AH) : Option Int32 := if a0 = 32 then some 4 else if a0 = 10 then some 4 else if a0 < 97 then j_X3_typeOf_28 a0 h else if 122 < a0 then j_X3_typeOf_28 a0 h else some 1
theorem t_X3_typeOf {g : GP} {X : MX} {mcR msR : Nat} (hF : gF g = true) (hX : Cx g RX3 cX3_typeOf 1 mcR msR (some .int) [] X) {a0 : Int32} {h : AH} {z : Int32} (e : s_X3_typeOf a0 h = some z) : AR g X 0 0 (QQ g X NT false h (.inl (some (.int z))) 0 0) h 0 [.int a0] [] := by
  unfold s_X3_typeOf at e
  refine aw_iload_n (i := 0) hX rfl rfl d_X3_typeOf_0 ?_
  refine aw_bipush (v := 32) hX (by decide) d_X3_typeOf_1 ?_
  refine aw_icmp_eq (t := 12) hX (by decide) d_X3_typeOf_3 (fun c => ?_) (fun c => ?_)
  · rw [if_pos c] at e
    refine aw_iconst (v := 4) hX (by decide) d_X3_typeOf_12 ?_
    cases e
    exact aw_ireturn hX (Nat.zero_le _) (Nat.zero_le _) d_X3_typeOf_13
  · rw [if_neg c] at e
    refine aw_iload_n (i := 0) hX rfl rfl d_X3_typeOf_6 ?_
    refine aw_bipush (v := 10) hX (by decide) d_X3_typeOf_7 ?_
    refine aw_icmp_ne (t := 14) hX (by decide) d_X3_typeOf_9 (fun c => ?_) (fun c => ?_)
    · rw [if_neg c] at e
      refine aw_iload_n (i := 0) hX rfl rfl d_X3_typeOf_14 ?_
      refine aw_bipush (v := 97) hX (by decide) d_X3_typeOf_15 ?_
      refine aw_icmp_lt (t := 28) hX (by decide) d_X3_typeOf_17 (fun c => ?_) (fun c => ?_)
      · rw [if_pos c] at e
        exact tj_X3_typeOf_28 hF hX e
      · rw [if_neg c] at e
        refine aw_iload_n (i := 0) hX rfl rfl d_X3_typeOf_20 ?_
        refine aw_bipush (v := 122) hX (by decide) d_X3_typeOf_21 ?_
        refine aw_icmp_gt (t := 28) hX (by decide) d_X3_typeOf_23 (fun c => ?_) (fun c => ?_)
        · rw [if_pos c] at e
          exact tj_X3_typeOf_28 hF hX e
        · rw [if_neg c] at e
          refine aw_iconst (v := 1) hX (by decide) d_X3_typeOf_26 ?_
          cases e
          exact aw_ireturn hX (Nat.zero_le _) (Nat.zero_le _) d_X3_typeOf_27
    · rw [if_pos c] at e
      refine aw_iconst (v := 4) hX (by decide) d_X3_typeOf_12 ?_
      cases e
      exact aw_ireturn hX (Nat.zero_le _) (Nat.zero_le _) d_X3_typeOf_13
theorem k_X3_typeOf {g : GP} (hg : g.1.stackTraces = false) (hF : gF g = true) {a0 : Int32} {h : AH} {z : Int32} (e : s_X3_typeOf a0 h = some z) : Ctr g yX3_typeOf (wsY yX3_typeOf cX3_typeOf 1 (some .int)) 1 0 0 [.int a0] NT false h (some (.int z)) NT false h := ctr_of (lv0 := [.int a0]) rfl rfl (by decide) hg trivial (fun X hX hn => t_X3_typeOf hF hX e)
theorem d_X3_read_0 : decode cX3_read 0 = .ok (.aload_n 0, 1) := by decide +kernel
theorem d_X3_read_1 : decode cX3_read 1 = .ok (.aload_n 1, 1) := by decide +kernel
theorem d_X3_read_2 : decode cX3_read 2 = .ok (.putfield 25, 3) := by decide +kernel
theorem d_X3_read_5 : decode cX3_read 5 = .ok (.aload_n 0, 1) := by decide +kernel
theorem d_X3_read_6 : decode cX3_read 6 = .ok (.getfield 25, 3) := by decide +kernel
theorem d_X3_read_9 : decode cX3_read 9 = .ok (.invokevirtual 33, 3) := by decide +kernel
theorem d_X3_read_12 : decode cX3_read 12 = .ok (.aload_n 0, 1) := by decide +kernel
theorem d_X3_read_13 : decode cX3_read 13 = .ok (.iload_n 2, 1) := by decide +kernel
theorem d_X3_read_14 : decode cX3_read 14 = .ok (.putfield 36, 3) := by decide +kernel
theorem d_X3_read_17 : decode cX3_read 17 = .ok (.aload_n 0, 1) := by decide +kernel
theorem d_X3_read_18 : decode cX3_read 18 = .ok (.iconst 0, 1) := by decide +kernel
theorem d_X3_read_19 : decode cX3_read 19 = .ok (.putfield 39, 3) := by decide +kernel
theorem d_X3_read_22 : decode cX3_read 22 = .ok (.aload_n 0, 1) := by decide +kernel
theorem d_X3_read_23 : decode cX3_read 23 = .ok (.iconst 0, 1) := by decide +kernel
theorem d_X3_read_24 : decode cX3_read 24 = .ok (.putfield 42, 3) := by decide +kernel
theorem d_X3_read_27 : decode cX3_read 27 = .ok (.aload_n 0, 1) := by decide +kernel
theorem d_X3_read_28 : decode cX3_read 28 = .ok (.iconst 0, 1) := by decide +kernel
theorem d_X3_read_29 : decode cX3_read 29 = .ok (.putfield 45, 3) := by decide +kernel
theorem d_X3_read_32 : decode cX3_read 32 = .ok (.aload_n 0, 1) := by decide +kernel
theorem d_X3_read_33 : decode cX3_read 33 = .ok (.iconst (-1), 1) := by decide +kernel
theorem d_X3_read_34 : decode cX3_read 34 = .ok (.putfield 29, 3) := by decide +kernel
theorem d_X3_read_37 : decode cX3_read 37 = .ok (.iconst 0, 1) := by decide +kernel
theorem d_X3_read_38 : decode cX3_read 38 = .ok (.istore_n 3, 1) := by decide +kernel
theorem d_X3_read_39 : decode cX3_read 39 = .ok (.iload_n 3, 1) := by decide +kernel
theorem d_X3_read_40 : decode cX3_read 40 = .ok (.iload_n 2, 1) := by decide +kernel
theorem d_X3_read_41 : decode cX3_read 41 = .ok (.if_icmp .ge 31, 3) := by decide +kernel
theorem d_X3_read_44 : decode cX3_read 44 = .ok (.aload_n 0, 1) := by decide +kernel
theorem d_X3_read_45 : decode cX3_read 45 = .ok (.getfield 18, 3) := by decide +kernel
theorem d_X3_read_48 : decode cX3_read 48 = .ok (.iload_n 3, 1) := by decide +kernel
theorem d_X3_read_49 : decode cX3_read 49 = .ok (.aload_n 0, 1) := by decide +kernel
theorem d_X3_read_50 : decode cX3_read 50 = .ok (.getfield 12, 3) := by decide +kernel
theorem d_X3_read_53 : decode cX3_read 53 = .ok (.getfield 48, 3) := by decide +kernel
theorem d_X3_read_56 : decode cX3_read 56 = .ok (.iload_n 3, 1) := by decide +kernel
theorem d_X3_read_57 : decode cX3_read 57 = .ok (.invokestatic 51, 3) := by decide +kernel
theorem d_X3_read_60 : decode cX3_read 60 = .ok (.invokestatic 55, 3) := by decide +kernel
theorem d_X3_read_63 : decode cX3_read 63 = .ok (.invokestatic 59, 3) := by decide +kernel
theorem d_X3_read_66 : decode cX3_read 66 = .ok (.iinc 3 1, 3) := by decide +kernel
theorem d_X3_read_69 : decode cX3_read 69 = .ok (.goto (-30), 3) := by decide +kernel
theorem d_X3_read_72 : decode cX3_read 72 = .ok (.aload_n 0, 1) := by decide +kernel
theorem d_X3_read_73 : decode cX3_read 73 = .ok (.invokevirtual 63, 3) := by decide +kernel
theorem d_X3_read_76 : decode cX3_read 76 = .ok (.iconst 0, 1) := by decide +kernel
theorem d_X3_read_77 : decode cX3_read 77 = .ok (.istore_n 3, 1) := by decide +kernel
theorem d_X3_read_78 : decode cX3_read 78 = .ok (.iload_n 3, 1) := by decide +kernel
theorem d_X3_read_79 : decode cX3_read 79 = .ok (.iload_n 2, 1) := by decide +kernel
theorem d_X3_read_80 : decode cX3_read 80 = .ok (.if_icmp .ge 27, 3) := by decide +kernel
theorem d_X3_read_83 : decode cX3_read 83 = .ok (.aload_n 0, 1) := by decide +kernel
theorem d_X3_read_84 : decode cX3_read 84 = .ok (.getfield 45, 3) := by decide +kernel
theorem d_X3_read_87 : decode cX3_read 87 = .ok (.ifCond .ne 20, 3) := by decide +kernel
theorem d_X3_read_90 : decode cX3_read 90 = .ok (.aload_n 0, 1) := by decide +kernel
theorem d_X3_read_91 : decode cX3_read 91 = .ok (.getfield 66, 3) := by decide +kernel
theorem d_X3_read_94 : decode cX3_read 94 = .ok (.ifCond .eq 13, 3) := by decide +kernel
theorem d_X3_read_97 : decode cX3_read 97 = .ok (.aload_n 0, 1) := by decide +kernel
theorem d_X3_read_98 : decode cX3_read 98 = .ok (.invokevirtual 69, 3) := by decide +kernel
theorem d_X3_read_101 : decode cX3_read 101 = .ok (.iinc 3 1, 3) := by decide +kernel
theorem d_X3_read_104 : decode cX3_read 104 = .ok (.goto (-26), 3) := by decide +kernel
theorem d_X3_read_107 : decode cX3_read 107 = .ok (.aload_n 0, 1) := by decide +kernel
theorem d_X3_read_108 : decode cX3_read 108 = .ok (.getfield 45, 3) := by decide +kernel
theorem d_X3_read_111 : decode cX3_read 111 = .ok (.ireturn, 1) := by decide +kernel
def l_X3_read_39 (p2 : Int32) (s : Int32) (h : AH) : Option ((Int32 ⊕ Unit) × AH) := if p2 ≤ s then some (.inr (), h) else bd (s_X9_at (some 3) s h) fun x3 => bd (s_X3_typeOf x3 h) fun x4 => bd (s_X9_put (some 4) s x4 h) fun q5 => some (.inl (s + 1), q5.2)
theorem tb_X3_read_39 {g : GP} {X : MX} {mcR msR : Nat} (hF : gF g = true) (hX : Cx g RX3 cX3_read 9 mcR msR (some .int) [] X) {Q : State → Prop} {p2 : Int32} {s : Int32} {d1 : Value} {h hz : AH} {z : (Int32 ⊕ Unit)} (e : l_X3_read_39 p2 s h = some (z, hz)) (kI : ∀ (s2 : Int32) (xd1 : Value), z = .inl s2 → AR g X 0 0 Q hz 39 [.ref 1, xd1, .int p2, .int s2] []) (kE0 : ∀ (yy : Unit) (y1 : Value) (y3 : Value), z = .inr yy → AR g X 0 0 Q hz 72 [.ref 1, y1, .int p2, y3] []) : AR g X 0 0 Q h 39 [.ref 1, d1, .int p2, .int s] [] := by
  unfold l_X3_read_39 at e
  refine aw_iload_n (i := 3) hX rfl rfl d_X3_read_39 ?_
  refine aw_iload_n (i := 2) hX rfl rfl d_X3_read_40 ?_
  refine aw_icmp_ge (t := 72) hX (by decide) d_X3_read_41 (fun c => ?_) (fun c => ?_)
  · rw [if_pos c] at e
    cases e
    exact kE0 () _ _ rfl
  · rw [if_neg c] at e
    refine aw_aload_n (i := 0) hX rfl rfl d_X3_read_44 ?_
    refine ar_getF hX hF fg_RX3_18 rfl d_X3_read_45 ?_
    show AR g X 0 0 _ _ 48 _ [.ref 4]
    refine aw_iload_n (i := 3) hX rfl rfl d_X3_read_48 ?_
    refine aw_aload_n (i := 0) hX rfl rfl d_X3_read_49 ?_
    refine ar_getF hX hF fg_RX3_12 rfl d_X3_read_50 ?_
    show AR g X 0 0 _ _ 53 _ [.ref 2, .int s, .ref 4]
    refine ar_getF hX hF fg_RX3_48 rfl d_X3_read_53 ?_
    show AR g X 0 0 _ _ 56 _ [.ref 3, .int s, .ref 4]
    refine aw_iload_n (i := 3) hX rfl rfl d_X3_read_56 ?_
    obtain ⟨x3, f_549, e_549⟩ := bd_some e
    clear e
    refine aw_callSN (av := [.ref 3, .int s]) (avr := [.int s, .ref 3]) hX (k_X9_at (cx_g hX) hF f_549) mi_X9_at rfl rfl nx16 w_6 (by decide) (Nat.le_of_ble_eq_true rfl) (Nat.zero_le _) (Nat.zero_le _) d_X3_read_57 ?_
    obtain ⟨x4, f_550, e_550⟩ := bd_some e_549
    clear e_549
    refine aw_callS (av := [.int x3]) (avr := [.int x3]) hX (k_X3_typeOf (cx_g hX) hF f_550) mi_X3_typeOf rfl rfl w_314 w_315 rfl (by decide) (Nat.le_of_ble_eq_true rfl) (Nat.zero_le _) (Nat.zero_le _) d_X3_read_60 ?_
    obtain ⟨q5, f_551, e_551⟩ := bd_some e_550
    clear e_550
    refine aw_callSN (av := [.ref 4, .int s, .int x4]) (avr := [.int x4, .int s, .ref 4]) hX (k_X9_put (cx_g hX) hF f_551) mi_X9_put rfl rfl nx17 w_83 (by decide) (Nat.le_of_ble_eq_true rfl) (Nat.zero_le _) (Nat.zero_le _) d_X3_read_63 ?_
    refine aw_iinc (i := 3) (lv2 := [.ref 1, d1, .int p2, .int (s + 1)]) hX rfl rfl rfl rfl d_X3_read_66 ?_
    refine aw_goto (t := 39) hX (by decide) d_X3_read_69 ?_
    cases e_551
    exact kI (s + 1) _ rfl
theorem ti_X3_read_39 {g : GP} {X : MX} {mcR msR : Nat} (hF : gF g = true) (hX : Cx g RX3 cX3_read 9 mcR msR (some .int) [] X) {Q : State → Prop} {p2 : Int32} {y : Unit} {hz : AH} (kE0 : ∀ (y_1 : Value) (y_3 : Value), AR g X 0 0 Q hz 72 [.ref 1, y_1, .int p2, y_3] []) (n : Nat) : ∀ (s : Int32) (d1 : Value) (h : AH), lpH (l_X3_read_39 p2) n s h = some (y, hz) → AR g X 0 0 Q h 39 [.ref 1, d1, .int p2, .int s] [] := by
  induction n with
  | zero => intro s d1 h e; cases e
  | succ n ih =>
    intro s d1 h e
    obtain ⟨x, h1, e1, e2⟩ := lpH_succ e
    rcases e2 with ⟨s2, rfl, e3⟩ | ⟨rfl, rfl⟩
    · exact tb_X3_read_39 hF hX e1 (fun s3 x0 hs => by cases hs; exact ih _ _ _ e3) (fun yy x0 x1 hy => by cases hy)
    · exact tb_X3_read_39 hF hX e1 (fun s3 x0 hs => by cases hs) (fun yy x0 x1 hy => by cases hy; exact kE0 x0 x1)
theorem t_X3_read_39 {g : GP} {X : MX} {mcR msR : Nat} (hF : gF g = true) (hX : Cx g RX3 cX3_read 9 mcR msR (some .int) [] X) {Q : State → Prop} {p2 : Int32} {s : Int32} {d1 : Value} {h hz : AH} {n : Nat} {y : Unit} (e : lpH (l_X3_read_39 p2) n s h = some (y, hz)) (kE0 : ∀ (y_1 : Value) (y_3 : Value), AR g X 0 0 Q hz 72 [.ref 1, y_1, .int p2, y_3] []) : AR g X 0 0 Q h 39 [.ref 1, d1, .int p2, .int s] [] := ti_X3_read_39 hF hX kE0 n _ _ _ e
def l_X3_read_78 (p2 : Int32) (s : Int32) (h : AH) : Option ((Int32 ⊕ Unit) × AH) := if p2 ≤ s then some (.inr (), h) else if (gI h 1 8) = 0 then if (gI h 1 4) = 0 then some (.inr (), h) else bd (s_X3_readLine h) fun q9 => some (.inl (s + 1), q9.2) else some (.inr (), h)
theorem tb_X3_read_78 {g : GP} {X : MX} {mcR msR : Nat} (hF : gF g = true) (hX : Cx g RX3 cX3_read 9 mcR msR (some .int) [] X) {Q : State → Prop} {p2 : Int32} {s : Int32} {d1 : Value} {h hz : AH} {z : (Int32 ⊕ Unit)} (e : l_X3_read_78 p2 s h = some (z, hz)) (kI : ∀ (s2 : Int32) (xd1 : Value), z = .inl s2 → AR g X 0 0 Q hz 78 [.ref 1, xd1, .int p2, .int s2] []) (kE0 : ∀ (yy : Unit) (y1 : Value) (y2 : Value) (y3 : Value), z = .inr yy → AR g X 0 0 Q hz 107 [.ref 1, y1, y2, y3] []) : AR g X 0 0 Q h 78 [.ref 1, d1, .int p2, .int s] [] := by
  unfold l_X3_read_78 at e
  refine aw_iload_n (i := 3) hX rfl rfl d_X3_read_78 ?_
  refine aw_iload_n (i := 2) hX rfl rfl d_X3_read_79 ?_
  refine aw_icmp_ge (t := 107) hX (by decide) d_X3_read_80 (fun c => ?_) (fun c => ?_)
  · rw [if_pos c] at e
    cases e
    exact kE0 () _ _ _ rfl
  · rw [if_neg c] at e
    refine aw_aload_n (i := 0) hX rfl rfl d_X3_read_83 ?_
    refine ar_getI hX fg_RX3_45 rfl d_X3_read_84 ?_
    refine aw_if_ne (t := 107) hX (by decide) d_X3_read_87 (fun c => ?_) (fun c => ?_)
    · rw [if_neg c] at e
      cases e
      exact kE0 () _ _ _ rfl
    · rw [if_pos c] at e
      refine aw_aload_n (i := 0) hX rfl rfl d_X3_read_90 ?_
      refine ar_getI hX fg_RX3_66 rfl d_X3_read_91 ?_
      refine aw_if_eq (t := 107) hX (by decide) d_X3_read_94 (fun c => ?_) (fun c => ?_)
      · rw [if_pos c] at e
        cases e
        exact kE0 () _ _ _ rfl
      · rw [if_neg c] at e
        refine aw_aload_n (i := 0) hX rfl rfl d_X3_read_97 ?_
        obtain ⟨q9, f_552, e_552⟩ := bd_some e
        clear e
        refine aw_callV (b := 1) (av := []) (avr := []) hX (k_X3_readLine (cx_g hX) hF f_552) mi_X3_readLine rfl rfl w_317 w_318 w_319 (by decide) rfl (LAY_lt rfl (by decide)) rfl rfl (Nat.le_of_ble_eq_true rfl) (Nat.zero_le _) (Nat.zero_le _) d_X3_read_98 ?_
        refine aw_iinc (i := 3) (lv2 := [.ref 1, d1, .int p2, .int (s + 1)]) hX rfl rfl rfl rfl d_X3_read_101 ?_
        refine aw_goto (t := 78) hX (by decide) d_X3_read_104 ?_
        cases e_552
        exact kI (s + 1) _ rfl
theorem ti_X3_read_78 {g : GP} {X : MX} {mcR msR : Nat} (hF : gF g = true) (hX : Cx g RX3 cX3_read 9 mcR msR (some .int) [] X) {Q : State → Prop} {p2 : Int32} {y : Unit} {hz : AH} (kE0 : ∀ (y_1 : Value) (y_2 : Value) (y_3 : Value), AR g X 0 0 Q hz 107 [.ref 1, y_1, y_2, y_3] []) (n : Nat) : ∀ (s : Int32) (d1 : Value) (h : AH), lpH (l_X3_read_78 p2) n s h = some (y, hz) → AR g X 0 0 Q h 78 [.ref 1, d1, .int p2, .int s] [] := by
  induction n with
  | zero => intro s d1 h e; cases e
  | succ n ih =>
    intro s d1 h e
    obtain ⟨x, h1, e1, e2⟩ := lpH_succ e
    rcases e2 with ⟨s2, rfl, e3⟩ | ⟨rfl, rfl⟩
    · exact tb_X3_read_78 hF hX e1 (fun s3 x0 hs => by cases hs; exact ih _ _ _ e3) (fun yy x0 x1 x2 hy => by cases hy)
    · exact tb_X3_read_78 hF hX e1 (fun s3 x0 hs => by cases hs) (fun yy x0 x1 x2 hy => by cases hy; exact kE0 x0 x1 x2)
theorem t_X3_read_78 {g : GP} {X : MX} {mcR msR : Nat} (hF : gF g = true) (hX : Cx g RX3 cX3_read 9 mcR msR (some .int) [] X) {Q : State → Prop} {p2 : Int32} {s : Int32} {d1 : Value} {h hz : AH} {n : Nat} {y : Unit} (e : lpH (l_X3_read_78 p2) n s h = some (y, hz)) (kE0 : ∀ (y_1 : Value) (y_2 : Value) (y_3 : Value), AR g X 0 0 Q hz 107 [.ref 1, y_1, y_2, y_3] []) : AR g X 0 0 Q h 78 [.ref 1, d1, .int p2, .int s] [] := ti_X3_read_78 hF hX kE0 n _ _ _ e
def j_X3_read_107 (h : AH) : Option (Int32 × AH) := some ((gI h 1 8), h)
theorem tj_X3_read_107 {g : GP} {X : MX} {mcR msR : Nat} (hF : gF g = true) (hX : Cx g RX3 cX3_read 9 mcR msR (some .int) [] X) {d1 : Value} {d2 : Value} {d3 : Value} {h hz : AH} {z : Int32} (e : j_X3_read_107 h = some (z, hz)) : AR g X 0 0 (QQ g X NT false hz (.inl (some (.int z))) 0 0) h 107 [.ref 1, d1, d2, d3] [] := by
  unfold j_X3_read_107 at e
  refine aw_aload_n (i := 0) hX rfl rfl d_X3_read_107 ?_
  refine ar_getI hX fg_RX3_45 rfl d_X3_read_108 ?_
  cases e
  exact aw_ireturn hX (Nat.zero_le _) (Nat.zero_le _) d_X3_read_111
def s_X3_read (a0 : Option Nat) (a1 : Int32) (h : AH) : Option (Int32 × AH) := bd a0 fun oa0 => if LAY oa0 = (0, 8) then bd (gR (sR h 1 2 (some oa0)) 1 2) fun t1 => if LAY t1 = (0, 8) then bd (s_X8_clear t1 (sR h 1 2 (some oa0))) fun q2 => bd (lpH (l_X3_read_39 a1) FU 0 (sI (sI (sI (sI (sI q2.2 1 3 a1) 1 6 0) 1 7 0) 1 8 0) 1 9 (-1))) fun y6 => bd (s_X3_advance y6.2) fun q8 => bd (lpH (l_X3_read_78 a1) FU 0 q8.2) fun y10 => j_X3_read_107 y10.2 else none else none
theorem t_X3_read {g : GP} {X : MX} {mcR msR : Nat} (hF : gF g = true) (hX : Cx g RX3 cX3_read 9 mcR msR (some .int) [] X) {a0 : Option Nat} {a1 : Int32} {h hz : AH} {z : Int32} (e : s_X3_read a0 a1 h = some (z, hz)) : AR g X 0 0 (QQ g X NT false hz (.inl (some (.int z))) 0 0) h 0 [.ref 1, rfV a0, .int a1, jk] [] := by
  unfold s_X3_read at e
  obtain ⟨oa0, e0, e_553⟩ := bd_some e
  clear e
  subst e0
  obtain ⟨hl_a0, e_554⟩ := if_some e_553
  clear e_553
  refine aw_aload_n (i := 0) hX rfl rfl d_X3_read_0 ?_
  refine aw_aload_n (i := 1) hX rfl rfl d_X3_read_1 ?_
  refine ar_putR hX fp_RX3_25 rfl d_X3_read_2 ?_
  refine aw_aload_n (i := 0) hX rfl rfl d_X3_read_5 ?_
  obtain ⟨t1, f_555, e_555⟩ := bd_some e_554
  clear e_554
  obtain ⟨hlt1, e_556⟩ := if_some e_555
  clear e_555
  refine ar_getR hX fg_RX3_25 rfl f_555 d_X3_read_6 ?_
  obtain ⟨q2, f_557, e_557⟩ := bd_some e_556
  clear e_556
  refine aw_callV (b := t1) (av := []) (avr := []) hX (k_X8_clear (cx_g hX) hF f_557) mi_X8_clear rfl rfl w_310 w_311 w_312 (by decide) (by assumption) (LAY_lt (by assumption) (by decide)) rfl rfl (Nat.le_of_ble_eq_true rfl) (Nat.zero_le _) (Nat.zero_le _) d_X3_read_9 ?_
  refine aw_aload_n (i := 0) hX rfl rfl d_X3_read_12 ?_
  refine aw_iload_n (i := 2) hX rfl rfl d_X3_read_13 ?_
  refine ar_putI hX fp_RX3_36 rfl d_X3_read_14 ?_
  refine aw_aload_n (i := 0) hX rfl rfl d_X3_read_17 ?_
  refine aw_iconst (v := 0) hX (by decide) d_X3_read_18 ?_
  refine ar_putI hX fp_RX3_39 rfl d_X3_read_19 ?_
  refine aw_aload_n (i := 0) hX rfl rfl d_X3_read_22 ?_
  refine aw_iconst (v := 0) hX (by decide) d_X3_read_23 ?_
  refine ar_putI hX fp_RX3_42 rfl d_X3_read_24 ?_
  refine aw_aload_n (i := 0) hX rfl rfl d_X3_read_27 ?_
  refine aw_iconst (v := 0) hX (by decide) d_X3_read_28 ?_
  refine ar_putI hX fp_RX3_45 rfl d_X3_read_29 ?_
  refine aw_aload_n (i := 0) hX rfl rfl d_X3_read_32 ?_
  refine aw_iconst (v := (-1)) hX (by decide) d_X3_read_33 ?_
  refine ar_putI hX fp_RX3_29 rfl d_X3_read_34 ?_
  refine aw_iconst (v := 0) hX (by decide) d_X3_read_37 ?_
  refine aw_istore_n (i := 3) (lv2 := [.ref 1, .ref oa0, .int a1, .int 0]) hX rfl rfl rfl d_X3_read_38 ?_
  obtain ⟨y6, f_558, e_558⟩ := bd_some e_557
  clear e_557
  refine t_X3_read_39 hF hX f_558 (fun d7_1 d7_3 => ?_)
  refine aw_aload_n (i := 0) hX rfl rfl d_X3_read_72 ?_
  obtain ⟨q8, f_559, e_559⟩ := bd_some e_558
  clear e_558
  refine aw_callV (b := 1) (av := []) (avr := []) hX (k_X3_advance (cx_g hX) hF f_559) mi_X3_advance rfl rfl w_230 w_231 w_232 (by decide) rfl (LAY_lt rfl (by decide)) rfl rfl (Nat.le_of_ble_eq_true rfl) (Nat.zero_le _) (Nat.zero_le _) d_X3_read_73 ?_
  refine aw_iconst (v := 0) hX (by decide) d_X3_read_76 ?_
  refine aw_istore_n (i := 3) (lv2 := [.ref 1, d7_1, .int a1, .int 0]) hX rfl rfl rfl d_X3_read_77 ?_
  obtain ⟨y10, f_560, e_560⟩ := bd_some e_559
  clear e_559
  refine t_X3_read_78 hF hX f_560 (fun d11_1 d11_2 d11_3 => ?_)
  exact tj_X3_read_107 hF hX e_560
theorem k_X3_read {g : GP} (hg : g.1.stackTraces = false) (hF : gF g = true) {a0 : Option Nat} {a1 : Int32} {h hz : AH} {z : Int32} (e : s_X3_read a0 a1 h = some (z, hz)) : Ctr g yX3_read (wsY yX3_read cX3_read 4 (some .int)) 9 0 0 [.ref 1, rfV a0, .int a1] NT false h (some (.int z)) NT false hz := ctr_of (lv0 := [.ref 1, rfV a0, .int a1, jk]) (by cases a0 <;> rfl) (by cases a0 <;> rfl) (by decide) hg trivial (fun X hX hn => t_X3_read hF hX e)
theorem d_X7_add_0 : decode cX7_add 0 = .ok (.bipush 24, 2) := by decide +kernel
theorem d_X7_add_2 : decode cX7_add 2 = .ok (.istore_n 2, 1) := by decide +kernel
theorem d_X7_add_3 : decode cX7_add 3 = .ok (.iload_n 2, 1) := by decide +kernel
theorem d_X7_add_4 : decode cX7_add 4 = .ok (.ifCond .lt 47, 3) := by decide +kernel
theorem d_X7_add_7 : decode cX7_add 7 = .ok (.aload_n 0, 1) := by decide +kernel
theorem d_X7_add_8 : decode cX7_add 8 = .ok (.getfield 15, 3) := by decide +kernel
theorem d_X7_add_11 : decode cX7_add 11 = .ok (.sipush 700, 3) := by decide +kernel
theorem d_X7_add_14 : decode cX7_add 14 = .ok (.if_icmp .ge 31, 3) := by decide +kernel
theorem d_X7_add_17 : decode cX7_add 17 = .ok (.aload_n 0, 1) := by decide +kernel
theorem d_X7_add_18 : decode cX7_add 18 = .ok (.getfield 9, 3) := by decide +kernel
theorem d_X7_add_21 : decode cX7_add 21 = .ok (.aload_n 0, 1) := by decide +kernel
theorem d_X7_add_22 : decode cX7_add 22 = .ok (.getfield 15, 3) := by decide +kernel
theorem d_X7_add_25 : decode cX7_add 25 = .ok (.iload_n 1, 1) := by decide +kernel
theorem d_X7_add_26 : decode cX7_add 26 = .ok (.iload_n 2, 1) := by decide +kernel
theorem d_X7_add_27 : decode cX7_add 27 = .ok (.iushr, 1) := by decide +kernel
theorem d_X7_add_28 : decode cX7_add 28 = .ok (.sipush 255, 3) := by decide +kernel
theorem d_X7_add_31 : decode cX7_add 31 = .ok (.iand, 1) := by decide +kernel
theorem d_X7_add_32 : decode cX7_add 32 = .ok (.invokestatic 19, 3) := by decide +kernel
theorem d_X7_add_35 : decode cX7_add 35 = .ok (.aload_n 0, 1) := by decide +kernel
theorem d_X7_add_36 : decode cX7_add 36 = .ok (.dup, 1) := by decide +kernel
theorem d_X7_add_37 : decode cX7_add 37 = .ok (.getfield 15, 3) := by decide +kernel
theorem d_X7_add_40 : decode cX7_add 40 = .ok (.iconst 1, 1) := by decide +kernel
theorem d_X7_add_41 : decode cX7_add 41 = .ok (.iadd, 1) := by decide +kernel
theorem d_X7_add_42 : decode cX7_add 42 = .ok (.putfield 15, 3) := by decide +kernel
theorem d_X7_add_45 : decode cX7_add 45 = .ok (.iinc 2 (-8), 3) := by decide +kernel
theorem d_X7_add_48 : decode cX7_add 48 = .ok (.goto (-45), 3) := by decide +kernel
theorem d_X7_add_51 : decode cX7_add 51 = .ok (.return_, 1) := by decide +kernel
def j_X7_add_45_3 (p1 : Int32) (v2 : Int32) (h : AH) : Option ((Int32 ⊕ Unit) × AH) := some (.inl (v2 + (-8)), h)
theorem tj_X7_add_45_3 {g : GP} {X : MX} {mcR msR : Nat} (hF : gF g = true) (hX : Cx g RX7 cX7_add 2 mcR msR none [] X) {Q : State → Prop} {p1 : Int32} {v2 : Int32} {h hz : AH} {z : (Int32 ⊕ Unit)} (e : j_X7_add_45_3 p1 v2 h = some (z, hz)) (kI : ∀ (s2 : Int32), z = .inl s2 → AR g X 0 0 Q hz 3 [.ref 2, .int p1, .int s2] []) (kE0 : ∀ (yy : Unit) (y0 : Value) (y1 : Value) (y2 : Value), z = .inr yy → AR g X 0 0 Q hz 51 [y0, y1, y2] []) : AR g X 0 0 Q h 45 [.ref 2, .int p1, .int v2] [] := by
  unfold j_X7_add_45_3 at e
  refine aw_iinc (i := 2) (lv2 := [.ref 2, .int p1, .int (v2 + (-8))]) hX rfl (iz (b := (-8)) (by decide)) rfl rfl d_X7_add_45 ?_
  refine aw_goto (t := 3) hX (by decide) d_X7_add_48 ?_
  cases e
  exact kI (v2 + (-8))  rfl
def l_X7_add_3 (p1 : Int32) (s : Int32) (h : AH) : Option ((Int32 ⊕ Unit) × AH) := if s < 0 then some (.inr (), h) else if (700 : Int32) ≤ (gI h 2 1) then j_X7_add_45_3 p1 s h else bd (s_X9_put (some 3) (gI h 2 1) ((iushrF p1 s) &&& 255) h) fun q1 => j_X7_add_45_3 p1 s (sI q1.2 2 1 ((gI q1.2 2 1) + 1))
theorem tb_X7_add_3 {g : GP} {X : MX} {mcR msR : Nat} (hF : gF g = true) (hX : Cx g RX7 cX7_add 2 mcR msR none [] X) {Q : State → Prop} {p1 : Int32} {s : Int32} {h hz : AH} {z : (Int32 ⊕ Unit)} (e : l_X7_add_3 p1 s h = some (z, hz)) (kI : ∀ (s2 : Int32), z = .inl s2 → AR g X 0 0 Q hz 3 [.ref 2, .int p1, .int s2] []) (kE0 : ∀ (yy : Unit) (y0 : Value) (y1 : Value) (y2 : Value), z = .inr yy → AR g X 0 0 Q hz 51 [y0, y1, y2] []) : AR g X 0 0 Q h 3 [.ref 2, .int p1, .int s] [] := by
  unfold l_X7_add_3 at e
  refine aw_iload_n (i := 2) hX rfl rfl d_X7_add_3 ?_
  refine aw_if_lt (t := 51) hX (by decide) d_X7_add_4 (fun c => ?_) (fun c => ?_)
  · rw [if_pos c] at e
    cases e
    exact kE0 () _ _ _ rfl
  · rw [if_neg c] at e
    refine aw_aload_n (i := 0) hX rfl rfl d_X7_add_7 ?_
    refine ar_getI hX fg_RX7_15 rfl d_X7_add_8 ?_
    refine aw_sipush (v := 700) hX (by decide) d_X7_add_11 ?_
    refine aw_icmp_ge (t := 45) hX (by decide) d_X7_add_14 (fun c => ?_) (fun c => ?_)
    · rw [if_pos c] at e
      exact tj_X7_add_45_3 hF hX e kI kE0
    · rw [if_neg c] at e
      refine aw_aload_n (i := 0) hX rfl rfl d_X7_add_17 ?_
      refine ar_getF hX hF fg_RX7_9 rfl d_X7_add_18 ?_
      show AR g X 0 0 _ _ 21 _ [.ref 3]
      refine aw_aload_n (i := 0) hX rfl rfl d_X7_add_21 ?_
      refine ar_getI hX fg_RX7_15 rfl d_X7_add_22 ?_
      refine aw_iload_n (i := 1) hX rfl rfl d_X7_add_25 ?_
      refine aw_iload_n (i := 2) hX rfl rfl d_X7_add_26 ?_
      refine aw_iushr hX d_X7_add_27 ?_
      refine aw_sipush (v := 255) hX (by decide) d_X7_add_28 ?_
      refine aw_iand hX d_X7_add_31 ?_
      obtain ⟨q1, f_742, e_742⟩ := bd_some e
      clear e
      refine aw_callSN (av := [.ref 3, .int (gI h 2 1), .int ((iushrF p1 s) &&& 255)]) (avr := [.int ((iushrF p1 s) &&& 255), .int (gI h 2 1), .ref 3]) hX (k_X9_put (cx_g hX) hF f_742) mi_X9_put rfl rfl nx7 w_83 (by decide) (Nat.le_of_ble_eq_true rfl) (Nat.zero_le _) (Nat.zero_le _) d_X7_add_32 ?_
      refine aw_aload_n (i := 0) hX rfl rfl d_X7_add_35 ?_
      refine aw_dup hX rfl d_X7_add_36 ?_
      refine ar_getI hX fg_RX7_15 rfl d_X7_add_37 ?_
      refine aw_iconst (v := 1) hX (by decide) d_X7_add_40 ?_
      refine aw_iadd hX d_X7_add_41 ?_
      refine ar_putI hX fp_RX7_15 rfl d_X7_add_42 ?_
      exact tj_X7_add_45_3 hF hX e_742 kI kE0
theorem ti_X7_add_3 {g : GP} {X : MX} {mcR msR : Nat} (hF : gF g = true) (hX : Cx g RX7 cX7_add 2 mcR msR none [] X) {Q : State → Prop} {p1 : Int32} {y : Unit} {hz : AH} (kE0 : ∀ (y_0 : Value) (y_1 : Value) (y_2 : Value), AR g X 0 0 Q hz 51 [y_0, y_1, y_2] []) (n : Nat) : ∀ (s : Int32) (h : AH), lpH (l_X7_add_3 p1) n s h = some (y, hz) → AR g X 0 0 Q h 3 [.ref 2, .int p1, .int s] [] := by
  induction n with
  | zero => intro s h e; cases e
  | succ n ih =>
    intro s h e
    obtain ⟨x, h1, e1, e2⟩ := lpH_succ e
    rcases e2 with ⟨s2, rfl, e3⟩ | ⟨rfl, rfl⟩
    · exact tb_X7_add_3 hF hX e1 (fun s3  hs => by cases hs; exact ih _  _ e3) (fun yy x0 x1 x2 hy => by cases hy)
    · exact tb_X7_add_3 hF hX e1 (fun s3  hs => by cases hs) (fun yy x0 x1 x2 hy => by cases hy; exact kE0 x0 x1 x2)
theorem t_X7_add_3 {g : GP} {X : MX} {mcR msR : Nat} (hF : gF g = true) (hX : Cx g RX7 cX7_add 2 mcR msR none [] X) {Q : State → Prop} {p1 : Int32} {s : Int32} {h hz : AH} {n : Nat} {y : Unit} (e : lpH (l_X7_add_3 p1) n s h = some (y, hz)) (kE0 : ∀ (y_0 : Value) (y_1 : Value) (y_2 : Value), AR g X 0 0 Q hz 51 [y_0, y_1, y_2] []) : AR g X 0 0 Q h 3 [.ref 2, .int p1, .int s] [] := ti_X7_add_3 hF hX kE0 n _  _ e
def s_X7_add (a0 : Int32) (h : AH) : Option (Unit × AH) := bd (lpH (l_X7_add_3 a0) FU 24 h) fun y2 => some ((), y2.2)
theorem t_X7_add {g : GP} {X : MX} {mcR msR : Nat} (hF : gF g = true) (hX : Cx g RX7 cX7_add 2 mcR msR none [] X) {a0 : Int32} {h hz : AH} {z : Unit} (e : s_X7_add a0 h = some (z, hz)) : AR g X 0 0 (QQ g X NT false hz (.inl none) 0 0) h 0 [.ref 2, .int a0, jk] [] := by
  unfold s_X7_add at e
  refine aw_bipush (v := 24) hX (by decide) d_X7_add_0 ?_
  refine aw_istore_n (i := 2) (lv2 := [.ref 2, .int a0, .int 24]) hX rfl rfl rfl d_X7_add_2 ?_
  obtain ⟨y2, f_743, e_743⟩ := bd_some e
  clear e
  refine t_X7_add_3 hF hX f_743 (fun d3_0 d3_1 d3_2 => ?_)
  cases e_743
  exact aw_return hX (Nat.zero_le _) (Nat.zero_le _) d_X7_add_51
theorem k_X7_add {g : GP} (hg : g.1.stackTraces = false) (hF : gF g = true) {a0 : Int32} {h hz : AH} {z : Unit} (e : s_X7_add a0 h = some (z, hz)) : Ctr g yX7_add (wsY yX7_add cX7_add 3 none) 2 0 0 [.ref 2, .int a0] NT false h none NT false hz := ctr_of (lv0 := [.ref 2, .int a0, jk]) rfl rfl (by decide) hg trivial (fun X hX hn => t_X7_add hF hX e)
