/-! 26.seating: functions and contracts, by program -/
theorem d_X6_forget_0 : decode cX6_forget 0 = .ok (.aload_n 0, 1) := by decide +kernel
theorem d_X6_forget_1 : decode cX6_forget 1 = .ok (.iconst 0, 1) := by decide +kernel
theorem d_X6_forget_2 : decode cX6_forget 2 = .ok (.putfield 21, 3) := by decide +kernel
theorem d_X6_forget_5 : decode cX6_forget 5 = .ok (.return_, 1) := by decide +kernel
def s_X6_forget (h : AH) : Option (Unit × AH) := some ((), sI h 220 0 0)
theorem t_X6_forget {g : GP} {X : MX} {mcR msR : Nat} (hF : gF g = true) (hX : Cx g RX6 cX6_forget 1 mcR msR none [] X) {h hz : AH} {z : Unit} (e : s_X6_forget h = some (z, hz)) : AR g X 0 0 (QQ g X NT false hz (.inl none) 0 0) h 0 [.ref 220] [] := by
  unfold s_X6_forget at e
  refine aw_aload_n (i := 0) hX rfl rfl d_X6_forget_0 ?_
  refine aw_iconst (v := 0) hX (by decide) d_X6_forget_1 ?_
  refine ar_putZ hX fp_RX6_21 rfl (by decide) d_X6_forget_2 ?_
  cases e
  exact aw_return hX (Nat.zero_le _) (Nat.zero_le _) d_X6_forget_5
theorem k_X6_forget {g : GP} (hg : g.1.stackTraces = false) (hF : gF g = true) {h hz : AH} {z : Unit} (e : s_X6_forget h = some (z, hz)) : Ctr g yX6_forget (wsY yX6_forget cX6_forget 1 none) 1 0 0 [.ref 220] NT false h none NT false hz := ctr_of (lv0 := [.ref 220]) rfl rfl (by decide) hg trivial (fun X hX hn => t_X6_forget hF hX e)
theorem d_X6_collect_0 : decode cX6_collect 0 = .ok (.aload_n 0, 1) := by decide +kernel
theorem d_X6_collect_1 : decode cX6_collect 1 = .ok (.iconst 0, 1) := by decide +kernel
theorem d_X6_collect_2 : decode cX6_collect 2 = .ok (.putfield 47, 3) := by decide +kernel
theorem d_X6_collect_5 : decode cX6_collect 5 = .ok (.iconst 0, 1) := by decide +kernel
theorem d_X6_collect_6 : decode cX6_collect 6 = .ok (.istore_n 3, 1) := by decide +kernel
theorem d_X6_collect_7 : decode cX6_collect 7 = .ok (.iload_n 3, 1) := by decide +kernel
theorem d_X6_collect_8 : decode cX6_collect 8 = .ok (.iconst 5, 1) := by decide +kernel
theorem d_X6_collect_9 : decode cX6_collect 9 = .ok (.if_icmp .ge 94, 3) := by decide +kernel
theorem d_X6_collect_12 : decode cX6_collect 12 = .ok (.iconst 0, 1) := by decide +kernel
theorem d_X6_collect_13 : decode cX6_collect 13 = .ok (.istore 4, 2) := by decide +kernel
theorem d_X6_collect_15 : decode cX6_collect 15 = .ok (.iconst 0, 1) := by decide +kernel
theorem d_X6_collect_16 : decode cX6_collect 16 = .ok (.istore 5, 2) := by decide +kernel
theorem d_X6_collect_18 : decode cX6_collect 18 = .ok (.iload 5, 2) := by decide +kernel
theorem d_X6_collect_20 : decode cX6_collect 20 = .ok (.aload_n 2, 1) := by decide +kernel
theorem d_X6_collect_21 : decode cX6_collect 21 = .ok (.getfield 51, 3) := by decide +kernel
theorem d_X6_collect_24 : decode cX6_collect 24 = .ok (.if_icmp .ge 46, 3) := by decide +kernel
theorem d_X6_collect_27 : decode cX6_collect 27 = .ok (.iload 4, 2) := by decide +kernel
theorem d_X6_collect_29 : decode cX6_collect 29 = .ok (.ifCond .ne 28, 3) := by decide +kernel
theorem d_X6_collect_32 : decode cX6_collect 32 = .ok (.aload_n 1, 1) := by decide +kernel
theorem d_X6_collect_33 : decode cX6_collect 33 = .ok (.getfield 56, 3) := by decide +kernel
theorem d_X6_collect_36 : decode cX6_collect 36 = .ok (.iload 5, 2) := by decide +kernel
theorem d_X6_collect_38 : decode cX6_collect 38 = .ok (.invokestatic 61, 3) := by decide +kernel
theorem d_X6_collect_41 : decode cX6_collect 41 = .ok (.iload_n 3, 1) := by decide +kernel
theorem d_X6_collect_42 : decode cX6_collect 42 = .ok (.if_icmp .ne 19, 3) := by decide +kernel
theorem d_X6_collect_45 : decode cX6_collect 45 = .ok (.aload_n 2, 1) := by decide +kernel
theorem d_X6_collect_46 : decode cX6_collect 46 = .ok (.getfield 65, 3) := by decide +kernel
theorem d_X6_collect_49 : decode cX6_collect 49 = .ok (.iload 5, 2) := by decide +kernel
theorem d_X6_collect_51 : decode cX6_collect 51 = .ok (.invokestatic 61, 3) := by decide +kernel
theorem d_X6_collect_54 : decode cX6_collect 54 = .ok (.ifCond .le 7, 3) := by decide +kernel
theorem d_X6_collect_57 : decode cX6_collect 57 = .ok (.iconst 1, 1) := by decide +kernel
theorem d_X6_collect_58 : decode cX6_collect 58 = .ok (.goto 4, 3) := by decide +kernel
theorem d_X6_collect_61 : decode cX6_collect 61 = .ok (.iconst 0, 1) := by decide +kernel
theorem d_X6_collect_62 : decode cX6_collect 62 = .ok (.istore 4, 2) := by decide +kernel
theorem d_X6_collect_64 : decode cX6_collect 64 = .ok (.iinc 5 1, 3) := by decide +kernel
theorem d_X6_collect_67 : decode cX6_collect 67 = .ok (.goto (-49), 3) := by decide +kernel
theorem d_X6_collect_70 : decode cX6_collect 70 = .ok (.iload 4, 2) := by decide +kernel
theorem d_X6_collect_72 : decode cX6_collect 72 = .ok (.ifCond .eq 25, 3) := by decide +kernel
theorem d_X6_collect_75 : decode cX6_collect 75 = .ok (.aload_n 0, 1) := by decide +kernel
theorem d_X6_collect_76 : decode cX6_collect 76 = .ok (.getfield 15, 3) := by decide +kernel
theorem d_X6_collect_79 : decode cX6_collect 79 = .ok (.aload_n 0, 1) := by decide +kernel
theorem d_X6_collect_80 : decode cX6_collect 80 = .ok (.getfield 47, 3) := by decide +kernel
theorem d_X6_collect_83 : decode cX6_collect 83 = .ok (.iload_n 3, 1) := by decide +kernel
theorem d_X6_collect_84 : decode cX6_collect 84 = .ok (.invokestatic 68, 3) := by decide +kernel
theorem d_X6_collect_87 : decode cX6_collect 87 = .ok (.aload_n 0, 1) := by decide +kernel
theorem d_X6_collect_88 : decode cX6_collect 88 = .ok (.dup, 1) := by decide +kernel
theorem d_X6_collect_89 : decode cX6_collect 89 = .ok (.getfield 47, 3) := by decide +kernel
theorem d_X6_collect_92 : decode cX6_collect 92 = .ok (.iconst 1, 1) := by decide +kernel
theorem d_X6_collect_93 : decode cX6_collect 93 = .ok (.iadd, 1) := by decide +kernel
theorem d_X6_collect_94 : decode cX6_collect 94 = .ok (.putfield 47, 3) := by decide +kernel
theorem d_X6_collect_97 : decode cX6_collect 97 = .ok (.iinc 3 1, 3) := by decide +kernel
theorem d_X6_collect_100 : decode cX6_collect 100 = .ok (.goto (-93), 3) := by decide +kernel
theorem d_X6_collect_103 : decode cX6_collect 103 = .ok (.return_, 1) := by decide +kernel
def j_X6_collect_62_18 (p2 : Nat) (p3 : Int32) (v5 : Int32) (k0 : Int32) (h : AH) : Option (((Int32 × Int32) ⊕ Int32) × AH) := some (.inl (k0, v5 + 1), h)
theorem tj_X6_collect_62_18 {g : GP} {X : MX} {mcR msR : Nat} (hF : gF g = true) (hX : Cx g RX6 cX6_collect 2 mcR msR none [] X) {Q : State → Prop} {p2 : Nat} {p3 : Int32} {v5 : Int32} {k0 : Int32} (hl_0 : LAY p2 = (0, 8)) {d4 : Value} {h hz : AH} {z : ((Int32 × Int32) ⊕ Int32)} (e : j_X6_collect_62_18 p2 p3 v5 k0 h = some (z, hz)) (kI : ∀ (s2 : (Int32 × Int32)), z = .inl s2 → AR g X 0 0 Q hz 18 [.ref 220, .ref 13, .ref p2, .int p3, .int s2.1, .int s2.2] []) (kE0 : ∀ (yy : Int32) (y5 : Value), z = .inr yy → AR g X 0 0 Q hz 70 [.ref 220, .ref 13, .ref p2, .int p3, .int yy, y5] []) : AR g X 0 0 Q h 62 [.ref 220, .ref 13, .ref p2, .int p3, d4, .int v5] [.int k0] := by
  unfold j_X6_collect_62_18 at e
  refine aw_istore (i := 4) (lv2 := [.ref 220, .ref 13, .ref p2, .int p3, .int k0, .int v5]) hX rfl rfl d_X6_collect_62 ?_
  refine aw_iinc (i := 5) (lv2 := [.ref 220, .ref 13, .ref p2, .int p3, .int k0, .int (v5 + 1)]) hX rfl rfl rfl rfl d_X6_collect_64 ?_
  refine aw_goto (t := 18) hX (by decide) d_X6_collect_67 ?_
  cases e
  exact kI (k0, v5 + 1)  rfl
def j_X6_collect_57_18 (p2 : Nat) (p3 : Int32) (v5 : Int32) (h : AH) : Option (((Int32 × Int32) ⊕ Int32) × AH) := j_X6_collect_62_18 p2 p3 v5 1 h
theorem tj_X6_collect_57_18 {g : GP} {X : MX} {mcR msR : Nat} (hF : gF g = true) (hX : Cx g RX6 cX6_collect 2 mcR msR none [] X) {Q : State → Prop} {p2 : Nat} {p3 : Int32} {v5 : Int32} (hl_0 : LAY p2 = (0, 8)) {d4 : Value} {h hz : AH} {z : ((Int32 × Int32) ⊕ Int32)} (e : j_X6_collect_57_18 p2 p3 v5 h = some (z, hz)) (kI : ∀ (s2 : (Int32 × Int32)), z = .inl s2 → AR g X 0 0 Q hz 18 [.ref 220, .ref 13, .ref p2, .int p3, .int s2.1, .int s2.2] []) (kE0 : ∀ (yy : Int32) (y5 : Value), z = .inr yy → AR g X 0 0 Q hz 70 [.ref 220, .ref 13, .ref p2, .int p3, .int yy, y5] []) : AR g X 0 0 Q h 57 [.ref 220, .ref 13, .ref p2, .int p3, d4, .int v5] [] := by
  unfold j_X6_collect_57_18 at e
  refine aw_iconst (v := 1) hX (by decide) d_X6_collect_57 ?_
  refine aw_goto (t := 62) hX (by decide) d_X6_collect_58 ?_
  exact tj_X6_collect_62_18 hF hX (by assumption) e kI kE0
def j_X6_collect_61_18 (p2 : Nat) (p3 : Int32) (v5 : Int32) (h : AH) : Option (((Int32 × Int32) ⊕ Int32) × AH) := j_X6_collect_62_18 p2 p3 v5 0 h
theorem tj_X6_collect_61_18 {g : GP} {X : MX} {mcR msR : Nat} (hF : gF g = true) (hX : Cx g RX6 cX6_collect 2 mcR msR none [] X) {Q : State → Prop} {p2 : Nat} {p3 : Int32} {v5 : Int32} (hl_0 : LAY p2 = (0, 8)) {d4 : Value} {h hz : AH} {z : ((Int32 × Int32) ⊕ Int32)} (e : j_X6_collect_61_18 p2 p3 v5 h = some (z, hz)) (kI : ∀ (s2 : (Int32 × Int32)), z = .inl s2 → AR g X 0 0 Q hz 18 [.ref 220, .ref 13, .ref p2, .int p3, .int s2.1, .int s2.2] []) (kE0 : ∀ (yy : Int32) (y5 : Value), z = .inr yy → AR g X 0 0 Q hz 70 [.ref 220, .ref 13, .ref p2, .int p3, .int yy, y5] []) : AR g X 0 0 Q h 61 [.ref 220, .ref 13, .ref p2, .int p3, d4, .int v5] [] := by
  unfold j_X6_collect_61_18 at e
  refine aw_iconst (v := 0) hX (by decide) d_X6_collect_61 ?_
  exact tj_X6_collect_62_18 hF hX (by assumption) e kI kE0
def l_X6_collect_18 (p2 : Nat) (p3 : Int32) (s : (Int32 × Int32)) (h : AH) : Option (((Int32 × Int32) ⊕ Int32) × AH) := if (gI h p2 3) ≤ s.2 then some (.inr s.1, h) else if s.1 = 0 then bd (s_X9_at (some 14) s.2 h) fun x1 => if x1 = p3 then bd (s_X9_at (some (p2 + 4)) s.2 h) fun x2 => if x2 ≤ 0 then j_X6_collect_61_18 p2 p3 s.2 h else j_X6_collect_57_18 p2 p3 s.2 h else j_X6_collect_61_18 p2 p3 s.2 h else j_X6_collect_57_18 p2 p3 s.2 h
theorem tb_X6_collect_18 {g : GP} {X : MX} {mcR msR : Nat} (hF : gF g = true) (hX : Cx g RX6 cX6_collect 2 mcR msR none [] X) {Q : State → Prop} {p2 : Nat} {p3 : Int32} {s : (Int32 × Int32)} (hl_0 : LAY p2 = (0, 8)) {h hz : AH} {z : ((Int32 × Int32) ⊕ Int32)} (e : l_X6_collect_18 p2 p3 s h = some (z, hz)) (kI : ∀ (s2 : (Int32 × Int32)), z = .inl s2 → AR g X 0 0 Q hz 18 [.ref 220, .ref 13, .ref p2, .int p3, .int s2.1, .int s2.2] []) (kE0 : ∀ (yy : Int32) (y5 : Value), z = .inr yy → AR g X 0 0 Q hz 70 [.ref 220, .ref 13, .ref p2, .int p3, .int yy, y5] []) : AR g X 0 0 Q h 18 [.ref 220, .ref 13, .ref p2, .int p3, .int s.1, .int s.2] [] := by
  unfold l_X6_collect_18 at e
  refine aw_iload (i := 5) hX rfl d_X6_collect_18 ?_
  refine aw_aload_n (i := 2) hX rfl rfl d_X6_collect_20 ?_
  refine ar_getI hX fg_RX6_51 (by assumption) d_X6_collect_21 ?_
  refine aw_icmp_ge (t := 70) hX (by decide) d_X6_collect_24 (fun c => ?_) (fun c => ?_)
  · rw [if_pos c] at e
    cases e
    exact kE0 s.1 _ rfl
  · rw [if_neg c] at e
    refine aw_iload (i := 4) hX rfl d_X6_collect_27 ?_
    refine aw_if_ne (t := 57) hX (by decide) d_X6_collect_29 (fun c => ?_) (fun c => ?_)
    · rw [if_neg c] at e
      exact tj_X6_collect_57_18 hF hX (by assumption) e kI kE0
    · rw [if_pos c] at e
      refine aw_aload_n (i := 1) hX rfl rfl d_X6_collect_32 ?_
      refine ar_getF hX hF fg_RX6_56 rfl d_X6_collect_33 ?_
      show AR g X 0 0 _ _ 36 _ [.ref 14]
      refine aw_iload (i := 5) hX rfl d_X6_collect_36 ?_
      obtain ⟨x1, f_682, e_682⟩ := bd_some e
      clear e
      refine aw_callSN (av := [.ref 14, .int s.2]) (avr := [.int s.2, .ref 14]) hX (k_X9_at (cx_g hX) hF f_682) mi_X9_at rfl rfl nx11 w_6 (by decide) (Nat.le_of_ble_eq_true rfl) (Nat.zero_le _) (Nat.zero_le _) d_X6_collect_38 ?_
      refine aw_iload_n (i := 3) hX rfl rfl d_X6_collect_41 ?_
      refine aw_icmp_ne (t := 61) hX (by decide) d_X6_collect_42 (fun c => ?_) (fun c => ?_)
      · rw [if_neg c] at e_682
        exact tj_X6_collect_61_18 hF hX (by assumption) e_682 kI kE0
      · rw [if_pos c] at e_682
        refine aw_aload_n (i := 2) hX rfl rfl d_X6_collect_45 ?_
        refine ar_getF hX hF fg_RX6_65 (by assumption) d_X6_collect_46 ?_
        refine aw_iload (i := 5) hX rfl d_X6_collect_49 ?_
        obtain ⟨x2, f_683, e_683⟩ := bd_some e_682
        clear e_682
        refine aw_callSN (av := [.ref (p2 + 4), .int s.2]) (avr := [.int s.2, .ref (p2 + 4)]) hX (k_X9_at (cx_g hX) hF f_683) mi_X9_at rfl rfl nx11 w_6 (by decide) (Nat.le_of_ble_eq_true rfl) (Nat.zero_le _) (Nat.zero_le _) d_X6_collect_51 ?_
        refine aw_if_le (t := 61) hX (by decide) d_X6_collect_54 (fun c => ?_) (fun c => ?_)
        · rw [if_pos c] at e_683
          exact tj_X6_collect_61_18 hF hX (by assumption) e_683 kI kE0
        · rw [if_neg c] at e_683
          exact tj_X6_collect_57_18 hF hX (by assumption) e_683 kI kE0
theorem ti_X6_collect_18 {g : GP} {X : MX} {mcR msR : Nat} (hF : gF g = true) (hX : Cx g RX6 cX6_collect 2 mcR msR none [] X) {Q : State → Prop} {p2 : Nat} {p3 : Int32} (hl_0 : LAY p2 = (0, 8)) {y : Int32} {hz : AH} (kE0 : ∀ (y_5 : Value), AR g X 0 0 Q hz 70 [.ref 220, .ref 13, .ref p2, .int p3, .int y, y_5] []) (n : Nat) : ∀ (s : (Int32 × Int32)) (h : AH), lpH (l_X6_collect_18 p2 p3) n s h = some (y, hz) → AR g X 0 0 Q h 18 [.ref 220, .ref 13, .ref p2, .int p3, .int s.1, .int s.2] [] := by
  induction n with
  | zero => intro s h e; cases e
  | succ n ih =>
    intro s h e
    obtain ⟨x, h1, e1, e2⟩ := lpH_succ e
    rcases e2 with ⟨s2, rfl, e3⟩ | ⟨rfl, rfl⟩
    · exact tb_X6_collect_18 hF hX hl_0 e1 (fun s3  hs => by cases hs; exact ih _  _ e3) (fun yy x0 hy => by cases hy)
    · exact tb_X6_collect_18 hF hX hl_0 e1 (fun s3  hs => by cases hs) (fun yy x0 hy => by cases hy; exact kE0 x0)
theorem t_X6_collect_18 {g : GP} {X : MX} {mcR msR : Nat} (hF : gF g = true) (hX : Cx g RX6 cX6_collect 2 mcR msR none [] X) {Q : State → Prop} {p2 : Nat} {p3 : Int32} (hl_0 : LAY p2 = (0, 8)) {s : (Int32 × Int32)} {h hz : AH} {n : Nat} {y : Int32} (e : lpH (l_X6_collect_18 p2 p3) n s h = some (y, hz)) (kE0 : ∀ (y_5 : Value), AR g X 0 0 Q hz 70 [.ref 220, .ref 13, .ref p2, .int p3, .int y, y_5] []) : AR g X 0 0 Q h 18 [.ref 220, .ref 13, .ref p2, .int p3, .int s.1, .int s.2] [] := ti_X6_collect_18 hF hX hl_0 kE0 n _  _ e
def j_X6_collect_97_7 (p2 : Nat) (v3 : Int32) (h : AH) : Option ((Int32 ⊕ Unit) × AH) := some (.inl (v3 + 1), h)
theorem tj_X6_collect_97_7 {g : GP} {X : MX} {mcR msR : Nat} (hF : gF g = true) (hX : Cx g RX6 cX6_collect 2 mcR msR none [] X) {Q : State → Prop} {p2 : Nat} {v3 : Int32} (hl_0 : LAY p2 = (0, 8)) {d4 : Value} {d5 : Value} {h hz : AH} {z : (Int32 ⊕ Unit)} (e : j_X6_collect_97_7 p2 v3 h = some (z, hz)) (kI : ∀ (s2 : Int32) (xd4 : Value) (xd5 : Value), z = .inl s2 → AR g X 0 0 Q hz 7 [.ref 220, .ref 13, .ref p2, .int s2, xd4, xd5] []) (kE0 : ∀ (yy : Unit) (y0 : Value) (y1 : Value) (y2 : Value) (y3 : Value) (y4 : Value) (y5 : Value), z = .inr yy → AR g X 0 0 Q hz 103 [y0, y1, y2, y3, y4, y5] []) : AR g X 0 0 Q h 97 [.ref 220, .ref 13, .ref p2, .int v3, d4, d5] [] := by
  unfold j_X6_collect_97_7 at e
  refine aw_iinc (i := 3) (lv2 := [.ref 220, .ref 13, .ref p2, .int (v3 + 1), d4, d5]) hX rfl rfl rfl rfl d_X6_collect_97 ?_
  refine aw_goto (t := 7) hX (by decide) d_X6_collect_100 ?_
  cases e
  exact kI (v3 + 1) _ _ rfl
def l_X6_collect_7 (p2 : Nat) (s : Int32) (h : AH) : Option ((Int32 ⊕ Unit) × AH) := if 5 ≤ s then some (.inr (), h) else bd (lpH (l_X6_collect_18 p2 s) FU (0, 0) h) fun y3 => if y3.1 = 0 then j_X6_collect_97_7 p2 s y3.2 else bd (s_X9_put (some 222) (gI y3.2 220 1) s y3.2) fun q5 => j_X6_collect_97_7 p2 s (sI q5.2 220 1 ((gI q5.2 220 1) + 1))
theorem tb_X6_collect_7 {g : GP} {X : MX} {mcR msR : Nat} (hF : gF g = true) (hX : Cx g RX6 cX6_collect 2 mcR msR none [] X) {Q : State → Prop} {p2 : Nat} {s : Int32} (hl_0 : LAY p2 = (0, 8)) {d4 : Value} {d5 : Value} {h hz : AH} {z : (Int32 ⊕ Unit)} (e : l_X6_collect_7 p2 s h = some (z, hz)) (kI : ∀ (s2 : Int32) (xd4 : Value) (xd5 : Value), z = .inl s2 → AR g X 0 0 Q hz 7 [.ref 220, .ref 13, .ref p2, .int s2, xd4, xd5] []) (kE0 : ∀ (yy : Unit) (y0 : Value) (y1 : Value) (y2 : Value) (y3 : Value) (y4 : Value) (y5 : Value), z = .inr yy → AR g X 0 0 Q hz 103 [y0, y1, y2, y3, y4, y5] []) : AR g X 0 0 Q h 7 [.ref 220, .ref 13, .ref p2, .int s, d4, d5] [] := by
  unfold l_X6_collect_7 at e
  refine aw_iload_n (i := 3) hX rfl rfl d_X6_collect_7 ?_
  refine aw_iconst (v := 5) hX (by decide) d_X6_collect_8 ?_
  refine aw_icmp_ge (t := 103) hX (by decide) d_X6_collect_9 (fun c => ?_) (fun c => ?_)
  · rw [if_pos c] at e
    cases e
    exact kE0 () _ _ _ _ _ _ rfl
  · rw [if_neg c] at e
    refine aw_iconst (v := 0) hX (by decide) d_X6_collect_12 ?_
    refine aw_istore (i := 4) (lv2 := [.ref 220, .ref 13, .ref p2, .int s, .int 0, d5]) hX rfl rfl d_X6_collect_13 ?_
    refine aw_iconst (v := 0) hX (by decide) d_X6_collect_15 ?_
    refine aw_istore (i := 5) (lv2 := [.ref 220, .ref 13, .ref p2, .int s, .int 0, .int 0]) hX rfl rfl d_X6_collect_16 ?_
    obtain ⟨y3, f_684, e_684⟩ := bd_some e
    clear e
    refine t_X6_collect_18 hF hX (by assumption) f_684 (fun d4_5 => ?_)
    refine aw_iload (i := 4) hX rfl d_X6_collect_70 ?_
    refine aw_if_eq (t := 97) hX (by decide) d_X6_collect_72 (fun c => ?_) (fun c => ?_)
    · rw [if_pos c] at e_684
      exact tj_X6_collect_97_7 hF hX (by assumption) e_684 kI kE0
    · rw [if_neg c] at e_684
      refine aw_aload_n (i := 0) hX rfl rfl d_X6_collect_75 ?_
      refine ar_getF hX hF fg_RX6_15 rfl d_X6_collect_76 ?_
      show AR g X 0 0 _ _ 79 _ [.ref 222]
      refine aw_aload_n (i := 0) hX rfl rfl d_X6_collect_79 ?_
      refine ar_getI hX fg_RX6_47 rfl d_X6_collect_80 ?_
      refine aw_iload_n (i := 3) hX rfl rfl d_X6_collect_83 ?_
      obtain ⟨q5, f_685, e_685⟩ := bd_some e_684
      clear e_684
      refine aw_callSN (av := [.ref 222, .int (gI y3.2 220 1), .int s]) (avr := [.int s, .int (gI y3.2 220 1), .ref 222]) hX (k_X9_put (cx_g hX) hF f_685) mi_X9_put rfl rfl nx12 w_83 (by decide) (Nat.le_of_ble_eq_true rfl) (Nat.zero_le _) (Nat.zero_le _) d_X6_collect_84 ?_
      refine aw_aload_n (i := 0) hX rfl rfl d_X6_collect_87 ?_
      refine aw_dup hX rfl d_X6_collect_88 ?_
      refine ar_getI hX fg_RX6_47 rfl d_X6_collect_89 ?_
      refine aw_iconst (v := 1) hX (by decide) d_X6_collect_92 ?_
      refine aw_iadd hX d_X6_collect_93 ?_
      refine ar_putI hX fp_RX6_47 rfl d_X6_collect_94 ?_
      exact tj_X6_collect_97_7 hF hX (by assumption) e_685 kI kE0
theorem ti_X6_collect_7 {g : GP} {X : MX} {mcR msR : Nat} (hF : gF g = true) (hX : Cx g RX6 cX6_collect 2 mcR msR none [] X) {Q : State → Prop} {p2 : Nat} (hl_0 : LAY p2 = (0, 8)) {y : Unit} {hz : AH} (kE0 : ∀ (y_0 : Value) (y_1 : Value) (y_2 : Value) (y_3 : Value) (y_4 : Value) (y_5 : Value), AR g X 0 0 Q hz 103 [y_0, y_1, y_2, y_3, y_4, y_5] []) (n : Nat) : ∀ (s : Int32) (d4 : Value) (d5 : Value) (h : AH), lpH (l_X6_collect_7 p2) n s h = some (y, hz) → AR g X 0 0 Q h 7 [.ref 220, .ref 13, .ref p2, .int s, d4, d5] [] := by
  induction n with
  | zero => intro s d4 d5 h e; cases e
  | succ n ih =>
    intro s d4 d5 h e
    obtain ⟨x, h1, e1, e2⟩ := lpH_succ e
    rcases e2 with ⟨s2, rfl, e3⟩ | ⟨rfl, rfl⟩
    · exact tb_X6_collect_7 hF hX hl_0 e1 (fun s3 x0 x1 hs => by cases hs; exact ih _ _ _ _ e3) (fun yy x0 x1 x2 x3 x4 x5 hy => by cases hy)
    · exact tb_X6_collect_7 hF hX hl_0 e1 (fun s3 x0 x1 hs => by cases hs) (fun yy x0 x1 x2 x3 x4 x5 hy => by cases hy; exact kE0 x0 x1 x2 x3 x4 x5)
theorem t_X6_collect_7 {g : GP} {X : MX} {mcR msR : Nat} (hF : gF g = true) (hX : Cx g RX6 cX6_collect 2 mcR msR none [] X) {Q : State → Prop} {p2 : Nat} (hl_0 : LAY p2 = (0, 8)) {s : Int32} {d4 : Value} {d5 : Value} {h hz : AH} {n : Nat} {y : Unit} (e : lpH (l_X6_collect_7 p2) n s h = some (y, hz)) (kE0 : ∀ (y_0 : Value) (y_1 : Value) (y_2 : Value) (y_3 : Value) (y_4 : Value) (y_5 : Value), AR g X 0 0 Q hz 103 [y_0, y_1, y_2, y_3, y_4, y_5] []) : AR g X 0 0 Q h 7 [.ref 220, .ref 13, .ref p2, .int s, d4, d5] [] := ti_X6_collect_7 hF hX hl_0 kE0 n _ _ _ _ e
def s_X6_collect (a0 : Option Nat) (a1 : Option Nat) (h : AH) : Option (Unit × AH) := if a0 = some 13 then bd a1 fun oa1 => if LAY oa1 = (0, 8) then bd (lpH (l_X6_collect_7 oa1) FU 0 (sI h 220 1 0)) fun y6 => some ((), y6.2) else none else none
theorem t_X6_collect {g : GP} {X : MX} {mcR msR : Nat} (hF : gF g = true) (hX : Cx g RX6 cX6_collect 2 mcR msR none [] X) {a0 : Option Nat} {a1 : Option Nat} {h hz : AH} {z : Unit} (e : s_X6_collect a0 a1 h = some (z, hz)) : AR g X 0 0 (QQ g X NT false hz (.inl none) 0 0) h 0 [.ref 220, rfV a0, rfV a1, jk, jk, jk] [] := by
  unfold s_X6_collect at e
  obtain ⟨rfl, e_686⟩ := if_some e
  clear e
  obtain ⟨oa1, e0, e_687⟩ := bd_some e_686
  clear e_686
  subst e0
  obtain ⟨hl_a1, e_688⟩ := if_some e_687
  clear e_687
  refine aw_aload_n (i := 0) hX rfl rfl d_X6_collect_0 ?_
  refine aw_iconst (v := 0) hX (by decide) d_X6_collect_1 ?_
  refine ar_putI hX fp_RX6_47 rfl d_X6_collect_2 ?_
  refine aw_iconst (v := 0) hX (by decide) d_X6_collect_5 ?_
  refine aw_istore_n (i := 3) (lv2 := [.ref 220, .ref 13, .ref oa1, .int 0, jk, jk]) hX rfl rfl rfl d_X6_collect_6 ?_
  obtain ⟨y6, f_689, e_689⟩ := bd_some e_688
  clear e_688
  refine t_X6_collect_7 hF hX (by assumption) f_689 (fun d7_0 d7_1 d7_2 d7_3 d7_4 d7_5 => ?_)
  cases e_689
  exact aw_return hX (Nat.zero_le _) (Nat.zero_le _) d_X6_collect_103
theorem k_X6_collect {g : GP} (hg : g.1.stackTraces = false) (hF : gF g = true) {a0 : Option Nat} {a1 : Option Nat} {h hz : AH} {z : Unit} (e : s_X6_collect a0 a1 h = some (z, hz)) : Ctr g yX6_collect (wsY yX6_collect cX6_collect 6 none) 2 0 0 [.ref 220, rfV a0, rfV a1] NT false h none NT false hz := ctr_of (lv0 := [.ref 220, rfV a0, rfV a1, jk, jk, jk]) (by cases a0 <;> cases a1 <;> rfl) (by cases a0 <;> cases a1 <;> rfl) (by decide) hg trivial (fun X hX hn => t_X6_collect hF hX e)
theorem d_X6_seat_0 : decode cX6_seat 0 = .ok (.lconst 0, 1) := by decide +kernel
theorem d_X6_seat_1 : decode cX6_seat 1 = .ok (.lstore 5, 2) := by decide +kernel
theorem d_X6_seat_3 : decode cX6_seat 3 = .ok (.iload_n 2, 1) := by decide +kernel
theorem d_X6_seat_4 : decode cX6_seat 4 = .ok (.istore 7, 2) := by decide +kernel
theorem d_X6_seat_6 : decode cX6_seat 6 = .ok (.iconst 0, 1) := by decide +kernel
theorem d_X6_seat_7 : decode cX6_seat 7 = .ok (.istore 8, 2) := by decide +kernel
theorem d_X6_seat_9 : decode cX6_seat 9 = .ok (.iload 8, 2) := by decide +kernel
theorem d_X6_seat_11 : decode cX6_seat 11 = .ok (.iconst 4, 1) := by decide +kernel
theorem d_X6_seat_12 : decode cX6_seat 12 = .ok (.if_icmp .gt 127, 3) := by decide +kernel
theorem d_X6_seat_15 : decode cX6_seat 15 = .ok (.iload 7, 2) := by decide +kernel
theorem d_X6_seat_17 : decode cX6_seat 17 = .ok (.ifCond .le 122, 3) := by decide +kernel
theorem d_X6_seat_20 : decode cX6_seat 20 = .ok (.aload_n 0, 1) := by decide +kernel
theorem d_X6_seat_21 : decode cX6_seat 21 = .ok (.getfield 78, 3) := by decide +kernel
theorem d_X6_seat_24 : decode cX6_seat 24 = .ok (.aload_n 1, 1) := by decide +kernel
theorem d_X6_seat_25 : decode cX6_seat 25 = .ok (.getfield 72, 3) := by decide +kernel
theorem d_X6_seat_28 : decode cX6_seat 28 = .ok (.if_icmp .ge 111, 3) := by decide +kernel
theorem d_X6_seat_31 : decode cX6_seat 31 = .ok (.iload 7, 2) := by decide +kernel
theorem d_X6_seat_33 : decode cX6_seat 33 = .ok (.aload_n 0, 1) := by decide +kernel
theorem d_X6_seat_34 : decode cX6_seat 34 = .ok (.getfield 84, 3) := by decide +kernel
theorem d_X6_seat_37 : decode cX6_seat 37 = .ok (.invokestatic 101, 3) := by decide +kernel
theorem d_X6_seat_40 : decode cX6_seat 40 = .ok (.istore 9, 2) := by decide +kernel
theorem d_X6_seat_42 : decode cX6_seat 42 = .ok (.lload 5, 2) := by decide +kernel
theorem d_X6_seat_44 : decode cX6_seat 44 = .ok (.iload 9, 2) := by decide +kernel
theorem d_X6_seat_46 : decode cX6_seat 46 = .ok (.i2l, 1) := by decide +kernel
theorem d_X6_seat_47 : decode cX6_seat 47 = .ok (.aload_n 1, 1) := by decide +kernel
theorem d_X6_seat_48 : decode cX6_seat 48 = .ok (.getfield 75, 3) := by decide +kernel
theorem d_X6_seat_51 : decode cX6_seat 51 = .ok (.aload_n 0, 1) := by decide +kernel
theorem d_X6_seat_52 : decode cX6_seat 52 = .ok (.getfield 18, 3) := by decide +kernel
theorem d_X6_seat_55 : decode cX6_seat 55 = .ok (.aload_n 0, 1) := by decide +kernel
theorem d_X6_seat_56 : decode cX6_seat 56 = .ok (.getfield 78, 3) := by decide +kernel
theorem d_X6_seat_59 : decode cX6_seat 59 = .ok (.invokestatic 61, 3) := by decide +kernel
theorem d_X6_seat_62 : decode cX6_seat 62 = .ok (.invokestatic 61, 3) := by decide +kernel
theorem d_X6_seat_65 : decode cX6_seat 65 = .ok (.i2l, 1) := by decide +kernel
theorem d_X6_seat_66 : decode cX6_seat 66 = .ok (.lload_n 3, 1) := by decide +kernel
theorem d_X6_seat_67 : decode cX6_seat 67 = .ok (.lmul, 1) := by decide +kernel
theorem d_X6_seat_68 : decode cX6_seat 68 = .ok (.ldc2_w 107, 3) := by decide +kernel
theorem d_X6_seat_71 : decode cX6_seat 71 = .ok (.ldiv, 1) := by decide +kernel
theorem d_X6_seat_72 : decode cX6_seat 72 = .ok (.lmul, 1) := by decide +kernel
theorem d_X6_seat_73 : decode cX6_seat 73 = .ok (.ladd, 1) := by decide +kernel
theorem d_X6_seat_74 : decode cX6_seat 74 = .ok (.lstore 5, 2) := by decide +kernel
theorem d_X6_seat_76 : decode cX6_seat 76 = .ok (.iload 7, 2) := by decide +kernel
theorem d_X6_seat_78 : decode cX6_seat 78 = .ok (.iload 9, 2) := by decide +kernel
theorem d_X6_seat_80 : decode cX6_seat 80 = .ok (.isub, 1) := by decide +kernel
theorem d_X6_seat_81 : decode cX6_seat 81 = .ok (.istore 7, 2) := by decide +kernel
theorem d_X6_seat_83 : decode cX6_seat 83 = .ok (.aload_n 0, 1) := by decide +kernel
theorem d_X6_seat_84 : decode cX6_seat 84 = .ok (.dup, 1) := by decide +kernel
theorem d_X6_seat_85 : decode cX6_seat 85 = .ok (.getfield 84, 3) := by decide +kernel
theorem d_X6_seat_88 : decode cX6_seat 88 = .ok (.iload 9, 2) := by decide +kernel
theorem d_X6_seat_90 : decode cX6_seat 90 = .ok (.isub, 1) := by decide +kernel
theorem d_X6_seat_91 : decode cX6_seat 91 = .ok (.putfield 84, 3) := by decide +kernel
theorem d_X6_seat_94 : decode cX6_seat 94 = .ok (.aload_n 0, 1) := by decide +kernel
theorem d_X6_seat_95 : decode cX6_seat 95 = .ok (.getfield 84, 3) := by decide +kernel
theorem d_X6_seat_98 : decode cX6_seat 98 = .ok (.ifCond .ne 35, 3) := by decide +kernel
theorem d_X6_seat_101 : decode cX6_seat 101 = .ok (.aload_n 0, 1) := by decide +kernel
theorem d_X6_seat_102 : decode cX6_seat 102 = .ok (.dup, 1) := by decide +kernel
theorem d_X6_seat_103 : decode cX6_seat 103 = .ok (.getfield 78, 3) := by decide +kernel
theorem d_X6_seat_106 : decode cX6_seat 106 = .ok (.iconst 1, 1) := by decide +kernel
theorem d_X6_seat_107 : decode cX6_seat 107 = .ok (.iadd, 1) := by decide +kernel
theorem d_X6_seat_108 : decode cX6_seat 108 = .ok (.putfield 78, 3) := by decide +kernel
theorem d_X6_seat_111 : decode cX6_seat 111 = .ok (.aload_n 0, 1) := by decide +kernel
theorem d_X6_seat_112 : decode cX6_seat 112 = .ok (.aload_n 1, 1) := by decide +kernel
theorem d_X6_seat_113 : decode cX6_seat 113 = .ok (.getfield 81, 3) := by decide +kernel
theorem d_X6_seat_116 : decode cX6_seat 116 = .ok (.aload_n 0, 1) := by decide +kernel
theorem d_X6_seat_117 : decode cX6_seat 117 = .ok (.getfield 18, 3) := by decide +kernel
theorem d_X6_seat_120 : decode cX6_seat 120 = .ok (.aload_n 0, 1) := by decide +kernel
theorem d_X6_seat_121 : decode cX6_seat 121 = .ok (.getfield 78, 3) := by decide +kernel
theorem d_X6_seat_124 : decode cX6_seat 124 = .ok (.invokestatic 61, 3) := by decide +kernel
theorem d_X6_seat_127 : decode cX6_seat 127 = .ok (.invokestatic 61, 3) := by decide +kernel
theorem d_X6_seat_130 : decode cX6_seat 130 = .ok (.putfield 84, 3) := by decide +kernel
theorem d_X6_seat_133 : decode cX6_seat 133 = .ok (.iinc 8 1, 3) := by decide +kernel
theorem d_X6_seat_136 : decode cX6_seat 136 = .ok (.goto (-127), 3) := by decide +kernel
theorem d_X6_seat_139 : decode cX6_seat 139 = .ok (.lload 5, 2) := by decide +kernel
theorem d_X6_seat_141 : decode cX6_seat 141 = .ok (.lreturn, 1) := by decide +kernel
def j_X6_seat_133_9 (p1 : Nat) (p3 : Int64) (v5 : Int64) (v7 : Int32) (v8 : Int32) (h : AH) : Option (((Int64 × Int32 × Int32) ⊕ Int64) × AH) := some (.inl (v5, v7, v8 + 1), h)
theorem tj_X6_seat_133_9 {g : GP} {X : MX} {mcR msR : Nat} (hF : gF g = true) (hX : Cx g RX6 cX6_seat 2 mcR msR (some .long) [] X) {Q : State → Prop} {p1 : Nat} {p3 : Int64} {v5 : Int64} {v7 : Int32} {v8 : Int32} (hl_0 : LAY p1 = (0, 8)) {d2 : Value} {d9 : Value} {h hz : AH} {z : ((Int64 × Int32 × Int32) ⊕ Int64)} (e : j_X6_seat_133_9 p1 p3 v5 v7 v8 h = some (z, hz)) (kI : ∀ (s2 : (Int64 × Int32 × Int32)) (xd2 : Value) (xd9 : Value), z = .inl s2 → AR g X 0 0 Q hz 9 [.ref 220, .ref p1, xd2, .long p3, jk, .long s2.1, jk, .int s2.2.1, .int s2.2.2, xd9] []) (kE0 : ∀ (yy : Int64) (y0 : Value) (y1 : Value) (y2 : Value) (y3 : Value) (y4 : Value) (y7 : Value) (y8 : Value) (y9 : Value), z = .inr yy → AR g X 0 0 Q hz 139 [y0, y1, y2, y3, y4, .long yy, jk, y7, y8, y9] []) : AR g X 0 0 Q h 133 [.ref 220, .ref p1, d2, .long p3, jk, .long v5, jk, .int v7, .int v8, d9] [] := by
  unfold j_X6_seat_133_9 at e
  refine aw_iinc (i := 8) (lv2 := [.ref 220, .ref p1, d2, .long p3, jk, .long v5, jk, .int v7, .int (v8 + 1), d9]) hX rfl rfl rfl rfl d_X6_seat_133 ?_
  refine aw_goto (t := 9) hX (by decide) d_X6_seat_136 ?_
  cases e
  exact kI (v5, v7, v8 + 1) _ _ rfl
def l_X6_seat_9 (p1 : Nat) (p3 : Int64) (s : (Int64 × Int32 × Int32)) (h : AH) : Option (((Int64 × Int32 × Int32) ⊕ Int64) × AH) := if 4 < s.2.2 then some (.inr s.1, h) else if s.2.1 ≤ 0 then some (.inr s.1, h) else if (gI h p1 4) ≤ (gI h 220 5) then some (.inr s.1, h) else bd (s_X9_at (some 223) (gI h 220 5) h) fun x1 => bd (s_X9_at (some (p1 + 6)) x1 h) fun x2 => bd (ldivF (x2.toInt64 * p3) 1000000) fun x3 => if (gI (sI h 220 6 ((gI h 220 6) - (if (gI h 220 6) < s.2.1 then (gI h 220 6) else s.2.1))) 220 6) = 0 then bd (s_X9_at (some 223) (gI (sI (sI h 220 6 ((gI h 220 6) - (if (gI h 220 6) < s.2.1 then (gI h 220 6) else s.2.1))) 220 5 ((gI (sI h 220 6 ((gI h 220 6) - (if (gI h 220 6) < s.2.1 then (gI h 220 6) else s.2.1))) 220 5) + 1)) 220 5) (sI (sI h 220 6 ((gI h 220 6) - (if (gI h 220 6) < s.2.1 then (gI h 220 6) else s.2.1))) 220 5 ((gI (sI h 220 6 ((gI h 220 6) - (if (gI h 220 6) < s.2.1 then (gI h 220 6) else s.2.1))) 220 5) + 1))) fun x4 => bd (s_X9_at (some (p1 + 5)) x4 (sI (sI h 220 6 ((gI h 220 6) - (if (gI h 220 6) < s.2.1 then (gI h 220 6) else s.2.1))) 220 5 ((gI (sI h 220 6 ((gI h 220 6) - (if (gI h 220 6) < s.2.1 then (gI h 220 6) else s.2.1))) 220 5) + 1))) fun x5 => j_X6_seat_133_9 p1 p3 (s.1 + (((if (gI h 220 6) < s.2.1 then (gI h 220 6) else s.2.1).toInt64) * x3)) (s.2.1 - (if (gI h 220 6) < s.2.1 then (gI h 220 6) else s.2.1)) s.2.2 (sI (sI (sI h 220 6 ((gI h 220 6) - (if (gI h 220 6) < s.2.1 then (gI h 220 6) else s.2.1))) 220 5 ((gI (sI h 220 6 ((gI h 220 6) - (if (gI h 220 6) < s.2.1 then (gI h 220 6) else s.2.1))) 220 5) + 1)) 220 6 x5) else j_X6_seat_133_9 p1 p3 (s.1 + (((if (gI h 220 6) < s.2.1 then (gI h 220 6) else s.2.1).toInt64) * x3)) (s.2.1 - (if (gI h 220 6) < s.2.1 then (gI h 220 6) else s.2.1)) s.2.2 (sI h 220 6 ((gI h 220 6) - (if (gI h 220 6) < s.2.1 then (gI h 220 6) else s.2.1)))
theorem tb_X6_seat_9 {g : GP} {X : MX} {mcR msR : Nat} (hF : gF g = true) (hX : Cx g RX6 cX6_seat 2 mcR msR (some .long) [] X) {Q : State → Prop} {p1 : Nat} {p3 : Int64} {s : (Int64 × Int32 × Int32)} (hl_0 : LAY p1 = (0, 8)) {d2 : Value} {d9 : Value} {h hz : AH} {z : ((Int64 × Int32 × Int32) ⊕ Int64)} (e : l_X6_seat_9 p1 p3 s h = some (z, hz)) (kI : ∀ (s2 : (Int64 × Int32 × Int32)) (xd2 : Value) (xd9 : Value), z = .inl s2 → AR g X 0 0 Q hz 9 [.ref 220, .ref p1, xd2, .long p3, jk, .long s2.1, jk, .int s2.2.1, .int s2.2.2, xd9] []) (kE0 : ∀ (yy : Int64) (y0 : Value) (y1 : Value) (y2 : Value) (y3 : Value) (y4 : Value) (y7 : Value) (y8 : Value) (y9 : Value), z = .inr yy → AR g X 0 0 Q hz 139 [y0, y1, y2, y3, y4, .long yy, jk, y7, y8, y9] []) : AR g X 0 0 Q h 9 [.ref 220, .ref p1, d2, .long p3, jk, .long s.1, jk, .int s.2.1, .int s.2.2, d9] [] := by
  unfold l_X6_seat_9 at e
  refine aw_iload (i := 8) hX rfl d_X6_seat_9 ?_
  refine aw_iconst (v := 4) hX (by decide) d_X6_seat_11 ?_
  refine aw_icmp_gt (t := 139) hX (by decide) d_X6_seat_12 (fun c => ?_) (fun c => ?_)
  · rw [if_pos c] at e
    cases e
    exact kE0 s.1 _ _ _ _ _ _ _ _ rfl
  · rw [if_neg c] at e
    refine aw_iload (i := 7) hX rfl d_X6_seat_15 ?_
    refine aw_if_le (t := 139) hX (by decide) d_X6_seat_17 (fun c => ?_) (fun c => ?_)
    · rw [if_pos c] at e
      cases e
      exact kE0 s.1 _ _ _ _ _ _ _ _ rfl
    · rw [if_neg c] at e
      refine aw_aload_n (i := 0) hX rfl rfl d_X6_seat_20 ?_
      refine ar_getI hX fg_RX6_78 rfl d_X6_seat_21 ?_
      refine aw_aload_n (i := 1) hX rfl rfl d_X6_seat_24 ?_
      refine ar_getI hX fg_RX6_72 (by assumption) d_X6_seat_25 ?_
      refine aw_icmp_ge (t := 139) hX (by decide) d_X6_seat_28 (fun c => ?_) (fun c => ?_)
      · rw [if_pos c] at e
        cases e
        exact kE0 s.1 _ _ _ _ _ _ _ _ rfl
      · rw [if_neg c] at e
        refine aw_iload (i := 7) hX rfl d_X6_seat_31 ?_
        refine aw_aload_n (i := 0) hX rfl rfl d_X6_seat_33 ?_
        refine ar_getI hX fg_RX6_84 rfl d_X6_seat_34 ?_
        refine ar_imin hX w_406 mth_imin (by decide) (Nat.le_of_ble_eq_true rfl) (Nat.zero_le _) (Nat.zero_le _) d_X6_seat_37 ?_
        refine aw_istore (i := 9) (lv2 := [.ref 220, .ref p1, d2, .long p3, jk, .long s.1, jk, .int s.2.1, .int s.2.2, .int (if (gI h 220 6) < s.2.1 then (gI h 220 6) else s.2.1)]) hX rfl rfl d_X6_seat_40 ?_
        refine aw_lload (i := 5) hX rfl d_X6_seat_42 ?_
        refine aw_iload (i := 9) hX rfl d_X6_seat_44 ?_
        refine aw_i2l hX d_X6_seat_46 ?_
        refine aw_aload_n (i := 1) hX rfl rfl d_X6_seat_47 ?_
        refine ar_getF hX hF fg_RX6_75 (by assumption) d_X6_seat_48 ?_
        refine aw_aload_n (i := 0) hX rfl rfl d_X6_seat_51 ?_
        refine ar_getF hX hF fg_RX6_18 rfl d_X6_seat_52 ?_
        show AR g X 0 0 _ _ 55 _ [.ref 223, .ref (p1 + 6), .long ((if (gI h 220 6) < s.2.1 then (gI h 220 6) else s.2.1).toInt64), .long s.1]
        refine aw_aload_n (i := 0) hX rfl rfl d_X6_seat_55 ?_
        refine ar_getI hX fg_RX6_78 rfl d_X6_seat_56 ?_
        obtain ⟨x1, f_690, e_690⟩ := bd_some e
        clear e
        refine aw_callSN (av := [.ref 223, .int (gI h 220 5)]) (avr := [.int (gI h 220 5), .ref 223]) hX (k_X9_at (cx_g hX) hF f_690) mi_X9_at rfl rfl nx11 w_6 (by decide) (Nat.le_of_ble_eq_true rfl) (Nat.zero_le _) (Nat.zero_le _) d_X6_seat_59 ?_
        obtain ⟨x2, f_691, e_691⟩ := bd_some e_690
        clear e_690
        refine aw_callSN (av := [.ref (p1 + 6), .int x1]) (avr := [.int x1, .ref (p1 + 6)]) hX (k_X9_at (cx_g hX) hF f_691) mi_X9_at rfl rfl nx11 w_6 (by decide) (Nat.le_of_ble_eq_true rfl) (Nat.zero_le _) (Nat.zero_le _) d_X6_seat_62 ?_
        refine aw_i2l hX d_X6_seat_65 ?_
        refine aw_lload_n (i := 3) hX rfl rfl d_X6_seat_66 ?_
        refine aw_lmul hX d_X6_seat_67 ?_
        refine aw_ldc2 hX w_409 d_X6_seat_68 ?_
        obtain ⟨x3, f_692, e_692⟩ := bd_some e_691
        clear e_691
        refine ar_ldiv hX f_692 d_X6_seat_71 ?_
        refine aw_lmul hX d_X6_seat_72 ?_
        refine aw_ladd hX d_X6_seat_73 ?_
        refine aw_lstore (i := 5) (lv2 := [.ref 220, .ref p1, d2, .long p3, jk, .long (s.1 + (((if (gI h 220 6) < s.2.1 then (gI h 220 6) else s.2.1).toInt64) * x3)), jk, .int s.2.1, .int s.2.2, .int (if (gI h 220 6) < s.2.1 then (gI h 220 6) else s.2.1)]) hX rfl rfl d_X6_seat_74 ?_
        refine aw_iload (i := 7) hX rfl d_X6_seat_76 ?_
        refine aw_iload (i := 9) hX rfl d_X6_seat_78 ?_
        refine aw_isub hX d_X6_seat_80 ?_
        refine aw_istore (i := 7) (lv2 := [.ref 220, .ref p1, d2, .long p3, jk, .long (s.1 + (((if (gI h 220 6) < s.2.1 then (gI h 220 6) else s.2.1).toInt64) * x3)), jk, .int (s.2.1 - (if (gI h 220 6) < s.2.1 then (gI h 220 6) else s.2.1)), .int s.2.2, .int (if (gI h 220 6) < s.2.1 then (gI h 220 6) else s.2.1)]) hX rfl rfl d_X6_seat_81 ?_
        refine aw_aload_n (i := 0) hX rfl rfl d_X6_seat_83 ?_
        refine aw_dup hX rfl d_X6_seat_84 ?_
        refine ar_getI hX fg_RX6_84 rfl d_X6_seat_85 ?_
        refine aw_iload (i := 9) hX rfl d_X6_seat_88 ?_
        refine aw_isub hX d_X6_seat_90 ?_
        refine ar_putI hX fp_RX6_84 rfl d_X6_seat_91 ?_
        refine aw_aload_n (i := 0) hX rfl rfl d_X6_seat_94 ?_
        refine ar_getI hX fg_RX6_84 rfl d_X6_seat_95 ?_
        refine aw_if_ne (t := 133) hX (by decide) d_X6_seat_98 (fun c => ?_) (fun c => ?_)
        · rw [if_neg c] at e_692
          exact tj_X6_seat_133_9 hF hX (by assumption) e_692 kI kE0
        · rw [if_pos c] at e_692
          refine aw_aload_n (i := 0) hX rfl rfl d_X6_seat_101 ?_
          refine aw_dup hX rfl d_X6_seat_102 ?_
          refine ar_getI hX fg_RX6_78 rfl d_X6_seat_103 ?_
          refine aw_iconst (v := 1) hX (by decide) d_X6_seat_106 ?_
          refine aw_iadd hX d_X6_seat_107 ?_
          refine ar_putI hX fp_RX6_78 rfl d_X6_seat_108 ?_
          refine aw_aload_n (i := 0) hX rfl rfl d_X6_seat_111 ?_
          refine aw_aload_n (i := 1) hX rfl rfl d_X6_seat_112 ?_
          refine ar_getF hX hF fg_RX6_81 (by assumption) d_X6_seat_113 ?_
          refine aw_aload_n (i := 0) hX rfl rfl d_X6_seat_116 ?_
          refine ar_getF hX hF fg_RX6_18 rfl d_X6_seat_117 ?_
          show AR g X 0 0 _ _ 120 _ [.ref 223, .ref (p1 + 5), .ref 220]
          refine aw_aload_n (i := 0) hX rfl rfl d_X6_seat_120 ?_
          refine ar_getI hX fg_RX6_78 rfl d_X6_seat_121 ?_
          obtain ⟨x4, f_693, e_693⟩ := bd_some e_692
          clear e_692
          refine aw_callSN (av := [.ref 223, .int (gI (sI (sI h 220 6 ((gI h 220 6) - (if (gI h 220 6) < s.2.1 then (gI h 220 6) else s.2.1))) 220 5 ((gI (sI h 220 6 ((gI h 220 6) - (if (gI h 220 6) < s.2.1 then (gI h 220 6) else s.2.1))) 220 5) + 1)) 220 5)]) (avr := [.int (gI (sI (sI h 220 6 ((gI h 220 6) - (if (gI h 220 6) < s.2.1 then (gI h 220 6) else s.2.1))) 220 5 ((gI (sI h 220 6 ((gI h 220 6) - (if (gI h 220 6) < s.2.1 then (gI h 220 6) else s.2.1))) 220 5) + 1)) 220 5), .ref 223]) hX (k_X9_at (cx_g hX) hF f_693) mi_X9_at rfl rfl nx11 w_6 (by decide) (Nat.le_of_ble_eq_true rfl) (Nat.zero_le _) (Nat.zero_le _) d_X6_seat_124 ?_
          obtain ⟨x5, f_694, e_694⟩ := bd_some e_693
          clear e_693
          refine aw_callSN (av := [.ref (p1 + 5), .int x4]) (avr := [.int x4, .ref (p1 + 5)]) hX (k_X9_at (cx_g hX) hF f_694) mi_X9_at rfl rfl nx11 w_6 (by decide) (Nat.le_of_ble_eq_true rfl) (Nat.zero_le _) (Nat.zero_le _) d_X6_seat_127 ?_
          refine ar_putI hX fp_RX6_84 rfl d_X6_seat_130 ?_
          exact tj_X6_seat_133_9 hF hX (by assumption) e_694 kI kE0
theorem ti_X6_seat_9 {g : GP} {X : MX} {mcR msR : Nat} (hF : gF g = true) (hX : Cx g RX6 cX6_seat 2 mcR msR (some .long) [] X) {Q : State → Prop} {p1 : Nat} {p3 : Int64} (hl_0 : LAY p1 = (0, 8)) {y : Int64} {hz : AH} (kE0 : ∀ (y_0 : Value) (y_1 : Value) (y_2 : Value) (y_3 : Value) (y_4 : Value) (y_7 : Value) (y_8 : Value) (y_9 : Value), AR g X 0 0 Q hz 139 [y_0, y_1, y_2, y_3, y_4, .long y, jk, y_7, y_8, y_9] []) (n : Nat) : ∀ (s : (Int64 × Int32 × Int32)) (d2 : Value) (d9 : Value) (h : AH), lpH (l_X6_seat_9 p1 p3) n s h = some (y, hz) → AR g X 0 0 Q h 9 [.ref 220, .ref p1, d2, .long p3, jk, .long s.1, jk, .int s.2.1, .int s.2.2, d9] [] := by
  induction n with
  | zero => intro s d2 d9 h e; cases e
  | succ n ih =>
    intro s d2 d9 h e
    obtain ⟨x, h1, e1, e2⟩ := lpH_succ e
    rcases e2 with ⟨s2, rfl, e3⟩ | ⟨rfl, rfl⟩
    · exact tb_X6_seat_9 hF hX hl_0 e1 (fun s3 x0 x1 hs => by cases hs; exact ih _ _ _ _ e3) (fun yy x0 x1 x2 x3 x4 x5 x6 x7 hy => by cases hy)
    · exact tb_X6_seat_9 hF hX hl_0 e1 (fun s3 x0 x1 hs => by cases hs) (fun yy x0 x1 x2 x3 x4 x5 x6 x7 hy => by cases hy; exact kE0 x0 x1 x2 x3 x4 x5 x6 x7)
theorem t_X6_seat_9 {g : GP} {X : MX} {mcR msR : Nat} (hF : gF g = true) (hX : Cx g RX6 cX6_seat 2 mcR msR (some .long) [] X) {Q : State → Prop} {p1 : Nat} {p3 : Int64} (hl_0 : LAY p1 = (0, 8)) {s : (Int64 × Int32 × Int32)} {d2 : Value} {d9 : Value} {h hz : AH} {n : Nat} {y : Int64} (e : lpH (l_X6_seat_9 p1 p3) n s h = some (y, hz)) (kE0 : ∀ (y_0 : Value) (y_1 : Value) (y_2 : Value) (y_3 : Value) (y_4 : Value) (y_7 : Value) (y_8 : Value) (y_9 : Value), AR g X 0 0 Q hz 139 [y_0, y_1, y_2, y_3, y_4, .long y, jk, y_7, y_8, y_9] []) : AR g X 0 0 Q h 9 [.ref 220, .ref p1, d2, .long p3, jk, .long s.1, jk, .int s.2.1, .int s.2.2, d9] [] := ti_X6_seat_9 hF hX hl_0 kE0 n _ _ _ _ e
def s_X6_seat (a0 : Option Nat) (a1 : Int32) (a2 : Int64) (h : AH) : Option (Int64 × AH) := bd a0 fun oa0 => if LAY oa0 = (0, 8) then bd (lpH (l_X6_seat_9 oa0 a2) FU (0, a1, 0) h) fun y6 => some (y6.1, y6.2) else none
theorem t_X6_seat {g : GP} {X : MX} {mcR msR : Nat} (hF : gF g = true) (hX : Cx g RX6 cX6_seat 2 mcR msR (some .long) [] X) {a0 : Option Nat} {a1 : Int32} {a2 : Int64} {h hz : AH} {z : Int64} (e : s_X6_seat a0 a1 a2 h = some (z, hz)) : AR g X 0 0 (QQ g X NT false hz (.inl (some (.long z))) 0 0) h 0 [.ref 220, rfV a0, .int a1, .long a2, jk, jk, jk, jk, jk, jk] [] := by
  unfold s_X6_seat at e
  obtain ⟨oa0, e0, e_695⟩ := bd_some e
  clear e
  subst e0
  obtain ⟨hl_a0, e_696⟩ := if_some e_695
  clear e_695
  refine aw_lconst (v := 0) hX (by decide) d_X6_seat_0 ?_
  refine aw_lstore (i := 5) (lv2 := [.ref 220, .ref oa0, .int a1, .long a2, jk, .long 0, jk, jk, jk, jk]) hX rfl rfl d_X6_seat_1 ?_
  refine aw_iload_n (i := 2) hX rfl rfl d_X6_seat_3 ?_
  refine aw_istore (i := 7) (lv2 := [.ref 220, .ref oa0, .int a1, .long a2, jk, .long 0, jk, .int a1, jk, jk]) hX rfl rfl d_X6_seat_4 ?_
  refine aw_iconst (v := 0) hX (by decide) d_X6_seat_6 ?_
  refine aw_istore (i := 8) (lv2 := [.ref 220, .ref oa0, .int a1, .long a2, jk, .long 0, jk, .int a1, .int 0, jk]) hX rfl rfl d_X6_seat_7 ?_
  obtain ⟨y6, f_697, e_697⟩ := bd_some e_696
  clear e_696
  refine t_X6_seat_9 hF hX (by assumption) f_697 (fun d7_0 d7_1 d7_2 d7_3 d7_4 d7_7 d7_8 d7_9 => ?_)
  refine aw_lload (i := 5) hX rfl d_X6_seat_139 ?_
  cases e_697
  exact aw_lreturn hX (Nat.zero_le _) (Nat.zero_le _) d_X6_seat_141
theorem k_X6_seat {g : GP} (hg : g.1.stackTraces = false) (hF : gF g = true) {a0 : Option Nat} {a1 : Int32} {a2 : Int64} {h hz : AH} {z : Int64} (e : s_X6_seat a0 a1 a2 h = some (z, hz)) : Ctr g yX6_seat (wsY yX6_seat cX6_seat 10 (some .long)) 2 0 0 [.ref 220, rfV a0, .int a1, .long a2] NT false h (some (.long z)) NT false hz := ctr_of (lv0 := [.ref 220, rfV a0, .int a1, .long a2, jk, jk, jk, jk, jk, jk]) (by cases a0 <;> rfl) (by cases a0 <;> rfl) (by decide) hg trivial (fun X hX hn => t_X6_seat hF hX e)
theorem d_X6_gain_0 : decode cX6_gain 0 = .ok (.aload_n 0, 1) := by decide +kernel
theorem d_X6_gain_1 : decode cX6_gain 1 = .ok (.iconst 0, 1) := by decide +kernel
theorem d_X6_gain_2 : decode cX6_gain 2 = .ok (.putfield 78, 3) := by decide +kernel
theorem d_X6_gain_5 : decode cX6_gain 5 = .ok (.aload_n 0, 1) := by decide +kernel
theorem d_X6_gain_6 : decode cX6_gain 6 = .ok (.aload_n 2, 1) := by decide +kernel
theorem d_X6_gain_7 : decode cX6_gain 7 = .ok (.getfield 81, 3) := by decide +kernel
theorem d_X6_gain_10 : decode cX6_gain 10 = .ok (.aload_n 0, 1) := by decide +kernel
theorem d_X6_gain_11 : decode cX6_gain 11 = .ok (.getfield 18, 3) := by decide +kernel
theorem d_X6_gain_14 : decode cX6_gain 14 = .ok (.iconst 0, 1) := by decide +kernel
theorem d_X6_gain_15 : decode cX6_gain 15 = .ok (.invokestatic 61, 3) := by decide +kernel
theorem d_X6_gain_18 : decode cX6_gain 18 = .ok (.invokestatic 61, 3) := by decide +kernel
theorem d_X6_gain_21 : decode cX6_gain 21 = .ok (.putfield 84, 3) := by decide +kernel
theorem d_X6_gain_24 : decode cX6_gain 24 = .ok (.lconst 0, 1) := by decide +kernel
theorem d_X6_gain_25 : decode cX6_gain 25 = .ok (.lstore_n 3, 1) := by decide +kernel
theorem d_X6_gain_26 : decode cX6_gain 26 = .ok (.iconst 0, 1) := by decide +kernel
theorem d_X6_gain_27 : decode cX6_gain 27 = .ok (.istore 5, 2) := by decide +kernel
theorem d_X6_gain_29 : decode cX6_gain 29 = .ok (.iload 5, 2) := by decide +kernel
theorem d_X6_gain_31 : decode cX6_gain 31 = .ok (.aload_n 0, 1) := by decide +kernel
theorem d_X6_gain_32 : decode cX6_gain 32 = .ok (.getfield 47, 3) := by decide +kernel
theorem d_X6_gain_35 : decode cX6_gain 35 = .ok (.if_icmp .ge 74, 3) := by decide +kernel
theorem d_X6_gain_38 : decode cX6_gain 38 = .ok (.iconst 0, 1) := by decide +kernel
theorem d_X6_gain_39 : decode cX6_gain 39 = .ok (.istore 6, 2) := by decide +kernel
theorem d_X6_gain_41 : decode cX6_gain 41 = .ok (.iload 6, 2) := by decide +kernel
theorem d_X6_gain_43 : decode cX6_gain 43 = .ok (.aload_n 2, 1) := by decide +kernel
theorem d_X6_gain_44 : decode cX6_gain 44 = .ok (.getfield 51, 3) := by decide +kernel
theorem d_X6_gain_47 : decode cX6_gain 47 = .ok (.if_icmp .ge 56, 3) := by decide +kernel
theorem d_X6_gain_50 : decode cX6_gain 50 = .ok (.aload_n 1, 1) := by decide +kernel
theorem d_X6_gain_51 : decode cX6_gain 51 = .ok (.getfield 56, 3) := by decide +kernel
theorem d_X6_gain_54 : decode cX6_gain 54 = .ok (.iload 6, 2) := by decide +kernel
theorem d_X6_gain_56 : decode cX6_gain 56 = .ok (.invokestatic 61, 3) := by decide +kernel
theorem d_X6_gain_59 : decode cX6_gain 59 = .ok (.aload_n 0, 1) := by decide +kernel
theorem d_X6_gain_60 : decode cX6_gain 60 = .ok (.getfield 15, 3) := by decide +kernel
theorem d_X6_gain_63 : decode cX6_gain 63 = .ok (.iload 5, 2) := by decide +kernel
theorem d_X6_gain_65 : decode cX6_gain 65 = .ok (.invokestatic 61, 3) := by decide +kernel
theorem d_X6_gain_68 : decode cX6_gain 68 = .ok (.if_icmp .ne 29, 3) := by decide +kernel
theorem d_X6_gain_71 : decode cX6_gain 71 = .ok (.lload_n 3, 1) := by decide +kernel
theorem d_X6_gain_72 : decode cX6_gain 72 = .ok (.aload_n 0, 1) := by decide +kernel
theorem d_X6_gain_73 : decode cX6_gain 73 = .ok (.aload_n 2, 1) := by decide +kernel
theorem d_X6_gain_74 : decode cX6_gain 74 = .ok (.aload_n 2, 1) := by decide +kernel
theorem d_X6_gain_75 : decode cX6_gain 75 = .ok (.getfield 65, 3) := by decide +kernel
theorem d_X6_gain_78 : decode cX6_gain 78 = .ok (.iload 6, 2) := by decide +kernel
theorem d_X6_gain_80 : decode cX6_gain 80 = .ok (.invokestatic 61, 3) := by decide +kernel
theorem d_X6_gain_83 : decode cX6_gain 83 = .ok (.aload_n 1, 1) := by decide +kernel
theorem d_X6_gain_84 : decode cX6_gain 84 = .ok (.iload 6, 2) := by decide +kernel
theorem d_X6_gain_86 : decode cX6_gain 86 = .ok (.invokevirtual 87, 3) := by decide +kernel
theorem d_X6_gain_89 : decode cX6_gain 89 = .ok (.invokevirtual 91, 3) := by decide +kernel
theorem d_X6_gain_92 : decode cX6_gain 92 = .ok (.invokevirtual 97, 3) := by decide +kernel
theorem d_X6_gain_95 : decode cX6_gain 95 = .ok (.ladd, 1) := by decide +kernel
theorem d_X6_gain_96 : decode cX6_gain 96 = .ok (.lstore_n 3, 1) := by decide +kernel
theorem d_X6_gain_97 : decode cX6_gain 97 = .ok (.iinc 6 1, 3) := by decide +kernel
theorem d_X6_gain_100 : decode cX6_gain 100 = .ok (.goto (-59), 3) := by decide +kernel
theorem d_X6_gain_103 : decode cX6_gain 103 = .ok (.iinc 5 1, 3) := by decide +kernel
theorem d_X6_gain_106 : decode cX6_gain 106 = .ok (.goto (-77), 3) := by decide +kernel
theorem d_X6_gain_109 : decode cX6_gain 109 = .ok (.lload_n 3, 1) := by decide +kernel
theorem d_X6_gain_110 : decode cX6_gain 110 = .ok (.lreturn, 1) := by decide +kernel
def j_X6_gain_97_41 (p2 : Nat) (v3 : Int64) (p5 : Int32) (v6 : Int32) (h : AH) : Option (((Int64 × Int32) ⊕ Int64) × AH) := some (.inl (v3, v6 + 1), h)
theorem tj_X6_gain_97_41 {g : GP} {X : MX} {mcR msR : Nat} (hF : gF g = true) (hX : Cx g RX6 cX6_gain 3 mcR msR (some .long) [] X) {Q : State → Prop} {p2 : Nat} {v3 : Int64} {p5 : Int32} {v6 : Int32} (hl_0 : LAY p2 = (0, 8)) {h hz : AH} {z : ((Int64 × Int32) ⊕ Int64)} (e : j_X6_gain_97_41 p2 v3 p5 v6 h = some (z, hz)) (kI : ∀ (s2 : (Int64 × Int32)), z = .inl s2 → AR g X 0 0 Q hz 41 [.ref 220, .ref 13, .ref p2, .long s2.1, jk, .int p5, .int s2.2] []) (kE0 : ∀ (yy : Int64) (y6 : Value), z = .inr yy → AR g X 0 0 Q hz 103 [.ref 220, .ref 13, .ref p2, .long yy, jk, .int p5, y6] []) : AR g X 0 0 Q h 97 [.ref 220, .ref 13, .ref p2, .long v3, jk, .int p5, .int v6] [] := by
  unfold j_X6_gain_97_41 at e
  refine aw_iinc (i := 6) (lv2 := [.ref 220, .ref 13, .ref p2, .long v3, jk, .int p5, .int (v6 + 1)]) hX rfl rfl rfl rfl d_X6_gain_97 ?_
  refine aw_goto (t := 41) hX (by decide) d_X6_gain_100 ?_
  cases e
  exact kI (v3, v6 + 1)  rfl
def l_X6_gain_41 (p2 : Nat) (p5 : Int32) (s : (Int64 × Int32)) (h : AH) : Option (((Int64 × Int32) ⊕ Int64) × AH) := if (gI h p2 3) ≤ s.2 then some (.inr s.1, h) else bd (s_X9_at (some 14) s.2 h) fun x3 => bd (s_X9_at (some 222) p5 h) fun x4 => if x3 = x4 then bd (s_X9_at (some (p2 + 4)) s.2 h) fun x5 => bd (s_X0_planBoughtBy s.2 h) fun x6 => bd x6 fun t7 => if LAY t7 = (0, 2) then bd (s_X2_gone t7 h) fun x8 => bd (s_X6_seat (some p2) x5 x8 h) fun q9 => j_X6_gain_97_41 p2 (s.1 + q9.1) p5 s.2 q9.2 else none else j_X6_gain_97_41 p2 s.1 p5 s.2 h
theorem tb_X6_gain_41 {g : GP} {X : MX} {mcR msR : Nat} (hF : gF g = true) (hX : Cx g RX6 cX6_gain 3 mcR msR (some .long) [] X) {Q : State → Prop} {p2 : Nat} {p5 : Int32} {s : (Int64 × Int32)} (hl_0 : LAY p2 = (0, 8)) {h hz : AH} {z : ((Int64 × Int32) ⊕ Int64)} (e : l_X6_gain_41 p2 p5 s h = some (z, hz)) (kI : ∀ (s2 : (Int64 × Int32)), z = .inl s2 → AR g X 0 0 Q hz 41 [.ref 220, .ref 13, .ref p2, .long s2.1, jk, .int p5, .int s2.2] []) (kE0 : ∀ (yy : Int64) (y6 : Value), z = .inr yy → AR g X 0 0 Q hz 103 [.ref 220, .ref 13, .ref p2, .long yy, jk, .int p5, y6] []) : AR g X 0 0 Q h 41 [.ref 220, .ref 13, .ref p2, .long s.1, jk, .int p5, .int s.2] [] := by
  unfold l_X6_gain_41 at e
  refine aw_iload (i := 6) hX rfl d_X6_gain_41 ?_
  refine aw_aload_n (i := 2) hX rfl rfl d_X6_gain_43 ?_
  refine ar_getI hX fg_RX6_51 (by assumption) d_X6_gain_44 ?_
  refine aw_icmp_ge (t := 103) hX (by decide) d_X6_gain_47 (fun c => ?_) (fun c => ?_)
  · rw [if_pos c] at e
    cases e
    exact kE0 s.1 _ rfl
  · rw [if_neg c] at e
    refine aw_aload_n (i := 1) hX rfl rfl d_X6_gain_50 ?_
    refine ar_getF hX hF fg_RX6_56 rfl d_X6_gain_51 ?_
    show AR g X 0 0 _ _ 54 _ [.ref 14]
    refine aw_iload (i := 6) hX rfl d_X6_gain_54 ?_
    obtain ⟨x3, f_698, e_698⟩ := bd_some e
    clear e
    refine aw_callSN (av := [.ref 14, .int s.2]) (avr := [.int s.2, .ref 14]) hX (k_X9_at (cx_g hX) hF f_698) mi_X9_at rfl rfl nx11 w_6 (by decide) (Nat.le_of_ble_eq_true rfl) (Nat.zero_le _) (Nat.zero_le _) d_X6_gain_56 ?_
    refine aw_aload_n (i := 0) hX rfl rfl d_X6_gain_59 ?_
    refine ar_getF hX hF fg_RX6_15 rfl d_X6_gain_60 ?_
    show AR g X 0 0 _ _ 63 _ [.ref 222, .int x3]
    refine aw_iload (i := 5) hX rfl d_X6_gain_63 ?_
    obtain ⟨x4, f_699, e_699⟩ := bd_some e_698
    clear e_698
    refine aw_callSN (av := [.ref 222, .int p5]) (avr := [.int p5, .ref 222]) hX (k_X9_at (cx_g hX) hF f_699) mi_X9_at rfl rfl nx11 w_6 (by decide) (Nat.le_of_ble_eq_true rfl) (Nat.zero_le _) (Nat.zero_le _) d_X6_gain_65 ?_
    refine aw_icmp_ne (t := 97) hX (by decide) d_X6_gain_68 (fun c => ?_) (fun c => ?_)
    · rw [if_neg c] at e_699
      exact tj_X6_gain_97_41 hF hX (by assumption) e_699 kI kE0
    · rw [if_pos c] at e_699
      refine aw_lload_n (i := 3) hX rfl rfl d_X6_gain_71 ?_
      refine aw_aload_n (i := 0) hX rfl rfl d_X6_gain_72 ?_
      refine aw_aload_n (i := 2) hX rfl rfl d_X6_gain_73 ?_
      refine aw_aload_n (i := 2) hX rfl rfl d_X6_gain_74 ?_
      refine ar_getF hX hF fg_RX6_65 (by assumption) d_X6_gain_75 ?_
      refine aw_iload (i := 6) hX rfl d_X6_gain_78 ?_
      obtain ⟨x5, f_700, e_700⟩ := bd_some e_699
      clear e_699
      refine aw_callSN (av := [.ref (p2 + 4), .int s.2]) (avr := [.int s.2, .ref (p2 + 4)]) hX (k_X9_at (cx_g hX) hF f_700) mi_X9_at rfl rfl nx11 w_6 (by decide) (Nat.le_of_ble_eq_true rfl) (Nat.zero_le _) (Nat.zero_le _) d_X6_gain_80 ?_
      refine aw_aload_n (i := 1) hX rfl rfl d_X6_gain_83 ?_
      refine aw_iload (i := 6) hX rfl d_X6_gain_84 ?_
      obtain ⟨x6, f_701, e_701⟩ := bd_some e_700
      clear e_700
      refine aw_callV (b := 13) (av := [.int s.2]) (avr := [.int s.2]) hX (k_X0_planBoughtBy (cx_g hX) hF f_701) mi_X0_planBoughtBy rfl rfl w_411 w_128 w_129 (by decide) rfl (LAY_lt rfl (by decide)) rfl rfl (Nat.le_of_ble_eq_true rfl) (Nat.zero_le _) (Nat.zero_le _) d_X6_gain_86 ?_
      obtain ⟨t7, f_702, e_702⟩ := bd_some e_701
      clear e_701
      obtain ⟨hlt7, e_703⟩ := if_some e_702
      clear e_702
      subst f_702
      obtain ⟨x8, f_704, e_704⟩ := bd_some e_703
      clear e_703
      refine aw_callV (b := t7) (av := []) (avr := []) hX (k_X2_gone (cx_g hX) hF f_704) mi_X2_gone rfl rfl w_412 w_144 w_145 (by decide) (by assumption) (LAY_lt (by assumption) (by decide)) rfl rfl (Nat.le_of_ble_eq_true rfl) (Nat.zero_le _) (Nat.zero_le _) d_X6_gain_89 ?_
      obtain ⟨q9, f_705, e_705⟩ := bd_some e_704
      clear e_704
      refine aw_callV (b := 220) (av := [.ref p2, .int x5, .long x8]) (avr := [.long x8, .int x5, .ref p2]) hX (k_X6_seat (cx_g hX) hF f_705) mi_X6_seat rfl rfl w_415 w_416 w_417 (by decide) rfl (LAY_lt rfl (by decide)) rfl rfl (Nat.le_of_ble_eq_true rfl) (Nat.zero_le _) (Nat.zero_le _) d_X6_gain_92 ?_
      refine aw_ladd hX d_X6_gain_95 ?_
      refine aw_lstore_n (i := 3) (lv2 := [.ref 220, .ref 13, .ref p2, .long (s.1 + q9.1), jk, .int p5, .int s.2]) hX rfl rfl rfl d_X6_gain_96 ?_
      exact tj_X6_gain_97_41 hF hX (by assumption) e_705 kI kE0
theorem ti_X6_gain_41 {g : GP} {X : MX} {mcR msR : Nat} (hF : gF g = true) (hX : Cx g RX6 cX6_gain 3 mcR msR (some .long) [] X) {Q : State → Prop} {p2 : Nat} {p5 : Int32} (hl_0 : LAY p2 = (0, 8)) {y : Int64} {hz : AH} (kE0 : ∀ (y_6 : Value), AR g X 0 0 Q hz 103 [.ref 220, .ref 13, .ref p2, .long y, jk, .int p5, y_6] []) (n : Nat) : ∀ (s : (Int64 × Int32)) (h : AH), lpH (l_X6_gain_41 p2 p5) n s h = some (y, hz) → AR g X 0 0 Q h 41 [.ref 220, .ref 13, .ref p2, .long s.1, jk, .int p5, .int s.2] [] := by
  induction n with
  | zero => intro s h e; cases e
  | succ n ih =>
    intro s h e
    obtain ⟨x, h1, e1, e2⟩ := lpH_succ e
    rcases e2 with ⟨s2, rfl, e3⟩ | ⟨rfl, rfl⟩
    · exact tb_X6_gain_41 hF hX hl_0 e1 (fun s3  hs => by cases hs; exact ih _  _ e3) (fun yy x0 hy => by cases hy)
    · exact tb_X6_gain_41 hF hX hl_0 e1 (fun s3  hs => by cases hs) (fun yy x0 hy => by cases hy; exact kE0 x0)
theorem t_X6_gain_41 {g : GP} {X : MX} {mcR msR : Nat} (hF : gF g = true) (hX : Cx g RX6 cX6_gain 3 mcR msR (some .long) [] X) {Q : State → Prop} {p2 : Nat} {p5 : Int32} (hl_0 : LAY p2 = (0, 8)) {s : (Int64 × Int32)} {h hz : AH} {n : Nat} {y : Int64} (e : lpH (l_X6_gain_41 p2 p5) n s h = some (y, hz)) (kE0 : ∀ (y_6 : Value), AR g X 0 0 Q hz 103 [.ref 220, .ref 13, .ref p2, .long y, jk, .int p5, y_6] []) : AR g X 0 0 Q h 41 [.ref 220, .ref 13, .ref p2, .long s.1, jk, .int p5, .int s.2] [] := ti_X6_gain_41 hF hX hl_0 kE0 n _  _ e
def l_X6_gain_29 (p2 : Nat) (s : (Int64 × Int32)) (h : AH) : Option (((Int64 × Int32) ⊕ Int64) × AH) := if (gI h 220 1) ≤ s.2 then some (.inr s.1, h) else bd (lpH (l_X6_gain_41 p2 s.2) FU (s.1, 0) h) fun y10 => some (.inl (y10.1, s.2 + 1), y10.2)
theorem tb_X6_gain_29 {g : GP} {X : MX} {mcR msR : Nat} (hF : gF g = true) (hX : Cx g RX6 cX6_gain 3 mcR msR (some .long) [] X) {Q : State → Prop} {p2 : Nat} {s : (Int64 × Int32)} (hl_0 : LAY p2 = (0, 8)) {d6 : Value} {h hz : AH} {z : ((Int64 × Int32) ⊕ Int64)} (e : l_X6_gain_29 p2 s h = some (z, hz)) (kI : ∀ (s2 : (Int64 × Int32)) (xd6 : Value), z = .inl s2 → AR g X 0 0 Q hz 29 [.ref 220, .ref 13, .ref p2, .long s2.1, jk, .int s2.2, xd6] []) (kE0 : ∀ (yy : Int64) (y0 : Value) (y1 : Value) (y2 : Value) (y5 : Value) (y6 : Value), z = .inr yy → AR g X 0 0 Q hz 109 [y0, y1, y2, .long yy, jk, y5, y6] []) : AR g X 0 0 Q h 29 [.ref 220, .ref 13, .ref p2, .long s.1, jk, .int s.2, d6] [] := by
  unfold l_X6_gain_29 at e
  refine aw_iload (i := 5) hX rfl d_X6_gain_29 ?_
  refine aw_aload_n (i := 0) hX rfl rfl d_X6_gain_31 ?_
  refine ar_getI hX fg_RX6_47 rfl d_X6_gain_32 ?_
  refine aw_icmp_ge (t := 109) hX (by decide) d_X6_gain_35 (fun c => ?_) (fun c => ?_)
  · rw [if_pos c] at e
    cases e
    exact kE0 s.1 _ _ _ _ _ rfl
  · rw [if_neg c] at e
    refine aw_iconst (v := 0) hX (by decide) d_X6_gain_38 ?_
    refine aw_istore (i := 6) (lv2 := [.ref 220, .ref 13, .ref p2, .long s.1, jk, .int s.2, .int 0]) hX rfl rfl d_X6_gain_39 ?_
    obtain ⟨y10, f_706, e_706⟩ := bd_some e
    clear e
    refine t_X6_gain_41 hF hX (by assumption) f_706 (fun d11_6 => ?_)
    refine aw_iinc (i := 5) (lv2 := [.ref 220, .ref 13, .ref p2, .long y10.1, jk, .int (s.2 + 1), d11_6]) hX rfl rfl rfl rfl d_X6_gain_103 ?_
    refine aw_goto (t := 29) hX (by decide) d_X6_gain_106 ?_
    cases e_706
    exact kI (y10.1, s.2 + 1) _ rfl
theorem ti_X6_gain_29 {g : GP} {X : MX} {mcR msR : Nat} (hF : gF g = true) (hX : Cx g RX6 cX6_gain 3 mcR msR (some .long) [] X) {Q : State → Prop} {p2 : Nat} (hl_0 : LAY p2 = (0, 8)) {y : Int64} {hz : AH} (kE0 : ∀ (y_0 : Value) (y_1 : Value) (y_2 : Value) (y_5 : Value) (y_6 : Value), AR g X 0 0 Q hz 109 [y_0, y_1, y_2, .long y, jk, y_5, y_6] []) (n : Nat) : ∀ (s : (Int64 × Int32)) (d6 : Value) (h : AH), lpH (l_X6_gain_29 p2) n s h = some (y, hz) → AR g X 0 0 Q h 29 [.ref 220, .ref 13, .ref p2, .long s.1, jk, .int s.2, d6] [] := by
  induction n with
  | zero => intro s d6 h e; cases e
  | succ n ih =>
    intro s d6 h e
    obtain ⟨x, h1, e1, e2⟩ := lpH_succ e
    rcases e2 with ⟨s2, rfl, e3⟩ | ⟨rfl, rfl⟩
    · exact tb_X6_gain_29 hF hX hl_0 e1 (fun s3 x0 hs => by cases hs; exact ih _ _ _ e3) (fun yy x0 x1 x2 x3 x4 hy => by cases hy)
    · exact tb_X6_gain_29 hF hX hl_0 e1 (fun s3 x0 hs => by cases hs) (fun yy x0 x1 x2 x3 x4 hy => by cases hy; exact kE0 x0 x1 x2 x3 x4)
theorem t_X6_gain_29 {g : GP} {X : MX} {mcR msR : Nat} (hF : gF g = true) (hX : Cx g RX6 cX6_gain 3 mcR msR (some .long) [] X) {Q : State → Prop} {p2 : Nat} (hl_0 : LAY p2 = (0, 8)) {s : (Int64 × Int32)} {d6 : Value} {h hz : AH} {n : Nat} {y : Int64} (e : lpH (l_X6_gain_29 p2) n s h = some (y, hz)) (kE0 : ∀ (y_0 : Value) (y_1 : Value) (y_2 : Value) (y_5 : Value) (y_6 : Value), AR g X 0 0 Q hz 109 [y_0, y_1, y_2, .long y, jk, y_5, y_6] []) : AR g X 0 0 Q h 29 [.ref 220, .ref 13, .ref p2, .long s.1, jk, .int s.2, d6] [] := ti_X6_gain_29 hF hX hl_0 kE0 n _ _ _ e
def s_X6_gain (a0 : Option Nat) (a1 : Option Nat) (h : AH) : Option (Int64 × AH) := if a0 = some 13 then bd a1 fun oa1 => if LAY oa1 = (0, 8) then bd (s_X9_at (some 223) 0 (sI h 220 5 0)) fun x1 => bd (s_X9_at (some (oa1 + 5)) x1 (sI h 220 5 0)) fun x2 => bd (lpH (l_X6_gain_29 oa1) FU (0, 0) (sI (sI h 220 5 0) 220 6 x2)) fun y12 => some (y12.1, y12.2) else none else none
theorem t_X6_gain {g : GP} {X : MX} {mcR msR : Nat} (hF : gF g = true) (hX : Cx g RX6 cX6_gain 3 mcR msR (some .long) [] X) {a0 : Option Nat} {a1 : Option Nat} {h hz : AH} {z : Int64} (e : s_X6_gain a0 a1 h = some (z, hz)) : AR g X 0 0 (QQ g X NT false hz (.inl (some (.long z))) 0 0) h 0 [.ref 220, rfV a0, rfV a1, jk, jk, jk, jk] [] := by
  unfold s_X6_gain at e
  obtain ⟨rfl, e_707⟩ := if_some e
  clear e
  obtain ⟨oa1, e0, e_708⟩ := bd_some e_707
  clear e_707
  subst e0
  obtain ⟨hl_a1, e_709⟩ := if_some e_708
  clear e_708
  refine aw_aload_n (i := 0) hX rfl rfl d_X6_gain_0 ?_
  refine aw_iconst (v := 0) hX (by decide) d_X6_gain_1 ?_
  refine ar_putI hX fp_RX6_78 rfl d_X6_gain_2 ?_
  refine aw_aload_n (i := 0) hX rfl rfl d_X6_gain_5 ?_
  refine aw_aload_n (i := 2) hX rfl rfl d_X6_gain_6 ?_
  refine ar_getF hX hF fg_RX6_81 (by assumption) d_X6_gain_7 ?_
  refine aw_aload_n (i := 0) hX rfl rfl d_X6_gain_10 ?_
  refine ar_getF hX hF fg_RX6_18 rfl d_X6_gain_11 ?_
  show AR g X 0 0 _ _ 14 _ [.ref 223, .ref (oa1 + 5), .ref 220]
  refine aw_iconst (v := 0) hX (by decide) d_X6_gain_14 ?_
  obtain ⟨x1, f_710, e_710⟩ := bd_some e_709
  clear e_709
  refine aw_callSN (av := [.ref 223, .int 0]) (avr := [.int 0, .ref 223]) hX (k_X9_at (cx_g hX) hF f_710) mi_X9_at rfl rfl nx11 w_6 (by decide) (Nat.le_of_ble_eq_true rfl) (Nat.zero_le _) (Nat.zero_le _) d_X6_gain_15 ?_
  obtain ⟨x2, f_711, e_711⟩ := bd_some e_710
  clear e_710
  refine aw_callSN (av := [.ref (oa1 + 5), .int x1]) (avr := [.int x1, .ref (oa1 + 5)]) hX (k_X9_at (cx_g hX) hF f_711) mi_X9_at rfl rfl nx11 w_6 (by decide) (Nat.le_of_ble_eq_true rfl) (Nat.zero_le _) (Nat.zero_le _) d_X6_gain_18 ?_
  refine ar_putI hX fp_RX6_84 rfl d_X6_gain_21 ?_
  refine aw_lconst (v := 0) hX (by decide) d_X6_gain_24 ?_
  refine aw_lstore_n (i := 3) (lv2 := [.ref 220, .ref 13, .ref oa1, .long 0, jk, jk, jk]) hX rfl rfl rfl d_X6_gain_25 ?_
  refine aw_iconst (v := 0) hX (by decide) d_X6_gain_26 ?_
  refine aw_istore (i := 5) (lv2 := [.ref 220, .ref 13, .ref oa1, .long 0, jk, .int 0, jk]) hX rfl rfl d_X6_gain_27 ?_
  obtain ⟨y12, f_712, e_712⟩ := bd_some e_711
  clear e_711
  refine t_X6_gain_29 hF hX (by assumption) f_712 (fun d13_0 d13_1 d13_2 d13_5 d13_6 => ?_)
  refine aw_lload_n (i := 3) hX rfl rfl d_X6_gain_109 ?_
  cases e_712
  exact aw_lreturn hX (Nat.zero_le _) (Nat.zero_le _) d_X6_gain_110
theorem k_X6_gain {g : GP} (hg : g.1.stackTraces = false) (hF : gF g = true) {a0 : Option Nat} {a1 : Option Nat} {h hz : AH} {z : Int64} (e : s_X6_gain a0 a1 h = some (z, hz)) : Ctr g yX6_gain (wsY yX6_gain cX6_gain 7 (some .long)) 3 0 0 [.ref 220, rfV a0, rfV a1] NT false h (some (.long z)) NT false hz := ctr_of (lv0 := [.ref 220, rfV a0, rfV a1, jk, jk, jk, jk]) (by cases a0 <;> cases a1 <;> rfl) (by cases a0 <;> cases a1 <;> rfl) (by decide) hg trivial (fun X hX hn => t_X6_gain hF hX e)
theorem d_X6_swap_0 : decode cX6_swap 0 = .ok (.aload_n 0, 1) := by decide +kernel
theorem d_X6_swap_1 : decode cX6_swap 1 = .ok (.getfield 15, 3) := by decide +kernel
theorem d_X6_swap_4 : decode cX6_swap 4 = .ok (.iload_n 1, 1) := by decide +kernel
theorem d_X6_swap_5 : decode cX6_swap 5 = .ok (.invokestatic 61, 3) := by decide +kernel
theorem d_X6_swap_8 : decode cX6_swap 8 = .ok (.istore_n 3, 1) := by decide +kernel
theorem d_X6_swap_9 : decode cX6_swap 9 = .ok (.aload_n 0, 1) := by decide +kernel
theorem d_X6_swap_10 : decode cX6_swap 10 = .ok (.getfield 15, 3) := by decide +kernel
theorem d_X6_swap_13 : decode cX6_swap 13 = .ok (.iload_n 1, 1) := by decide +kernel
theorem d_X6_swap_14 : decode cX6_swap 14 = .ok (.aload_n 0, 1) := by decide +kernel
theorem d_X6_swap_15 : decode cX6_swap 15 = .ok (.getfield 15, 3) := by decide +kernel
theorem d_X6_swap_18 : decode cX6_swap 18 = .ok (.iload_n 2, 1) := by decide +kernel
theorem d_X6_swap_19 : decode cX6_swap 19 = .ok (.invokestatic 61, 3) := by decide +kernel
theorem d_X6_swap_22 : decode cX6_swap 22 = .ok (.invokestatic 68, 3) := by decide +kernel
theorem d_X6_swap_25 : decode cX6_swap 25 = .ok (.aload_n 0, 1) := by decide +kernel
theorem d_X6_swap_26 : decode cX6_swap 26 = .ok (.getfield 15, 3) := by decide +kernel
theorem d_X6_swap_29 : decode cX6_swap 29 = .ok (.iload_n 2, 1) := by decide +kernel
theorem d_X6_swap_30 : decode cX6_swap 30 = .ok (.iload_n 3, 1) := by decide +kernel
theorem d_X6_swap_31 : decode cX6_swap 31 = .ok (.invokestatic 68, 3) := by decide +kernel
theorem d_X6_swap_34 : decode cX6_swap 34 = .ok (.return_, 1) := by decide +kernel
def s_X6_swap (a0 : Int32) (a1 : Int32) (h : AH) : Option (Unit × AH) := bd (s_X9_at (some 222) a0 h) fun x1 => bd (s_X9_at (some 222) a1 h) fun x2 => bd (s_X9_put (some 222) a0 x2 h) fun q3 => bd (s_X9_put (some 222) a1 x1 q3.2) fun q4 => some ((), q4.2)
theorem t_X6_swap {g : GP} {X : MX} {mcR msR : Nat} (hF : gF g = true) (hX : Cx g RX6 cX6_swap 2 mcR msR none [] X) {a0 : Int32} {a1 : Int32} {h hz : AH} {z : Unit} (e : s_X6_swap a0 a1 h = some (z, hz)) : AR g X 0 0 (QQ g X NT false hz (.inl none) 0 0) h 0 [.ref 220, .int a0, .int a1, jk] [] := by
  unfold s_X6_swap at e
  refine aw_aload_n (i := 0) hX rfl rfl d_X6_swap_0 ?_
  refine ar_getF hX hF fg_RX6_15 rfl d_X6_swap_1 ?_
  show AR g X 0 0 _ _ 4 _ [.ref 222]
  refine aw_iload_n (i := 1) hX rfl rfl d_X6_swap_4 ?_
  obtain ⟨x1, f_713, e_713⟩ := bd_some e
  clear e
  refine aw_callSN (av := [.ref 222, .int a0]) (avr := [.int a0, .ref 222]) hX (k_X9_at (cx_g hX) hF f_713) mi_X9_at rfl rfl nx11 w_6 (by decide) (Nat.le_of_ble_eq_true rfl) (Nat.zero_le _) (Nat.zero_le _) d_X6_swap_5 ?_
  refine aw_istore_n (i := 3) (lv2 := [.ref 220, .int a0, .int a1, .int x1]) hX rfl rfl rfl d_X6_swap_8 ?_
  refine aw_aload_n (i := 0) hX rfl rfl d_X6_swap_9 ?_
  refine ar_getF hX hF fg_RX6_15 rfl d_X6_swap_10 ?_
  show AR g X 0 0 _ _ 13 _ [.ref 222]
  refine aw_iload_n (i := 1) hX rfl rfl d_X6_swap_13 ?_
  refine aw_aload_n (i := 0) hX rfl rfl d_X6_swap_14 ?_
  refine ar_getF hX hF fg_RX6_15 rfl d_X6_swap_15 ?_
  show AR g X 0 0 _ _ 18 _ [.ref 222, .int a0, .ref 222]
  refine aw_iload_n (i := 2) hX rfl rfl d_X6_swap_18 ?_
  obtain ⟨x2, f_714, e_714⟩ := bd_some e_713
  clear e_713
  refine aw_callSN (av := [.ref 222, .int a1]) (avr := [.int a1, .ref 222]) hX (k_X9_at (cx_g hX) hF f_714) mi_X9_at rfl rfl nx11 w_6 (by decide) (Nat.le_of_ble_eq_true rfl) (Nat.zero_le _) (Nat.zero_le _) d_X6_swap_19 ?_
  obtain ⟨q3, f_715, e_715⟩ := bd_some e_714
  clear e_714
  refine aw_callSN (av := [.ref 222, .int a0, .int x2]) (avr := [.int x2, .int a0, .ref 222]) hX (k_X9_put (cx_g hX) hF f_715) mi_X9_put rfl rfl nx12 w_83 (by decide) (Nat.le_of_ble_eq_true rfl) (Nat.zero_le _) (Nat.zero_le _) d_X6_swap_22 ?_
  refine aw_aload_n (i := 0) hX rfl rfl d_X6_swap_25 ?_
  refine ar_getF hX hF fg_RX6_15 rfl d_X6_swap_26 ?_
  show AR g X 0 0 _ _ 29 _ [.ref 222]
  refine aw_iload_n (i := 2) hX rfl rfl d_X6_swap_29 ?_
  refine aw_iload_n (i := 3) hX rfl rfl d_X6_swap_30 ?_
  obtain ⟨q4, f_716, e_716⟩ := bd_some e_715
  clear e_715
  refine aw_callSN (av := [.ref 222, .int a1, .int x1]) (avr := [.int x1, .int a1, .ref 222]) hX (k_X9_put (cx_g hX) hF f_716) mi_X9_put rfl rfl nx12 w_83 (by decide) (Nat.le_of_ble_eq_true rfl) (Nat.zero_le _) (Nat.zero_le _) d_X6_swap_31 ?_
  cases e_716
  exact aw_return hX (Nat.zero_le _) (Nat.zero_le _) d_X6_swap_34
theorem k_X6_swap {g : GP} (hg : g.1.stackTraces = false) (hF : gF g = true) {a0 : Int32} {a1 : Int32} {h hz : AH} {z : Unit} (e : s_X6_swap a0 a1 h = some (z, hz)) : Ctr g yX6_swap (wsY yX6_swap cX6_swap 4 none) 2 0 0 [.ref 220, .int a0, .int a1] NT false h none NT false hz := ctr_of (lv0 := [.ref 220, .int a0, .int a1, jk]) rfl rfl (by decide) hg trivial (fun X hX hn => t_X6_swap hF hX e)
theorem d_X6_nextRow_0 : decode cX6_nextRow 0 = .ok (.aload_n 0, 1) := by decide +kernel
theorem d_X6_nextRow_1 : decode cX6_nextRow 1 = .ok (.getfield 47, 3) := by decide +kernel
theorem d_X6_nextRow_4 : decode cX6_nextRow 4 = .ok (.iconst 2, 1) := by decide +kernel
theorem d_X6_nextRow_5 : decode cX6_nextRow 5 = .ok (.isub, 1) := by decide +kernel
theorem d_X6_nextRow_6 : decode cX6_nextRow 6 = .ok (.istore_n 1, 1) := by decide +kernel
theorem d_X6_nextRow_7 : decode cX6_nextRow 7 = .ok (.iload_n 1, 1) := by decide +kernel
theorem d_X6_nextRow_8 : decode cX6_nextRow 8 = .ok (.ifCond .lt 30, 3) := by decide +kernel
theorem d_X6_nextRow_11 : decode cX6_nextRow 11 = .ok (.aload_n 0, 1) := by decide +kernel
theorem d_X6_nextRow_12 : decode cX6_nextRow 12 = .ok (.getfield 15, 3) := by decide +kernel
theorem d_X6_nextRow_15 : decode cX6_nextRow 15 = .ok (.iload_n 1, 1) := by decide +kernel
theorem d_X6_nextRow_16 : decode cX6_nextRow 16 = .ok (.invokestatic 61, 3) := by decide +kernel
theorem d_X6_nextRow_19 : decode cX6_nextRow 19 = .ok (.aload_n 0, 1) := by decide +kernel
theorem d_X6_nextRow_20 : decode cX6_nextRow 20 = .ok (.getfield 15, 3) := by decide +kernel
theorem d_X6_nextRow_23 : decode cX6_nextRow 23 = .ok (.iload_n 1, 1) := by decide +kernel
theorem d_X6_nextRow_24 : decode cX6_nextRow 24 = .ok (.iconst 1, 1) := by decide +kernel
theorem d_X6_nextRow_25 : decode cX6_nextRow 25 = .ok (.iadd, 1) := by decide +kernel
theorem d_X6_nextRow_26 : decode cX6_nextRow 26 = .ok (.invokestatic 61, 3) := by decide +kernel
theorem d_X6_nextRow_29 : decode cX6_nextRow 29 = .ok (.if_icmp .lt 9, 3) := by decide +kernel
theorem d_X6_nextRow_32 : decode cX6_nextRow 32 = .ok (.iinc 1 (-1), 3) := by decide +kernel
theorem d_X6_nextRow_35 : decode cX6_nextRow 35 = .ok (.goto (-28), 3) := by decide +kernel
theorem d_X6_nextRow_38 : decode cX6_nextRow 38 = .ok (.iload_n 1, 1) := by decide +kernel
theorem d_X6_nextRow_39 : decode cX6_nextRow 39 = .ok (.ifCond .ge 5, 3) := by decide +kernel
theorem d_X6_nextRow_42 : decode cX6_nextRow 42 = .ok (.iconst 0, 1) := by decide +kernel
theorem d_X6_nextRow_43 : decode cX6_nextRow 43 = .ok (.ireturn, 1) := by decide +kernel
theorem d_X6_nextRow_44 : decode cX6_nextRow 44 = .ok (.aload_n 0, 1) := by decide +kernel
theorem d_X6_nextRow_45 : decode cX6_nextRow 45 = .ok (.getfield 47, 3) := by decide +kernel
theorem d_X6_nextRow_48 : decode cX6_nextRow 48 = .ok (.iconst 1, 1) := by decide +kernel
theorem d_X6_nextRow_49 : decode cX6_nextRow 49 = .ok (.isub, 1) := by decide +kernel
theorem d_X6_nextRow_50 : decode cX6_nextRow 50 = .ok (.istore_n 2, 1) := by decide +kernel
theorem d_X6_nextRow_51 : decode cX6_nextRow 51 = .ok (.iload_n 2, 1) := by decide +kernel
theorem d_X6_nextRow_52 : decode cX6_nextRow 52 = .ok (.iload_n 1, 1) := by decide +kernel
theorem d_X6_nextRow_53 : decode cX6_nextRow 53 = .ok (.if_icmp .le 28, 3) := by decide +kernel
theorem d_X6_nextRow_56 : decode cX6_nextRow 56 = .ok (.aload_n 0, 1) := by decide +kernel
theorem d_X6_nextRow_57 : decode cX6_nextRow 57 = .ok (.getfield 15, 3) := by decide +kernel
theorem d_X6_nextRow_60 : decode cX6_nextRow 60 = .ok (.iload_n 2, 1) := by decide +kernel
theorem d_X6_nextRow_61 : decode cX6_nextRow 61 = .ok (.invokestatic 61, 3) := by decide +kernel
theorem d_X6_nextRow_64 : decode cX6_nextRow 64 = .ok (.aload_n 0, 1) := by decide +kernel
theorem d_X6_nextRow_65 : decode cX6_nextRow 65 = .ok (.getfield 15, 3) := by decide +kernel
theorem d_X6_nextRow_68 : decode cX6_nextRow 68 = .ok (.iload_n 1, 1) := by decide +kernel
theorem d_X6_nextRow_69 : decode cX6_nextRow 69 = .ok (.invokestatic 61, 3) := by decide +kernel
theorem d_X6_nextRow_72 : decode cX6_nextRow 72 = .ok (.if_icmp .gt 9, 3) := by decide +kernel
theorem d_X6_nextRow_75 : decode cX6_nextRow 75 = .ok (.iinc 2 (-1), 3) := by decide +kernel
theorem d_X6_nextRow_78 : decode cX6_nextRow 78 = .ok (.goto (-27), 3) := by decide +kernel
theorem d_X6_nextRow_81 : decode cX6_nextRow 81 = .ok (.aload_n 0, 1) := by decide +kernel
theorem d_X6_nextRow_82 : decode cX6_nextRow 82 = .ok (.iload_n 1, 1) := by decide +kernel
theorem d_X6_nextRow_83 : decode cX6_nextRow 83 = .ok (.iload_n 2, 1) := by decide +kernel
theorem d_X6_nextRow_84 : decode cX6_nextRow 84 = .ok (.invokevirtual 109, 3) := by decide +kernel
theorem d_X6_nextRow_87 : decode cX6_nextRow 87 = .ok (.iload_n 1, 1) := by decide +kernel
theorem d_X6_nextRow_88 : decode cX6_nextRow 88 = .ok (.iconst 1, 1) := by decide +kernel
theorem d_X6_nextRow_89 : decode cX6_nextRow 89 = .ok (.iadd, 1) := by decide +kernel
theorem d_X6_nextRow_90 : decode cX6_nextRow 90 = .ok (.istore_n 3, 1) := by decide +kernel
theorem d_X6_nextRow_91 : decode cX6_nextRow 91 = .ok (.aload_n 0, 1) := by decide +kernel
theorem d_X6_nextRow_92 : decode cX6_nextRow 92 = .ok (.getfield 47, 3) := by decide +kernel
theorem d_X6_nextRow_95 : decode cX6_nextRow 95 = .ok (.iconst 1, 1) := by decide +kernel
theorem d_X6_nextRow_96 : decode cX6_nextRow 96 = .ok (.isub, 1) := by decide +kernel
theorem d_X6_nextRow_97 : decode cX6_nextRow 97 = .ok (.istore 4, 2) := by decide +kernel
theorem d_X6_nextRow_99 : decode cX6_nextRow 99 = .ok (.iload_n 3, 1) := by decide +kernel
theorem d_X6_nextRow_100 : decode cX6_nextRow 100 = .ok (.iload 4, 2) := by decide +kernel
theorem d_X6_nextRow_102 : decode cX6_nextRow 102 = .ok (.if_icmp .ge 19, 3) := by decide +kernel
theorem d_X6_nextRow_105 : decode cX6_nextRow 105 = .ok (.aload_n 0, 1) := by decide +kernel
theorem d_X6_nextRow_106 : decode cX6_nextRow 106 = .ok (.iload_n 3, 1) := by decide +kernel
theorem d_X6_nextRow_107 : decode cX6_nextRow 107 = .ok (.iload 4, 2) := by decide +kernel
theorem d_X6_nextRow_109 : decode cX6_nextRow 109 = .ok (.invokevirtual 109, 3) := by decide +kernel
theorem d_X6_nextRow_112 : decode cX6_nextRow 112 = .ok (.iinc 3 1, 3) := by decide +kernel
theorem d_X6_nextRow_115 : decode cX6_nextRow 115 = .ok (.iinc 4 (-1), 3) := by decide +kernel
theorem d_X6_nextRow_118 : decode cX6_nextRow 118 = .ok (.goto (-19), 3) := by decide +kernel
theorem d_X6_nextRow_121 : decode cX6_nextRow 121 = .ok (.iconst 1, 1) := by decide +kernel
theorem d_X6_nextRow_122 : decode cX6_nextRow 122 = .ok (.ireturn, 1) := by decide +kernel
def l_X6_nextRow_7 (s : Int32) (h : AH) : Option ((Int32 ⊕ Int32) × AH) := if s < 0 then some (.inr s, h) else bd (s_X9_at (some 222) s h) fun x1 => bd (s_X9_at (some 222) (s + 1) h) fun x2 => if x1 < x2 then some (.inr s, h) else some (.inl (s + (-1)), h)
theorem tb_X6_nextRow_7 {g : GP} {X : MX} {mcR msR : Nat} (hF : gF g = true) (hX : Cx g RX6 cX6_nextRow 3 mcR msR (some .boolean) [] X) {Q : State → Prop} {s : Int32} {d2 : Value} {d3 : Value} {d4 : Value} {h hz : AH} {z : (Int32 ⊕ Int32)} (e : l_X6_nextRow_7 s h = some (z, hz)) (kI : ∀ (s2 : Int32) (xd2 : Value) (xd3 : Value) (xd4 : Value), z = .inl s2 → AR g X 0 0 Q hz 7 [.ref 220, .int s2, xd2, xd3, xd4] []) (kE0 : ∀ (yy : Int32) (y2 : Value) (y3 : Value) (y4 : Value), z = .inr yy → AR g X 0 0 Q hz 38 [.ref 220, .int yy, y2, y3, y4] []) : AR g X 0 0 Q h 7 [.ref 220, .int s, d2, d3, d4] [] := by
  unfold l_X6_nextRow_7 at e
  refine aw_iload_n (i := 1) hX rfl rfl d_X6_nextRow_7 ?_
  refine aw_if_lt (t := 38) hX (by decide) d_X6_nextRow_8 (fun c => ?_) (fun c => ?_)
  · rw [if_pos c] at e
    cases e
    exact kE0 s _ _ _ rfl
  · rw [if_neg c] at e
    refine aw_aload_n (i := 0) hX rfl rfl d_X6_nextRow_11 ?_
    refine ar_getF hX hF fg_RX6_15 rfl d_X6_nextRow_12 ?_
    show AR g X 0 0 _ _ 15 _ [.ref 222]
    refine aw_iload_n (i := 1) hX rfl rfl d_X6_nextRow_15 ?_
    obtain ⟨x1, f_717, e_717⟩ := bd_some e
    clear e
    refine aw_callSN (av := [.ref 222, .int s]) (avr := [.int s, .ref 222]) hX (k_X9_at (cx_g hX) hF f_717) mi_X9_at rfl rfl nx11 w_6 (by decide) (Nat.le_of_ble_eq_true rfl) (Nat.zero_le _) (Nat.zero_le _) d_X6_nextRow_16 ?_
    refine aw_aload_n (i := 0) hX rfl rfl d_X6_nextRow_19 ?_
    refine ar_getF hX hF fg_RX6_15 rfl d_X6_nextRow_20 ?_
    show AR g X 0 0 _ _ 23 _ [.ref 222, .int x1]
    refine aw_iload_n (i := 1) hX rfl rfl d_X6_nextRow_23 ?_
    refine aw_iconst (v := 1) hX (by decide) d_X6_nextRow_24 ?_
    refine aw_iadd hX d_X6_nextRow_25 ?_
    obtain ⟨x2, f_718, e_718⟩ := bd_some e_717
    clear e_717
    refine aw_callSN (av := [.ref 222, .int (s + 1)]) (avr := [.int (s + 1), .ref 222]) hX (k_X9_at (cx_g hX) hF f_718) mi_X9_at rfl rfl nx11 w_6 (by decide) (Nat.le_of_ble_eq_true rfl) (Nat.zero_le _) (Nat.zero_le _) d_X6_nextRow_26 ?_
    refine aw_icmp_lt (t := 38) hX (by decide) d_X6_nextRow_29 (fun c => ?_) (fun c => ?_)
    · rw [if_pos c] at e_718
      cases e_718
      exact kE0 s _ _ _ rfl
    · rw [if_neg c] at e_718
      refine aw_iinc (i := 1) (lv2 := [.ref 220, .int (s + (-1)), d2, d3, d4]) hX rfl (iz (b := (-1)) (by decide)) rfl rfl d_X6_nextRow_32 ?_
      refine aw_goto (t := 7) hX (by decide) d_X6_nextRow_35 ?_
      cases e_718
      exact kI (s + (-1)) _ _ _ rfl
theorem ti_X6_nextRow_7 {g : GP} {X : MX} {mcR msR : Nat} (hF : gF g = true) (hX : Cx g RX6 cX6_nextRow 3 mcR msR (some .boolean) [] X) {Q : State → Prop} {y : Int32} {hz : AH} (kE0 : ∀ (y_2 : Value) (y_3 : Value) (y_4 : Value), AR g X 0 0 Q hz 38 [.ref 220, .int y, y_2, y_3, y_4] []) (n : Nat) : ∀ (s : Int32) (d2 : Value) (d3 : Value) (d4 : Value) (h : AH), lpH (l_X6_nextRow_7) n s h = some (y, hz) → AR g X 0 0 Q h 7 [.ref 220, .int s, d2, d3, d4] [] := by
  induction n with
  | zero => intro s d2 d3 d4 h e; cases e
  | succ n ih =>
    intro s d2 d3 d4 h e
    obtain ⟨x, h1, e1, e2⟩ := lpH_succ e
    rcases e2 with ⟨s2, rfl, e3⟩ | ⟨rfl, rfl⟩
    · exact tb_X6_nextRow_7 hF hX e1 (fun s3 x0 x1 x2 hs => by cases hs; exact ih _ _ _ _ _ e3) (fun yy x0 x1 x2 hy => by cases hy)
    · exact tb_X6_nextRow_7 hF hX e1 (fun s3 x0 x1 x2 hs => by cases hs) (fun yy x0 x1 x2 hy => by cases hy; exact kE0 x0 x1 x2)
theorem t_X6_nextRow_7 {g : GP} {X : MX} {mcR msR : Nat} (hF : gF g = true) (hX : Cx g RX6 cX6_nextRow 3 mcR msR (some .boolean) [] X) {Q : State → Prop} {s : Int32} {d2 : Value} {d3 : Value} {d4 : Value} {h hz : AH} {n : Nat} {y : Int32} (e : lpH (l_X6_nextRow_7) n s h = some (y, hz)) (kE0 : ∀ (y_2 : Value) (y_3 : Value) (y_4 : Value), AR g X 0 0 Q hz 38 [.ref 220, .int y, y_2, y_3, y_4] []) : AR g X 0 0 Q h 7 [.ref 220, .int s, d2, d3, d4] [] := ti_X6_nextRow_7 hF hX kE0 n _ _ _ _ _ e
def l_X6_nextRow_51 (p1 : Int32) (s : Int32) (h : AH) : Option ((Int32 ⊕ Int32) × AH) := if s ≤ p1 then some (.inr s, h) else bd (s_X9_at (some 222) s h) fun x5 => bd (s_X9_at (some 222) p1 h) fun x6 => if x6 < x5 then some (.inr s, h) else some (.inl (s + (-1)), h)
theorem tb_X6_nextRow_51 {g : GP} {X : MX} {mcR msR : Nat} (hF : gF g = true) (hX : Cx g RX6 cX6_nextRow 3 mcR msR (some .boolean) [] X) {Q : State → Prop} {p1 : Int32} {s : Int32} {d3 : Value} {d4 : Value} {h hz : AH} {z : (Int32 ⊕ Int32)} (e : l_X6_nextRow_51 p1 s h = some (z, hz)) (kI : ∀ (s2 : Int32) (xd3 : Value) (xd4 : Value), z = .inl s2 → AR g X 0 0 Q hz 51 [.ref 220, .int p1, .int s2, xd3, xd4] []) (kE0 : ∀ (yy : Int32) (y3 : Value) (y4 : Value), z = .inr yy → AR g X 0 0 Q hz 81 [.ref 220, .int p1, .int yy, y3, y4] []) : AR g X 0 0 Q h 51 [.ref 220, .int p1, .int s, d3, d4] [] := by
  unfold l_X6_nextRow_51 at e
  refine aw_iload_n (i := 2) hX rfl rfl d_X6_nextRow_51 ?_
  refine aw_iload_n (i := 1) hX rfl rfl d_X6_nextRow_52 ?_
  refine aw_icmp_le (t := 81) hX (by decide) d_X6_nextRow_53 (fun c => ?_) (fun c => ?_)
  · rw [if_pos c] at e
    cases e
    exact kE0 s _ _ rfl
  · rw [if_neg c] at e
    refine aw_aload_n (i := 0) hX rfl rfl d_X6_nextRow_56 ?_
    refine ar_getF hX hF fg_RX6_15 rfl d_X6_nextRow_57 ?_
    show AR g X 0 0 _ _ 60 _ [.ref 222]
    refine aw_iload_n (i := 2) hX rfl rfl d_X6_nextRow_60 ?_
    obtain ⟨x5, f_719, e_719⟩ := bd_some e
    clear e
    refine aw_callSN (av := [.ref 222, .int s]) (avr := [.int s, .ref 222]) hX (k_X9_at (cx_g hX) hF f_719) mi_X9_at rfl rfl nx11 w_6 (by decide) (Nat.le_of_ble_eq_true rfl) (Nat.zero_le _) (Nat.zero_le _) d_X6_nextRow_61 ?_
    refine aw_aload_n (i := 0) hX rfl rfl d_X6_nextRow_64 ?_
    refine ar_getF hX hF fg_RX6_15 rfl d_X6_nextRow_65 ?_
    show AR g X 0 0 _ _ 68 _ [.ref 222, .int x5]
    refine aw_iload_n (i := 1) hX rfl rfl d_X6_nextRow_68 ?_
    obtain ⟨x6, f_720, e_720⟩ := bd_some e_719
    clear e_719
    refine aw_callSN (av := [.ref 222, .int p1]) (avr := [.int p1, .ref 222]) hX (k_X9_at (cx_g hX) hF f_720) mi_X9_at rfl rfl nx11 w_6 (by decide) (Nat.le_of_ble_eq_true rfl) (Nat.zero_le _) (Nat.zero_le _) d_X6_nextRow_69 ?_
    refine aw_icmp_gt (t := 81) hX (by decide) d_X6_nextRow_72 (fun c => ?_) (fun c => ?_)
    · rw [if_pos c] at e_720
      cases e_720
      exact kE0 s _ _ rfl
    · rw [if_neg c] at e_720
      refine aw_iinc (i := 2) (lv2 := [.ref 220, .int p1, .int (s + (-1)), d3, d4]) hX rfl (iz (b := (-1)) (by decide)) rfl rfl d_X6_nextRow_75 ?_
      refine aw_goto (t := 51) hX (by decide) d_X6_nextRow_78 ?_
      cases e_720
      exact kI (s + (-1)) _ _ rfl
theorem ti_X6_nextRow_51 {g : GP} {X : MX} {mcR msR : Nat} (hF : gF g = true) (hX : Cx g RX6 cX6_nextRow 3 mcR msR (some .boolean) [] X) {Q : State → Prop} {p1 : Int32} {y : Int32} {hz : AH} (kE0 : ∀ (y_3 : Value) (y_4 : Value), AR g X 0 0 Q hz 81 [.ref 220, .int p1, .int y, y_3, y_4] []) (n : Nat) : ∀ (s : Int32) (d3 : Value) (d4 : Value) (h : AH), lpH (l_X6_nextRow_51 p1) n s h = some (y, hz) → AR g X 0 0 Q h 51 [.ref 220, .int p1, .int s, d3, d4] [] := by
  induction n with
  | zero => intro s d3 d4 h e; cases e
  | succ n ih =>
    intro s d3 d4 h e
    obtain ⟨x, h1, e1, e2⟩ := lpH_succ e
    rcases e2 with ⟨s2, rfl, e3⟩ | ⟨rfl, rfl⟩
    · exact tb_X6_nextRow_51 hF hX e1 (fun s3 x0 x1 hs => by cases hs; exact ih _ _ _ _ e3) (fun yy x0 x1 hy => by cases hy)
    · exact tb_X6_nextRow_51 hF hX e1 (fun s3 x0 x1 hs => by cases hs) (fun yy x0 x1 hy => by cases hy; exact kE0 x0 x1)
theorem t_X6_nextRow_51 {g : GP} {X : MX} {mcR msR : Nat} (hF : gF g = true) (hX : Cx g RX6 cX6_nextRow 3 mcR msR (some .boolean) [] X) {Q : State → Prop} {p1 : Int32} {s : Int32} {d3 : Value} {d4 : Value} {h hz : AH} {n : Nat} {y : Int32} (e : lpH (l_X6_nextRow_51 p1) n s h = some (y, hz)) (kE0 : ∀ (y_3 : Value) (y_4 : Value), AR g X 0 0 Q hz 81 [.ref 220, .int p1, .int y, y_3, y_4] []) : AR g X 0 0 Q h 51 [.ref 220, .int p1, .int s, d3, d4] [] := ti_X6_nextRow_51 hF hX kE0 n _ _ _ _ e
def l_X6_nextRow_99 (s : (Int32 × Int32)) (h : AH) : Option (((Int32 × Int32) ⊕ Unit) × AH) := if s.2 ≤ s.1 then some (.inr (), h) else bd (s_X6_swap s.1 s.2 h) fun q10 => some (.inl (s.1 + 1, s.2 + (-1)), q10.2)
theorem tb_X6_nextRow_99 {g : GP} {X : MX} {mcR msR : Nat} (hF : gF g = true) (hX : Cx g RX6 cX6_nextRow 3 mcR msR (some .boolean) [] X) {Q : State → Prop} {s : (Int32 × Int32)} {d1 : Value} {d2 : Value} {h hz : AH} {z : ((Int32 × Int32) ⊕ Unit)} (e : l_X6_nextRow_99 s h = some (z, hz)) (kI : ∀ (s2 : (Int32 × Int32)) (xd1 : Value) (xd2 : Value), z = .inl s2 → AR g X 0 0 Q hz 99 [.ref 220, xd1, xd2, .int s2.1, .int s2.2] []) (kE0 : ∀ (yy : Unit) (y0 : Value) (y1 : Value) (y2 : Value) (y3 : Value) (y4 : Value), z = .inr yy → AR g X 0 0 Q hz 121 [y0, y1, y2, y3, y4] []) : AR g X 0 0 Q h 99 [.ref 220, d1, d2, .int s.1, .int s.2] [] := by
  unfold l_X6_nextRow_99 at e
  refine aw_iload_n (i := 3) hX rfl rfl d_X6_nextRow_99 ?_
  refine aw_iload (i := 4) hX rfl d_X6_nextRow_100 ?_
  refine aw_icmp_ge (t := 121) hX (by decide) d_X6_nextRow_102 (fun c => ?_) (fun c => ?_)
  · rw [if_pos c] at e
    cases e
    exact kE0 () _ _ _ _ _ rfl
  · rw [if_neg c] at e
    refine aw_aload_n (i := 0) hX rfl rfl d_X6_nextRow_105 ?_
    refine aw_iload_n (i := 3) hX rfl rfl d_X6_nextRow_106 ?_
    refine aw_iload (i := 4) hX rfl d_X6_nextRow_107 ?_
    obtain ⟨q10, f_721, e_721⟩ := bd_some e
    clear e
    refine aw_callV (b := 220) (av := [.int s.1, .int s.2]) (avr := [.int s.2, .int s.1]) hX (k_X6_swap (cx_g hX) hF f_721) mi_X6_swap rfl rfl w_419 w_420 w_421 (by decide) rfl (LAY_lt rfl (by decide)) rfl rfl (Nat.le_of_ble_eq_true rfl) (Nat.zero_le _) (Nat.zero_le _) d_X6_nextRow_109 ?_
    refine aw_iinc (i := 3) (lv2 := [.ref 220, d1, _, .int (s.1 + 1), .int s.2]) hX rfl rfl rfl rfl d_X6_nextRow_112 ?_
    refine aw_iinc (i := 4) (lv2 := [.ref 220, d1, _, .int (s.1 + 1), .int (s.2 + (-1))]) hX rfl (iz (b := (-1)) (by decide)) rfl rfl d_X6_nextRow_115 ?_
    refine aw_goto (t := 99) hX (by decide) d_X6_nextRow_118 ?_
    cases e_721
    exact kI (s.1 + 1, s.2 + (-1)) _ _ rfl
theorem ti_X6_nextRow_99 {g : GP} {X : MX} {mcR msR : Nat} (hF : gF g = true) (hX : Cx g RX6 cX6_nextRow 3 mcR msR (some .boolean) [] X) {Q : State → Prop} {y : Unit} {hz : AH} (kE0 : ∀ (y_0 : Value) (y_1 : Value) (y_2 : Value) (y_3 : Value) (y_4 : Value), AR g X 0 0 Q hz 121 [y_0, y_1, y_2, y_3, y_4] []) (n : Nat) : ∀ (s : (Int32 × Int32)) (d1 : Value) (d2 : Value) (h : AH), lpH (l_X6_nextRow_99) n s h = some (y, hz) → AR g X 0 0 Q h 99 [.ref 220, d1, d2, .int s.1, .int s.2] [] := by
  induction n with
  | zero => intro s d1 d2 h e; cases e
  | succ n ih =>
    intro s d1 d2 h e
    obtain ⟨x, h1, e1, e2⟩ := lpH_succ e
    rcases e2 with ⟨s2, rfl, e3⟩ | ⟨rfl, rfl⟩
    · exact tb_X6_nextRow_99 hF hX e1 (fun s3 x0 x1 hs => by cases hs; exact ih _ _ _ _ e3) (fun yy x0 x1 x2 x3 x4 hy => by cases hy)
    · exact tb_X6_nextRow_99 hF hX e1 (fun s3 x0 x1 hs => by cases hs) (fun yy x0 x1 x2 x3 x4 hy => by cases hy; exact kE0 x0 x1 x2 x3 x4)
theorem t_X6_nextRow_99 {g : GP} {X : MX} {mcR msR : Nat} (hF : gF g = true) (hX : Cx g RX6 cX6_nextRow 3 mcR msR (some .boolean) [] X) {Q : State → Prop} {s : (Int32 × Int32)} {d1 : Value} {d2 : Value} {h hz : AH} {n : Nat} {y : Unit} (e : lpH (l_X6_nextRow_99) n s h = some (y, hz)) (kE0 : ∀ (y_0 : Value) (y_1 : Value) (y_2 : Value) (y_3 : Value) (y_4 : Value), AR g X 0 0 Q hz 121 [y_0, y_1, y_2, y_3, y_4] []) : AR g X 0 0 Q h 99 [.ref 220, d1, d2, .int s.1, .int s.2] [] := ti_X6_nextRow_99 hF hX kE0 n _ _ _ _ e
def j_X6_nextRow_81 (v1 : Int32) (v2 : Int32) (h : AH) : Option (Int32 × AH) := bd (s_X6_swap v1 v2 h) fun q9 => bd (lpH (l_X6_nextRow_99) FU ((v1 + 1), ((gI q9.2 220 1) - 1)) q9.2) fun y11 => some (1, y11.2)
theorem tj_X6_nextRow_81 {g : GP} {X : MX} {mcR msR : Nat} (hF : gF g = true) (hX : Cx g RX6 cX6_nextRow 3 mcR msR (some .boolean) [] X) {v1 : Int32} {v2 : Int32} {d3 : Value} {d4 : Value} {h hz : AH} {z : Int32} (e : j_X6_nextRow_81 v1 v2 h = some (z, hz)) : AR g X 0 0 (QQ g X NT false hz (.inl (some (.int z))) 0 0) h 81 [.ref 220, .int v1, .int v2, d3, d4] [] := by
  unfold j_X6_nextRow_81 at e
  refine aw_aload_n (i := 0) hX rfl rfl d_X6_nextRow_81 ?_
  refine aw_iload_n (i := 1) hX rfl rfl d_X6_nextRow_82 ?_
  refine aw_iload_n (i := 2) hX rfl rfl d_X6_nextRow_83 ?_
  obtain ⟨q9, f_722, e_722⟩ := bd_some e
  clear e
  refine aw_callV (b := 220) (av := [.int v1, .int v2]) (avr := [.int v2, .int v1]) hX (k_X6_swap (cx_g hX) hF f_722) mi_X6_swap rfl rfl w_419 w_420 w_421 (by decide) rfl (LAY_lt rfl (by decide)) rfl rfl (Nat.le_of_ble_eq_true rfl) (Nat.zero_le _) (Nat.zero_le _) d_X6_nextRow_84 ?_
  refine aw_iload_n (i := 1) hX rfl rfl d_X6_nextRow_87 ?_
  refine aw_iconst (v := 1) hX (by decide) d_X6_nextRow_88 ?_
  refine aw_iadd hX d_X6_nextRow_89 ?_
  refine aw_istore_n (i := 3) (lv2 := [.ref 220, .int v1, .int v2, .int (v1 + 1), d4]) hX rfl rfl rfl d_X6_nextRow_90 ?_
  refine aw_aload_n (i := 0) hX rfl rfl d_X6_nextRow_91 ?_
  refine ar_getI hX fg_RX6_47 rfl d_X6_nextRow_92 ?_
  refine aw_iconst (v := 1) hX (by decide) d_X6_nextRow_95 ?_
  refine aw_isub hX d_X6_nextRow_96 ?_
  refine aw_istore (i := 4) (lv2 := [.ref 220, .int v1, .int v2, .int (v1 + 1), .int ((gI q9.2 220 1) - 1)]) hX rfl rfl d_X6_nextRow_97 ?_
  obtain ⟨y11, f_723, e_723⟩ := bd_some e_722
  clear e_722
  refine t_X6_nextRow_99 hF hX f_723 (fun d12_0 d12_1 d12_2 d12_3 d12_4 => ?_)
  refine aw_iconst (v := 1) hX (by decide) d_X6_nextRow_121 ?_
  cases e_723
  exact aw_zreturn hX (by decide) (Nat.zero_le _) (Nat.zero_le _) d_X6_nextRow_122
def j_X6_nextRow_38 (v1 : Int32) (h : AH) : Option (Int32 × AH) := if 0 ≤ v1 then bd (lpH (l_X6_nextRow_51 v1) FU ((gI h 220 1) - 1) h) fun y7 => j_X6_nextRow_81 v1 y7.1 y7.2 else some (0, h)
theorem tj_X6_nextRow_38 {g : GP} {X : MX} {mcR msR : Nat} (hF : gF g = true) (hX : Cx g RX6 cX6_nextRow 3 mcR msR (some .boolean) [] X) {v1 : Int32} {d2 : Value} {d3 : Value} {d4 : Value} {h hz : AH} {z : Int32} (e : j_X6_nextRow_38 v1 h = some (z, hz)) : AR g X 0 0 (QQ g X NT false hz (.inl (some (.int z))) 0 0) h 38 [.ref 220, .int v1, d2, d3, d4] [] := by
  unfold j_X6_nextRow_38 at e
  refine aw_iload_n (i := 1) hX rfl rfl d_X6_nextRow_38 ?_
  refine aw_if_ge (t := 44) hX (by decide) d_X6_nextRow_39 (fun c => ?_) (fun c => ?_)
  · rw [if_pos c] at e
    refine aw_aload_n (i := 0) hX rfl rfl d_X6_nextRow_44 ?_
    refine ar_getI hX fg_RX6_47 rfl d_X6_nextRow_45 ?_
    refine aw_iconst (v := 1) hX (by decide) d_X6_nextRow_48 ?_
    refine aw_isub hX d_X6_nextRow_49 ?_
    refine aw_istore_n (i := 2) (lv2 := [.ref 220, .int v1, .int ((gI h 220 1) - 1), d3, d4]) hX rfl rfl rfl d_X6_nextRow_50 ?_
    obtain ⟨y7, f_724, e_724⟩ := bd_some e
    clear e
    refine t_X6_nextRow_51 hF hX f_724 (fun d8_3 d8_4 => ?_)
    exact tj_X6_nextRow_81 hF hX e_724
  · rw [if_neg c] at e
    refine aw_iconst (v := 0) hX (by decide) d_X6_nextRow_42 ?_
    cases e
    exact aw_zreturn hX (by decide) (Nat.zero_le _) (Nat.zero_le _) d_X6_nextRow_43
def s_X6_nextRow (h : AH) : Option (Int32 × AH) := bd (lpH (l_X6_nextRow_7) FU ((gI h 220 1) - 2) h) fun y3 => j_X6_nextRow_38 y3.1 y3.2
theorem t_X6_nextRow {g : GP} {X : MX} {mcR msR : Nat} (hF : gF g = true) (hX : Cx g RX6 cX6_nextRow 3 mcR msR (some .boolean) [] X) {h hz : AH} {z : Int32} (e : s_X6_nextRow h = some (z, hz)) : AR g X 0 0 (QQ g X NT false hz (.inl (some (.int z))) 0 0) h 0 [.ref 220, jk, jk, jk, jk] [] := by
  unfold s_X6_nextRow at e
  refine aw_aload_n (i := 0) hX rfl rfl d_X6_nextRow_0 ?_
  refine ar_getI hX fg_RX6_47 rfl d_X6_nextRow_1 ?_
  refine aw_iconst (v := 2) hX (by decide) d_X6_nextRow_4 ?_
  refine aw_isub hX d_X6_nextRow_5 ?_
  refine aw_istore_n (i := 1) (lv2 := [.ref 220, .int ((gI h 220 1) - 2), jk, jk, jk]) hX rfl rfl rfl d_X6_nextRow_6 ?_
  obtain ⟨y3, f_725, e_725⟩ := bd_some e
  clear e
  refine t_X6_nextRow_7 hF hX f_725 (fun d4_2 d4_3 d4_4 => ?_)
  exact tj_X6_nextRow_38 hF hX e_725
theorem k_X6_nextRow {g : GP} (hg : g.1.stackTraces = false) (hF : gF g = true) {h hz : AH} {z : Int32} (e : s_X6_nextRow h = some (z, hz)) : Ctr g yX6_nextRow (wsY yX6_nextRow cX6_nextRow 5 (some .boolean)) 3 0 0 [.ref 220] NT false h (some (.int z)) NT false hz := ctr_of (lv0 := [.ref 220, jk, jk, jk, jk]) rfl rfl (by decide) hg trivial (fun X hX hn => t_X6_nextRow hF hX e)
theorem d_X6_rankRows_0 : decode cX6_rankRows 0 = .ok (.iconst 0, 1) := by decide +kernel
theorem d_X6_rankRows_1 : decode cX6_rankRows 1 = .ok (.istore_n 2, 1) := by decide +kernel
theorem d_X6_rankRows_2 : decode cX6_rankRows 2 = .ok (.iload_n 2, 1) := by decide +kernel
theorem d_X6_rankRows_3 : decode cX6_rankRows 3 = .ok (.aload_n 1, 1) := by decide +kernel
theorem d_X6_rankRows_4 : decode cX6_rankRows 4 = .ok (.getfield 72, 3) := by decide +kernel
theorem d_X6_rankRows_7 : decode cX6_rankRows 7 = .ok (.if_icmp .ge 82, 3) := by decide +kernel
theorem d_X6_rankRows_10 : decode cX6_rankRows 10 = .ok (.iconst 0, 1) := by decide +kernel
theorem d_X6_rankRows_11 : decode cX6_rankRows 11 = .ok (.istore_n 3, 1) := by decide +kernel
theorem d_X6_rankRows_12 : decode cX6_rankRows 12 = .ok (.iconst 0, 1) := by decide +kernel
theorem d_X6_rankRows_13 : decode cX6_rankRows 13 = .ok (.istore 4, 2) := by decide +kernel
theorem d_X6_rankRows_15 : decode cX6_rankRows 15 = .ok (.iload 4, 2) := by decide +kernel
theorem d_X6_rankRows_17 : decode cX6_rankRows 17 = .ok (.aload_n 1, 1) := by decide +kernel
theorem d_X6_rankRows_18 : decode cX6_rankRows 18 = .ok (.getfield 72, 3) := by decide +kernel
theorem d_X6_rankRows_21 : decode cX6_rankRows 21 = .ok (.if_icmp .ge 53, 3) := by decide +kernel
theorem d_X6_rankRows_24 : decode cX6_rankRows 24 = .ok (.aload_n 1, 1) := by decide +kernel
theorem d_X6_rankRows_25 : decode cX6_rankRows 25 = .ok (.getfield 75, 3) := by decide +kernel
theorem d_X6_rankRows_28 : decode cX6_rankRows 28 = .ok (.iload 4, 2) := by decide +kernel
theorem d_X6_rankRows_30 : decode cX6_rankRows 30 = .ok (.invokestatic 61, 3) := by decide +kernel
theorem d_X6_rankRows_33 : decode cX6_rankRows 33 = .ok (.aload_n 1, 1) := by decide +kernel
theorem d_X6_rankRows_34 : decode cX6_rankRows 34 = .ok (.getfield 75, 3) := by decide +kernel
theorem d_X6_rankRows_37 : decode cX6_rankRows 37 = .ok (.iload_n 2, 1) := by decide +kernel
theorem d_X6_rankRows_38 : decode cX6_rankRows 38 = .ok (.invokestatic 61, 3) := by decide +kernel
theorem d_X6_rankRows_41 : decode cX6_rankRows 41 = .ok (.isub, 1) := by decide +kernel
theorem d_X6_rankRows_42 : decode cX6_rankRows 42 = .ok (.istore 5, 2) := by decide +kernel
theorem d_X6_rankRows_44 : decode cX6_rankRows 44 = .ok (.iload_n 3, 1) := by decide +kernel
theorem d_X6_rankRows_45 : decode cX6_rankRows 45 = .ok (.iload 5, 2) := by decide +kernel
theorem d_X6_rankRows_47 : decode cX6_rankRows 47 = .ok (.ifCond .gt 14, 3) := by decide +kernel
theorem d_X6_rankRows_50 : decode cX6_rankRows 50 = .ok (.iload 5, 2) := by decide +kernel
theorem d_X6_rankRows_52 : decode cX6_rankRows 52 = .ok (.ifCond .ne 13, 3) := by decide +kernel
theorem d_X6_rankRows_55 : decode cX6_rankRows 55 = .ok (.iload 4, 2) := by decide +kernel
theorem d_X6_rankRows_57 : decode cX6_rankRows 57 = .ok (.iload_n 2, 1) := by decide +kernel
theorem d_X6_rankRows_58 : decode cX6_rankRows 58 = .ok (.if_icmp .ge 7, 3) := by decide +kernel
theorem d_X6_rankRows_61 : decode cX6_rankRows 61 = .ok (.iconst 1, 1) := by decide +kernel
theorem d_X6_rankRows_62 : decode cX6_rankRows 62 = .ok (.goto 4, 3) := by decide +kernel
theorem d_X6_rankRows_65 : decode cX6_rankRows 65 = .ok (.iconst 0, 1) := by decide +kernel
theorem d_X6_rankRows_66 : decode cX6_rankRows 66 = .ok (.iadd, 1) := by decide +kernel
theorem d_X6_rankRows_67 : decode cX6_rankRows 67 = .ok (.istore_n 3, 1) := by decide +kernel
theorem d_X6_rankRows_68 : decode cX6_rankRows 68 = .ok (.iinc 4 1, 3) := by decide +kernel
theorem d_X6_rankRows_71 : decode cX6_rankRows 71 = .ok (.goto (-56), 3) := by decide +kernel
theorem d_X6_rankRows_74 : decode cX6_rankRows 74 = .ok (.aload_n 0, 1) := by decide +kernel
theorem d_X6_rankRows_75 : decode cX6_rankRows 75 = .ok (.getfield 18, 3) := by decide +kernel
theorem d_X6_rankRows_78 : decode cX6_rankRows 78 = .ok (.iload_n 3, 1) := by decide +kernel
theorem d_X6_rankRows_79 : decode cX6_rankRows 79 = .ok (.iload_n 2, 1) := by decide +kernel
theorem d_X6_rankRows_80 : decode cX6_rankRows 80 = .ok (.invokestatic 68, 3) := by decide +kernel
theorem d_X6_rankRows_83 : decode cX6_rankRows 83 = .ok (.iinc 2 1, 3) := by decide +kernel
theorem d_X6_rankRows_86 : decode cX6_rankRows 86 = .ok (.goto (-84), 3) := by decide +kernel
theorem d_X6_rankRows_89 : decode cX6_rankRows 89 = .ok (.return_, 1) := by decide +kernel
def j_X6_rankRows_66_15 (p1 : Nat) (p2 : Int32) (v4 : Int32) (k0 : Int32) (k1 : Int32) (h : AH) : Option (((Int32 × Int32) ⊕ Int32) × AH) := some (.inl ((k1 + k0), v4 + 1), h)
theorem tj_X6_rankRows_66_15 {g : GP} {X : MX} {mcR msR : Nat} (hF : gF g = true) (hX : Cx g RX6 cX6_rankRows 2 mcR msR none [] X) {Q : State → Prop} {p1 : Nat} {p2 : Int32} {v4 : Int32} {k0 : Int32} {k1 : Int32} (hl_0 : LAY p1 = (0, 8)) {d3 : Value} {d5 : Value} {h hz : AH} {z : ((Int32 × Int32) ⊕ Int32)} (e : j_X6_rankRows_66_15 p1 p2 v4 k0 k1 h = some (z, hz)) (kI : ∀ (s2 : (Int32 × Int32)) (xd5 : Value), z = .inl s2 → AR g X 0 0 Q hz 15 [.ref 220, .ref p1, .int p2, .int s2.1, .int s2.2, xd5] []) (kE0 : ∀ (yy : Int32) (y4 : Value) (y5 : Value), z = .inr yy → AR g X 0 0 Q hz 74 [.ref 220, .ref p1, .int p2, .int yy, y4, y5] []) : AR g X 0 0 Q h 66 [.ref 220, .ref p1, .int p2, d3, .int v4, d5] [.int k0, .int k1] := by
  unfold j_X6_rankRows_66_15 at e
  refine aw_iadd hX d_X6_rankRows_66 ?_
  refine aw_istore_n (i := 3) (lv2 := [.ref 220, .ref p1, .int p2, .int (k1 + k0), .int v4, d5]) hX rfl rfl rfl d_X6_rankRows_67 ?_
  refine aw_iinc (i := 4) (lv2 := [.ref 220, .ref p1, .int p2, .int (k1 + k0), .int (v4 + 1), d5]) hX rfl rfl rfl rfl d_X6_rankRows_68 ?_
  refine aw_goto (t := 15) hX (by decide) d_X6_rankRows_71 ?_
  cases e
  exact kI ((k1 + k0), v4 + 1) _ rfl
def j_X6_rankRows_61_15 (p1 : Nat) (p2 : Int32) (v4 : Int32) (k0 : Int32) (h : AH) : Option (((Int32 × Int32) ⊕ Int32) × AH) := j_X6_rankRows_66_15 p1 p2 v4 1 k0 h
theorem tj_X6_rankRows_61_15 {g : GP} {X : MX} {mcR msR : Nat} (hF : gF g = true) (hX : Cx g RX6 cX6_rankRows 2 mcR msR none [] X) {Q : State → Prop} {p1 : Nat} {p2 : Int32} {v4 : Int32} {k0 : Int32} (hl_0 : LAY p1 = (0, 8)) {d3 : Value} {d5 : Value} {h hz : AH} {z : ((Int32 × Int32) ⊕ Int32)} (e : j_X6_rankRows_61_15 p1 p2 v4 k0 h = some (z, hz)) (kI : ∀ (s2 : (Int32 × Int32)) (xd5 : Value), z = .inl s2 → AR g X 0 0 Q hz 15 [.ref 220, .ref p1, .int p2, .int s2.1, .int s2.2, xd5] []) (kE0 : ∀ (yy : Int32) (y4 : Value) (y5 : Value), z = .inr yy → AR g X 0 0 Q hz 74 [.ref 220, .ref p1, .int p2, .int yy, y4, y5] []) : AR g X 0 0 Q h 61 [.ref 220, .ref p1, .int p2, d3, .int v4, d5] [.int k0] := by
  unfold j_X6_rankRows_61_15 at e
  refine aw_iconst (v := 1) hX (by decide) d_X6_rankRows_61 ?_
  refine aw_goto (t := 66) hX (by decide) d_X6_rankRows_62 ?_
  exact tj_X6_rankRows_66_15 hF hX (by assumption) e kI kE0
def j_X6_rankRows_65_15 (p1 : Nat) (p2 : Int32) (v4 : Int32) (k0 : Int32) (h : AH) : Option (((Int32 × Int32) ⊕ Int32) × AH) := j_X6_rankRows_66_15 p1 p2 v4 0 k0 h
theorem tj_X6_rankRows_65_15 {g : GP} {X : MX} {mcR msR : Nat} (hF : gF g = true) (hX : Cx g RX6 cX6_rankRows 2 mcR msR none [] X) {Q : State → Prop} {p1 : Nat} {p2 : Int32} {v4 : Int32} {k0 : Int32} (hl_0 : LAY p1 = (0, 8)) {d3 : Value} {d5 : Value} {h hz : AH} {z : ((Int32 × Int32) ⊕ Int32)} (e : j_X6_rankRows_65_15 p1 p2 v4 k0 h = some (z, hz)) (kI : ∀ (s2 : (Int32 × Int32)) (xd5 : Value), z = .inl s2 → AR g X 0 0 Q hz 15 [.ref 220, .ref p1, .int p2, .int s2.1, .int s2.2, xd5] []) (kE0 : ∀ (yy : Int32) (y4 : Value) (y5 : Value), z = .inr yy → AR g X 0 0 Q hz 74 [.ref 220, .ref p1, .int p2, .int yy, y4, y5] []) : AR g X 0 0 Q h 65 [.ref 220, .ref p1, .int p2, d3, .int v4, d5] [.int k0] := by
  unfold j_X6_rankRows_65_15 at e
  refine aw_iconst (v := 0) hX (by decide) d_X6_rankRows_65 ?_
  exact tj_X6_rankRows_66_15 hF hX (by assumption) e kI kE0
def l_X6_rankRows_15 (p1 : Nat) (p2 : Int32) (s : (Int32 × Int32)) (h : AH) : Option (((Int32 × Int32) ⊕ Int32) × AH) := if (gI h p1 4) ≤ s.2 then some (.inr s.1, h) else bd (s_X9_at (some (p1 + 6)) s.2 h) fun x1 => bd (s_X9_at (some (p1 + 6)) p2 h) fun x2 => if 0 < (x1 - x2) then j_X6_rankRows_61_15 p1 p2 s.2 s.1 h else if (x1 - x2) = 0 then if p2 ≤ s.2 then j_X6_rankRows_65_15 p1 p2 s.2 s.1 h else j_X6_rankRows_61_15 p1 p2 s.2 s.1 h else j_X6_rankRows_65_15 p1 p2 s.2 s.1 h
theorem tb_X6_rankRows_15 {g : GP} {X : MX} {mcR msR : Nat} (hF : gF g = true) (hX : Cx g RX6 cX6_rankRows 2 mcR msR none [] X) {Q : State → Prop} {p1 : Nat} {p2 : Int32} {s : (Int32 × Int32)} (hl_0 : LAY p1 = (0, 8)) {d5 : Value} {h hz : AH} {z : ((Int32 × Int32) ⊕ Int32)} (e : l_X6_rankRows_15 p1 p2 s h = some (z, hz)) (kI : ∀ (s2 : (Int32 × Int32)) (xd5 : Value), z = .inl s2 → AR g X 0 0 Q hz 15 [.ref 220, .ref p1, .int p2, .int s2.1, .int s2.2, xd5] []) (kE0 : ∀ (yy : Int32) (y4 : Value) (y5 : Value), z = .inr yy → AR g X 0 0 Q hz 74 [.ref 220, .ref p1, .int p2, .int yy, y4, y5] []) : AR g X 0 0 Q h 15 [.ref 220, .ref p1, .int p2, .int s.1, .int s.2, d5] [] := by
  unfold l_X6_rankRows_15 at e
  refine aw_iload (i := 4) hX rfl d_X6_rankRows_15 ?_
  refine aw_aload_n (i := 1) hX rfl rfl d_X6_rankRows_17 ?_
  refine ar_getI hX fg_RX6_72 (by assumption) d_X6_rankRows_18 ?_
  refine aw_icmp_ge (t := 74) hX (by decide) d_X6_rankRows_21 (fun c => ?_) (fun c => ?_)
  · rw [if_pos c] at e
    cases e
    exact kE0 s.1 _ _ rfl
  · rw [if_neg c] at e
    refine aw_aload_n (i := 1) hX rfl rfl d_X6_rankRows_24 ?_
    refine ar_getF hX hF fg_RX6_75 (by assumption) d_X6_rankRows_25 ?_
    refine aw_iload (i := 4) hX rfl d_X6_rankRows_28 ?_
    obtain ⟨x1, f_726, e_726⟩ := bd_some e
    clear e
    refine aw_callSN (av := [.ref (p1 + 6), .int s.2]) (avr := [.int s.2, .ref (p1 + 6)]) hX (k_X9_at (cx_g hX) hF f_726) mi_X9_at rfl rfl nx11 w_6 (by decide) (Nat.le_of_ble_eq_true rfl) (Nat.zero_le _) (Nat.zero_le _) d_X6_rankRows_30 ?_
    refine aw_aload_n (i := 1) hX rfl rfl d_X6_rankRows_33 ?_
    refine ar_getF hX hF fg_RX6_75 (by assumption) d_X6_rankRows_34 ?_
    refine aw_iload_n (i := 2) hX rfl rfl d_X6_rankRows_37 ?_
    obtain ⟨x2, f_727, e_727⟩ := bd_some e_726
    clear e_726
    refine aw_callSN (av := [.ref (p1 + 6), .int p2]) (avr := [.int p2, .ref (p1 + 6)]) hX (k_X9_at (cx_g hX) hF f_727) mi_X9_at rfl rfl nx11 w_6 (by decide) (Nat.le_of_ble_eq_true rfl) (Nat.zero_le _) (Nat.zero_le _) d_X6_rankRows_38 ?_
    refine aw_isub hX d_X6_rankRows_41 ?_
    refine aw_istore (i := 5) (lv2 := [.ref 220, .ref p1, .int p2, .int s.1, .int s.2, .int (x1 - x2)]) hX rfl rfl d_X6_rankRows_42 ?_
    refine aw_iload_n (i := 3) hX rfl rfl d_X6_rankRows_44 ?_
    refine aw_iload (i := 5) hX rfl d_X6_rankRows_45 ?_
    refine aw_if_gt (t := 61) hX (by decide) d_X6_rankRows_47 (fun c => ?_) (fun c => ?_)
    · rw [if_pos c] at e_727
      exact tj_X6_rankRows_61_15 hF hX (by assumption) e_727 kI kE0
    · rw [if_neg c] at e_727
      refine aw_iload (i := 5) hX rfl d_X6_rankRows_50 ?_
      refine aw_if_ne (t := 65) hX (by decide) d_X6_rankRows_52 (fun c => ?_) (fun c => ?_)
      · rw [if_neg c] at e_727
        exact tj_X6_rankRows_65_15 hF hX (by assumption) e_727 kI kE0
      · rw [if_pos c] at e_727
        refine aw_iload (i := 4) hX rfl d_X6_rankRows_55 ?_
        refine aw_iload_n (i := 2) hX rfl rfl d_X6_rankRows_57 ?_
        refine aw_icmp_ge (t := 65) hX (by decide) d_X6_rankRows_58 (fun c => ?_) (fun c => ?_)
        · rw [if_pos c] at e_727
          exact tj_X6_rankRows_65_15 hF hX (by assumption) e_727 kI kE0
        · rw [if_neg c] at e_727
          exact tj_X6_rankRows_61_15 hF hX (by assumption) e_727 kI kE0
theorem ti_X6_rankRows_15 {g : GP} {X : MX} {mcR msR : Nat} (hF : gF g = true) (hX : Cx g RX6 cX6_rankRows 2 mcR msR none [] X) {Q : State → Prop} {p1 : Nat} {p2 : Int32} (hl_0 : LAY p1 = (0, 8)) {y : Int32} {hz : AH} (kE0 : ∀ (y_4 : Value) (y_5 : Value), AR g X 0 0 Q hz 74 [.ref 220, .ref p1, .int p2, .int y, y_4, y_5] []) (n : Nat) : ∀ (s : (Int32 × Int32)) (d5 : Value) (h : AH), lpH (l_X6_rankRows_15 p1 p2) n s h = some (y, hz) → AR g X 0 0 Q h 15 [.ref 220, .ref p1, .int p2, .int s.1, .int s.2, d5] [] := by
  induction n with
  | zero => intro s d5 h e; cases e
  | succ n ih =>
    intro s d5 h e
    obtain ⟨x, h1, e1, e2⟩ := lpH_succ e
    rcases e2 with ⟨s2, rfl, e3⟩ | ⟨rfl, rfl⟩
    · exact tb_X6_rankRows_15 hF hX hl_0 e1 (fun s3 x0 hs => by cases hs; exact ih _ _ _ e3) (fun yy x0 x1 hy => by cases hy)
    · exact tb_X6_rankRows_15 hF hX hl_0 e1 (fun s3 x0 hs => by cases hs) (fun yy x0 x1 hy => by cases hy; exact kE0 x0 x1)
theorem t_X6_rankRows_15 {g : GP} {X : MX} {mcR msR : Nat} (hF : gF g = true) (hX : Cx g RX6 cX6_rankRows 2 mcR msR none [] X) {Q : State → Prop} {p1 : Nat} {p2 : Int32} (hl_0 : LAY p1 = (0, 8)) {s : (Int32 × Int32)} {d5 : Value} {h hz : AH} {n : Nat} {y : Int32} (e : lpH (l_X6_rankRows_15 p1 p2) n s h = some (y, hz)) (kE0 : ∀ (y_4 : Value) (y_5 : Value), AR g X 0 0 Q hz 74 [.ref 220, .ref p1, .int p2, .int y, y_4, y_5] []) : AR g X 0 0 Q h 15 [.ref 220, .ref p1, .int p2, .int s.1, .int s.2, d5] [] := ti_X6_rankRows_15 hF hX hl_0 kE0 n _ _ _ e
def l_X6_rankRows_2 (p1 : Nat) (s : Int32) (h : AH) : Option ((Int32 ⊕ Unit) × AH) := if (gI h p1 4) ≤ s then some (.inr (), h) else bd (lpH (l_X6_rankRows_15 p1 s) FU (0, 0) h) fun y3 => bd (s_X9_put (some 223) y3.1 s y3.2) fun q5 => some (.inl (s + 1), q5.2)
theorem tb_X6_rankRows_2 {g : GP} {X : MX} {mcR msR : Nat} (hF : gF g = true) (hX : Cx g RX6 cX6_rankRows 2 mcR msR none [] X) {Q : State → Prop} {p1 : Nat} {s : Int32} (hl_0 : LAY p1 = (0, 8)) {d3 : Value} {d4 : Value} {d5 : Value} {h hz : AH} {z : (Int32 ⊕ Unit)} (e : l_X6_rankRows_2 p1 s h = some (z, hz)) (kI : ∀ (s2 : Int32) (xd3 : Value) (xd4 : Value) (xd5 : Value), z = .inl s2 → AR g X 0 0 Q hz 2 [.ref 220, .ref p1, .int s2, xd3, xd4, xd5] []) (kE0 : ∀ (yy : Unit) (y0 : Value) (y1 : Value) (y2 : Value) (y3 : Value) (y4 : Value) (y5 : Value), z = .inr yy → AR g X 0 0 Q hz 89 [y0, y1, y2, y3, y4, y5] []) : AR g X 0 0 Q h 2 [.ref 220, .ref p1, .int s, d3, d4, d5] [] := by
  unfold l_X6_rankRows_2 at e
  refine aw_iload_n (i := 2) hX rfl rfl d_X6_rankRows_2 ?_
  refine aw_aload_n (i := 1) hX rfl rfl d_X6_rankRows_3 ?_
  refine ar_getI hX fg_RX6_72 (by assumption) d_X6_rankRows_4 ?_
  refine aw_icmp_ge (t := 89) hX (by decide) d_X6_rankRows_7 (fun c => ?_) (fun c => ?_)
  · rw [if_pos c] at e
    cases e
    exact kE0 () _ _ _ _ _ _ rfl
  · rw [if_neg c] at e
    refine aw_iconst (v := 0) hX (by decide) d_X6_rankRows_10 ?_
    refine aw_istore_n (i := 3) (lv2 := [.ref 220, .ref p1, .int s, .int 0, d4, d5]) hX rfl rfl rfl d_X6_rankRows_11 ?_
    refine aw_iconst (v := 0) hX (by decide) d_X6_rankRows_12 ?_
    refine aw_istore (i := 4) (lv2 := [.ref 220, .ref p1, .int s, .int 0, .int 0, d5]) hX rfl rfl d_X6_rankRows_13 ?_
    obtain ⟨y3, f_728, e_728⟩ := bd_some e
    clear e
    refine t_X6_rankRows_15 hF hX (by assumption) f_728 (fun d4_4 d4_5 => ?_)
    refine aw_aload_n (i := 0) hX rfl rfl d_X6_rankRows_74 ?_
    refine ar_getF hX hF fg_RX6_18 rfl d_X6_rankRows_75 ?_
    show AR g X 0 0 _ _ 78 _ [.ref 223]
    refine aw_iload_n (i := 3) hX rfl rfl d_X6_rankRows_78 ?_
    refine aw_iload_n (i := 2) hX rfl rfl d_X6_rankRows_79 ?_
    obtain ⟨q5, f_729, e_729⟩ := bd_some e_728
    clear e_728
    refine aw_callSN (av := [.ref 223, .int y3.1, .int s]) (avr := [.int s, .int y3.1, .ref 223]) hX (k_X9_put (cx_g hX) hF f_729) mi_X9_put rfl rfl nx12 w_83 (by decide) (Nat.le_of_ble_eq_true rfl) (Nat.zero_le _) (Nat.zero_le _) d_X6_rankRows_80 ?_
    refine aw_iinc (i := 2) (lv2 := [.ref 220, .ref p1, .int (s + 1), .int y3.1, d4_4, d4_5]) hX rfl rfl rfl rfl d_X6_rankRows_83 ?_
    refine aw_goto (t := 2) hX (by decide) d_X6_rankRows_86 ?_
    cases e_729
    exact kI (s + 1) _ _ _ rfl
theorem ti_X6_rankRows_2 {g : GP} {X : MX} {mcR msR : Nat} (hF : gF g = true) (hX : Cx g RX6 cX6_rankRows 2 mcR msR none [] X) {Q : State → Prop} {p1 : Nat} (hl_0 : LAY p1 = (0, 8)) {y : Unit} {hz : AH} (kE0 : ∀ (y_0 : Value) (y_1 : Value) (y_2 : Value) (y_3 : Value) (y_4 : Value) (y_5 : Value), AR g X 0 0 Q hz 89 [y_0, y_1, y_2, y_3, y_4, y_5] []) (n : Nat) : ∀ (s : Int32) (d3 : Value) (d4 : Value) (d5 : Value) (h : AH), lpH (l_X6_rankRows_2 p1) n s h = some (y, hz) → AR g X 0 0 Q h 2 [.ref 220, .ref p1, .int s, d3, d4, d5] [] := by
  induction n with
  | zero => intro s d3 d4 d5 h e; cases e
  | succ n ih =>
    intro s d3 d4 d5 h e
    obtain ⟨x, h1, e1, e2⟩ := lpH_succ e
    rcases e2 with ⟨s2, rfl, e3⟩ | ⟨rfl, rfl⟩
    · exact tb_X6_rankRows_2 hF hX hl_0 e1 (fun s3 x0 x1 x2 hs => by cases hs; exact ih _ _ _ _ _ e3) (fun yy x0 x1 x2 x3 x4 x5 hy => by cases hy)
    · exact tb_X6_rankRows_2 hF hX hl_0 e1 (fun s3 x0 x1 x2 hs => by cases hs) (fun yy x0 x1 x2 x3 x4 x5 hy => by cases hy; exact kE0 x0 x1 x2 x3 x4 x5)
theorem t_X6_rankRows_2 {g : GP} {X : MX} {mcR msR : Nat} (hF : gF g = true) (hX : Cx g RX6 cX6_rankRows 2 mcR msR none [] X) {Q : State → Prop} {p1 : Nat} (hl_0 : LAY p1 = (0, 8)) {s : Int32} {d3 : Value} {d4 : Value} {d5 : Value} {h hz : AH} {n : Nat} {y : Unit} (e : lpH (l_X6_rankRows_2 p1) n s h = some (y, hz)) (kE0 : ∀ (y_0 : Value) (y_1 : Value) (y_2 : Value) (y_3 : Value) (y_4 : Value) (y_5 : Value), AR g X 0 0 Q hz 89 [y_0, y_1, y_2, y_3, y_4, y_5] []) : AR g X 0 0 Q h 2 [.ref 220, .ref p1, .int s, d3, d4, d5] [] := ti_X6_rankRows_2 hF hX hl_0 kE0 n _ _ _ _ _ e
def s_X6_rankRows (a0 : Option Nat) (h : AH) : Option (Unit × AH) := bd a0 fun oa0 => if LAY oa0 = (0, 8) then bd (lpH (l_X6_rankRows_2 oa0) FU 0 h) fun y6 => some ((), y6.2) else none
theorem t_X6_rankRows {g : GP} {X : MX} {mcR msR : Nat} (hF : gF g = true) (hX : Cx g RX6 cX6_rankRows 2 mcR msR none [] X) {a0 : Option Nat} {h hz : AH} {z : Unit} (e : s_X6_rankRows a0 h = some (z, hz)) : AR g X 0 0 (QQ g X NT false hz (.inl none) 0 0) h 0 [.ref 220, rfV a0, jk, jk, jk, jk] [] := by
  unfold s_X6_rankRows at e
  obtain ⟨oa0, e0, e_730⟩ := bd_some e
  clear e
  subst e0
  obtain ⟨hl_a0, e_731⟩ := if_some e_730
  clear e_730
  refine aw_iconst (v := 0) hX (by decide) d_X6_rankRows_0 ?_
  refine aw_istore_n (i := 2) (lv2 := [.ref 220, .ref oa0, .int 0, jk, jk, jk]) hX rfl rfl rfl d_X6_rankRows_1 ?_
  obtain ⟨y6, f_732, e_732⟩ := bd_some e_731
  clear e_731
  refine t_X6_rankRows_2 hF hX (by assumption) f_732 (fun d7_0 d7_1 d7_2 d7_3 d7_4 d7_5 => ?_)
  cases e_732
  exact aw_return hX (Nat.zero_le _) (Nat.zero_le _) d_X6_rankRows_89
theorem k_X6_rankRows {g : GP} (hg : g.1.stackTraces = false) (hF : gF g = true) {a0 : Option Nat} {h hz : AH} {z : Unit} (e : s_X6_rankRows a0 h = some (z, hz)) : Ctr g yX6_rankRows (wsY yX6_rankRows cX6_rankRows 6 none) 2 0 0 [.ref 220, rfV a0] NT false h none NT false hz := ctr_of (lv0 := [.ref 220, rfV a0, jk, jk, jk, jk]) (by cases a0 <;> rfl) (by cases a0 <;> rfl) (by decide) hg trivial (fun X hX hn => t_X6_rankRows hF hX e)
theorem d_X6_arrange_0 : decode cX6_arrange 0 = .ok (.aload_n 0, 1) := by decide +kernel
theorem d_X6_arrange_1 : decode cX6_arrange 1 = .ok (.aload_n 1, 1) := by decide +kernel
theorem d_X6_arrange_2 : decode cX6_arrange 2 = .ok (.aload_n 2, 1) := by decide +kernel
theorem d_X6_arrange_3 : decode cX6_arrange 3 = .ok (.invokevirtual 25, 3) := by decide +kernel
theorem d_X6_arrange_6 : decode cX6_arrange 6 = .ok (.aload_n 0, 1) := by decide +kernel
theorem d_X6_arrange_7 : decode cX6_arrange 7 = .ok (.aload_n 2, 1) := by decide +kernel
theorem d_X6_arrange_8 : decode cX6_arrange 8 = .ok (.invokevirtual 29, 3) := by decide +kernel
theorem d_X6_arrange_11 : decode cX6_arrange 11 = .ok (.ldc2_w 33, 3) := by decide +kernel
theorem d_X6_arrange_14 : decode cX6_arrange 14 = .ok (.lstore_n 3, 1) := by decide +kernel
theorem d_X6_arrange_15 : decode cX6_arrange 15 = .ok (.iconst 1, 1) := by decide +kernel
theorem d_X6_arrange_16 : decode cX6_arrange 16 = .ok (.istore 5, 2) := by decide +kernel
theorem d_X6_arrange_18 : decode cX6_arrange 18 = .ok (.iconst 0, 1) := by decide +kernel
theorem d_X6_arrange_19 : decode cX6_arrange 19 = .ok (.istore 6, 2) := by decide +kernel
theorem d_X6_arrange_21 : decode cX6_arrange 21 = .ok (.iload 6, 2) := by decide +kernel
theorem d_X6_arrange_23 : decode cX6_arrange 23 = .ok (.bipush 120, 2) := by decide +kernel
theorem d_X6_arrange_25 : decode cX6_arrange 25 = .ok (.if_icmp .ge 49, 3) := by decide +kernel
theorem d_X6_arrange_28 : decode cX6_arrange 28 = .ok (.iload 5, 2) := by decide +kernel
theorem d_X6_arrange_30 : decode cX6_arrange 30 = .ok (.ifCond .eq 44, 3) := by decide +kernel
theorem d_X6_arrange_33 : decode cX6_arrange 33 = .ok (.aload_n 0, 1) := by decide +kernel
theorem d_X6_arrange_34 : decode cX6_arrange 34 = .ok (.aload_n 1, 1) := by decide +kernel
theorem d_X6_arrange_35 : decode cX6_arrange 35 = .ok (.aload_n 2, 1) := by decide +kernel
theorem d_X6_arrange_36 : decode cX6_arrange 36 = .ok (.invokevirtual 35, 3) := by decide +kernel
theorem d_X6_arrange_39 : decode cX6_arrange 39 = .ok (.lstore 7, 2) := by decide +kernel
theorem d_X6_arrange_41 : decode cX6_arrange 41 = .ok (.lload 7, 2) := by decide +kernel
theorem d_X6_arrange_43 : decode cX6_arrange 43 = .ok (.lload_n 3, 1) := by decide +kernel
theorem d_X6_arrange_44 : decode cX6_arrange 44 = .ok (.lcmp, 1) := by decide +kernel
theorem d_X6_arrange_45 : decode cX6_arrange 45 = .ok (.ifCond .le 17, 3) := by decide +kernel
theorem d_X6_arrange_48 : decode cX6_arrange 48 = .ok (.lload 7, 2) := by decide +kernel
theorem d_X6_arrange_50 : decode cX6_arrange 50 = .ok (.lstore_n 3, 1) := by decide +kernel
theorem d_X6_arrange_51 : decode cX6_arrange 51 = .ok (.aload_n 0, 1) := by decide +kernel
theorem d_X6_arrange_52 : decode cX6_arrange 52 = .ok (.getfield 15, 3) := by decide +kernel
theorem d_X6_arrange_55 : decode cX6_arrange 55 = .ok (.aload_n 0, 1) := by decide +kernel
theorem d_X6_arrange_56 : decode cX6_arrange 56 = .ok (.getfield 9, 3) := by decide +kernel
theorem d_X6_arrange_59 : decode cX6_arrange 59 = .ok (.invokestatic 39, 3) := by decide +kernel
theorem d_X6_arrange_62 : decode cX6_arrange 62 = .ok (.aload_n 0, 1) := by decide +kernel
theorem d_X6_arrange_63 : decode cX6_arrange 63 = .ok (.invokevirtual 43, 3) := by decide +kernel
theorem d_X6_arrange_66 : decode cX6_arrange 66 = .ok (.istore 5, 2) := by decide +kernel
theorem d_X6_arrange_68 : decode cX6_arrange 68 = .ok (.iinc 6 1, 3) := by decide +kernel
theorem d_X6_arrange_71 : decode cX6_arrange 71 = .ok (.goto (-50), 3) := by decide +kernel
theorem d_X6_arrange_74 : decode cX6_arrange 74 = .ok (.aload_n 0, 1) := by decide +kernel
theorem d_X6_arrange_75 : decode cX6_arrange 75 = .ok (.iconst 1, 1) := by decide +kernel
theorem d_X6_arrange_76 : decode cX6_arrange 76 = .ok (.putfield 21, 3) := by decide +kernel
theorem d_X6_arrange_79 : decode cX6_arrange 79 = .ok (.lload_n 3, 1) := by decide +kernel
theorem d_X6_arrange_80 : decode cX6_arrange 80 = .ok (.lreturn, 1) := by decide +kernel
def j_X6_arrange_62_21 (p2 : Nat) (v3 : Int64) (v6 : Int32) (h : AH) : Option (((Int64 × Int32 × Int32) ⊕ Int64) × AH) := bd (s_X6_nextRow h) fun q4 => some (.inl (v3, q4.1, v6 + 1), q4.2)
theorem tj_X6_arrange_62_21 {g : GP} {X : MX} {mcR msR : Nat} (hF : gF g = true) (hX : Cx g RX6 cX6_arrange 4 mcR msR (some .long) [] X) {Q : State → Prop} {p2 : Nat} {v3 : Int64} {v6 : Int32} (hl_0 : LAY p2 = (0, 8)) {d5 : Value} {d7 : Value} {d8 : Value} {h hz : AH} {z : ((Int64 × Int32 × Int32) ⊕ Int64)} (e : j_X6_arrange_62_21 p2 v3 v6 h = some (z, hz)) (kI : ∀ (s2 : (Int64 × Int32 × Int32)) (xd7 : Value) (xd8 : Value), z = .inl s2 → AR g X 0 0 Q hz 21 [.ref 220, .ref 13, .ref p2, .long s2.1, jk, .int s2.2.1, .int s2.2.2, xd7, xd8] []) (kE0 : ∀ (yy : Int64) (y1 : Value) (y2 : Value) (y5 : Value) (y6 : Value) (y7 : Value) (y8 : Value), z = .inr yy → AR g X 0 0 Q hz 74 [.ref 220, y1, y2, .long yy, jk, y5, y6, y7, y8] []) : AR g X 0 0 Q h 62 [.ref 220, .ref 13, .ref p2, .long v3, jk, d5, .int v6, d7, d8] [] := by
  unfold j_X6_arrange_62_21 at e
  refine aw_aload_n (i := 0) hX rfl rfl d_X6_arrange_62 ?_
  obtain ⟨q4, f_733, e_733⟩ := bd_some e
  clear e
  refine aw_callV (b := 220) (av := []) (avr := []) hX (k_X6_nextRow (cx_g hX) hF f_733) mi_X6_nextRow rfl rfl w_436 w_437 w_438 (by decide) rfl (LAY_lt rfl (by decide)) rfl rfl (Nat.le_of_ble_eq_true rfl) (Nat.zero_le _) (Nat.zero_le _) d_X6_arrange_63 ?_
  refine aw_istore (i := 5) (lv2 := [.ref 220, .ref 13, .ref p2, .long v3, jk, .int q4.1, .int v6, d7, d8]) hX rfl rfl d_X6_arrange_66 ?_
  refine aw_iinc (i := 6) (lv2 := [.ref 220, .ref 13, .ref p2, .long v3, jk, .int q4.1, .int (v6 + 1), d7, d8]) hX rfl rfl rfl rfl d_X6_arrange_68 ?_
  refine aw_goto (t := 21) hX (by decide) d_X6_arrange_71 ?_
  cases e_733
  exact kI (v3, q4.1, v6 + 1) _ _ rfl
def l_X6_arrange_21 (p2 : Nat) (s : (Int64 × Int32 × Int32)) (h : AH) : Option (((Int64 × Int32 × Int32) ⊕ Int64) × AH) := if 120 ≤ s.2.2 then some (.inr s.1, h) else if s.2.1 = 0 then some (.inr s.1, h) else bd (s_X6_gain (some 13) (some p2) h) fun q3 => if q3.1 ≤ s.1 then j_X6_arrange_62_21 p2 s.1 s.2.2 q3.2 else bd (s_X9_copyRow (some 222) (some 221) q3.2) fun q5 => j_X6_arrange_62_21 p2 q3.1 s.2.2 q5.2
theorem tb_X6_arrange_21 {g : GP} {X : MX} {mcR msR : Nat} (hF : gF g = true) (hX : Cx g RX6 cX6_arrange 4 mcR msR (some .long) [] X) {Q : State → Prop} {p2 : Nat} {s : (Int64 × Int32 × Int32)} (hl_0 : LAY p2 = (0, 8)) {d7 : Value} {d8 : Value} {h hz : AH} {z : ((Int64 × Int32 × Int32) ⊕ Int64)} (e : l_X6_arrange_21 p2 s h = some (z, hz)) (kI : ∀ (s2 : (Int64 × Int32 × Int32)) (xd7 : Value) (xd8 : Value), z = .inl s2 → AR g X 0 0 Q hz 21 [.ref 220, .ref 13, .ref p2, .long s2.1, jk, .int s2.2.1, .int s2.2.2, xd7, xd8] []) (kE0 : ∀ (yy : Int64) (y1 : Value) (y2 : Value) (y5 : Value) (y6 : Value) (y7 : Value) (y8 : Value), z = .inr yy → AR g X 0 0 Q hz 74 [.ref 220, y1, y2, .long yy, jk, y5, y6, y7, y8] []) : AR g X 0 0 Q h 21 [.ref 220, .ref 13, .ref p2, .long s.1, jk, .int s.2.1, .int s.2.2, d7, d8] [] := by
  unfold l_X6_arrange_21 at e
  refine aw_iload (i := 6) hX rfl d_X6_arrange_21 ?_
  refine aw_bipush (v := 120) hX (by decide) d_X6_arrange_23 ?_
  refine aw_icmp_ge (t := 74) hX (by decide) d_X6_arrange_25 (fun c => ?_) (fun c => ?_)
  · rw [if_pos c] at e
    cases e
    exact kE0 s.1 _ _ _ _ _ _ rfl
  · rw [if_neg c] at e
    refine aw_iload (i := 5) hX rfl d_X6_arrange_28 ?_
    refine aw_if_eq (t := 74) hX (by decide) d_X6_arrange_30 (fun c => ?_) (fun c => ?_)
    · rw [if_pos c] at e
      cases e
      exact kE0 s.1 _ _ _ _ _ _ rfl
    · rw [if_neg c] at e
      refine aw_aload_n (i := 0) hX rfl rfl d_X6_arrange_33 ?_
      refine aw_aload_n (i := 1) hX rfl rfl d_X6_arrange_34 ?_
      refine aw_aload_n (i := 2) hX rfl rfl d_X6_arrange_35 ?_
      obtain ⟨q3, f_734, e_734⟩ := bd_some e
      clear e
      refine aw_callV (b := 220) (av := [.ref 13, .ref p2]) (avr := [.ref p2, .ref 13]) hX (k_X6_gain (cx_g hX) hF f_734) mi_X6_gain rfl rfl w_432 w_433 w_434 (by decide) rfl (LAY_lt rfl (by decide)) rfl rfl (Nat.le_of_ble_eq_true rfl) (Nat.zero_le _) (Nat.zero_le _) d_X6_arrange_36 ?_
      refine aw_lstore (i := 7) (lv2 := [.ref 220, .ref 13, .ref p2, .long s.1, jk, .int s.2.1, .int s.2.2, .long q3.1, jk]) hX rfl rfl d_X6_arrange_39 ?_
      refine aw_lload (i := 7) hX rfl d_X6_arrange_41 ?_
      refine aw_lload_n (i := 3) hX rfl rfl d_X6_arrange_43 ?_
      refine aw_lcmp hX d_X6_arrange_44 ?_
      refine aw_if_le (t := 62) hX (by decide) d_X6_arrange_45 (fun c => ?_) (fun c => ?_)
      · replace c := lc_le.mp c
        rw [if_pos c] at e_734
        exact tj_X6_arrange_62_21 hF hX (by assumption) e_734 kI kE0
      · replace c := fun q => c (lc_le.mpr q)
        rw [if_neg c] at e_734
        refine aw_lload (i := 7) hX rfl d_X6_arrange_48 ?_
        refine aw_lstore_n (i := 3) (lv2 := [.ref 220, .ref 13, .ref p2, .long q3.1, jk, .int s.2.1, .int s.2.2, .long q3.1, jk]) hX rfl rfl rfl d_X6_arrange_50 ?_
        refine aw_aload_n (i := 0) hX rfl rfl d_X6_arrange_51 ?_
        refine ar_getF hX hF fg_RX6_15 rfl d_X6_arrange_52 ?_
        show AR g X 0 0 _ _ 55 _ [.ref 222]
        refine aw_aload_n (i := 0) hX rfl rfl d_X6_arrange_55 ?_
        refine ar_getF hX hF fg_RX6_9 rfl d_X6_arrange_56 ?_
        show AR g X 0 0 _ _ 59 _ [.ref 221, .ref 222]
        obtain ⟨q5, f_735, e_735⟩ := bd_some e_734
        clear e_734
        refine aw_callSN (av := [.ref 222, .ref 221]) (avr := [.ref 221, .ref 222]) hX (k_X9_copyRow (cx_g hX) hF f_735) mi_X9_copyRow rfl rfl nx13 w_156 (by decide) (Nat.le_of_ble_eq_true rfl) (Nat.zero_le _) (Nat.zero_le _) d_X6_arrange_59 ?_
        exact tj_X6_arrange_62_21 hF hX (by assumption) e_735 kI kE0
theorem ti_X6_arrange_21 {g : GP} {X : MX} {mcR msR : Nat} (hF : gF g = true) (hX : Cx g RX6 cX6_arrange 4 mcR msR (some .long) [] X) {Q : State → Prop} {p2 : Nat} (hl_0 : LAY p2 = (0, 8)) {y : Int64} {hz : AH} (kE0 : ∀ (y_1 : Value) (y_2 : Value) (y_5 : Value) (y_6 : Value) (y_7 : Value) (y_8 : Value), AR g X 0 0 Q hz 74 [.ref 220, y_1, y_2, .long y, jk, y_5, y_6, y_7, y_8] []) (n : Nat) : ∀ (s : (Int64 × Int32 × Int32)) (d7 : Value) (d8 : Value) (h : AH), lpH (l_X6_arrange_21 p2) n s h = some (y, hz) → AR g X 0 0 Q h 21 [.ref 220, .ref 13, .ref p2, .long s.1, jk, .int s.2.1, .int s.2.2, d7, d8] [] := by
  induction n with
  | zero => intro s d7 d8 h e; cases e
  | succ n ih =>
    intro s d7 d8 h e
    obtain ⟨x, h1, e1, e2⟩ := lpH_succ e
    rcases e2 with ⟨s2, rfl, e3⟩ | ⟨rfl, rfl⟩
    · exact tb_X6_arrange_21 hF hX hl_0 e1 (fun s3 x0 x1 hs => by cases hs; exact ih _ _ _ _ e3) (fun yy x0 x1 x2 x3 x4 x5 hy => by cases hy)
    · exact tb_X6_arrange_21 hF hX hl_0 e1 (fun s3 x0 x1 hs => by cases hs) (fun yy x0 x1 x2 x3 x4 x5 hy => by cases hy; exact kE0 x0 x1 x2 x3 x4 x5)
theorem t_X6_arrange_21 {g : GP} {X : MX} {mcR msR : Nat} (hF : gF g = true) (hX : Cx g RX6 cX6_arrange 4 mcR msR (some .long) [] X) {Q : State → Prop} {p2 : Nat} (hl_0 : LAY p2 = (0, 8)) {s : (Int64 × Int32 × Int32)} {d7 : Value} {d8 : Value} {h hz : AH} {n : Nat} {y : Int64} (e : lpH (l_X6_arrange_21 p2) n s h = some (y, hz)) (kE0 : ∀ (y_1 : Value) (y_2 : Value) (y_5 : Value) (y_6 : Value) (y_7 : Value) (y_8 : Value), AR g X 0 0 Q hz 74 [.ref 220, y_1, y_2, .long y, jk, y_5, y_6, y_7, y_8] []) : AR g X 0 0 Q h 21 [.ref 220, .ref 13, .ref p2, .long s.1, jk, .int s.2.1, .int s.2.2, d7, d8] [] := ti_X6_arrange_21 hF hX hl_0 kE0 n _ _ _ _ e
def j_X6_arrange_74 (v3 : Int64) (h : AH) : Option (Int64 × AH) := some (v3, sI h 220 0 1)
theorem tj_X6_arrange_74 {g : GP} {X : MX} {mcR msR : Nat} (hF : gF g = true) (hX : Cx g RX6 cX6_arrange 4 mcR msR (some .long) [] X) {v3 : Int64} {d1 : Value} {d2 : Value} {d5 : Value} {d6 : Value} {d7 : Value} {d8 : Value} {h hz : AH} {z : Int64} (e : j_X6_arrange_74 v3 h = some (z, hz)) : AR g X 0 0 (QQ g X NT false hz (.inl (some (.long z))) 0 0) h 74 [.ref 220, d1, d2, .long v3, jk, d5, d6, d7, d8] [] := by
  unfold j_X6_arrange_74 at e
  refine aw_aload_n (i := 0) hX rfl rfl d_X6_arrange_74 ?_
  refine aw_iconst (v := 1) hX (by decide) d_X6_arrange_75 ?_
  refine ar_putZ hX fp_RX6_21 rfl (by decide) d_X6_arrange_76 ?_
  refine aw_lload_n (i := 3) hX rfl rfl d_X6_arrange_79 ?_
  cases e
  exact aw_lreturn hX (Nat.zero_le _) (Nat.zero_le _) d_X6_arrange_80
def s_X6_arrange (a0 : Option Nat) (a1 : Option Nat) (h : AH) : Option (Int64 × AH) := if a0 = some 13 then bd a1 fun oa1 => if LAY oa1 = (0, 8) then bd (s_X6_collect (some 13) (some oa1) h) fun q1 => bd (s_X6_rankRows (some oa1) q1.2) fun q2 => bd (lpH (l_X6_arrange_21 oa1) FU ((-1), 1, 0) q2.2) fun y6 => j_X6_arrange_74 y6.1 y6.2 else none else none
theorem t_X6_arrange {g : GP} {X : MX} {mcR msR : Nat} (hF : gF g = true) (hX : Cx g RX6 cX6_arrange 4 mcR msR (some .long) [] X) {a0 : Option Nat} {a1 : Option Nat} {h hz : AH} {z : Int64} (e : s_X6_arrange a0 a1 h = some (z, hz)) : AR g X 0 0 (QQ g X NT false hz (.inl (some (.long z))) 0 0) h 0 [.ref 220, rfV a0, rfV a1, jk, jk, jk, jk, jk, jk] [] := by
  unfold s_X6_arrange at e
  obtain ⟨rfl, e_736⟩ := if_some e
  clear e
  obtain ⟨oa1, e0, e_737⟩ := bd_some e_736
  clear e_736
  subst e0
  obtain ⟨hl_a1, e_738⟩ := if_some e_737
  clear e_737
  refine aw_aload_n (i := 0) hX rfl rfl d_X6_arrange_0 ?_
  refine aw_aload_n (i := 1) hX rfl rfl d_X6_arrange_1 ?_
  refine aw_aload_n (i := 2) hX rfl rfl d_X6_arrange_2 ?_
  obtain ⟨q1, f_739, e_739⟩ := bd_some e_738
  clear e_738
  refine aw_callV (b := 220) (av := [.ref 13, .ref oa1]) (avr := [.ref oa1, .ref 13]) hX (k_X6_collect (cx_g hX) hF f_739) mi_X6_collect rfl rfl w_423 w_424 w_425 (by decide) rfl (LAY_lt rfl (by decide)) rfl rfl (Nat.le_of_ble_eq_true rfl) (Nat.zero_le _) (Nat.zero_le _) d_X6_arrange_3 ?_
  refine aw_aload_n (i := 0) hX rfl rfl d_X6_arrange_6 ?_
  refine aw_aload_n (i := 2) hX rfl rfl d_X6_arrange_7 ?_
  obtain ⟨q2, f_740, e_740⟩ := bd_some e_739
  clear e_739
  refine aw_callV (b := 220) (av := [.ref oa1]) (avr := [.ref oa1]) hX (k_X6_rankRows (cx_g hX) hF f_740) mi_X6_rankRows rfl rfl w_427 w_428 w_429 (by decide) rfl (LAY_lt rfl (by decide)) rfl rfl (Nat.le_of_ble_eq_true rfl) (Nat.zero_le _) (Nat.zero_le _) d_X6_arrange_8 ?_
  refine aw_ldc2 hX w_430 d_X6_arrange_11 ?_
  refine aw_lstore_n (i := 3) (lv2 := [.ref 220, .ref 13, .ref oa1, .long (-1), jk, jk, jk, jk, jk]) hX rfl rfl rfl d_X6_arrange_14 ?_
  refine aw_iconst (v := 1) hX (by decide) d_X6_arrange_15 ?_
  refine aw_istore (i := 5) (lv2 := [.ref 220, .ref 13, .ref oa1, .long (-1), jk, .int 1, jk, jk, jk]) hX rfl rfl d_X6_arrange_16 ?_
  refine aw_iconst (v := 0) hX (by decide) d_X6_arrange_18 ?_
  refine aw_istore (i := 6) (lv2 := [.ref 220, .ref 13, .ref oa1, .long (-1), jk, .int 1, .int 0, jk, jk]) hX rfl rfl d_X6_arrange_19 ?_
  obtain ⟨y6, f_741, e_741⟩ := bd_some e_740
  clear e_740
  refine t_X6_arrange_21 hF hX (by assumption) f_741 (fun d7_1 d7_2 d7_5 d7_6 d7_7 d7_8 => ?_)
  exact tj_X6_arrange_74 hF hX e_741
theorem k_X6_arrange {g : GP} (hg : g.1.stackTraces = false) (hF : gF g = true) {a0 : Option Nat} {a1 : Option Nat} {h hz : AH} {z : Int64} (e : s_X6_arrange a0 a1 h = some (z, hz)) : Ctr g yX6_arrange (wsY yX6_arrange cX6_arrange 9 (some .long)) 4 0 0 [.ref 220, rfV a0, rfV a1] NT false h (some (.long z)) NT false hz := ctr_of (lv0 := [.ref 220, rfV a0, rfV a1, jk, jk, jk, jk, jk, jk]) (by cases a0 <;> cases a1 <;> rfl) (by cases a0 <;> cases a1 <;> rfl) (by decide) hg trivial (fun X hX hn => t_X6_arrange hF hX e)
