/-! 99k.law: the loop of the law never fails -/
theorem zw_ite {α : Type} {p : Prop} [Decidable p] {a b : Option α} {Q : α → Prop} (h1 : p → zw a Q) (h2 : ¬ p → zw b Q) : zw (if p then a else b) Q := by
  by_cases c : p
  · rw [if_pos c]; exact h1 c
  · rw [if_neg c]; exact h2 c
theorem ag_tail {α : Type} {cv : α → Int64} {k : Int32} {b : α} {h2 : AH} {s : Int32} {j : AH → Option ((Int32 ⊕ Unit) × AH)} (t0 : gI h2 240 0 = k) (tv : k = 0 → gL h2 277 0 = cv b) (iv : IV h2) (hj : j h2 = some (.inl (s + 6), h2)) : zw (bd (s_X10_thrown h2) fun x => if x = k then if k = 0 then bd (ldL h2 277 0) fun y => if y = cv b then j h2 else none else j h2 else none) (fun r => r.1 = .inl (s + 6) ∧ IV r.2) := by
  unfold s_X10_thrown
  rw [bd_v, if_pos t0, hj]
  refine zw_ite (fun c => ?_) (fun _ => zw_some ⟨rfl, iv⟩)
  rw [ldL_ok (x := 0) 0 (n := 1) rfl rfl (by decide), bd_v, if_pos (tv c)]
  exact zw_some ⟨rfl, iv⟩
theorem ag_goes {k b : Int32} {h2 : AH} {s : Int32} {j : Int64 → Int64 → AH → Option ((Int32 ⊕ Unit) × AH)} {j2 : AH → Option ((Int32 ⊕ Unit) × AH)} (t0 : gI h2 240 0 = k) (tv : k = 0 → gL h2 277 0 = (fun b : Int32 => if b = 0 then (0 : Int64) else 1) b) (iv : IV h2) (hj : ∀ v, j v v h2 = some (.inl (s + 6), h2)) (hj2 : j2 h2 = some (.inl (s + 6), h2)) : zw (bd (s_X10_thrown h2) fun x => if x = k then if k = 0 then bd (ldL h2 277 0) fun y => if b = 0 then j 0 y h2 else j 1 y h2 else j2 h2 else none) (fun r => r.1 = .inl (s + 6) ∧ IV r.2) := by
  unfold s_X10_thrown
  rw [bd_v, if_pos t0, hj2]
  refine zw_ite (fun c => ?_) (fun _ => zw_some ⟨rfl, iv⟩)
  rw [ldL_ok (x := 0) 0 (n := 1) rfl rfl (by decide), bd_v, tv c]
  dsimp only
  refine zw_ite (fun c => ?_) (fun c => ?_)
  · rw [if_pos c, hj]
    exact zw_some ⟨rfl, iv⟩
  · rw [if_neg c, hj]
    exact zw_some ⟨rfl, iv⟩
section
variable {D : HD} {T : Nat} {h : AH} {L : Nat} {xs : Nat → Int32} {s : Int32} {x1 y1 y2 y3 y4 y5 : Int32}
theorem lw_0 (x : IVd D T h) (l1 : ldS L xs (s + 1) = some y1) (l2 : ldS L xs (s + 2) = some y2) (l3 : ldS L xs (s + 3) = some y3) (l4 : ldS L xs (s + 4) = some y4) (l5 : ldS L xs (s + 5) = some y5) : zw (bd (ldS L xs (s + 1)) fun x196 => bd (ldS L xs (s + 2)) fun x197 => bd (ldS L xs (s + 3)) fun x198 => bd (ldS L xs (s + 4)) fun x199 => bd (ldS L xs (s + 5)) fun x200 => bd (s_X9_feed x196 x197 x198 x199 x200 h) fun q201 => bd (ldS L xs (s + 1)) fun x202 => bd (ldS L xs (s + 2)) fun x203 => bd (ldS L xs (s + 3)) fun x204 => bd (ldS L xs (s + 4)) fun x205 => bd (ldS L xs (s + 5)) fun x206 => bd (s_X10_feed x202 x203 x204 x205 x206 q201.2) fun q207 => if q201.1 = q207.1 then j_L_law_1898_23 L xs s q207.2 else none) (fun r => r.1 = .inl (s + 6) ∧ IV r.2) := by
  obtain ⟨v, h1, h2, hc, hm, iv⟩ := g_feed x y1 y2 y3 y4 y5
  simp only [l1, l2, l3, l4, l5, bd_v, hc, hm]
  exact zw_t trivial (zw_some ⟨rfl, iv⟩)
theorem lw_1 (x : IVd D T h) (l1 : ldS L xs (s + 1) = some y1) (l2 : ldS L xs (s + 2) = some y2) (l3 : ldS L xs (s + 3) = some y3) (l4 : ldS L xs (s + 4) = some y4) (l5 : ldS L xs (s + 5) = some y5) : zw (bd (ldS L xs (s + 1)) fun x190 => bd (s_L_hall (some 0) x190 (some 277) h) fun q191 => bd (ldS L xs (s + 1)) fun x192 => bd (s_X10_hall x192 q191.2) fun q193 => bd (s_X10_thrown q193.2) fun x194 => if x194 = q191.1 then if q191.1 = 0 then bd (ldL q193.2 277 0) fun x195 => if x195 = q193.1.toInt64 then j_L_law_302_23 L xs s q193.2 else none else j_L_law_302_23 L xs s q193.2 else none) (fun r => r.1 = .inl (s + 6) ∧ IV r.2) := by
  obtain ⟨k, h1, b, h2, hc, hm, t0, tv, iv⟩ := g_hall x y1
  simp only [l1, bd_v, hc, hm]
  exact ag_tail (cv := Int32.toInt64) (j := fun h => j_L_law_302_23 L xs s h) t0 tv iv rfl
theorem lw_2 (x : IVd D T h) (l1 : ldS L xs (s + 1) = some y1) (l2 : ldS L xs (s + 2) = some y2) (l3 : ldS L xs (s + 3) = some y3) (l4 : ldS L xs (s + 4) = some y4) (l5 : ldS L xs (s + 5) = some y5) : zw (bd (s_X9_fault h) fun x188 => bd (s_X10_fault h) fun q189 => if x188 = q189.1 then j_L_law_1898_23 L xs s q189.2 else none) (fun r => r.1 = .inl (s + 6) ∧ IV r.2) := by
  obtain ⟨v, h2, hc, hm, iv⟩ := g_fault x
  simp only [bd_v, hc, hm]
  exact zw_t trivial (zw_some ⟨rfl, iv⟩)
theorem lw_3 (x : IVd D T h) (l1 : ldS L xs (s + 1) = some y1) (l2 : ldS L xs (s + 2) = some y2) (l3 : ldS L xs (s + 3) = some y3) (l4 : ldS L xs (s + 4) = some y4) (l5 : ldS L xs (s + 5) = some y5) : zw (bd (ldS L xs (s + 1)) fun x182 => bd (s_L_count (some 0) x182 (some 277) h) fun q183 => bd (ldS L xs (s + 1)) fun x184 => bd (s_X10_count x184 q183.2) fun q185 => bd (s_X10_thrown q185.2) fun x186 => if x186 = q183.1 then if q183.1 = 0 then bd (ldL q185.2 277 0) fun x187 => if x187 = q185.1.toInt64 then j_L_law_371_23 L xs s q185.2 else none else j_L_law_371_23 L xs s q185.2 else none) (fun r => r.1 = .inl (s + 6) ∧ IV r.2) := by
  obtain ⟨k, h1, b, h2, hc, hm, t0, tv, iv⟩ := g_count x y1
  simp only [l1, bd_v, hc, hm]
  exact ag_tail (cv := Int32.toInt64) (j := fun h => j_L_law_371_23 L xs s h) t0 tv iv rfl
theorem lw_4 (x : IVd D T h) (l1 : ldS L xs (s + 1) = some y1) (l2 : ldS L xs (s + 2) = some y2) (l3 : ldS L xs (s + 3) = some y3) (l4 : ldS L xs (s + 4) = some y4) (l5 : ldS L xs (s + 5) = some y5) : zw (bd (ldS L xs (s + 1)) fun x174 => bd (ldS L xs (s + 2)) fun x175 => bd (s_L_evening (some 0) x174 x175 (some 277) h) fun q176 => bd (ldS L xs (s + 1)) fun x177 => bd (ldS L xs (s + 2)) fun x178 => bd (s_X10_evening x177 x178 q176.2) fun q179 => bd (s_X10_thrown q179.2) fun x180 => if x180 = q176.1 then if q176.1 = 0 then bd (ldL q179.2 277 0) fun x181 => if x181 = q179.1.toInt64 then j_L_law_439_23 L xs s q179.2 else none else j_L_law_439_23 L xs s q179.2 else none) (fun r => r.1 = .inl (s + 6) ∧ IV r.2) := by
  obtain ⟨k, h1, b, h2, hc, hm, t0, tv, iv⟩ := g_evening x y1 y2
  simp only [l1, l2, bd_v, hc, hm]
  exact ag_tail (cv := Int32.toInt64) (j := fun h => j_L_law_439_23 L xs s h) t0 tv iv rfl
theorem lw_5 (x : IVd D T h) (l1 : ldS L xs (s + 1) = some y1) (l2 : ldS L xs (s + 2) = some y2) (l3 : ldS L xs (s + 3) = some y3) (l4 : ldS L xs (s + 4) = some y4) (l5 : ldS L xs (s + 5) = some y5) : zw (bd (ldS L xs (s + 1)) fun x166 => bd (ldS L xs (s + 2)) fun x167 => bd (s_L_kind (some 0) x166 x167 (some 277) h) fun q168 => bd (ldS L xs (s + 1)) fun x169 => bd (ldS L xs (s + 2)) fun x170 => bd (s_X10_kind x169 x170 q168.2) fun q171 => bd (s_X10_thrown q171.2) fun x172 => if x172 = q168.1 then if q168.1 = 0 then bd (ldL q171.2 277 0) fun x173 => if x173 = q171.1.toInt64 then j_L_law_507_23 L xs s q171.2 else none else j_L_law_507_23 L xs s q171.2 else none) (fun r => r.1 = .inl (s + 6) ∧ IV r.2) := by
  obtain ⟨k, h1, b, h2, hc, hm, t0, tv, iv⟩ := g_kind x y1 y2
  simp only [l1, l2, bd_v, hc, hm]
  exact ag_tail (cv := Int32.toInt64) (j := fun h => j_L_law_507_23 L xs s h) t0 tv iv rfl
theorem lw_6 (x : IVd D T h) (l1 : ldS L xs (s + 1) = some y1) (l2 : ldS L xs (s + 2) = some y2) (l3 : ldS L xs (s + 3) = some y3) (l4 : ldS L xs (s + 4) = some y4) (l5 : ldS L xs (s + 5) = some y5) : zw (bd (ldS L xs (s + 1)) fun x160 => bd (s_L_price (some 0) x160 (some 277) h) fun q161 => bd (ldS L xs (s + 1)) fun x162 => bd (s_X10_price x162 q161.2) fun q163 => bd (s_X10_thrown q163.2) fun x164 => if x164 = q161.1 then if q161.1 = 0 then bd (ldL q163.2 277 0) fun x165 => if x165 = q163.1.toInt64 then j_L_law_563_23 L xs s q163.2 else none else j_L_law_563_23 L xs s q163.2 else none) (fun r => r.1 = .inl (s + 6) ∧ IV r.2) := by
  obtain ⟨k, h1, b, h2, hc, hm, t0, tv, iv⟩ := g_price x y1
  simp only [l1, bd_v, hc, hm]
  exact ag_tail (cv := Int32.toInt64) (j := fun h => j_L_law_563_23 L xs s h) t0 tv iv rfl
theorem lw_7 (x : IVd D T h) (l1 : ldS L xs (s + 1) = some y1) (l2 : ldS L xs (s + 2) = some y2) (l3 : ldS L xs (s + 3) = some y3) (l4 : ldS L xs (s + 4) = some y4) (l5 : ldS L xs (s + 5) = some y5) : zw (bd (ldS L xs (s + 1)) fun x150 => bd (ldS L xs (s + 2)) fun x151 => bd (ldS L xs (s + 3)) fun x152 => if x152 = 0 then j_L_law_593_23 L xs s 0 x151 x150 h else j_L_law_593_23 L xs s 1 x151 x150 h) (fun r => r.1 = .inl (s + 6) ∧ IV r.2) := by
  have key : ∀ a : Int32, a = 0 ∨ a = 1 → zw (bd (s_L_chance (some 0) y1 y2 a (some 277) h) fun q => j_L_law_626_23 L xs s q.1 a y2 y1 q.2) (fun r => r.1 = .inl (s + 6) ∧ IV r.2) := by
    intro a ha
    obtain ⟨k, h1, b, h2, hc, hm, t0, tv, iv⟩ := g_chance x y1 y2 a ha
    unfold j_L_law_626_23
    simp only [bd_v, hc, hm]
    exact ag_tail (cv := Int32.toInt64) (j := fun h => j_L_law_659_23 L xs s h) t0 tv iv rfl
  simp only [l1, l2, l3, bd_v]
  refine zw_ite (fun c => ?_) (fun c => ?_)
  · have z := key 0 (Or.inl rfl)
    unfold j_L_law_593_23
    simp only [l1, l2, l3, bd_v, if_pos c]
    exact z
  · have z := key 1 (Or.inr rfl)
    unfold j_L_law_593_23
    simp only [l1, l2, l3, bd_v, if_neg c]
    exact z
theorem lw_8 (x : IVd D T h) (l1 : ldS L xs (s + 1) = some y1) (l2 : ldS L xs (s + 2) = some y2) (l3 : ldS L xs (s + 3) = some y3) (l4 : ldS L xs (s + 4) = some y4) (l5 : ldS L xs (s + 5) = some y5) : zw (bd (ldS L xs (s + 1)) fun x142 => bd (ldS L xs (s + 2)) fun x143 => bd (s_L_good (some 0) x142 x143 (some 277) h) fun q144 => bd (ldS L xs (s + 1)) fun x145 => bd (ldS L xs (s + 2)) fun x146 => bd (s_X10_good x145 x146 q144.2) fun q147 => bd (s_X10_thrown q147.2) fun x148 => if x148 = q144.1 then if q144.1 = 0 then bd (ldL q147.2 277 0) fun x149 => if x149 = q147.1.toInt64 then j_L_law_727_23 L xs s q147.2 else none else j_L_law_727_23 L xs s q147.2 else none) (fun r => r.1 = .inl (s + 6) ∧ IV r.2) := by
  obtain ⟨k, h1, b, h2, hc, hm, t0, tv, iv⟩ := g_good x y1 y2
  simp only [l1, l2, bd_v, hc, hm]
  exact ag_tail (cv := Int32.toInt64) (j := fun h => j_L_law_727_23 L xs s h) t0 tv iv rfl
theorem lw_9 (x : IVd D T h) (l1 : ldS L xs (s + 1) = some y1) (l2 : ldS L xs (s + 2) = some y2) (l3 : ldS L xs (s + 3) = some y3) (l4 : ldS L xs (s + 4) = some y4) (l5 : ldS L xs (s + 5) = some y5) : zw (bd (ldS L xs (s + 1)) fun x136 => bd (s_L_buys (some 0) x136 (some 277) h) fun q137 => bd (ldS L xs (s + 1)) fun x138 => bd (s_X10_buys x138 q137.2) fun q139 => bd (s_X10_thrown q139.2) fun x140 => if x140 = q137.1 then if q137.1 = 0 then bd (ldL q139.2 277 0) fun x141 => if x141 = q139.1.toInt64 then j_L_law_783_23 L xs s q139.2 else none else j_L_law_783_23 L xs s q139.2 else none) (fun r => r.1 = .inl (s + 6) ∧ IV r.2) := by
  obtain ⟨k, h1, b, h2, hc, hm, t0, tv, iv⟩ := g_buys x y1
  simp only [l1, bd_v, hc, hm]
  exact ag_tail (cv := Int32.toInt64) (j := fun h => j_L_law_783_23 L xs s h) t0 tv iv rfl
theorem lw_10 (x : IVd D T h) (l1 : ldS L xs (s + 1) = some y1) (l2 : ldS L xs (s + 2) = some y2) (l3 : ldS L xs (s + 3) = some y3) (l4 : ldS L xs (s + 4) = some y4) (l5 : ldS L xs (s + 5) = some y5) : zw (bd (ldS L xs (s + 1)) fun x124 => bd (ldS L xs (s + 2)) fun x125 => bd (ldS L xs (s + 3)) fun x126 => bd (ldS L xs (s + 4)) fun x127 => bd (s_L_goes (some 0) x124 x125 x126 x127 (some 277) h) fun q128 => bd (ldS L xs (s + 1)) fun x129 => bd (ldS L xs (s + 2)) fun x130 => bd (ldS L xs (s + 3)) fun x131 => bd (ldS L xs (s + 4)) fun x132 => bd (s_X10_goes x129 x130 x131 x132 q128.2) fun q133 => bd (s_X10_thrown q133.2) fun x134 => if x134 = q128.1 then if q128.1 = 0 then bd (ldL q133.2 277 0) fun x135 => if q133.1 = 0 then j_L_law_876_23 L xs s 0 x135 q133.2 else j_L_law_876_23 L xs s 1 x135 q133.2 else j_L_law_882_23 L xs s q133.2 else none) (fun r => r.1 = .inl (s + 6) ∧ IV r.2) := by
  obtain ⟨k, h1, b, h2, hc, hm, t0, tv, iv⟩ := g_goes x y1 y2 y3 y4
  simp only [l1, l2, l3, l4, bd_v, hc, hm]
  exact ag_goes (j := fun a b h => j_L_law_876_23 L xs s a b h) (j2 := fun h => j_L_law_882_23 L xs s h) t0 tv iv (fun v => by unfold j_L_law_876_23; rw [if_pos rfl]; rfl) rfl
theorem lw_11 (x : IVd D T h) (l1 : ldS L xs (s + 1) = some y1) (l2 : ldS L xs (s + 2) = some y2) (l3 : ldS L xs (s + 3) = some y3) (l4 : ldS L xs (s + 4) = some y4) (l5 : ldS L xs (s + 5) = some y5) : zw (bd (ldS L xs (s + 1)) fun x116 => bd (ldS L xs (s + 2)) fun x117 => bd (s_L_coming (some 0) x116 x117 (some 277) h) fun q118 => bd (ldS L xs (s + 1)) fun x119 => bd (ldS L xs (s + 2)) fun x120 => bd (s_X10_coming x119 x120 q118.2) fun q121 => bd (s_X10_thrown q121.2) fun x122 => if x122 = q118.1 then if q118.1 = 0 then bd (ldL q121.2 277 0) fun x123 => if x123 = q121.1.toInt64 then j_L_law_950_23 L xs s q121.2 else none else j_L_law_950_23 L xs s q121.2 else none) (fun r => r.1 = .inl (s + 6) ∧ IV r.2) := by
  obtain ⟨k, h1, b, h2, hc, hm, t0, tv, iv⟩ := g_coming x y1 y2
  simp only [l1, l2, bd_v, hc, hm]
  exact ag_tail (cv := Int32.toInt64) (j := fun h => j_L_law_950_23 L xs s h) t0 tv iv rfl
theorem lw_12 (x : IVd D T h) (l1 : ldS L xs (s + 1) = some y1) (l2 : ldS L xs (s + 2) = some y2) (l3 : ldS L xs (s + 3) = some y3) (l4 : ldS L xs (s + 4) = some y4) (l5 : ldS L xs (s + 5) = some y5) : zw (bd (ldS L xs (s + 1)) fun x108 => bd (ldS L xs (s + 2)) fun x109 => bd (s_L_often (some 0) x108 x109 (some 277) h) fun q110 => bd (ldS L xs (s + 1)) fun x111 => bd (ldS L xs (s + 2)) fun x112 => bd (s_X10_often x111 x112 q110.2) fun q113 => bd (s_X10_thrown q113.2) fun x114 => if x114 = q110.1 then if q110.1 = 0 then bd (ldL q113.2 277 0) fun x115 => if x115 = q113.1 then j_L_law_1017_23 L xs s q113.2 else none else j_L_law_1017_23 L xs s q113.2 else none) (fun r => r.1 = .inl (s + 6) ∧ IV r.2) := by
  obtain ⟨k, h1, b, h2, hc, hm, t0, tv, iv⟩ := g_often x y1 y2
  simp only [l1, l2, bd_v, hc, hm]
  exact ag_tail (cv := (fun v => v)) (j := fun h => j_L_law_1017_23 L xs s h) t0 tv iv rfl
theorem lw_13 (x : IVd D T h) (l1 : ldS L xs (s + 1) = some y1) (l2 : ldS L xs (s + 2) = some y2) (l3 : ldS L xs (s + 3) = some y3) (l4 : ldS L xs (s + 4) = some y4) (l5 : ldS L xs (s + 5) = some y5) : zw (bd (ldS L xs (s + 1)) fun x100 => bd (ldS L xs (s + 2)) fun x101 => bd (s_L_full (some 0) x100 x101 (some 277) h) fun q102 => bd (ldS L xs (s + 1)) fun x103 => bd (ldS L xs (s + 2)) fun x104 => bd (s_X10_full x103 x104 q102.2) fun q105 => bd (s_X10_thrown q105.2) fun x106 => if x106 = q102.1 then if q102.1 = 0 then bd (ldL q105.2 277 0) fun x107 => if x107 = q105.1.toInt64 then j_L_law_1085_23 L xs s q105.2 else none else j_L_law_1085_23 L xs s q105.2 else none) (fun r => r.1 = .inl (s + 6) ∧ IV r.2) := by
  obtain ⟨k, h1, b, h2, hc, hm, t0, tv, iv⟩ := g_full x y1 y2
  simp only [l1, l2, bd_v, hc, hm]
  exact ag_tail (cv := Int32.toInt64) (j := fun h => j_L_law_1085_23 L xs s h) t0 tv iv rfl
theorem lw_14 (x : IVd D T h) (l1 : ldS L xs (s + 1) = some y1) (l2 : ldS L xs (s + 2) = some y2) (l3 : ldS L xs (s + 3) = some y3) (l4 : ldS L xs (s + 4) = some y4) (l5 : ldS L xs (s + 5) = some y5) : zw (bd (s_X9_earns h) fun x98 => bd (s_X10_earns h) fun q99 => if x98 = q99.1 then j_L_law_1898_23 L xs s q99.2 else none) (fun r => r.1 = .inl (s + 6) ∧ IV r.2) := by
  obtain ⟨v, h2, hc, hm, iv⟩ := g_earns x
  simp only [bd_v, hc, hm]
  exact zw_t trivial (zw_some ⟨rfl, iv⟩)
theorem lw_15 (x : IVd D T h) (l1 : ldS L xs (s + 1) = some y1) (l2 : ldS L xs (s + 2) = some y2) (l3 : ldS L xs (s + 3) = some y3) (l4 : ldS L xs (s + 4) = some y4) (l5 : ldS L xs (s + 5) = some y5) : zw (bd (ldS L xs (s + 1)) fun x86 => bd (ldS L xs (s + 2)) fun x87 => bd (ldS L xs (s + 3)) fun x88 => bd (ldS L xs (s + 4)) fun x89 => bd (s_L_prices (some 0) x86 x87 x88 x89 (some 277) h) fun q90 => bd (ldS L xs (s + 1)) fun x91 => bd (ldS L xs (s + 2)) fun x92 => bd (ldS L xs (s + 3)) fun x93 => bd (ldS L xs (s + 4)) fun x94 => bd (s_X10_prices x91 x92 x93 x94 q90.2) fun q95 => bd (s_X10_thrown q95.2) fun x96 => if x96 = q90.1 then if q90.1 = 0 then bd (ldL q95.2 277 0) fun x97 => if x97 = q95.1.toInt64 then j_L_law_1191_23 L xs s q95.2 else none else j_L_law_1191_23 L xs s q95.2 else none) (fun r => r.1 = .inl (s + 6) ∧ IV r.2) := by
  obtain ⟨k, h1, b, h2, hc, hm, t0, tv, iv⟩ := g_prices x y1 y2 y3 y4
  simp only [l1, l2, l3, l4, bd_v, hc, hm]
  exact ag_tail (cv := Int32.toInt64) (j := fun h => j_L_law_1191_23 L xs s h) t0 tv iv rfl
theorem lw_16 (x : IVd D T h) (l1 : ldS L xs (s + 1) = some y1) (l2 : ldS L xs (s + 2) = some y2) (l3 : ldS L xs (s + 3) = some y3) (l4 : ldS L xs (s + 4) = some y4) (l5 : ldS L xs (s + 5) = some y5) : zw (bd (ldS L xs (s + 1)) fun x80 => bd (s_L_found (some 0) x80 (some 277) h) fun q81 => bd (ldS L xs (s + 1)) fun x82 => bd (s_X10_found x82 q81.2) fun q83 => bd (s_X10_thrown q83.2) fun x84 => if x84 = q81.1 then if q81.1 = 0 then bd (ldL q83.2 277 0) fun x85 => if x85 = q83.1 then j_L_law_1246_23 L xs s q83.2 else none else j_L_law_1246_23 L xs s q83.2 else none) (fun r => r.1 = .inl (s + 6) ∧ IV r.2) := by
  obtain ⟨k, h1, b, h2, hc, hm, t0, tv, iv⟩ := g_found x y1
  simp only [l1, bd_v, hc, hm]
  exact ag_tail (cv := (fun v => v)) (j := fun h => j_L_law_1246_23 L xs s h) t0 tv iv rfl
theorem lw_17 (x : IVd D T h) (l1 : ldS L xs (s + 1) = some y1) (l2 : ldS L xs (s + 2) = some y2) (l3 : ldS L xs (s + 3) = some y3) (l4 : ldS L xs (s + 4) = some y4) (l5 : ldS L xs (s + 5) = some y5) : zw (bd (ldS L xs (s + 1)) fun x72 => bd (ldS L xs (s + 2)) fun x73 => bd (s_L_over (some 0) x72 x73 (some 277) h) fun q74 => bd (ldS L xs (s + 1)) fun x75 => bd (ldS L xs (s + 2)) fun x76 => bd (s_X10_over x75 x76 q74.2) fun q77 => bd (s_X10_thrown q77.2) fun x78 => if x78 = q74.1 then if q74.1 = 0 then bd (ldL q77.2 277 0) fun x79 => if x79 = q77.1.toInt64 then j_L_law_1314_23 L xs s q77.2 else none else j_L_law_1314_23 L xs s q77.2 else none) (fun r => r.1 = .inl (s + 6) ∧ IV r.2) := by
  obtain ⟨k, h1, b, h2, hc, hm, t0, tv, iv⟩ := g_over x y1 y2
  simp only [l1, l2, bd_v, hc, hm]
  exact ag_tail (cv := Int32.toInt64) (j := fun h => j_L_law_1314_23 L xs s h) t0 tv iv rfl
theorem lw_18 (x : IVd D T h) (l1 : ldS L xs (s + 1) = some y1) (l2 : ldS L xs (s + 2) = some y2) (l3 : ldS L xs (s + 3) = some y3) (l4 : ldS L xs (s + 4) = some y4) (l5 : ldS L xs (s + 5) = some y5) : zw (bd (ldS L xs (s + 1)) fun x62 => bd (ldS L xs (s + 2)) fun x63 => bd (ldS L xs (s + 3)) fun x64 => bd (s_L_again (some 0) x62 x63 x64 (some 277) h) fun q65 => bd (ldS L xs (s + 1)) fun x66 => bd (ldS L xs (s + 2)) fun x67 => bd (ldS L xs (s + 3)) fun x68 => bd (s_X10_again x66 x67 x68 q65.2) fun q69 => bd (s_X10_thrown q69.2) fun x70 => if x70 = q65.1 then if q65.1 = 0 then bd (ldL q69.2 277 0) fun x71 => if x71 = q69.1.toInt64 then j_L_law_1394_23 L xs s q69.2 else none else j_L_law_1394_23 L xs s q69.2 else none) (fun r => r.1 = .inl (s + 6) ∧ IV r.2) := by
  obtain ⟨k, h1, b, h2, hc, hm, t0, tv, iv⟩ := g_again x y1 y2 y3
  simp only [l1, l2, l3, bd_v, hc, hm]
  exact ag_tail (cv := Int32.toInt64) (j := fun h => j_L_law_1394_23 L xs s h) t0 tv iv rfl
theorem lw_19 (x : IVd D T h) (l1 : ldS L xs (s + 1) = some y1) (l2 : ldS L xs (s + 2) = some y2) (l3 : ldS L xs (s + 3) = some y3) (l4 : ldS L xs (s + 4) = some y4) (l5 : ldS L xs (s + 5) = some y5) : zw (bd (ldS L xs (s + 1)) fun x56 => bd (s_L_pair (some 0) x56 (some 277) h) fun q57 => bd (ldS L xs (s + 1)) fun x58 => bd (s_X10_pair x58 q57.2) fun q59 => bd (s_X10_thrown q59.2) fun x60 => if x60 = q57.1 then if q57.1 = 0 then bd (ldL q59.2 277 0) fun x61 => if x61 = q59.1 then j_L_law_1449_23 L xs s q59.2 else none else j_L_law_1449_23 L xs s q59.2 else none) (fun r => r.1 = .inl (s + 6) ∧ IV r.2) := by
  obtain ⟨k, h1, b, h2, hc, hm, t0, tv, iv⟩ := g_pair x y1
  simp only [l1, bd_v, hc, hm]
  exact ag_tail (cv := (fun v => v)) (j := fun h => j_L_law_1449_23 L xs s h) t0 tv iv rfl
theorem lw_20 (x : IVd D T h) (l1 : ldS L xs (s + 1) = some y1) (l2 : ldS L xs (s + 2) = some y2) (l3 : ldS L xs (s + 3) = some y3) (l4 : ldS L xs (s + 4) = some y4) (l5 : ldS L xs (s + 5) = some y5) : zw (bd (ldS L xs (s + 1)) fun x50 => bd (s_L_paired (some 0) x50 (some 277) h) fun q51 => bd (ldS L xs (s + 1)) fun x52 => bd (s_X10_paired x52 q51.2) fun q53 => bd (s_X10_thrown q53.2) fun x54 => if x54 = q51.1 then if q51.1 = 0 then bd (ldL q53.2 277 0) fun x55 => if x55 = q53.1.toInt64 then j_L_law_1505_23 L xs s q53.2 else none else j_L_law_1505_23 L xs s q53.2 else none) (fun r => r.1 = .inl (s + 6) ∧ IV r.2) := by
  obtain ⟨k, h1, b, h2, hc, hm, t0, tv, iv⟩ := g_paired x y1
  simp only [l1, bd_v, hc, hm]
  exact ag_tail (cv := Int32.toInt64) (j := fun h => j_L_law_1505_23 L xs s h) t0 tv iv rfl
theorem lw_21 (x : IVd D T h) (l1 : ldS L xs (s + 1) = some y1) (l2 : ldS L xs (s + 2) = some y2) (l3 : ldS L xs (s + 3) = some y3) (l4 : ldS L xs (s + 4) = some y4) (l5 : ldS L xs (s + 5) = some y5) : zw (bd (ldS L xs (s + 1)) fun x40 => bd (ldS L xs (s + 2)) fun x41 => bd (ldS L xs (s + 3)) fun x42 => bd (s_L_years (some 0) x40 x41 x42 (some 277) h) fun q43 => bd (ldS L xs (s + 1)) fun x44 => bd (ldS L xs (s + 2)) fun x45 => bd (ldS L xs (s + 3)) fun x46 => bd (s_X10_years x44 x45 x46 q43.2) fun q47 => bd (s_X10_thrown q47.2) fun x48 => if x48 = q43.1 then if q43.1 = 0 then bd (ldL q47.2 277 0) fun x49 => if x49 = q47.1 then j_L_law_1584_23 L xs s q47.2 else none else j_L_law_1584_23 L xs s q47.2 else none) (fun r => r.1 = .inl (s + 6) ∧ IV r.2) := by
  obtain ⟨k, h1, b, h2, hc, hm, t0, tv, iv⟩ := g_years x y1 y2 y3
  simp only [l1, l2, l3, bd_v, hc, hm]
  exact ag_tail (cv := (fun v => v)) (j := fun h => j_L_law_1584_23 L xs s h) t0 tv iv rfl
theorem lw_22 (x : IVd D T h) (l1 : ldS L xs (s + 1) = some y1) (l2 : ldS L xs (s + 2) = some y2) (l3 : ldS L xs (s + 3) = some y3) (l4 : ldS L xs (s + 4) = some y4) (l5 : ldS L xs (s + 5) = some y5) : zw (bd (s_X9_order h) fun q38 => bd (s_X10_order q38.2) fun q39 => if q38.1 = q39.1 then j_L_law_1898_23 L xs s q39.2 else none) (fun r => r.1 = .inl (s + 6) ∧ IV r.2) := by
  obtain ⟨v, h1, h2, hc, hm, iv⟩ := g_order x
  simp only [bd_v, hc, hm]
  exact zw_t trivial (zw_some ⟨rfl, iv⟩)
theorem lw_23 (x : IVd D T h) (l1 : ldS L xs (s + 1) = some y1) (l2 : ldS L xs (s + 2) = some y2) (l3 : ldS L xs (s + 3) = some y3) (l4 : ldS L xs (s + 4) = some y4) (l5 : ldS L xs (s + 5) = some y5) : zw (bd (ldS L xs (s + 1)) fun x32 => bd (s_L_ordered (some 0) x32 (some 277) h) fun q33 => bd (ldS L xs (s + 1)) fun x34 => bd (s_X10_ordered x34 q33.2) fun q35 => bd (s_X10_thrown q35.2) fun x36 => if x36 = q33.1 then if q33.1 = 0 then bd (ldL q35.2 277 0) fun x37 => if x37 = q35.1.toInt64 then j_L_law_1654_23 L xs s q35.2 else none else j_L_law_1654_23 L xs s q35.2 else none) (fun r => r.1 = .inl (s + 6) ∧ IV r.2) := by
  obtain ⟨k, h1, b, h2, hc, hm, t0, tv, iv⟩ := g_ordered x y1
  simp only [l1, bd_v, hc, hm]
  exact ag_tail (cv := Int32.toInt64) (j := fun h => j_L_law_1654_23 L xs s h) t0 tv iv rfl
theorem lw_24 (x : IVd D T h) (l1 : ldS L xs (s + 1) = some y1) (l2 : ldS L xs (s + 2) = some y2) (l3 : ldS L xs (s + 3) = some y3) (l4 : ldS L xs (s + 4) = some y4) (l5 : ldS L xs (s + 5) = some y5) : zw (bd (ldS L xs (s + 1)) fun x24 => bd (ldS L xs (s + 2)) fun x25 => bd (s_L_owed (some 0) x24 x25 (some 277) h) fun q26 => bd (ldS L xs (s + 1)) fun x27 => bd (ldS L xs (s + 2)) fun x28 => bd (s_X10_owed x27 x28 q26.2) fun q29 => bd (s_X10_thrown q29.2) fun x30 => if x30 = q26.1 then if q26.1 = 0 then bd (ldL q29.2 277 0) fun x31 => if x31 = q29.1.toInt64 then j_L_law_1722_23 L xs s q29.2 else none else j_L_law_1722_23 L xs s q29.2 else none) (fun r => r.1 = .inl (s + 6) ∧ IV r.2) := by
  obtain ⟨k, h1, b, h2, hc, hm, t0, tv, iv⟩ := g_owed x y1 y2
  simp only [l1, l2, bd_v, hc, hm]
  exact ag_tail (cv := Int32.toInt64) (j := fun h => j_L_law_1722_23 L xs s h) t0 tv iv rfl
theorem lw_25 (x : IVd D T h) (l1 : ldS L xs (s + 1) = some y1) (l2 : ldS L xs (s + 2) = some y2) (l3 : ldS L xs (s + 3) = some y3) (l4 : ldS L xs (s + 4) = some y4) (l5 : ldS L xs (s + 5) = some y5) : zw (bd (ldS L xs (s + 1)) fun x20 => bd (s_X9_begin x20 h) fun q21 => bd (ldS L xs (s + 1)) fun x22 => bd (s_X10_begin x22 q21.2) fun q23 => j_L_law_1898_23 L xs s q23.2) (fun r => r.1 = .inl (s + 6) ∧ IV r.2) := by
  obtain ⟨h1, h2, hc, hm, iv⟩ := g_begin x y1
  simp only [l1, bd_v, hc, hm]
  exact zw_some ⟨rfl, iv⟩
theorem lw_26 (x : IVd D T h) (l1 : ldS L xs (s + 1) = some y1) (l2 : ldS L xs (s + 2) = some y2) (l3 : ldS L xs (s + 3) = some y3) (l4 : ldS L xs (s + 4) = some y4) (l5 : ldS L xs (s + 5) = some y5) : zw (bd (ldS L xs (s + 1)) fun x14 => bd (s_L_on (some 0) x14 (some 277) h) fun q15 => bd (ldS L xs (s + 1)) fun x16 => bd (s_X10_on x16 q15.2) fun q17 => bd (s_X10_thrown q17.2) fun x18 => if x18 = q15.1 then if q15.1 = 0 then bd (ldL q17.2 277 0) fun x19 => if x19 = q17.1.toInt64 then j_L_law_1801_23 L xs s q17.2 else none else j_L_law_1801_23 L xs s q17.2 else none) (fun r => r.1 = .inl (s + 6) ∧ IV r.2) := by
  obtain ⟨k, h1, b, h2, hc, hm, t0, tv, iv⟩ := g_on x y1
  simp only [l1, bd_v, hc, hm]
  exact ag_tail (cv := Int32.toInt64) (j := fun h => j_L_law_1801_23 L xs s h) t0 tv iv rfl
theorem lw_27 (x : IVd D T h) (l1 : ldS L xs (s + 1) = some y1) (l2 : ldS L xs (s + 2) = some y2) (l3 : ldS L xs (s + 3) = some y3) (l4 : ldS L xs (s + 4) = some y4) (l5 : ldS L xs (s + 5) = some y5) : zw (bd (ldS L xs (s + 1)) fun x6 => bd (ldS L xs (s + 2)) fun x7 => bd (s_L_seen (some 0) x6 x7 (some 277) h) fun q8 => bd (ldS L xs (s + 1)) fun x9 => bd (ldS L xs (s + 2)) fun x10 => bd (s_X10_seen x9 x10 q8.2) fun q11 => bd (s_X10_thrown q11.2) fun x12 => if x12 = q8.1 then if q8.1 = 0 then bd (ldL q11.2 277 0) fun x13 => if x13 = q11.1.toInt64 then j_L_law_1869_23 L xs s q11.2 else none else j_L_law_1869_23 L xs s q11.2 else none) (fun r => r.1 = .inl (s + 6) ∧ IV r.2) := by
  obtain ⟨k, h1, b, h2, hc, hm, t0, tv, iv⟩ := g_seen x y1 y2
  simp only [l1, l2, bd_v, hc, hm]
  exact ag_tail (cv := Int32.toInt64) (j := fun h => j_L_law_1869_23 L xs s h) t0 tv iv rfl
theorem lw_28 (x : IVd D T h) (l1 : ldS L xs (s + 1) = some y1) (l2 : ldS L xs (s + 2) = some y2) (l3 : ldS L xs (s + 3) = some y3) (l4 : ldS L xs (s + 4) = some y4) (l5 : ldS L xs (s + 5) = some y5) : zw (bd (s_X9_image h) fun q4 => bd (s_X10_image q4.2) fun q5 => if q4.1 = q5.1 then j_L_law_1898_23 L xs s q5.2 else none) (fun r => r.1 = .inl (s + 6) ∧ IV r.2) := by
  obtain ⟨v, h1, h2, hc, hm, iv⟩ := g_image x
  simp only [bd_v, hc, hm]
  exact zw_t trivial (zw_some ⟨rfl, iv⟩)
theorem lw_29 (x : IVd D T h) (l1 : ldS L xs (s + 1) = some y1) (l2 : ldS L xs (s + 2) = some y2) (l3 : ldS L xs (s + 3) = some y3) (l4 : ldS L xs (s + 4) = some y4) (l5 : ldS L xs (s + 5) = some y5) : zw (bd (s_X9_restore h) fun q2 => bd (s_X10_restore q2.2) fun q3 => if q2.1 = q3.1 then j_L_law_1898_23 L xs s q3.2 else none) (fun r => r.1 = .inl (s + 6) ∧ IV r.2) := by
  obtain ⟨v, h1, h2, hc, hm, iv⟩ := g_restore x
  simp only [bd_v, hc, hm]
  exact zw_t trivial (zw_some ⟨rfl, iv⟩)
theorem lw_all (x : IVd D T h) (l0 : ldS L xs s = some x1) (l1 : ldS L xs (s + 1) = some y1) (l2 : ldS L xs (s + 2) = some y2) (l3 : ldS L xs (s + 3) = some y3) (l4 : ldS L xs (s + 4) = some y4) (l5 : ldS L xs (s + 5) = some y5) (hs : ¬ (Int32.ofNat L) - 6 < s) : zw (l_L_law_23 L xs s h) (fun r => r.1 = .inl (s + 6) ∧ IV r.2) := by
  unfold l_L_law_23
  refine zw_f hs (zw_bd1 l0 ?_)
  refine zw_ite (fun _ => lw_0 x l1 l2 l3 l4 l5) (fun _ => ?_)
  refine zw_ite (fun _ => lw_1 x l1 l2 l3 l4 l5) (fun _ => ?_)
  refine zw_ite (fun _ => lw_2 x l1 l2 l3 l4 l5) (fun _ => ?_)
  refine zw_ite (fun _ => lw_3 x l1 l2 l3 l4 l5) (fun _ => ?_)
  refine zw_ite (fun _ => lw_4 x l1 l2 l3 l4 l5) (fun _ => ?_)
  refine zw_ite (fun _ => lw_5 x l1 l2 l3 l4 l5) (fun _ => ?_)
  refine zw_ite (fun _ => lw_6 x l1 l2 l3 l4 l5) (fun _ => ?_)
  refine zw_ite (fun _ => lw_7 x l1 l2 l3 l4 l5) (fun _ => ?_)
  refine zw_ite (fun _ => lw_8 x l1 l2 l3 l4 l5) (fun _ => ?_)
  refine zw_ite (fun _ => lw_9 x l1 l2 l3 l4 l5) (fun _ => ?_)
  refine zw_ite (fun _ => lw_10 x l1 l2 l3 l4 l5) (fun _ => ?_)
  refine zw_ite (fun _ => lw_11 x l1 l2 l3 l4 l5) (fun _ => ?_)
  refine zw_ite (fun _ => lw_12 x l1 l2 l3 l4 l5) (fun _ => ?_)
  refine zw_ite (fun _ => lw_13 x l1 l2 l3 l4 l5) (fun _ => ?_)
  refine zw_ite (fun _ => lw_14 x l1 l2 l3 l4 l5) (fun _ => ?_)
  refine zw_ite (fun _ => lw_15 x l1 l2 l3 l4 l5) (fun _ => ?_)
  refine zw_ite (fun _ => lw_16 x l1 l2 l3 l4 l5) (fun _ => ?_)
  refine zw_ite (fun _ => lw_17 x l1 l2 l3 l4 l5) (fun _ => ?_)
  refine zw_ite (fun _ => lw_18 x l1 l2 l3 l4 l5) (fun _ => ?_)
  refine zw_ite (fun _ => lw_19 x l1 l2 l3 l4 l5) (fun _ => ?_)
  refine zw_ite (fun _ => lw_20 x l1 l2 l3 l4 l5) (fun _ => ?_)
  refine zw_ite (fun _ => lw_21 x l1 l2 l3 l4 l5) (fun _ => ?_)
  refine zw_ite (fun _ => lw_22 x l1 l2 l3 l4 l5) (fun _ => ?_)
  refine zw_ite (fun _ => lw_23 x l1 l2 l3 l4 l5) (fun _ => ?_)
  refine zw_ite (fun _ => lw_24 x l1 l2 l3 l4 l5) (fun _ => ?_)
  refine zw_ite (fun _ => lw_25 x l1 l2 l3 l4 l5) (fun _ => ?_)
  refine zw_ite (fun _ => lw_26 x l1 l2 l3 l4 l5) (fun _ => ?_)
  refine zw_ite (fun _ => lw_27 x l1 l2 l3 l4 l5) (fun _ => ?_)
  refine zw_ite (fun _ => lw_28 x l1 l2 l3 l4 l5) (fun _ => ?_)
  refine zw_ite (fun _ => lw_29 x l1 l2 l3 l4 l5) (fun _ => ?_)
  exact zw_some ⟨rfl, D, T, x⟩
end
theorem ldS_ok {L : Nat} {xs : Nat → Int32} (i : Nat) (hL : L ≤ 3072) (hi : i < L) : ldS L xs (zi i) = some (xs i) := by
  unfold ldS
  rw [if_neg, zi_natN i (by omega)]
  rintro (q | q)
  · rw [(show (0 : Int32) = zi 0 from (show (0 : Int32) = zi 0 from zi_lit 0)), zi_lt (by omega) (by omega) (by omega) (by omega)] at q
    exact absurd q (by omega)
  · rw [zi_natN i (by omega)] at q
    exact absurd q (by omega)
theorem law_some {L : Nat} {xs : Nat → Int32} {h : AH} (hL : L ≤ 3072) (iv : IV h) : ∃ hz, s_L_law L xs h = some hz := by
  have key : zw (lpH (l_L_law_23 L xs) FU 0 h) (fun _ => True) := by
    refine zw_lp (L / 6) (fun i s h => s = zi (6 * i : Nat) ∧ IV h) (by omega) ⟨rfl, iv⟩ ?_
    rintro i s h hi ⟨rfl, D, T, x⟩
    by_cases c : 6 * i + 6 ≤ L
    · have e : ∀ d : Nat, zi (6 * i : Nat) + zi d = zi ((6 * i + d : Nat) : Int) := fun d => by rw [zi_add]; rfl
      have q : ∀ d : Nat, d < 6 → ldS L xs (zi (6 * i : Nat) + zi d) = some (xs (6 * i + d)) := fun d hd => by rw [e]; exact ldS_ok (6 * i + d) hL (by omega)
      obtain ⟨r, hr, h1, h2⟩ := lw_all (L := L) (xs := xs) (s := zi (6 * i : Nat)) x (ldS_ok (6 * i) hL (by omega)) (by rw [(show (1 : Int32) = zi 1 from zi_lit 1)]; exact q 1 (by omega)) (by rw [(show (2 : Int32) = zi 2 from zi_lit 2)]; exact q 2 (by omega)) (by rw [(show (3 : Int32) = zi 3 from zi_lit 3)]; exact q 3 (by omega)) (by rw [(show (4 : Int32) = zi 4 from zi_lit 4)]; exact q 4 (by omega)) (by rw [(show (5 : Int32) = zi 5 from zi_lit 5)]; exact q 5 (by omega)) (by rw [(show (6 : Int32) = zi 6 from zi_lit 6), zi_ofNat, zi_sub, zi_lt (by omega) (by omega) (by omega) (by omega)]; omega)
      refine ⟨r, hr, Or.inl ⟨_, h1, by omega, ?_, h2⟩⟩
      rw [(show (6 : Int32) = zi 6 from zi_lit 6)]
      exact e 6
    · refine ⟨_, if_pos ?_, Or.inr ⟨(), rfl, trivial⟩⟩
      rw [(show (6 : Int32) = zi 6 from zi_lit 6), zi_ofNat, zi_sub, zi_lt (by omega) (by omega) (by omega) (by omega)]
      omega
  obtain ⟨r, hr, -⟩ := key
  refine ⟨r.2, ?_⟩
  unfold s_L_law
  rw [hr, bd_v]
