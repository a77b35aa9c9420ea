/-! 99p.first: the heap behind the constructors keeps the invariant -/
theorem s0_pk : ∀ k, k < 6 → ∀ t, t < 5 → gI hS0 (31 + 6 * (5 * k + t)) 0 = zi t ∧ gI hS0 (31 + 6 * (5 * k + t)) 1 = zi (cs t) := by decide +kernel
theorem s0_cb : ∀ i, i < 30 → gR hS0 29 i = some (31 + 6 * i) := by decide +kernel
theorem s0_ch : CHs HD0 15 hS0 := by
  unfold CHs
  decide +kernel
theorem s0_rh : RHs HD0 hS0 := by
  unfold RHs
  decide +kernel
theorem s0_p : (∀ t, t < 5 → gI hS0 22 t = zi (-1)) ∧ ∀ t, t < 5 → gI hS0 244 t = zi (-1) := by decide +kernel
theorem s0_t : gI hS0 2 1 = zi (0 : Nat) ∧ gI hS0 240 12 = zi (0 : Nat) ∧ gI hS0 0 10 = gI hS0 240 14 ∧ gI hS0 0 11 = gI hS0 246 0 ∧ gI hS0 0 12 = gI hS0 246 1 := by decide +kernel
theorem s0_f : gI hS0 215 4 = 0 ∧ gI hS0 240 45 = 0 ∧ gI hS0 215 5 = 0 ∧ gI hS0 240 48 = -1 ∧ gI hS0 220 0 = 0 ∧ gI hS0 240 53 = -1 ∧ gI hS0 224 0 = 0 ∧ gI hS0 240 58 = 0 ∧ gI hS0 228 0 = 0 ∧ gI hS0 240 59 = 0 := by decide +kernel
theorem s0_r : gR hS0 0 9 = some 232 ∧ gR hS0 13 1 = some 15 ∧ gR hS0 0 8 = some 15 := by decide +kernel
theorem s0_s : gI hS0 23 0 = zi (3 : Nat) ∧ gI hS0 23 1 = zi (cs 3) := by decide +kernel
theorem iv_first : IV hS0 := by
  obtain ⟨f1, f2, f3, f4, f5, f6, f7, f8, f9, f10⟩ := s0_f
  obtain ⟨t1, t2, t3, t4, t5⟩ := s0_t
  have no : ∀ {n : Nat} {P : Prop}, n < 0 → P := fun h => absurd h (Nat.not_lt_zero _)
  refine ⟨HD0, 15, HD0_wf, fun k hk => no hk, s0_r.1, ⟨⟨Or.inr (Or.inl rfl), by decide, ⟨s0_ch, fun _ _ h => no h, fun _ h => no h, fun _ _ h => no h, fun _ h => no h, fun _ h => no h, s0_p.1⟩, s0_cb, s0_r.2.1, s0_r.2.2, ?_⟩, fun _ _ h => no h, fun _ h => no h⟩, ⟨⟨s0_rh, fun _ _ h => no h, fun _ _ h => no h, fun _ _ h => no h, s0_p.2⟩, fun _ _ h => no h⟩, ⟨0, by decide, t1, t2, fun i h => no h⟩, ⟨t3, t4, t5⟩, Or.inl ⟨f1, f2⟩, Or.inl ⟨f3, f4⟩, Or.inl ⟨f5, f6⟩, fun _ h => no h, Or.inl ⟨f7, f8⟩, Or.inl ⟨f9, f10⟩⟩
  rintro t p (⟨rfl, rfl⟩ | ⟨k, hk, ht, rfl⟩)
  · exact s0_s
  · exact s0_pk k hk t ht
