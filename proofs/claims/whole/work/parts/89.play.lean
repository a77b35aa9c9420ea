/-! 89.play: an evening of a run, side by side -/
theorem dOff_in {D : HD} {k i u j : Nat} (hi : i < (D.Q k 0).toNat) (hj : j < (D.Q u 0).toNat) (h : dOff D k + i = dOff D u + j) : k = u ∧ i = j := by
  rcases Nat.lt_trichotomy k u with c | c | c
  · have m := dOff_mono D (i := k + 1) (k := u) c
    rw [dOff_s] at m
    omega
  · subst c
    exact ⟨rfl, by omega⟩
  · have m := dOff_mono D (i := u + 1) (k := k) c
    rw [dOff_s] at m
    omega
theorem dOff_360 {D : HD} (hD : WFD D) (h6 : W60 D) {k i : Nat} (hk : k < D.K) (hi : i < (D.Q k 0).toNat) : dOff D k + i < 360 := by
  have hK := hD.K6
  have := dOff_le h6 (k + 1) (by omega)
  rw [dOff_s] at this
  omega
/-- k of who has had d -/
def dK (D : HD) (k : Nat) (d : Nat) : Int := if dB D k = 2 then D.ten - d else 0
/-- the people: k and n of each, n at most lim -/
def PX (D : HD) (lim : Nat → Nat) (hc hr : AH) : Prop := ∀ k i, k < D.K → i < (D.Q k 0).toNat → ∃ d : Nat, d ≤ lim (dOff D k + i) ∧ (dB D k = 2 → (d : Int) ≤ D.ten) ∧ gI hc 225 (dOff D k + i) = zi d ∧ gI hr 272 (dOff D k + i) = zi d ∧ gI hr 271 (dOff D k + i) = zi (dK D k d)
/-- what a run changes of an evening: the class; the reference -/
def pC (a j : Nat) : Prop := (a = 224 ∧ j = 2) ∨ a = 225
def pR (e k : Nat) (a j : Nat) : Prop := (a = 269 ∧ j = 1) ∨ a = 271 ∨ a = 272 ∨ (a = 275 ∧ (j = 10 * e ∨ j = 10 * e + 2 ∨ j = 10 * e + 4 + k))
/-- behind i of the kind k, c of whom came -/
def IX (D : HD) (e k : Nat) (S0 z0 : Int) (i c : Nat) (hc hr : AH) : Prop := gI hc 224 2 = gI hr 269 1 ∧ PX D (fun p => if p < dOff D k + i then e + 1 else e) hc hr ∧ c ≤ i ∧ gI hr 275 (10 * e) = zi (S0 + c) ∧ gI hr 275 (10 * e + 2) = zi ((z0 + if dB D k = 0 then (c : Int) else 0) * D.E e 1) ∧ gI hr 275 (10 * e + 4 + k) = zi c
section
variable {D : HD} {T : Nat} {hc hr : AH}
theorem r_goes {hD : WFD D} {k e d : Nat} (rp : RPlan D k (dB D k) 2 hr) (he : e < D.N) (hd : d ≤ e) (ht : dB D k = 2 → (d : Int) ≤ D.ten) {α : Type} {F : Int32 → Option α} {p : Nat} (hp : p < 360) (h272 : gI hr 272 p = zi d) (h271 : gI hr 271 p = zi (dK D k d)) : (bd (ldI hr 271 (zi p)) fun x11 => bd (ldI hr 272 (zi p)) fun x12 => bd (s_X10_at (zi e) x11 x12 hr) fun x13 => bd (ldZ hr 252 x13) F) = F (zi (if dgo D (rSet D) k (dB D k) e d = true then 1 else 0)) := by
  have hN := hD.N16
  have btn := hD.tb
  obtain ⟨c, c1, c2, c3⟩ : ∃ c : Nat, dK D k d = c ∧ c < 13 ∧ dgo D (rSet D) k (dB D k) e d = pGo D (rSet D) k (dB D k) 2 (D.N - 1 - e) c d := by
    unfold dK dgo
    by_cases q : dB D k = 2
    · have := ht q
      rw [if_pos q, if_pos q]
      have e0 : c0 D (dB D k) = D.ten.toNat := by unfold c0; rw [if_pos q]
      rw [e0, if_pos (by omega)]
      exact ⟨D.ten.toNat - d, by omega, by omega, rfl⟩
    · rw [if_neg q, if_neg q]
      exact ⟨0, rfl, by decide, rfl⟩
  rw [ldI_ok p (n := 360) rfl rfl hp, bd_v, ldI_ok p (n := 360) rfl rfl hp, bd_v, h271, h272, c1, c3]
  unfold s_X10_at
  rw [bd_v, ldZ_ok (429 * e + 33 * c + d) (n := 7293) rfl (by first | (simp only [zi_lit, zi_neg, zi_add, zi_sub, zi_mul, zl_lit, zl_neg, zl_add, zl_sub, zl_mul, zl_i]; exact congrArg zi (by omega)) | (simp only [zi_lit, zi_neg, zi_add, zi_sub, zi_mul, zl_lit, zl_neg, zl_add, zl_sub, zl_mul, zl_i]; done) | exact congrArg zi (by omega)) (by omega), bd_v, rp.2 e c d he c2 (by omega)]
theorem PX.step {k i u : Nat} {lim lim' : Nat → Nat} {gc gr : AH} (p : PX D lim hc hr) (hk : k < D.K) (hi : i < (D.Q k 0).toNat) (fc : ∀ q, q ≠ dOff D k + i → gI gc 225 q = gI hc 225 q) (fr : ∀ q, q ≠ dOff D k + i → gI gr 272 q = gI hr 272 q ∧ gI gr 271 q = gI hr 271 q) (hl : ∀ q, q ≠ dOff D k + i → lim q ≤ lim' q) (hu : u ≤ lim' (dOff D k + i)) (ht : dB D k = 2 → (u : Int) ≤ D.ten) (h1 : gI gc 225 (dOff D k + i) = zi u) (h2 : gI gr 272 (dOff D k + i) = zi u) (h3 : gI gr 271 (dOff D k + i) = zi (dK D k u)) : PX D lim' gc gr := by
  intro k2 i2 hk2 hi2
  by_cases q : dOff D k2 + i2 = dOff D k + i
  · obtain ⟨rfl, rfl⟩ := dOff_in hi2 hi q
    exact ⟨u, hu, ht, h1, h2, h3⟩
  · obtain ⟨d2, e1, e2, e3, e4, e5⟩ := p k2 i2 hk2 hi2
    have := hl _ q
    exact ⟨d2, by omega, e2, (fc _ q).trans e3, (fr _ q).1.trans e4, (fr _ q).2.trans e5⟩
theorem x_person {S0 z0 : Int} {e k i c : Nat} {p2 : Int32} {wet : Bool} (hD : WFD D) (h6 : W60 D) (x : YC D T hc) (y : YR D hr) (rp : RPlan D k (dB D k) 2 hr) (hk : k < D.K) (he : e < D.N) (hi : i < (D.Q k 0).toNat) (ix : IX D e k S0 z0 i c hc hr) : z2 (l_X4_play_78 224 T (zi e) (b1 wet) (zi k) (some (31 + 6 * (5 * k + dB D k))) (zi (D.Q k 0)) (zi ((dOff D k + i : Nat) : Int), zi (c : Int), zi (i : Int)) hc) (l_X10_oneEvening_125 (zi e) p2 (zi k) (zi (dB D k)) (zi (dMay D k wet)) (zi ((dOff D k + i : Nat) : Int), zi (i : Int)) hr) (fun a b => ∃ v : Nat, a.1 = .inl (zi ((dOff D k + (i + 1) : Nat) : Int), zi (v : Int), zi ((i + 1 : Nat) : Int)) ∧ b.1 = .inl (zi ((dOff D k + (i + 1) : Nat) : Int), zi ((i + 1 : Nat) : Int)) ∧ IX D e k S0 z0 (i + 1) v a.2 b.2 ∧ Fr pC hc a.2 ∧ Fr (pR e k) hr b.2) := by
  have hK := hD.K6
  have hN := hD.N16
  have bq := (hD.q k hk).1
  have hb := dB_lt D k
  have hp := dOff_360 hD h6 hk hi
  have mb := dMay_b hD hk wet
  have d1 := dw_b (gI hr 269 1)
  obtain ⟨i1, i2, i3, i4, i5, i6⟩ := ix
  obtain ⟨d, p1, p2', p3, p4, p5⟩ := i2 k i hk hi
  have p1' : d ≤ e := by
    have : d ≤ if dOff D k + i < dOff D k + i then e + 1 else e := p1
    rw [if_neg (by omega)] at this
    exact this
  have eP : zi ((dOff D k + i : Nat) : Int) + 1 = zi ((dOff D k + (i + 1) : Nat) : Int) := (by first | (simp only [zi_lit, zi_neg, zi_add, zi_sub, zi_mul, zl_lit, zl_neg, zl_add, zl_sub, zl_mul, zl_i]; exact congrArg zi (by omega)) | (simp only [zi_lit, zi_neg, zi_add, zi_sub, zi_mul, zl_lit, zl_neg, zl_add, zl_sub, zl_mul, zl_i]; done) | exact congrArg zi (by omega))
  have eI : zi (i : Int) + 1 = zi ((i + 1 : Nat) : Int) := (by first | (simp only [zi_lit, zi_neg, zi_add, zi_sub, zi_mul, zl_lit, zl_neg, zl_add, zl_sub, zl_mul, zl_i]; exact congrArg zi (by omega)) | (simp only [zi_lit, zi_neg, zi_add, zi_sub, zi_mul, zl_lit, zl_neg, zl_add, zl_sub, zl_mul, zl_i]; done) | exact congrArg zi (by omega))
  have eC : zi (c : Int) + 1 = zi ((c + 1 : Nat) : Int) := (by first | (simp only [zi_lit, zi_neg, zi_add, zi_sub, zi_mul, zl_lit, zl_neg, zl_add, zl_sub, zl_mul, zl_i]; exact congrArg zi (by omega)) | (simp only [zi_lit, zi_neg, zi_add, zi_sub, zi_mul, zl_lit, zl_neg, zl_add, zl_sub, zl_mul, zl_i]; done) | exact congrArg zi (by omega))
  have lim : ∀ q, q ≠ dOff D k + i → (if q < dOff D k + i then e + 1 else e) ≤ (if q < dOff D k + (i + 1) then e + 1 else e) := by
    intro q hq
    by_cases z : q < dOff D k + i
    · rw [if_pos z, if_pos (by omega)]; omega
    · rw [if_neg z, if_neg (by omega)]; omega
  have limu : ∀ q, (if q < dOff D k + i then e + 1 else e) ≤ (if q < dOff D k + (i + 1) then e + 1 else e) := by
    intro q
    by_cases z : q < dOff D k + i
    · rw [if_pos z, if_pos (by omega)]; omega
    · rw [if_neg z]; split <;> omega
  -- who doesn't come
  have no : ∀ gc gr : AH, Fr (fun a j => a = 224 ∧ j = 2) hc gc → Fr (fun a j => a = 269 ∧ j = 1) hr gr → gI gc 224 2 = gI gr 269 1 → ∃ v : Nat, (Sum.inl (zi ((dOff D k + (i + 1) : Nat) : Int), zi (c : Int), zi ((i + 1 : Nat) : Int)) : (Int32 × Int32 × Int32) ⊕ (Int32 × Int32)) = .inl (zi ((dOff D k + (i + 1) : Nat) : Int), zi (v : Int), zi ((i + 1 : Nat) : Int)) ∧ (Sum.inl (zi ((dOff D k + (i + 1) : Nat) : Int), zi ((i + 1 : Nat) : Int)) : (Int32 × Int32) ⊕ Int32) = .inl (zi ((dOff D k + (i + 1) : Nat) : Int), zi ((i + 1 : Nat) : Int)) ∧ IX D e k S0 z0 (i + 1) v gc gr ∧ Fr pC hc gc ∧ Fr (pR e k) hr gr := by
    intro gc gr fc fr hs
    refine ⟨c, rfl, rfl, ⟨hs, ?_, by omega, (fr.i (by omega)).trans i4, (fr.i (by omega)).trans i5, (fr.i (by omega)).trans i6⟩, fc.mono (by unfold pC; omega), fr.mono (by unfold pR; omega)⟩
    intro k2 j2 hk2 hj2
    obtain ⟨d2, w1, w2, w3, w4, w5⟩ := i2 k2 j2 hk2 hj2
    exact ⟨d2, Nat.le_trans w1 (limu _), w2, (fc.i (by omega)).trans w3, (fr.i (by omega)).trans w4, (fr.i (by omega)).trans w5⟩
  -- who comes
  have yes : ∀ gc gr : AH, Fr (fun a j => a = 224 ∧ j = 2) hc gc → Fr (fun a j => a = 269 ∧ j = 1) hr gr → gI gc 224 2 = gI gr 269 1 → ∀ go : Bool, (go = true → dgo D (rSet D) k (dB D k) e d = true) → (go = false → dB D k ≠ 2) → z2 (bd (s_X9_at (some (224 + 1)) (zi ((dOff D k + i : Nat) : Int)) gc) fun x9 => bd (s_X9_put (some (224 + 1)) (zi ((dOff D k + i : Nat) : Int)) (x9 + 1) gc) fun q10 => j_X4_play_142_78 224 T (zi e) (b1 wet) (zi ((dOff D k + i : Nat) : Int)) (zi k) (some (31 + 6 * (5 * k + dB D k))) (zi (D.Q k 0)) (zi (c : Int) + 1) (zi (i : Int)) q10.2) (j_X10_oneEvening_225_125 (zi e) p2 (zi ((dOff D k + i : Nat) : Int)) (zi k) (zi (dB D k)) (zi (dMay D k wet)) (zi (i : Int)) 1 (b1 go) gr) (fun a b => ∃ v : Nat, a.1 = .inl (zi ((dOff D k + (i + 1) : Nat) : Int), zi (v : Int), zi ((i + 1 : Nat) : Int)) ∧ b.1 = .inl (zi ((dOff D k + (i + 1) : Nat) : Int), zi ((i + 1 : Nat) : Int)) ∧ IX D e k S0 z0 (i + 1) v a.2 b.2 ∧ Fr pC hc a.2 ∧ Fr (pR e k) hr b.2) := by
    intro gc gr fc fr hs go hgo hng
    have y' := y.fr fr (fun a j => by unfold YRa; omega)
    have be := (hD.e e he).2.1
    -- the class
    refine z2_l (at_ok (dOff D k + i) (n := 360) (by decide +kernel) rfl hp) (z2_l (put_ok (dOff D k + i) (n := 360) (by decide +kernel) rfl hp) ?_)
    unfold j_X4_play_142_78
    rw [show gI gc (224 + 1) (dOff D k + i) = zi d from (fc.i (by omega)).trans p3, eP, eI, eC, show zi (d : Int) + 1 = zi ((d + 1 : Nat) : Int) from (by first | (simp only [zi_lit, zi_neg, zi_add, zi_sub, zi_mul, zl_lit, zl_neg, zl_add, zl_sub, zl_mul, zl_i]; exact congrArg zi (by omega)) | (simp only [zi_lit, zi_neg, zi_add, zi_sub, zi_mul, zl_lit, zl_neg, zl_add, zl_sub, zl_mul, zl_i]; done) | exact congrArg zi (by omega))]
    -- the reference
    unfold j_X10_oneEvening_225_125
    refine z2_rf one_ne ?_
    refine z2_r (ldI_ok (dOff D k + i) (n := 360) rfl rfl hp) ?_
    rw [fr.i (by omega), p4, show zi (d : Int) + 1 = zi ((d + 1 : Nat) : Int) from (by first | (simp only [zi_lit, zi_neg, zi_add, zi_sub, zi_mul, zl_lit, zl_neg, zl_add, zl_sub, zl_mul, zl_i]; exact congrArg zi (by omega)) | (simp only [zi_lit, zi_neg, zi_add, zi_sub, zi_mul, zl_lit, zl_neg, zl_add, zl_sub, zl_mul, zl_i]; done) | exact congrArg zi (by omega))]
    refine z2_r (stI_ok (dOff D k + i) (n := 360) rfl rfl hp) ?_
    refine z2_r (ldI_ok (dOff D k + i) (n := 360) rfl rfl hp) ?_
    rw [show gI (sI gr 272 (dOff D k + i) (zi ((d + 1 : Nat) : Int))) 271 (dOff D k + i) = zi (dK D k d) by rw [gI_sI, if_neg (by omega), fr.i (by omega)]; exact p5]
    have fr2 : Fr (pR e k) hr (sI gr 272 (dOff D k + i) (zi ((d + 1 : Nat) : Int))) := (fr.mono (by unfold pR; omega) : Fr (pR e k) hr gr).sI (by unfold pR; omega)
    have r72 : gI (sI gr 272 (dOff D k + i) (zi ((d + 1 : Nat) : Int))) 272 (dOff D k + i) = zi ((d + 1 : Nat) : Int) := by rw [gI_sI, if_pos ⟨rfl, rfl⟩]
    have o72 : ∀ q, q ≠ dOff D k + i → gI (sI gr 272 (dOff D k + i) (zi ((d + 1 : Nat) : Int))) 272 q = gI hr 272 q ∧ gI (sI gr 272 (dOff D k + i) (zi ((d + 1 : Nat) : Int))) 271 q = gI hr 271 q := fun q hq => by
      rw [gI_sI, if_neg (fun z => hq z.2), gI_sI, if_neg (by omega), fr.i (by omega), fr.i (by omega)]
      exact ⟨rfl, rfl⟩
    have s75 : ∀ j, gI (sI gr 272 (dOff D k + i) (zi ((d + 1 : Nat) : Int))) 275 j = gI hr 275 j := fun j => by rw [gI_sI, if_neg (by omega), fr.i (by omega)]
    have s69 : gI (sI gr 272 (dOff D k + i) (zi ((d + 1 : Nat) : Int))) 269 1 = gI gr 269 1 := by rw [gI_sI, if_neg (by omega)]
    have y2 := y.fr fr2 (fun a j => by unfold YRa pR; omega)
    generalize sI gr 272 (dOff D k + i) (zi ((d + 1 : Nat) : Int)) = G at fr2 r72 o72 s75 s69 y2 ⊢
    have rest : ∀ w : Int32, zi (dK D k d) - w = zi (dK D k (d + 1)) → (dB D k = 2 → ((d + 1 : Nat) : Int) ≤ D.ten) → z2 (some ((Sum.inl (zi ((dOff D k + (i + 1) : Nat) : Int), zi ((c + 1 : Nat) : Int), zi ((i + 1 : Nat) : Int)) : (Int32 × Int32 × Int32) ⊕ (Int32 × Int32)), sI gc (224 + 1) (dOff D k + i) (zi ((d + 1 : Nat) : Int)))) (j_X10_oneEvening_263_125 (zi e) p2 (zi ((dOff D k + i : Nat) : Int)) (zi k) (zi (dB D k)) (zi (dMay D k wet)) (zi (i : Int)) w (zi (dK D k d)) (zi ((dOff D k + i : Nat) : Int)) G) (fun a b => ∃ v : Nat, a.1 = .inl (zi ((dOff D k + (i + 1) : Nat) : Int), zi (v : Int), zi ((i + 1 : Nat) : Int)) ∧ b.1 = .inl (zi ((dOff D k + (i + 1) : Nat) : Int), zi ((i + 1 : Nat) : Int)) ∧ IX D e k S0 z0 (i + 1) v a.2 b.2 ∧ Fr pC hc a.2 ∧ Fr (pR e k) hr b.2) := by
      intro w hw htn
      unfold j_X10_oneEvening_263_125
      rw [hw]
      refine z2_r (stI_ok (dOff D k + i) (n := 360) rfl rfl hp) ?_
      have e10 : (10 : Int32) * zi e = zi ((10 * e : Nat) : Int) := (by first | (simp only [zi_lit, zi_neg, zi_add, zi_sub, zi_mul, zl_lit, zl_neg, zl_add, zl_sub, zl_mul, zl_i]; exact congrArg zi (by omega)) | (simp only [zi_lit, zi_neg, zi_add, zi_sub, zi_mul, zl_lit, zl_neg, zl_add, zl_sub, zl_mul, zl_i]; done) | exact congrArg zi (by omega))
      have e12 : (10 : Int32) * zi e + 2 = zi ((10 * e + 2 : Nat) : Int) := (by first | (simp only [zi_lit, zi_neg, zi_add, zi_sub, zi_mul, zl_lit, zl_neg, zl_add, zl_sub, zl_mul, zl_i]; exact congrArg zi (by omega)) | (simp only [zi_lit, zi_neg, zi_add, zi_sub, zi_mul, zl_lit, zl_neg, zl_add, zl_sub, zl_mul, zl_i]; done) | exact congrArg zi (by omega))
      have e14 : (10 : Int32) * zi e + 4 + zi k = zi ((10 * e + 4 + k : Nat) : Int) := (by first | (simp only [zi_lit, zi_neg, zi_add, zi_sub, zi_mul, zl_lit, zl_neg, zl_add, zl_sub, zl_mul, zl_i]; exact congrArg zi (by omega)) | (simp only [zi_lit, zi_neg, zi_add, zi_sub, zi_mul, zl_lit, zl_neg, zl_add, zl_sub, zl_mul, zl_i]; done) | exact congrArg zi (by omega))
      rw [e12, e10]
      refine z2_r (ldI_ok (10 * e) (n := 160) rfl rfl (by omega)) ?_
      rw [show gI (sI G 271 (dOff D k + i) (zi (dK D k (d + 1)))) 275 (10 * e) = zi (S0 + c) by rw [gI_sI, if_neg (by omega), s75]; exact i4, show zi (S0 + c) + 1 = zi (S0 + (c + 1 : Nat)) from (by first | (simp only [zi_lit, zi_neg, zi_add, zi_sub, zi_mul, zl_lit, zl_neg, zl_add, zl_sub, zl_mul, zl_i]; exact congrArg zi (by omega)) | (simp only [zi_lit, zi_neg, zi_add, zi_sub, zi_mul, zl_lit, zl_neg, zl_add, zl_sub, zl_mul, zl_i]; done) | exact congrArg zi (by omega))]
      refine z2_r (stI_ok (10 * e) (n := 160) rfl rfl (by omega)) ?_
      refine z2_r (ldI_ok (10 * e + 2) (n := 160) rfl rfl (by omega)) ?_
      rw [show gI (sI (sI G 271 (dOff D k + i) (zi (dK D k (d + 1)))) 275 (10 * e) (zi (S0 + (c + 1 : Nat)))) 275 (10 * e + 2) = zi ((z0 + if dB D k = 0 then (c : Int) else 0) * D.E e 1) by rw [gI_sI, if_neg (by omega), gI_sI, if_neg (by omega), s75]; exact i5]
      have fr3 : Fr (pR e k) hr (sI (sI G 271 (dOff D k + i) (zi (dK D k (d + 1)))) 275 (10 * e) (zi (S0 + (c + 1 : Nat)))) := (fr2.sI (by unfold pR; omega)).sI (by unfold pR; omega)
      have y3 := y.fr fr3 (fun a j => by unfold YRa pR; omega)
      have v1 : gI (sI (sI G 271 (dOff D k + i) (zi (dK D k (d + 1)))) 275 (10 * e) (zi (S0 + (c + 1 : Nat)))) 275 (10 * e) = zi (S0 + (c + 1 : Nat)) := by rw [gI_sI, if_pos ⟨rfl, rfl⟩]
      have v2 : gI (sI (sI G 271 (dOff D k + i) (zi (dK D k (d + 1)))) 275 (10 * e) (zi (S0 + (c + 1 : Nat)))) 275 (10 * e + 4 + k) = zi c := by rw [gI_sI, if_neg (by omega), gI_sI, if_neg (by omega), s75]; exact i6
      have v3 : gI (sI (sI G 271 (dOff D k + i) (zi (dK D k (d + 1)))) 275 (10 * e) (zi (S0 + (c + 1 : Nat)))) 271 (dOff D k + i) = zi (dK D k (d + 1)) := by rw [gI_sI, if_neg (by omega), gI_sI, if_pos ⟨rfl, rfl⟩]
      have v4 : gI (sI (sI G 271 (dOff D k + i) (zi (dK D k (d + 1)))) 275 (10 * e) (zi (S0 + (c + 1 : Nat)))) 272 (dOff D k + i) = zi ((d + 1 : Nat) : Int) := by rw [gI_sI, if_neg (by omega), gI_sI, if_neg (by omega)]; exact r72
      have v5 : ∀ q, q ≠ dOff D k + i → gI (sI (sI G 271 (dOff D k + i) (zi (dK D k (d + 1)))) 275 (10 * e) (zi (S0 + (c + 1 : Nat)))) 272 q = gI hr 272 q ∧ gI (sI (sI G 271 (dOff D k + i) (zi (dK D k (d + 1)))) 275 (10 * e) (zi (S0 + (c + 1 : Nat)))) 271 q = gI hr 271 q := fun q hq => by
        rw [gI_sI, if_neg (by omega), gI_sI, if_neg (by omega), gI_sI, if_neg (by omega), gI_sI, if_neg (fun z => hq z.2)]
        exact o72 q hq
      have v6 : gI (sI (sI G 271 (dOff D k + i) (zi (dK D k (d + 1)))) 275 (10 * e) (zi (S0 + (c + 1 : Nat)))) 269 1 = gI gr 269 1 := by rw [gI_sI, if_neg (by omega), gI_sI, if_neg (by omega)]; exact s69
      generalize sI (sI G 271 (dOff D k + i) (zi (dK D k (d + 1)))) 275 (10 * e) (zi (S0 + (c + 1 : Nat))) = H at fr3 y3 v1 v2 v3 v4 v5 v6 ⊢
      have last : ∀ v : Int, (z0 + if dB D k = 0 then (c : Int) else 0) * D.E e 1 + v = (z0 + if dB D k = 0 then ((c + 1 : Nat) : Int) else 0) * D.E e 1 → z2 (some ((Sum.inl (zi ((dOff D k + (i + 1) : Nat) : Int), zi ((c + 1 : Nat) : Int), zi ((i + 1 : Nat) : Int)) : (Int32 × Int32 × Int32) ⊕ (Int32 × Int32)), sI gc (224 + 1) (dOff D k + i) (zi ((d + 1 : Nat) : Int)))) (j_X10_oneEvening_309_125 (zi e) p2 (zi ((dOff D k + i : Nat) : Int)) (zi k) (zi (dB D k)) (zi (dMay D k wet)) (zi (i : Int)) (zi v) (zi ((z0 + if dB D k = 0 then (c : Int) else 0) * D.E e 1)) (zi ((10 * e + 2 : Nat) : Int)) H) (fun a b => ∃ v : Nat, a.1 = .inl (zi ((dOff D k + (i + 1) : Nat) : Int), zi (v : Int), zi ((i + 1 : Nat) : Int)) ∧ b.1 = .inl (zi ((dOff D k + (i + 1) : Nat) : Int), zi ((i + 1 : Nat) : Int)) ∧ IX D e k S0 z0 (i + 1) v a.2 b.2 ∧ Fr pC hc a.2 ∧ Fr (pR e k) hr b.2) := by
        intro v hv
        unfold j_X10_oneEvening_309_125
        rw [zi_add, hv, e14]
        refine z2_r (stI_ok (10 * e + 2) (n := 160) rfl rfl (by omega)) ?_
        refine z2_r (ldI_ok (10 * e + 4 + k) (n := 160) rfl rfl (by omega)) ?_
        have w1 : ∀ z : Int32, gI (sI H 275 (10 * e + 2) z) 275 (10 * e + 4 + k) = zi c := fun z => by rw [gI_sI, if_neg (by omega)]; exact v2
        rw [w1, eC]
        refine z2_r (stI_ok (10 * e + 4 + k) (n := 160) rfl rfl (by omega)) ?_
        unfold j_X10_oneEvening_329_125
        rw [eP, eI]
        refine z2_some ⟨c + 1, rfl, rfl, ⟨?_, ?_, by omega, ?_, ?_, ?_⟩, (fc.mono (by unfold pC; omega) : Fr pC hc gc).sI (by unfold pC; omega), (fr3.sI (by unfold pR; omega)).sI (by unfold pR; omega)⟩
        · show gI (sI gc (224 + 1) _ _) 224 2 = gI (sI (sI H 275 _ _) 275 _ _) 269 1
          rw [gI_sI, if_neg (by omega), gI_sI, if_neg (by omega), gI_sI, if_neg (by omega), v6]
          exact hs
        · refine PX.step i2 hk hi (u := d + 1) (fun q hq => ?_) (fun q hq => ?_) lim (by show d + 1 ≤ if dOff D k + i < dOff D k + (i + 1) then e + 1 else e; rw [if_pos (by omega)]; omega) htn ?_ ?_ ?_
          · show gI (sI gc (224 + 1) _ _) 225 q = _
            rw [gI_sI, if_neg (fun z => hq z.2), fc.i (by omega)]
          · show gI (sI (sI H 275 _ _) 275 _ _) 272 q = _ ∧ gI (sI (sI H 275 _ _) 275 _ _) 271 q = _
            rw [gI_sI, if_neg (by omega), gI_sI, if_neg (by omega), gI_sI, if_neg (by omega), gI_sI, if_neg (by omega)]
            exact v5 q hq
          · show gI (sI gc (224 + 1) _ _) 225 _ = _
            rw [gI_sI, if_pos ⟨rfl, rfl⟩]
          · show gI (sI (sI H 275 _ _) 275 _ _) 272 _ = _
            rw [gI_sI, if_neg (by omega), gI_sI, if_neg (by omega)]
            exact v4
          · show gI (sI (sI H 275 _ _) 275 _ _) 271 _ = _
            rw [gI_sI, if_neg (by omega), gI_sI, if_neg (by omega)]
            exact v3
        · show gI (sI (sI H 275 _ _) 275 _ _) 275 (10 * e) = _
          rw [gI_sI, if_neg (by omega), gI_sI, if_neg (by omega)]
          exact v1
        · show gI (sI (sI H 275 _ _) 275 _ _) 275 (10 * e + 2) = _
          rw [gI_sI, if_neg (by omega), gI_sI, if_pos ⟨rfl, rfl⟩]
        · show gI (sI (sI H 275 _ _) 275 _ _) 275 (10 * e + 4 + k) = _
          rw [gI_sI, if_pos ⟨rfl, rfl⟩]
      by_cases q0 : dB D k = 0
      · refine z2_rt (by rw [q0]; rfl) ?_
        refine z2_r (r_E hD y3.1 e 1 (by first | (simp only [zi_lit, zi_neg, zi_add, zi_sub, zi_mul, zl_lit, zl_neg, zl_add, zl_sub, zl_mul, zl_i]; exact congrArg zi (by omega)) | (simp only [zi_lit, zi_neg, zi_add, zi_sub, zi_mul, zl_lit, zl_neg, zl_add, zl_sub, zl_mul, zl_i]; done) | exact congrArg zi (by omega)) he (by decide)) ?_
        refine last (D.E e 1) ?_
        rw [if_pos q0, if_pos q0, show z0 + ((c + 1 : Nat) : Int) = z0 + c + 1 by omega, Int.add_mul (z0 + c) 1, Int.one_mul]
      · refine z2_rf (zi_nk ((show (0 : Int32) = zi 0 from zi_lit 0)) (by omega) (by omega) (by omega)) ?_
        have l0 := last 0 (by rw [if_neg q0, if_neg q0, Int.add_zero])
        exact l0
    have le12 : dB D k = 2 → go = true → ((d + 1 : Nat) : Int) ≤ D.ten := by
      intro q hg
      have g := hgo hg
      have btn := hD.tb
      have := p2' q
      rcases Nat.lt_or_ge d D.ten.toNat with z | z
      · omega
      · exfalso
        have ed : d = D.ten.toNat := by omega
        unfold dgo at g
        have e0 : c0 D (dB D k) = D.ten.toNat := by unfold c0; rw [if_pos q]
        rw [if_pos q, e0, if_pos (by omega), pGo_t] at g
        have g1 := g.1
        unfold dM at g1
        rw [if_pos q, decide_eq_true_iff] at g1
        omega
    cases go
    · refine z2_rt rfl ?_
      unfold j_X10_oneEvening_262_125
      have n2 := hng rfl
      refine rest 0 ?_ (fun z => absurd z n2)
      unfold dK
      rw [if_neg n2, if_neg n2]
      rfl
    · refine z2_rf (show ¬ b1 true = 0 by decide) ?_
      by_cases q : dB D k = 2
      · refine z2_rt (by rw [q]; rfl) ?_
        refine rest 1 ?_ (fun _ => le12 q rfl)
        unfold dK
        rw [if_pos q, if_pos q]
        exact (by first | (simp only [zi_lit, zi_neg, zi_add, zi_sub, zi_mul, zl_lit, zl_neg, zl_add, zl_sub, zl_mul, zl_i]; exact congrArg zi (by omega)) | (simp only [zi_lit, zi_neg, zi_add, zi_sub, zi_mul, zl_lit, zl_neg, zl_add, zl_sub, zl_mul, zl_i]; done) | exact congrArg zi (by omega))
      · refine z2_rf (zi_nk ((show (2 : Int32) = zi 2 from zi_lit 2)) (by omega) (by omega) (by omega)) ?_
        unfold j_X10_oneEvening_262_125
        refine rest 0 ?_ (fun z => absurd z q)
        unfold dK
        rw [if_neg q, if_neg q]
        rfl
  -- the draws
  unfold l_X4_play_78 l_X10_oneEvening_125
  dsimp only
  refine z2_lf (by rw [zi_le (by omega) (by omega) (by omega) (by omega)]; omega) ?_
  refine z2_r (r_of hD y.1 (w := 0) rfl ((show (0 : Int32) = zi 0 from zi_lit 0)) hk (by decide)) ?_
  refine z2_rf (by rw [zi_le (by omega) (by omega) (by omega) (by omega)]; omega) ?_
  refine z2_l (c_canCome hD x hk wet) (z2_r r_draw ?_)
  have fc1 : Fr (fun a j => a = 224 ∧ j = 2) hc (sI hc 224 2 (dwN (gI hc 224 2))) := (Fr.refl _ hc).sI ⟨rfl, rfl⟩
  have fr1 : Fr (fun a j => a = 269 ∧ j = 1) hr (sI hr 269 1 (dwN (gI hr 269 1))) := (Fr.refl _ hr).sI ⟨rfl, rfl⟩
  have sc1 : gI (sI hc 224 2 (dwN (gI hc 224 2))) 224 2 = dwN (gI hr 269 1) := by rw [gI_sI, if_pos ⟨rfl, rfl⟩, i1]
  have sr1 : gI (sI hr 269 1 (dwN (gI hr 269 1))) 269 1 = dwN (gI hr 269 1) := by rw [gI_sI, if_pos ⟨rfl, rfl⟩]
  have x1 := x.fr hD fc1 (fun a j => by unfold YCa; omega)
  have y1 := y.fr fr1 (fun a j => by unfold YRa; omega)
  have rp1 := rp.fr fr1 (by intro j; omega) (by intro j; omega)
  rw [i1]
  rw [i1] at fc1 sc1 x1
  generalize sI hc 224 2 (dwN (gI hr 269 1)) = gc at fc1 sc1 x1 ⊢
  generalize sI hr 269 1 (dwN (gI hr 269 1)) = gr at fr1 sr1 y1 rp1 ⊢
  have look : ∀ (k0 : Int32) (F : Int32 → Option (((Int32 × Int32) ⊕ Int32) × AH)), (bd (ldI gr 271 (zi ((dOff D k + i : Nat) : Int))) fun x11 => bd (ldI gr 272 (zi ((dOff D k + i : Nat) : Int))) fun x12 => bd (s_X10_at (zi e) x11 x12 gr) fun x13 => bd (ldZ gr 252 x13) F) = F (zi (if dgo D (rSet D) k (dB D k) e d = true then 1 else 0)) := fun k0 F => r_goes (hD := hD) rp1 he p1' p2' hp ((fr1.i (by omega)).trans p4) ((fr1.i (by omega)).trans p5)
  dsimp only
  generalize dwV (gI hr 269 1) = V1 at d1 ⊢
  by_cases q1 : dMay D k wet ≤ V1
  · rw [if_pos q1]
    refine z2_lt rfl ?_
    refine z2_rt (by rw [zi_le (by omega) (by omega) (by omega) (by omega)]; exact q1) ?_
    unfold j_X10_oneEvening_154_125
    rw [look 0]
    refine z2_rt rfl ?_
    unfold j_X10_oneEvening_225_125 j_X4_play_142_78 j_X10_oneEvening_329_125
    refine z2_rt rfl ?_
    rw [eP, eI]
    exact z2_some (no gc gr fc1 fr1 (sc1.trans sr1.symm))
  · rw [if_neg q1]
    refine z2_lf one_ne ?_
    refine z2_rf (by rw [zi_le (by omega) (by omega) (by omega) (by omega)]; exact q1) ?_
    refine z2_l (at_ok (dOff D k + i) (n := 360) (by decide +kernel) rfl hp) ?_
    rw [show gI gc (224 + 1) (dOff D k + i) = zi d from (fc1.i (by omega)).trans p3]
    have cm := c_comes (d := d) hD x1 hk he (by omega)
    unfold j_X10_oneEvening_154_125
    rw [look 1]
    by_cases g : dgo D (rSet D) k (dB D k) e d = true
    · rw [if_pos g] at cm
      rw [if_pos g]
      refine z2_l cm (z2_rf one_ne ?_)
      refine z2_lf one_ne (z2_rf (show ¬ zi 1 = 0 by decide) ?_)
      exact yes gc gr fc1 fr1 (sc1.trans sr1.symm) true (fun _ => g) (fun z => absurd z (by decide))
    · rw [if_neg g] at cm
      rw [if_neg g]
      refine z2_rf one_ne (z2_rt (show zi 0 = 0 from rfl) ?_)
      by_cases t : dB D k = 1 ∨ dB D k = 4
      · rw [if_pos t] at cm
        have d2 := dw_b (gI gr 269 1)
        have q4 := (hD.q k hk).2.2.2.2.1
        have fc2 : Fr (fun a j => a = 224 ∧ j = 2) hc (sI gc 224 2 (dwN (gI gc 224 2))) := fc1.sI ⟨rfl, rfl⟩
        have fr2 : Fr (fun a j => a = 269 ∧ j = 1) hr (sI gr 269 1 (dwN (gI gr 269 1))) := fr1.sI ⟨rfl, rfl⟩
        have sc2 : gI (sI gc 224 2 (dwN (gI gc 224 2))) 224 2 = dwN (gI gr 269 1) := by rw [gI_sI, if_pos ⟨rfl, rfl⟩, sc1, sr1]
        have sr2 : gI (sI gr 269 1 (dwN (gI gr 269 1))) 269 1 = dwN (gI gr 269 1) := by rw [gI_sI, if_pos ⟨rfl, rfl⟩]
        have y2 := y.fr fr2 (fun a j => by unfold YRa; omega)
        have en : gI gc 224 2 = gI gr 269 1 := sc1.trans sr1.symm
        rw [en] at fc2 sc2 cm
        have edw : ∃ V2, V2 = dwV (gI gr 269 1) := ⟨_, rfl⟩
        obtain ⟨V2, hV2⟩ := edw
        have rd := r_draw (h := gr)
        rw [← hV2] at d2 cm rd
        clear hV2
        refine z2_l cm ?_
        have draw : z2 (if (if D.Q k 4 ≤ V2 then (0 : Int32) else 1) = 0 then j_X4_play_142_78 224 T (zi e) (b1 wet) (zi ((dOff D k + i : Nat) : Int)) (zi k) (some (31 + 6 * (5 * k + dB D k))) (zi (D.Q k 0)) (zi (c : Int)) (zi (i : Int)) (sI gc 224 2 (dwN (gI gr 269 1))) else bd (s_X9_at (some (224 + 1)) (zi ((dOff D k + i : Nat) : Int)) (sI gc 224 2 (dwN (gI gr 269 1)))) fun x9 => bd (s_X9_put (some (224 + 1)) (zi ((dOff D k + i : Nat) : Int)) (x9 + 1) (sI gc 224 2 (dwN (gI gr 269 1)))) fun q10 => j_X4_play_142_78 224 T (zi e) (b1 wet) (zi ((dOff D k + i : Nat) : Int)) (zi k) (some (31 + 6 * (5 * k + dB D k))) (zi (D.Q k 0)) (zi (c : Int) + 1) (zi (i : Int)) q10.2) (j_X10_oneEvening_201_125 (zi e) p2 (zi ((dOff D k + i : Nat) : Int)) (zi k) (zi (dB D k)) (zi (dMay D k wet)) (zi (i : Int)) (zi 0) gr) (fun a b => ∃ v : Nat, a.1 = .inl (zi ((dOff D k + (i + 1) : Nat) : Int), zi (v : Int), zi ((i + 1 : Nat) : Int)) ∧ b.1 = .inl (zi ((dOff D k + (i + 1) : Nat) : Int), zi ((i + 1 : Nat) : Int)) ∧ IX D e k S0 z0 (i + 1) v a.2 b.2 ∧ Fr pC hc a.2 ∧ Fr (pR e k) hr b.2) := by
          unfold j_X10_oneEvening_201_125
          refine z2_r rd ?_
          refine z2_r (r_of hD y2.1 (w := 4) rfl ((show (4 : Int32) = zi 4 from zi_lit 4)) hk (by decide)) ?_
          dsimp only
          generalize sI gc 224 2 (dwN (gI gr 269 1)) = gc2 at fc2 sc2 ⊢
          generalize sI gr 269 1 (dwN (gI gr 269 1)) = gr2 at fr2 sr2 ⊢
          by_cases q3 : D.Q k 4 ≤ V2
          · rw [if_pos q3]
            refine z2_lt rfl (z2_rt (by rw [zi_le (by omega) (by omega) (by omega) (by omega)]; exact q3) ?_)
            unfold j_X10_oneEvening_222_125 j_X10_oneEvening_223_125 j_X10_oneEvening_225_125 j_X4_play_142_78 j_X10_oneEvening_329_125
            refine z2_rt rfl ?_
            rw [eP, eI]
            exact z2_some (no gc2 gr2 fc2 fr2 (sc2.trans sr2.symm))
          · rw [if_neg q3]
            refine z2_lf one_ne (z2_rf (by rw [zi_le (by omega) (by omega) (by omega) (by omega)]; exact q3) ?_)
            unfold j_X10_oneEvening_223_125
            exact yes gc2 gr2 fc2 fr2 (sc2.trans sr2.symm) false (fun z => absurd z (by decide)) (fun _ => by omega)
        dsimp only
        rcases t with t | t
        · refine z2_rt (by rw [t]; rfl) ?_
          exact draw
        · refine z2_rf (by rw [t]; decide) (z2_rt (by rw [t]; rfl) ?_)
          exact draw
      · rw [if_neg t] at cm
        refine z2_l cm (z2_lt rfl ?_)
        refine z2_rf (zi_nk ((show (1 : Int32) = zi 1 from zi_lit 1)) (by omega) (by omega) (by omega)) (z2_rf (zi_nk ((show (4 : Int32) = zi 4 from zi_lit 4)) (by omega) (by omega) (by omega)) ?_)
        unfold j_X10_oneEvening_222_125 j_X10_oneEvening_223_125 j_X10_oneEvening_225_125 j_X4_play_142_78 j_X10_oneEvening_329_125
        refine z2_rt rfl ?_
        rw [eP, eI]
        exact z2_some (no gc gr fc1 fr1 (sc1.trans sr1.symm))
end
