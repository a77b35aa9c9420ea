/-! 71.owed: a year broken off -/
theorem zs_app (f : Nat → Int) (a b : Nat) : zs f (a + b) = zs f a + zs (fun i => f (a + i)) b := by
  induction b with
  | zero => rw [Nat.add_zero, zs_0, Int.add_zero]
  | succ b ih =>
    show zs f (a + b + 1) = _
    rw [zs_s, ih, zs_s, Int.add_assoc]
theorem zs_flat (g : Nat → Nat → Int) : ∀ m, zs (fun c => g (c / 33) (c % 33)) (33 * m) = zs (fun k => zs (g k) 33) m := by
  intro m
  induction m with
  | zero => rfl
  | succ m ih =>
    rw [show 33 * (m + 1) = 33 * m + 33 by omega, zs_app, ih]
    refine congrArg (fun z => zs (fun k => zs (g k) 33) m + z) (zs_congr (fun i hi => ?_))
    rw [show (33 * m + i) / 33 = m by omega, show (33 * m + i) % 33 = i by omega]
/-- left of a ten behind evenings, by its billionths -/
def dLeft (D : HD) (k e : Nat) : Int := zs (fun n => (D.ten - n) * dF D (rSet D) k 2 1 (e + 1) n) 17
theorem dLeft_b {D : HD} (hD : WFD D) {k e : Nat} (hk : k < D.K) (he : e < D.N) : (∀ n : Nat, 0 ≤ (D.ten - n) * dF D (rSet D) k 2 1 (e + 1) n ∧ (D.ten - n) * dF D (rSet D) k 2 1 (e + 1) n ≤ 12000000000) ∧ 0 ≤ dLeft D k e ∧ dLeft D k e ≤ 204000000000 := by
  have btn := hD.tb
  have term : ∀ n : Nat, 0 ≤ (D.ten - n) * dF D (rSet D) k 2 1 (e + 1) n ∧ (D.ten - n) * dF D (rSet D) k 2 1 (e + 1) n ≤ 12000000000 := by
    intro n
    have bS := dF_b hD (rSet D) (t := 2) hk (Or.inl rfl : 1 = 1 ∨ 1 = 2) (e := e + 1) (by omega) n
    by_cases q : c0 D 2 < n
    · rw [dF_ten (e + 1) n q, Int.mul_zero]
      decide
    · have : c0 D 2 = D.ten.toNat := rfl
      have := mul_b (a := D.ten - n) (A := 12) (B := 1000000000) (by omega) (by omega) bS.1 bS.2
      exact ⟨this.1, by omega⟩
  have s1 := zs_nn (n := 17) (fun i _ => (term i).1)
  have s2 := zs_le (n := 17) (fun i _ => (term i).2)
  exact ⟨term, s1, by unfold dLeft; omega⟩
/-- the reference's sum over all cases is the same -/
theorem kLeft {D : HD} (hD : WFD D) {k e : Nat} (he : e < D.N) : zs (fun c => ((c / 33 : Nat) : Int) * kV D 2 (c / 33) (c % 33) (dF D (rSet D) k 2 1 (e + 1) (c % 33))) 429 = dLeft D k e := by
  have hN := hD.N16
  have btn := hD.tb
  have hc : c0 D 2 = D.ten.toNat := rfl
  rw [zs_flat (fun a b => (a : Int) * kV D 2 a b (dF D (rSet D) k 2 1 (e + 1) b)) 13, zs_swap (fun a b => (a : Int) * kV D 2 a b (dF D (rSet D) k 2 1 (e + 1) b)) 13 33]
  unfold dLeft
  have z : ∀ n : Nat, e + 1 < n → dF D (rSet D) k 2 1 (e + 1) n = 0 := fun n hn => fS_out (e + 1) n hn
  have col : ∀ n : Nat, zs (fun a => (a : Int) * kV D 2 a n (dF D (rSet D) k 2 1 (e + 1) n)) 13 = (D.ten - n) * dF D (rSet D) k 2 1 (e + 1) n := by
    intro n
    by_cases q : c0 D 2 < n
    · rw [dF_ten (e + 1) n q, Int.mul_zero]
      refine zs_zero (fun a ha => ?_)
      rw [kV_f (by unfold kC; rw [if_pos rfl]; omega), Int.mul_zero]
    · rw [zs_one (k := c0 D 2 - n) (by omega) (fun a ha hne => by rw [kV_f (by unfold kC; rw [if_pos rfl]; omega), Int.mul_zero]), kV_t (by unfold kC; rw [if_pos rfl]; omega)]
      congr 1
      omega
  rw [zs_congr (fun n _ => col n)]
  exact zs_tail (by decide) (fun n h1 _ => by rw [z n (by omega), Int.mul_zero])
/-- evenings of the set from e on -/
def dFrom (D : HD) (e : Nat) : Int := zs (fun i => if e ≤ i then D.E i 3 else 0) D.N
def dOwe (D : HD) (k e : Nat) : Int := if dB D k = 0 then 0 else if dB D k = 2 then D.P 2 * (dLeft D k e / 1000) / (1000 * D.ten) else if dB D k = 3 then 1000 * D.P 3 * dFrom D (e + 1) / dFrom D 0 else 1000 * D.P (dB D k) * (D.N - 1 - e) / D.N
theorem dFrom_b {D : HD} (hD : WFD D) (e : Nat) : 0 ≤ dFrom D e ∧ dFrom D e ≤ 16 := by
  have hN := hD.N16
  have a1 := zs_nn (f := fun i => if e ≤ i then D.E i 3 else 0) (n := D.N) (fun i hi => by
    have := (hD.e i hi).2.2.2
    split
    · rcases this with q | q <;> rw [q] <;> decide
    · decide)
  have a2 := zs_le (f := fun i => if e ≤ i then D.E i 3 else 0) (n := D.N) (B := 1) (fun i hi => by
    have := (hD.e i hi).2.2.2
    split
    · rcases this with q | q <;> rw [q] <;> decide
    · decide)
  unfold dFrom
  omega
theorem dFrom_pos {D : HD} (hD : WFD D) (h : ∃ e, e < D.N ∧ D.E e 3 = 1) : 1 ≤ dFrom D 0 := by
  obtain ⟨e, he, h1⟩ := h
  have nn : ∀ i, i < D.N → 0 ≤ (fun i => if 0 ≤ i then D.E i 3 else 0) i := fun i hi => by
    have := (hD.e i hi).2.2.2
    dsimp only
    rw [if_pos (Nat.zero_le i)]
    rcases this with q | q <;> rw [q] <;> decide
  have m := zs_mono (f := fun i => if 0 ≤ i then D.E i 3 else 0) (m := e + 1) (n := D.N) (by omega) (fun i _ hi => nn i hi)
  have n0 := zs_nn (f := fun i => if 0 ≤ i then D.E i 3 else 0) (n := e) (fun i hi => nn i (by omega))
  rw [zs_s, if_pos (Nat.zero_le e), h1] at m
  unfold dFrom
  omega
section
variable {D : HD} {T : Nat} {h : AH}
theorem c_from (hD : WFD D) (hT : TL T) (x : CH D T h) {e : Nat} {a : Int32} (ha : a = zi e) (he : e ≤ 16) : s_X8_setFrom T a h = some (zi (dFrom D e)) := by
  have hN := hD.N16
  subst ha
  unfold s_X8_setFrom
  have L : lpP (l_X8_setFrom_4 T h) FU (0, zi (e : Int)) = some (zi (dFrom D e)) := by
    refine lpP_for (D.N - e) (fun i => (zi (zs (fun i => if e ≤ i then D.E i 3 else 0) (e + i)), zi ((e + i : Nat) : Int))) (by omega) ?_ ?_ ?_
    · rw [Nat.add_zero, zs_zero (fun i hi => by rw [if_neg (by omega)])]
      rfl
    · intro i hi
      unfold l_X8_setFrom_4
      dsimp only
      rw [x.1.2.2.1, if_neg (by rw [zi_le (by omega) (by omega) (by omega) (by omega)]; omega), c_set hD hT x rfl (by omega), bd_v, zi_add, show zi ((e + i : Nat) : Int) + 1 = zi ((e + (i + 1) : Nat) : Int) from (by first | (simp only [zi_lit, zi_neg, zi_add, zi_sub, zi_mul, zl_lit, zl_neg, zl_add, zl_sub, zl_mul, zl_i]; exact congrArg zi (by omega)) | (simp only [zi_lit, zi_neg, zi_add, zi_sub, zi_mul, zl_lit, zl_neg, zl_add, zl_sub, zl_mul, zl_i]; done) | exact congrArg zi (by omega))]
      refine congrArg (fun z => some (Sum.inl (zi z, _))) ?_
      show _ = zs _ (e + i + 1)
      rw [zs_s, if_pos (by omega)]
    · unfold l_X8_setFrom_4
      dsimp only
      rw [x.1.2.2.1, if_pos (by rw [zi_le (by omega) (by omega) (by omega) (by omega)]; omega)]
      refine congrArg (fun z => some (Sum.inr (zi z))) ?_
      unfold dFrom
      rcases Nat.lt_or_ge D.N e with q | q
      · rw [show e + (D.N - e) = e by omega, zs_zero (fun i hi => by rw [if_neg (by omega)]), zs_zero (fun i hi => by rw [if_neg (by omega)])]
      · rw [show e + (D.N - e) = D.N by omega]
  rw [if_pos hT.l0, L, bd_v]
theorem c_owing (x : IVd D T h) {k e : Nat} {a b : Int32} (ha : a = zi k) (hb : b = zi e) (hk : k < D.K) (he : e < D.N) : s_X0_owing a b h = some (zl (dOwe D k e)) := by
  have hD := x.wf
  have hK := hD.K6
  have hN := hD.N16
  have btn := hD.tb
  have hbt := dB_lt D k
  have bP := hD.p.2.1 (dB D k) hbt
  unfold s_X0_owing
  rw [at_ok k (n := 6) rfl ha (by omega), bd_v, x.c.2.2 k hk, x.t13, bd_v, if_pos x.tl.l0, c_price x.tl x.ch rfl hbt, bd_v, bd_v, if_pos x.tl.l0, bd_v, if_pos x.tl.l0]
  unfold dOwe
  by_cases q0 : dB D k = 0
  · rw [if_pos (by rw [q0]; rfl), if_pos q0]
    rfl
  · have bp := P_told hD k q0
    rw [if_neg (zi_nk ((show (0 : Int32) = zi 0 from zi_lit 0)) (by omega) (by omega) (by omega)), if_neg q0]
    by_cases q2 : dB D k = 2
    · have hten : 1 ≤ D.ten := hD.p.2.2.1 (by rw [← q2]; omega)
      have hp := PL.of (k := k) (t := 2) (by omega) (by decide)
      have bl := dLeft_b hD hk he
      have m := mul_b (A := 9999) (B := 204000000) bp.1 bp.2 (b := dLeft D k e / 1000) (by omega) (by omega)
      have el : gL h (31 + 6 * (5 * k + 2) + 2) e = zl (dLeft D k e / 1000) := (x.c.2.1 k 2 hk (by decide)).2.1.2.2.2 rfl e he
      rw [if_pos (by rw [q2]; rfl), if_pos q2, bd_v, if_pos x.tl.l0, c_planOf x.cb (t := 2) (a1 := 2) ha rfl (by omega) (by decide), bd_v, bd_v, if_pos hp.l0]
      unfold s_X2_leftBehind
      rw [if_pos hp.l0, atW_ok e hp.l2 hb (by omega), bd_v, bd_v, el, x.ch.1.2.2.2.2.2, if_pos (by rw [(show (0 : Int32) = zi 0 from zi_lit 0), zi_lt (by omega) (by omega) (by omega) (by omega)]; omega), ldivF_ok (a := D.P (dB D k) * (dLeft D k e / 1000)) (b := 1000 * D.ten) (by rw [zi_l (by omega) (by omega), zl_mul]) (by rw [zi_l (by omega) (by omega)]; exact zl_mul 1000 _) m.1 (by omega) (by omega) (by omega), bd_v, q2]
    · rw [if_neg (zi_nk ((show (2 : Int32) = zi 2 from zi_lit 2)) (by omega) (by omega) (by omega)), if_neg q2]
      unfold j_X0_owing_127
      by_cases q3 : dB D k = 3
      · have hpos := dFrom_pos hD (hD.p.2.2.2 (by rw [← q3]; omega))
        have b1 := dFrom_b hD (e + 1)
        have b0 := dFrom_b hD 0
        have m := mul_b (a := 1000 * D.P (dB D k)) (A := 9999000) (B := 16) (by omega) (by omega) b1.1 b1.2
        rw [if_pos (by rw [q3]; rfl), if_pos q3, bd_v, if_pos x.tl.l0, c_from hD x.tl x.ch (e := e + 1) (by rw [hb]; exact (by first | (simp only [zi_lit, zi_neg, zi_add, zi_sub, zi_mul, zl_lit, zl_neg, zl_add, zl_sub, zl_mul, zl_i]; exact congrArg zi (by omega)) | (simp only [zi_lit, zi_neg, zi_add, zi_sub, zi_mul, zl_lit, zl_neg, zl_add, zl_sub, zl_mul, zl_i]; done) | exact congrArg zi (by omega))) (by omega), bd_v, bd_v, if_pos x.tl.l0, c_from hD x.tl x.ch (e := 0) ((show (0 : Int32) = zi 0 from zi_lit 0)) (by omega), bd_v, if_pos (by rw [(show (0 : Int32) = zi 0 from zi_lit 0), zi_lt (by omega) (by omega) (by omega) (by omega)]; omega), ldivF_ok (a := 1000 * D.P (dB D k) * dFrom D (e + 1)) (b := dFrom D 0) (by rw [zi_l (by omega) (by omega), zi_l (by omega) (by omega), show (1000 : Int64) * zl (D.P (dB D k)) = zl (1000 * D.P (dB D k)) from zl_mul 1000 _, zl_mul]) (zi_l (by omega) (by omega)) m.1 (by omega) (by omega) (by omega), bd_v, q3]
      · have m := mul_b (a := 1000 * D.P (dB D k)) (A := 9999000) (b := (D.N : Int) - 1 - e) (B := 16) (by omega) (by omega) (by omega) (by omega)
        rw [if_neg (zi_nk ((show (3 : Int32) = zi 3 from zi_lit 3)) (by omega) (by omega) (by omega)), if_neg q3, x.ch.1.2.2.1, if_pos (by rw [(show (0 : Int32) = zi 0 from zi_lit 0), zi_lt (by omega) (by omega) (by omega) (by omega)]; omega), ldivF_ok (a := 1000 * D.P (dB D k) * ((D.N : Int) - 1 - e)) (b := D.N) (by rw [hb, show zi (D.N : Int) - 1 - zi (e : Int) = zi ((D.N : Int) - 1 - e) from (by first | (simp only [zi_lit, zi_neg, zi_add, zi_sub, zi_mul, zl_lit, zl_neg, zl_add, zl_sub, zl_mul, zl_i]; exact congrArg zi (by omega)) | (simp only [zi_lit, zi_neg, zi_add, zi_sub, zi_mul, zl_lit, zl_neg, zl_add, zl_sub, zl_mul, zl_i]; done) | exact congrArg zi (by omega)), zi_l (by omega) (by omega), zi_l (by omega) (by omega), show (1000 : Int64) * zl (D.P (dB D k)) = zl (1000 * D.P (dB D k)) from zl_mul 1000 _, zl_mul]) (zi_l (by omega) (by omega)) m.1 (by omega) (by omega) (by omega), bd_v]
theorem r_owed (x : IVd D T h) {k e : Nat} {a b : Int32} (ha : a = zi k) (hb : b = zi e) (hk : k < D.K) (he : e < D.N) : zw (s_X10_owed a b h) (fun r => r.1 = zi (dOwe D k e) ∧ gI r.2 240 0 = 0 ∧ Fr (fun a j => (251 ≤ a ∧ a ≤ 254) ∨ (a = 240 ∧ (j = 0 ∨ j = 38 ∨ j = 39))) h r.2) := by
  have hD := x.wf
  have hK := hD.K6
  have hN := hD.N16
  have btn := hD.tb
  have hbt := dB_lt D k
  have bP := hD.p.2.1 (dB D k) hbt
  have y := x.z
  have f0 : Fr (fun a j => (251 ≤ a ∧ a ≤ 254) ∨ (a = 240 ∧ (j = 0 ∨ j = 38 ∨ j = 39))) h (sI h 240 0 0) := (Fr.refl _ h).sI (by omega)
  subst ha hb
  unfold s_X10_owed
  refine zw_bd1 (r_isK y.rh hK rfl (by omega) (by omega) g0_z) ?_
  rw [if_pos (by omega : 0 ≤ (k : Int) ∧ (k : Int) < D.K)]
  refine zw_f one_ne ?_
  refine zw_bd1 (r_isE y.rh hN rfl (by omega) (by omega) g0_z) ?_
  rw [if_pos (by omega : 0 ≤ (e : Int) ∧ (e : Int) < D.N)]
  refine zw_f one_ne ?_
  refine zw_bd1 (y.buys rfl hk) ?_
  unfold dOwe
  by_cases q0 : dB D k = 0
  · refine zw_t (by rw [q0]; rfl) (zw_some ⟨?_, g0_z, f0⟩)
    rw [if_pos q0]
    rfl
  · have bp := P_told hD k q0
    refine zw_f (zi_nk ((show (0 : Int32) = zi 0 from zi_lit 0)) (by omega) (by omega) (by omega)) ?_
    rw [if_neg q0]
    by_cases q2 : dB D k = 2
    · have hten : 1 ≤ D.ten := hD.p.2.2.1 (by rw [← q2]; omega)
      have bl := dLeft_b hD hk he
      have m := mul_b (A := 9999) (B := 204000000) bp.1 bp.2 (b := dLeft D k e / 1000) (by omega) (by omega)
      refine zw_t (by rw [q2]; rfl) ?_
      rw [if_pos q2]
      refine zw_bd (r_plans (t := 2) (th := 2) hD y.rh hk (by decide) rfl (by rw [q2]) (Or.inr ⟨rfl, rfl⟩)) ?_
      rintro ⟨u1, g1⟩ ⟨f1, rp⟩
      dsimp only at f1 rp ⊢
      have y1 := y.fr (f1.mono (by unfold SC; omega))
      refine zw_bd (r_begins (k := k) (t := 2) (th := 1) hD y1.rh (by decide) (by rw [q2])) ?_
      rintro ⟨u2, g2⟩ ⟨f2, rc⟩
      dsimp only at f2 rc ⊢
      have f12 : Fr (fun a j => (251 ≤ a ∧ a ≤ 254) ∨ (a = 240 ∧ (j = 38 ∨ j = 39))) (sI h 240 0 0) g2 := (f1.mono (by omega)).trans (f2.mono (by omega))
      refine zw_bd (P := fun y => Fr (fun a j => (251 ≤ a ∧ a ≤ 254) ∨ (a = 240 ∧ (j = 38 ∨ j = 39))) (sI h 240 0 0) y.2 ∧ RCases D k 2 1 (e + 1) y.2) ?_ ?_
      · refine zw_for (e + 1) (fun i => zi i) () (fun i h' => Fr (fun a j => (251 ≤ a ∧ a ≤ 254) ∨ (a = 240 ∧ (j = 38 ∨ j = 39))) (sI h 240 0 0) h' ∧ RPlan D k 2 2 h' ∧ RCases D k 2 1 i h') (by omega) rfl ⟨f12, rp.fr f2 (by intro j; omega) (by intro j; omega), rc⟩ ?_ ?_
        · rintro i h' hi ⟨hf, rpi, rci⟩
          have y2 := y.fr (hf.mono (by unfold SC; omega))
          unfold l_X10_owed_55
          refine zw_f (by rw [zi_lt (by omega) (by omega) (by omega) (by omega)]; omega) ?_
          refine zw_bd (r_uses (th := 1) hD y2.rh rpi hk (by decide) rfl (by rw [q2]) rfl (Or.inl ⟨rfl, rfl, rfl⟩) (by omega) rci) ?_
          rintro ⟨u4, g4⟩ ⟨f4, b38, b39, rc4⟩
          exact zw_some ⟨congrArg Sum.inl (by first | (simp only [zi_lit, zi_neg, zi_add, zi_sub, zi_mul, zl_lit, zl_neg, zl_add, zl_sub, zl_mul, zl_i]; exact congrArg zi (by omega)) | (simp only [zi_lit, zi_neg, zi_add, zi_sub, zi_mul, zl_lit, zl_neg, zl_add, zl_sub, zl_mul, zl_i]; done) | exact congrArg zi (by omega)), hf.trans (f4.mono (by omega)), rpi.fr f4 (by intro j; omega) (by intro j; omega), rc4⟩
        · rintro h' ⟨hf, rpi, rci⟩
          unfold l_X10_owed_55
          exact zw_t (by rw [zi_lt (by omega) (by omega) (by omega) (by omega)]; omega) (zw_some ⟨rfl, hf, rci⟩)
      · rintro ⟨u3, g3⟩ ⟨f3, rc3⟩
        dsimp only at f3 rc3 ⊢
        have y3 := y.fr (f3.mono (by unfold SC; omega))
        have kl := kLeft hD (k := k) he
        refine zw_bd1 (z := (zl (dLeft D k e), g3)) ?_ ?_
        · refine lpH_for 429 (fun i => (zl (zs (fun c => ((c / 33 : Nat) : Int) * kV D 2 (c / 33) (c % 33) (dF D (rSet D) k 2 1 (e + 1) (c % 33))) i), zi i)) (by decide) rfl ?_ ?_
          · intro i hi
            unfold l_X10_owed_83
            dsimp only
            rw [if_neg (by rw [(show (429 : Int32) = zi 429 from zi_lit 429), zi_le (by omega) (by omega) (by omega) (by omega)]; show ¬ (429 : Int) ≤ i; omega), idivF_ok (a := i) (b := 33) rfl ((show (33 : Int32) = zi 33 from zi_lit 33)) (by omega) (by omega) (by decide) (by decide), bd_v, ldL_ok i (n := 429) rfl rfl hi, bd_v]
            have e1 := rc3 (i / 33) (i % 33) (by omega) (by omega)
            rw [show 33 * (i / 33) + i % 33 = i by omega] at e1
            rw [e1, zi_l (by omega) (by omega), zl_mul, zl_add, show zi (i : Int) + 1 = zi ((i + 1 : Nat) : Int) from (by first | (simp only [zi_lit, zi_neg, zi_add, zi_sub, zi_mul, zl_lit, zl_neg, zl_add, zl_sub, zl_mul, zl_i]; exact congrArg zi (by omega)) | (simp only [zi_lit, zi_neg, zi_add, zi_sub, zi_mul, zl_lit, zl_neg, zl_add, zl_sub, zl_mul, zl_i]; done) | exact congrArg zi (by omega)), zs_s]
            rfl
          · unfold l_X10_owed_83
            rw [kl]
            rfl
        · dsimp only
          refine zw_bd1 (r_P y3.rh (t := 2) (by rw [q2]) (by decide)) ?_
          refine zw_bd1 (ldivF_ok (a := dLeft D k e) rfl ((show (1000 : Int64) = zl 1000 from zl_lit 1000)) bl.2.1 (by omega) (by decide) (by decide)) ?_
          rw [y3.rh.1.2.2.2.2.2]
          rw [q2] at bp m
          refine zw_bd1 (ldivF_ok (a := D.P 2 * (dLeft D k e / 1000)) (b := 1000 * D.ten) (by rw [zi_l (by omega) (by omega), zl_mul]) (by rw [zi_l (by omega) (by omega)]; exact zl_mul 1000 _) m.1 (by omega) (by omega) (by omega)) (zw_some ⟨zl_i _, ?_, ?_⟩)
          · show gI g3 240 0 = 0
            rw [f3.i (by omega)]
            exact g0_z
          · exact f0.trans (f3.mono (by omega))
    · refine zw_f (zi_nk ((show (2 : Int32) = zi 2 from zi_lit 2)) (by omega) (by omega) (by omega)) ?_
      rw [if_neg q2]
      have L : lpH (l_X10_owed_151 (zi e) (zi (dB D k))) FU (0, 0, 0) (sI h 240 0 0) = some ((zi (if dB D k = 3 then dFrom D 0 else D.N), zi (if dB D k = 3 then dFrom D (e + 1) else (D.N : Int) - 1 - e)), sI h 240 0 0) := by
        by_cases q3 : dB D k = 3
        · rw [if_pos q3, if_pos q3]
          refine lpH_for D.N (fun i => (zi (zs (fun i => if 0 ≤ i then D.E i 3 else 0) i), zi (zs (fun i => if e + 1 ≤ i then D.E i 3 else 0) i), zi i)) (by omega) rfl ?_ ?_
          · intro i hi
            have h01 := (hD.e i hi).2.2.2
            unfold l_X10_owed_151
            dsimp only
            rw [y.rh.1.2.2.1, if_neg (by rw [zi_le (by omega) (by omega) (by omega) (by omega)]; omega), if_pos (by rw [q3]; rfl), r_E hD y.rh i 3 (by first | (simp only [zi_lit, zi_neg, zi_add, zi_sub, zi_mul, zl_lit, zl_neg, zl_add, zl_sub, zl_mul, zl_i]; exact congrArg zi (by omega)) | (simp only [zi_lit, zi_neg, zi_add, zi_sub, zi_mul, zl_lit, zl_neg, zl_add, zl_sub, zl_mul, zl_i]; done) | exact congrArg zi (by omega)) hi (by decide), bd_v, zs_s, zs_s, if_pos (Nat.zero_le i)]
            rcases h01 with q | q
            · rw [q, if_pos (show zi 0 = (0 : Int32) from rfl)]
              unfold j_X10_owed_201_151
              rw [show zi (i : Int) + 1 = zi ((i + 1 : Nat) : Int) from (by first | (simp only [zi_lit, zi_neg, zi_add, zi_sub, zi_mul, zl_lit, zl_neg, zl_add, zl_sub, zl_mul, zl_i]; exact congrArg zi (by omega)) | (simp only [zi_lit, zi_neg, zi_add, zi_sub, zi_mul, zl_lit, zl_neg, zl_add, zl_sub, zl_mul, zl_i]; done) | exact congrArg zi (by omega)), Int.add_zero, show (if e + 1 ≤ i then (0 : Int) else 0) = 0 by split <;> rfl, Int.add_zero]
            · rw [q, if_neg (by decide)]
              unfold j_X10_owed_182_151 j_X10_owed_198_151 j_X10_owed_201_151
              rw [show zi (i : Int) + 1 = zi ((i + 1 : Nat) : Int) from (by first | (simp only [zi_lit, zi_neg, zi_add, zi_sub, zi_mul, zl_lit, zl_neg, zl_add, zl_sub, zl_mul, zl_i]; exact congrArg zi (by omega)) | (simp only [zi_lit, zi_neg, zi_add, zi_sub, zi_mul, zl_lit, zl_neg, zl_add, zl_sub, zl_mul, zl_i]; done) | exact congrArg zi (by omega)), show zi (zs (fun i => if 0 ≤ i then D.E i 3 else 0) i) + 1 = zi (zs (fun i => if 0 ≤ i then D.E i 3 else 0) i + 1) from zi_add _ 1]
              by_cases qe : i ≤ e
              · rw [if_pos (by rw [zi_le (by omega) (by omega) (by omega) (by omega)]; omega), if_neg (by omega : ¬ e + 1 ≤ i), show zi (zs (fun i => if e + 1 ≤ i then D.E i 3 else 0) i) + 0 = zi (zs (fun i => if e + 1 ≤ i then D.E i 3 else 0) i + 0) from zi_add _ 0]
              · rw [if_neg (by rw [zi_le (by omega) (by omega) (by omega) (by omega)]; omega), if_pos (by omega : e + 1 ≤ i), show zi (zs (fun i => if e + 1 ≤ i then D.E i 3 else 0) i) + 1 = zi (zs (fun i => if e + 1 ≤ i then D.E i 3 else 0) i + 1) from zi_add _ 1]
          · unfold l_X10_owed_151
            dsimp only
            rw [y.rh.1.2.2.1, if_pos (by rw [zi_le (by omega) (by omega) (by omega) (by omega)]; omega)]
            rfl
        · rw [if_neg q3, if_neg q3]
          refine lpH_for D.N (fun i => (zi i, zi (if i ≤ e + 1 then 0 else (i : Int) - 1 - e), zi i)) (by omega) rfl ?_ ?_
          · intro i hi
            unfold l_X10_owed_151
            dsimp only
            rw [y.rh.1.2.2.1, if_neg (by rw [zi_le (by omega) (by omega) (by omega) (by omega)]; omega), if_neg (zi_nk ((show (3 : Int32) = zi 3 from zi_lit 3)) (by omega) (by omega) (by omega))]
            unfold j_X10_owed_182_151 j_X10_owed_198_151 j_X10_owed_201_151
            rw [show zi (i : Int) + 1 = zi ((i + 1 : Nat) : Int) from (by first | (simp only [zi_lit, zi_neg, zi_add, zi_sub, zi_mul, zl_lit, zl_neg, zl_add, zl_sub, zl_mul, zl_i]; exact congrArg zi (by omega)) | (simp only [zi_lit, zi_neg, zi_add, zi_sub, zi_mul, zl_lit, zl_neg, zl_add, zl_sub, zl_mul, zl_i]; done) | exact congrArg zi (by omega))]
            by_cases qe : i ≤ e
            · rw [if_pos (by rw [zi_le (by omega) (by omega) (by omega) (by omega)]; omega), if_pos (by omega : i ≤ e + 1), if_pos (by omega : i + 1 ≤ e + 1)]
              rfl
            · rw [if_neg (by rw [zi_le (by omega) (by omega) (by omega) (by omega)]; omega), if_neg (by omega : ¬ i + 1 ≤ e + 1), show zi (if i ≤ e + 1 then 0 else (i : Int) - 1 - e) + 1 = zi ((if i ≤ e + 1 then 0 else (i : Int) - 1 - e) + 1) from zi_add _ 1]
              rw [show (if i ≤ e + 1 then 0 else (i : Int) - 1 - e) + 1 = ((i + 1 : Nat) : Int) - 1 - e by split <;> omega]
          · unfold l_X10_owed_151
            dsimp only
            rw [y.rh.1.2.2.1, if_pos (by rw [zi_le (by omega) (by omega) (by omega) (by omega)]; omega)]
            rw [show (if D.N ≤ e + 1 then 0 else (D.N : Int) - 1 - e) = (D.N : Int) - 1 - e by split <;> omega]
      refine zw_bd1 L ?_
      dsimp only
      refine zw_bd1 (r_P y.rh rfl hbt) ?_
      by_cases q3 : dB D k = 3
      · have hpos := dFrom_pos hD (hD.p.2.2.2 (by rw [← q3]; omega))
        have b1 := dFrom_b hD (e + 1)
        have b0 := dFrom_b hD 0
        have m := mul_b (a := 1000 * D.P (dB D k)) (A := 9999000) (B := 16) (by omega) (by omega) b1.1 b1.2
        rw [if_pos q3, if_pos q3, if_pos q3]
        refine zw_bd1 (ldivF_ok (a := 1000 * D.P (dB D k) * dFrom D (e + 1)) (b := dFrom D 0) (by rw [zi_l (by omega) (by omega), zi_l (by omega) (by omega), show (1000 : Int64) * zl (D.P (dB D k)) = zl (1000 * D.P (dB D k)) from zl_mul 1000 _, zl_mul]) (zi_l (by omega) (by omega)) m.1 (by omega) (by omega) (by omega)) (zw_some ⟨?_, g0_z, f0⟩)
        rw [zl_i, q3]
      · have m := mul_b (a := 1000 * D.P (dB D k)) (A := 9999000) (b := (D.N : Int) - 1 - e) (B := 16) (by omega) (by omega) (by omega) (by omega)
        rw [if_neg q3, if_neg q3, if_neg q3]
        refine zw_bd1 (ldivF_ok (a := 1000 * D.P (dB D k) * ((D.N : Int) - 1 - e)) (b := D.N) (by rw [zi_l (by omega) (by omega), zi_l (by omega) (by omega), show (1000 : Int64) * zl (D.P (dB D k)) = zl (1000 * D.P (dB D k)) from zl_mul 1000 _, zl_mul]) (zi_l (by omega) (by omega)) m.1 (by omega) (by omega) (by omega)) (zw_some ⟨zl_i _, g0_z, f0⟩)
theorem g_owed (x : IVd D T h) (a0 a1 : Int32) : ag Int32.toInt64 (s_L_owed (some 0) a0 a1 (some 277) h) (s_X10_owed a0 a1) := by
  obtain ⟨a, rfl, ha1, ha2⟩ := zi_of a0
  obtain ⟨b, rfl, hb1, hb2⟩ := zi_of a1
  have hK := x.wf.K6
  have hN := x.wf.N16
  by_cases q1 : 0 ≤ a ∧ a < D.K
  · by_cases q2 : 0 ≤ b ∧ b < D.N
    · have ea : zi a = zi (a.toNat : Nat) := congrArg zi (by omega)
      have eb : zi b = zi (b.toNat : Nat) := congrArg zi (by omega)
      refine ag_v (v := (zi (dOwe D a.toNat b.toNat)).toInt64) x ?_ ?_
      · unfold s_L_owed s_X9_owed
        rw [if_pos rfl, c_needK x rfl ha1 ha2, if_pos q1, bd_v, sm_l, c_needE x rfl hb1 hb2, if_pos q2, bd_v, sm_l, c_owing x ea eb (by omega) (by omega), bd_v, zl_i, bd_v, sm_l]
        exact hl_v rfl
      · have y := x.o (zi (dOwe D a.toNat b.toNat)).toInt64
        refine zw_mono (r_owed y ea eb (by omega) (by omega)) ?_
        rintro ⟨v, g⟩ ⟨e2, z2, f2⟩
        dsimp only at e2
        subst e2
        exact ⟨rfl, z2, f2.mono (by unfold SC; omega)⟩
    · refine ag_t (k := 1) (b := 0) x ?_ (by decide) ?_
      · unfold s_L_owed s_X9_owed
        rw [if_pos rfl, c_needK x rfl ha1 ha2, if_pos q1, bd_v, sm_l, c_needE x rfl hb1 hb2, if_neg q2]
        rfl
      · refine zw_o ?_
        unfold s_X10_owed
        refine zw_bd1 (r_isK x.z.rh hK rfl ha1 ha2 g0_z) ?_
        rw [if_pos q1]
        refine zw_f one_ne ?_
        refine zw_bd1 (r_isE x.z.rh hN rfl hb1 hb2 g0_z) ?_
        rw [if_neg q2]
        exact zw_t rfl (zw_some rfl)
  · refine ag_t (k := 1) (b := 0) x ?_ (by decide) ?_
    · unfold s_L_owed s_X9_owed
      rw [if_pos rfl, c_needK x rfl ha1 ha2, if_neg q1]
      rfl
    · refine zw_o ?_
      unfold s_X10_owed
      refine zw_bd1 (r_isK x.z.rh hK rfl ha1 ha2 g0_z) ?_
      rw [if_neg q1]
      exact zw_t rfl (zw_some rfl)
end
