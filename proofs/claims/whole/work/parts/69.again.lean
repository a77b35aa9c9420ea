/-! 69.again: seats sold again -/
def isH (t : Nat) : Prop := t = 1 ∨ t = 4
theorem isH_dec (t : Nat) : isH t ∨ ¬ isH t := Classical.em _
def qSeat (D : HD) (k : Nat) : Int := if dB D k = 1 ∨ dB D k = 4 then D.Q k 0 else 0
def qFull (D : HD) (e k : Nat) : Int := if dB D k = 1 ∨ dB D k = 4 then D.Q k 0 * cf D k (dB D k) e / 1000 else 0
def qDoor (D : HD) (e k : Nat) : Int := if dB D k = 0 then D.Q k 0 * cf D k (dB D k) e / 1000 else 0
def aSeat (D : HD) : Int := zs (qSeat D) D.K
def aFree (D : HD) : Int := mz (D.ch - aSeat D) * 1000000
def aTurn (D : HD) (e : Nat) : Int := mz (zs (qDoor D e) D.K - aFree D)
def aEmpty (D : HD) (e : Nat) : Int := aSeat D * 1000000 - zs (qFull D e) D.K
theorem q_b {D : HD} (hD : WFD D) {k e : Nat} (hk : k < D.K) (he : e < D.N) : (0 ≤ qSeat D k ∧ qSeat D k ≤ 400) ∧ (0 ≤ qFull D e k ∧ qFull D e k ≤ 400000000) ∧ (0 ≤ qDoor D e k ∧ qDoor D e k ≤ 400000000) := by
  have bm := (hD.q k hk).1
  have bc := cf_b hD (t := dB D k) hk he
  have m := mul_b bm.1 bm.2 bc.1 bc.2
  have d := div_b (b := 1000) (A := 400000000) (by decide) m.1 (by omega)
  unfold qSeat qFull qDoor
  refine ⟨?_, ?_, ?_⟩
  · split <;> omega
  · split <;> omega
  · split <;> omega
theorem zq_b {D : HD} (hD : WFD D) {e : Nat} (he : e < D.N) (n : Nat) (hn : n ≤ D.K) : (0 ≤ zs (qSeat D) n ∧ zs (qSeat D) n ≤ 2400) ∧ (0 ≤ zs (qFull D e) n ∧ zs (qFull D e) n ≤ 2400000000) ∧ (0 ≤ zs (qDoor D e) n ∧ zs (qDoor D e) n ≤ 2400000000) := by
  have hK := hD.K6
  have a1 := zs_nn (f := qSeat D) (n := n) (fun i hi => (q_b hD (by omega : i < D.K) he).1.1)
  have a2 := zs_le (f := qSeat D) (n := n) (B := 400) (fun i hi => (q_b hD (by omega : i < D.K) he).1.2)
  have b1 := zs_nn (f := qFull D e) (n := n) (fun i hi => (q_b hD (by omega : i < D.K) he).2.1.1)
  have b2 := zs_le (f := qFull D e) (n := n) (B := 400000000) (fun i hi => (q_b hD (by omega : i < D.K) he).2.1.2)
  have c1 := zs_nn (f := qDoor D e) (n := n) (fun i hi => (q_b hD (by omega : i < D.K) he).2.2.1)
  have c2 := zs_le (f := qDoor D e) (n := n) (B := 400000000) (fun i hi => (q_b hD (by omega : i < D.K) he).2.2.2)
  have hn' : (n : Int) ≤ 6 := by omega
  have e1 : (n : Int) * 400 ≤ 2400 := by omega
  have e2 : (n : Int) * 400000000 ≤ 2400000000 := by omega
  omega
section
variable {D : HD} {T : Nat} {h : AH}
theorem c_hasSeat (x : IVd D T h) {k : Nat} {a : Int32} (ha : a = zi k) (hk : k < D.K) : s_X0_hasSeat a h = some (if dB D k = 1 ∨ dB D k = 4 then 1 else 0) := by
  have hK := x.wf.K6
  have hp := PL.of (k := k) (t := dB D k) (by omega) (dB_lt D k)
  unfold s_X0_hasSeat
  rw [c_boughtBy x.wf x.c ha hk, bd_v, bd_v, if_pos hp.l0, c_habit hp (x.pk hp), bd_v]
  split
  · rw [if_pos (Or.inr rfl)]
  · rw [if_pos (Or.inl rfl)]
theorem c_seatHolders (x : IVd D T h) : s_X0_seatHolders h = some (zi (aSeat D)) := by
  have hK := x.wf.K6
  unfold s_X0_seatHolders
  have L : lpP (l_X0_seatHolders_4 h) FU (0, 0) = some (zi (aSeat D)) := by
    refine lpP_for D.K (fun i => (zi (zs (qSeat D) i), zi i)) (by omega) rfl ?_ ?_
    · intro i hi
      unfold l_X0_seatHolders_4 j_X0_seatHolders_39_4
      dsimp only
      rw [x.t13, bd_v, if_pos x.tl.l0, x.ch.1.2.2.2.1, if_neg (by rw [zi_le (by omega) (by omega) (by omega) (by omega)]; omega), c_hasSeat x rfl hi, bd_v, show zi (i : Int) + 1 = zi ((i + 1 : Nat) : Int) from (by first | (simp only [zi_lit, zi_neg, zi_add, zi_sub, zi_mul, zl_lit, zl_neg, zl_add, zl_sub, zl_mul, zl_i]; exact congrArg zi (by omega)) | (simp only [zi_lit, zi_neg, zi_add, zi_sub, zi_mul, zl_lit, zl_neg, zl_add, zl_sub, zl_mul, zl_i]; done) | exact congrArg zi (by omega)), zs_s]
      unfold qSeat
      by_cases q : dB D i = 1 ∨ dB D i = 4
      · rw [if_pos q, if_pos q, if_neg one_ne, bd_v, if_pos x.tl.l0, c_many x.wf x.tl x.ch rfl hi, bd_v, zi_add]
      · rw [if_neg q, if_neg q, if_pos rfl, show zi (zs (fun k => if dB D k = 1 ∨ dB D k = 4 then D.Q k 0 else 0) i) + 0 = zi (zs (fun k => if dB D k = 1 ∨ dB D k = 4 then D.Q k 0 else 0) i + 0) from zi_add _ 0]
    · unfold l_X0_seatHolders_4
      dsimp only
      rw [x.t13, bd_v, if_pos x.tl.l0, x.ch.1.2.2.2.1, if_pos (by rw [zi_le (by omega) (by omega) (by omega) (by omega)]; omega)]
      rfl
  rw [L, bd_v]
theorem c_turned (x : IVd D T h) {e : Nat} {a : Int32} (ha : a = zi e) (he : e < D.N) : s_X0_turnedAway a h = some (zl (aTurn D e)) := by
  have hK := x.wf.K6
  have hc := x.wf.c.1
  have zb := zq_b x.wf he D.K (Nat.le_refl _)
  have ef : ((if 0 < (zi D.ch - zi (aSeat D)) then (zi D.ch - zi (aSeat D)) else 0 : Int32)).toInt64 * 1000000 = zl (aFree D) := by
    have hs : aSeat D = zs (qSeat D) D.K := rfl
    unfold aFree mz
    rw [zi_sub]
    by_cases q : 0 < D.ch - aSeat D
    · rw [if_pos (by rw [(show (0 : Int32) = zi 0 from zi_lit 0), zi_lt (by omega) (by omega) (by omega) (by omega)]; exact q), if_pos q, zi_l (by omega) (by omega)]
      exact zl_mul _ 1000000
    · rw [if_neg (by rw [(show (0 : Int32) = zi 0 from zi_lit 0), zi_lt (by omega) (by omega) (by omega) (by omega)]; exact q), if_neg q]
      rfl
  unfold s_X0_turnedAway
  rw [x.t13, bd_v, if_pos x.tl.l0, c_seatHolders x, bd_v, x.ch.1.1, ef]
  have L : lpP (l_X0_turnedAway_28 a (zl (aFree D)) h) FU (0, 0) = some (zl (zs (qDoor D e) D.K)) := by
    refine lpP_for D.K (fun i => (zl (zs (qDoor D e) i), zi i)) (by omega) rfl ?_ ?_
    · intro i hi
      unfold l_X0_turnedAway_28 j_X0_turnedAway_66_28
      dsimp only
      rw [x.t13, bd_v, if_pos x.tl.l0, x.ch.1.2.2.2.1, if_neg (by rw [zi_le (by omega) (by omega) (by omega) (by omega)]; omega), at_ok i (n := 6) rfl rfl (by omega), bd_v, x.c.2.2 i hi, show zi (i : Int) + 1 = zi ((i + 1 : Nat) : Int) from (by first | (simp only [zi_lit, zi_neg, zi_add, zi_sub, zi_mul, zl_lit, zl_neg, zl_add, zl_sub, zl_mul, zl_i]; exact congrArg zi (by omega)) | (simp only [zi_lit, zi_neg, zi_add, zi_sub, zi_mul, zl_lit, zl_neg, zl_add, zl_sub, zl_mul, zl_i]; done) | exact congrArg zi (by omega)), zs_s]
      have hb := dB_lt D i
      by_cases q : dB D i = 0
      · have eq : qDoor D e i = D.Q i 0 * cf D i 0 e / 1000 := by unfold qDoor; rw [if_pos q, q]
        rw [if_pos (by rw [q]; rfl), c_fullOf x.wf x.c rfl (t := 0) ((show (0 : Int32) = zi 0 from zi_lit 0)) ha hi (by decide) he, bd_v, zl_add, eq]
      · have eq : qDoor D e i = 0 := by unfold qDoor; rw [if_neg q]
        rw [if_neg (zi_nk ((show (0 : Int32) = zi 0 from zi_lit 0)) (by omega) (by omega) (by omega)), eq, show zl (zs (qDoor D e) i) + 0 = zl (zs (qDoor D e) i + 0) from zl_add _ 0]
    · unfold l_X0_turnedAway_28
      dsimp only
      rw [x.t13, bd_v, if_pos x.tl.l0, x.ch.1.2.2.2.1, if_pos (by rw [zi_le (by omega) (by omega) (by omega) (by omega)]; omega)]
  rw [L, bd_v, zl_sub]
  have bfree : 0 ≤ aFree D ∧ aFree D ≤ 400000000 := by
    have hs : aSeat D = zs (qSeat D) D.K := rfl
    unfold aFree mz
    split <;> omega
  refine congrArg some ?_
  unfold aTurn mz
  by_cases q : zs (qDoor D e) D.K - aFree D < 0
  · rw [if_pos (by rw [(show (0 : Int64) = zl 0 from zl_lit 0), zl_lt (by omega) (by omega) (by omega) (by omega)]; exact q), if_neg (by omega)]
    rfl
  · rw [if_neg (by rw [(show (0 : Int64) = zl 0 from zl_lit 0), zl_lt (by omega) (by omega) (by omega) (by omega)]; exact q)]
    split
    · rfl
    · exact congrArg zl (by omega)
theorem c_empty (x : IVd D T h) {e : Nat} {a : Int32} (ha : a = zi e) (he : e < D.N) : s_X0_emptySeats a h = some (zl (aEmpty D e)) := by
  have hK := x.wf.K6
  have zb := zq_b x.wf he D.K (Nat.le_refl _)
  have hs : aSeat D = zs (qSeat D) D.K := rfl
  unfold s_X0_emptySeats
  rw [c_seatHolders x, bd_v, zi_l (by omega) (by omega), show zl (aSeat D) * 1000000 = zl (aSeat D * 1000000) from zl_mul _ 1000000]
  have L : lpP (l_X0_emptySeats_13 a h) FU (zl (aSeat D * 1000000), 0) = some (zl (aEmpty D e)) := by
    refine lpP_for D.K (fun i => (zl (aSeat D * 1000000 - zs (qFull D e) i), zi i)) (by omega) ?_ ?_ ?_
    · rw [zs_0, Int.sub_zero]; rfl
    · intro i hi
      unfold l_X0_emptySeats_13 j_X0_emptySeats_55_13
      dsimp only
      rw [x.t13, bd_v, if_pos x.tl.l0, x.ch.1.2.2.2.1, if_neg (by rw [zi_le (by omega) (by omega) (by omega) (by omega)]; omega), c_hasSeat x rfl hi, bd_v, show zi (i : Int) + 1 = zi ((i + 1 : Nat) : Int) from (by first | (simp only [zi_lit, zi_neg, zi_add, zi_sub, zi_mul, zl_lit, zl_neg, zl_add, zl_sub, zl_mul, zl_i]; exact congrArg zi (by omega)) | (simp only [zi_lit, zi_neg, zi_add, zi_sub, zi_mul, zl_lit, zl_neg, zl_add, zl_sub, zl_mul, zl_i]; done) | exact congrArg zi (by omega)), zs_s]
      by_cases q : dB D i = 1 ∨ dB D i = 4
      · have eq : qFull D e i = D.Q i 0 * cf D i (dB D i) e / 1000 := by unfold qFull; rw [if_pos q]
        rw [if_pos q, if_neg one_ne, at_ok i (n := 6) rfl rfl (by omega), bd_v, x.c.2.2 i hi, c_fullOf x.wf x.c rfl rfl ha hi (dB_lt D i) he, bd_v, zl_sub, eq]
        exact congrArg (fun z => some (Sum.inl (zl z, _))) (by omega)
      · have eq : qFull D e i = 0 := by unfold qFull; rw [if_neg q]
        rw [if_neg q, if_pos rfl, eq, show zl (aSeat D * 1000000 - zs (qFull D e) i) - 0 = zl (aSeat D * 1000000 - zs (qFull D e) i - 0) from zl_sub _ 0]
        exact congrArg (fun z => some (Sum.inl (zl z, _))) (by omega)
    · unfold l_X0_emptySeats_13
      dsimp only
      rw [x.t13, bd_v, if_pos x.tl.l0, x.ch.1.2.2.2.1, if_pos (by rw [zi_le (by omega) (by omega) (by omega) (by omega)]; omega)]
      rfl
  rw [L, bd_v]
theorem r_againL (x : IVd D T h) {e : Nat} {p1 p2 p3 : Int32} (h1 : p1 = zi e) (he : e < D.N) : lpH (l_X10_again_57 p1 p2 p3) FU (0, 0, 0, 0) h = some ((zl (aSeat D), zl (zs (qFull D e) D.K), zl (zs (qDoor D e) D.K)), h) := by
  have hK := x.wf.K6
  subst h1
  refine lpH_for D.K (fun i => (zl (zs (qSeat D) i), zl (zs (qFull D e) i), zl (zs (qDoor D e) i), zi i)) (by omega) rfl ?_ ?_
  · intro i hi
    have bm := (x.wf.q i hi).1
    have bc := cf_b x.wf (t := dB D i) hi he
    have m := mul_b bm.1 bm.2 bc.1 bc.2
    have hb := dB_lt D i
    unfold l_X10_again_57
    dsimp only
    rw [x.rh.1.2.2.2.1, if_neg (by rw [zi_le (by omega) (by omega) (by omega) (by omega)]; omega), x.buys rfl hi, bd_v, r_of x.wf x.rh rfl (w := 0) ((show (0 : Int32) = zi 0 from zi_lit 0)) hi (by decide), bd_v, r_comingG x.wf x.rh x.r.g (dG_ok x.wf) rfl rfl hi he, bd_v, ldivF_ok (a := D.Q i 0 * cf D i (dB D i) e) (b := 1000) (by rw [zi_l (by omega) (by omega), zl_mul]) (zl_lit _) m.1 (by omega) (by omega) (by omega), bd_v]
    have fin : ∀ (v0 v1 v2 w0 w1 w2 : Int64), w0 = v0 → w1 = v1 → w2 = v2 → some ((Sum.inl (v0, v1, v2, zi (i : Int) + 1) : (Int64 × Int64 × Int64 × Int32) ⊕ (Int64 × Int64 × Int64)), h) = some (Sum.inl (w0, w1, w2, zi ((i + 1 : Nat) : Int)), h) := by
      rintro v0 v1 v2 w0 w1 w2 rfl rfl rfl
      rw [show zi (i : Int) + 1 = zi ((i + 1 : Nat) : Int) from (by first | (simp only [zi_lit, zi_neg, zi_add, zi_sub, zi_mul, zl_lit, zl_neg, zl_add, zl_sub, zl_mul, zl_i]; exact congrArg zi (by omega)) | (simp only [zi_lit, zi_neg, zi_add, zi_sub, zi_mul, zl_lit, zl_neg, zl_add, zl_sub, zl_mul, zl_i]; done) | exact congrArg zi (by omega))]
    have z0 : (0 : Int64) = zl 0 := rfl
    have eS : zs (qSeat D) (i + 1) = zs (qSeat D) i + (if dB D i = 1 ∨ dB D i = 4 then D.Q i 0 else 0) := rfl
    have eF : zs (qFull D e) (i + 1) = zs (qFull D e) i + (if dB D i = 1 ∨ dB D i = 4 then D.Q i 0 * cf D i (dB D i) e / 1000 else 0) := rfl
    have eD : zs (qDoor D e) (i + 1) = zs (qDoor D e) i + (if dB D i = 0 then D.Q i 0 * cf D i (dB D i) e / 1000 else 0) := rfl
    by_cases q0 : dB D i = 0
    · rw [if_pos (by rw [q0]; rfl)]
      unfold j_X10_again_109_57 j_X10_again_132_57 j_X10_again_161_57
      rw [if_neg (zi_nk ((show (1 : Int32) = zi 1 from zi_lit 1)) (by omega) (by omega) (by omega)), if_neg (zi_nk ((show (4 : Int32) = zi 4 from zi_lit 4)) (by omega) (by omega) (by omega)), if_neg (zi_nk ((show (1 : Int32) = zi 1 from zi_lit 1)) (by omega) (by omega) (by omega)), if_neg (zi_nk ((show (4 : Int32) = zi 4 from zi_lit 4)) (by omega) (by omega) (by omega))]
      refine fin _ _ _ _ _ _ ?_ ?_ ?_
      · rw [z0, zl_add]; refine congrArg zl ?_; rw [eS, if_neg (by omega)]
      · rw [z0, zl_add]; refine congrArg zl ?_; rw [eF, if_neg (by omega)]
      · rw [zl_add]; refine congrArg zl ?_; rw [eD, if_pos q0]
    · rw [if_neg (zi_nk ((show (0 : Int32) = zi 0 from zi_lit 0)) (by omega) (by omega) (by omega))]
      by_cases q1 : dB D i = 1 ∨ dB D i = 4
      · have r1 : j_X10_again_109_57 (zi (e : Int)) p2 p3 (zl (zs (qSeat D) i)) (zl (zs (qFull D e) i)) (zi i) (zi (dB D i)) (zl (D.Q i 0 * cf D i (dB D i) e / 1000)) 0 (zl (zs (qDoor D e) i)) h = j_X10_again_126_57 (zi (e : Int)) p2 p3 (zl (zs (qSeat D) i)) (zl (zs (qDoor D e) i) + 0) (zi i) (zi (dB D i)) (zl (D.Q i 0 * cf D i (dB D i) e / 1000)) (zl (zs (qFull D e) i)) h := by
          unfold j_X10_again_109_57
          rcases q1 with q1 | q1
          · rw [if_pos (by rw [q1]; rfl)]
          · rw [if_neg (zi_nk ((show (1 : Int32) = zi 1 from zi_lit 1)) (by omega) (by omega) (by omega)), if_pos (by rw [q1]; rfl)]
        have r2 : ∀ v6 v8 : Int64, j_X10_again_132_57 (zi (e : Int)) p2 p3 (zl (zs (qSeat D) i)) v8 (zi i) (zi (dB D i)) v6 (zl (zs (qFull D e) i)) h = j_X10_again_149_57 (zi (e : Int)) p2 p3 (zl (zs (qFull D e) i) + v6) v8 (zi i) (zl (zs (qSeat D) i)) h := by
          intro v6 v8
          unfold j_X10_again_132_57
          rcases q1 with q1 | q1
          · rw [if_pos (by rw [q1]; rfl)]
          · rw [if_neg (zi_nk ((show (1 : Int32) = zi 1 from zi_lit 1)) (by omega) (by omega) (by omega)), if_pos (by rw [q1]; rfl)]
        rw [r1]
        unfold j_X10_again_126_57
        rw [r2]
        unfold j_X10_again_149_57 j_X10_again_161_57
        rw [r_of x.wf x.rh rfl (w := 0) ((show (0 : Int32) = zi 0 from zi_lit 0)) hi (by decide), bd_v, zi_l (by omega) (by omega)]
        refine fin _ _ _ _ _ _ ?_ ?_ ?_
        · rw [zl_add]; refine congrArg zl ?_; rw [eS, if_pos q1]
        · rw [zl_add]; refine congrArg zl ?_; rw [eF, if_pos q1]
        · rw [z0, zl_add]; refine congrArg zl ?_; rw [eD, if_neg q0]
      · unfold j_X10_again_109_57 j_X10_again_132_57 j_X10_again_161_57
        rw [if_neg (zi_nk ((show (1 : Int32) = zi 1 from zi_lit 1)) (by omega) (by omega) (by omega)), if_neg (zi_nk ((show (4 : Int32) = zi 4 from zi_lit 4)) (by omega) (by omega) (by omega)), if_neg (zi_nk ((show (1 : Int32) = zi 1 from zi_lit 1)) (by omega) (by omega) (by omega)), if_neg (zi_nk ((show (4 : Int32) = zi 4 from zi_lit 4)) (by omega) (by omega) (by omega))]
        refine fin _ _ _ _ _ _ ?_ ?_ ?_
        · rw [z0, zl_add]; refine congrArg zl ?_; rw [eS, if_neg q1]
        · rw [z0, zl_add]; refine congrArg zl ?_; rw [eF, if_neg q1]
        · rw [z0, zl_add]; refine congrArg zl ?_; rw [eD, if_neg q0]
  · unfold l_X10_again_57
    dsimp only
    rw [x.rh.1.2.2.2.1, if_pos (by rw [zi_le (by omega) (by omega) (by omega) (by omega)]; omega)]
    rfl
def aSold (D : HD) (e : Nat) : Int := if aEmpty D e < aTurn D e then aEmpty D e else aTurn D e
def aAns (D : HD) (e : Nat) (b w : Int) : Int := if w = 0 then aSold D e else if w = 1 then aSold D e * (D.E e 1 - b) / 1000 else if w = 2 then aTurn D e else aEmpty D e
theorem g_again (x : IVd D T h) (a0 a1 a2 : Int32) : ag Int32.toInt64 (s_L_again (some 0) a0 a1 a2 (some 277) h) (s_X10_again a0 a1 a2) := by
  obtain ⟨a, rfl, ha1, ha2⟩ := zi_of a0
  obtain ⟨b, rfl, hb1, hb2⟩ := zi_of a1
  obtain ⟨w, rfl, hw1, hw2⟩ := zi_of a2
  have hN := x.wf.N16
  by_cases q1 : 0 ≤ a ∧ a < D.N
  · have ea : zi a = zi (a.toNat : Nat) := congrArg zi (by omega)
    have he : a.toNat < D.N := by omega
    by_cases q2 : 0 ≤ w ∧ w ≤ 3
    · by_cases q3 : 0 ≤ b ∧ b ≤ 999
      · have zb := zq_b x.wf he D.K (Nat.le_refl _)
        have hs : aSeat D = zs (qSeat D) D.K := rfl
        have hc := x.wf.c.1
        have bE := (x.wf.e a.toNat he).2.1
        have bT : 0 ≤ aTurn D a.toNat ∧ aTurn D a.toNat ≤ 2400000000 := by
          have bfree : 0 ≤ aFree D ∧ aFree D ≤ 400000000 := by unfold aFree mz; split <;> omega
          unfold aTurn mz
          split <;> omega
        have bM : -2400000000 ≤ aEmpty D a.toNat ∧ aEmpty D a.toNat ≤ 2400000000 := by unfold aEmpty; omega
        have bS : -2400000000 ≤ aSold D a.toNat ∧ aSold D a.toNat ≤ 2400000000 := by unfold aSold; split <;> omega
        have bP : -1000000000000000 ≤ aSold D a.toNat * (D.E a.toNat 1 - b) ∧ aSold D a.toNat * (D.E a.toNat 1 - b) ≤ 1000000000000000 := by
          have h1 := mul_b (a := aSold D a.toNat + 2400000000) (A := 4800000000) (b := D.E a.toNat 1 - b + 999) (B := 1998) (by omega) (by omega) (by omega) (by omega)
          have h2 : (aSold D a.toNat + 2400000000) * (D.E a.toNat 1 - b + 999) = aSold D a.toNat * (D.E a.toNat 1 - b) + aSold D a.toNat * 999 + 2400000000 * (D.E a.toNat 1 - b) + 2400000000 * 999 := by
            rw [Int.add_mul, Int.mul_add, Int.mul_add]
            omega
          omega
        refine ag_v (v := (zi (aAns D a.toNat b w)).toInt64) x ?_ ?_
        · have es : (if zl (aEmpty D a.toNat) < zl (aTurn D a.toNat) then zl (aEmpty D a.toNat) else zl (aTurn D a.toNat)) = zl (aSold D a.toNat) := by
            unfold aSold
            by_cases q : aEmpty D a.toNat < aTurn D a.toNat
            · rw [if_pos (by rw [zl_lt (by omega) (by omega) (by omega) (by omega)]; exact q), if_pos q]
            · rw [if_neg (by rw [zl_lt (by omega) (by omega) (by omega) (by omega)]; exact q), if_neg q]
          unfold s_L_again s_X9_again
          rw [if_pos rfl, c_needE x rfl ha1 ha2, if_pos q1, bd_v, sm_l, c_needW rfl ((show (3 : Int32) = zi 3 from zi_lit 3)) hw1 hw2 (by decide) (by decide), if_pos q2, bd_v, sm_l, if_neg (by rw [(show (0 : Int32) = zi 0 from zi_lit 0), zi_lt (by omega) (by omega) (by omega) (by omega)]; omega), if_pos (by rw [(show (999 : Int32) = zi 999 from zi_lit 999), zi_le (by omega) (by omega) (by omega) (by omega)]; omega), c_turned x ea he, bd_v, c_empty x ea he, bd_v, es]
          unfold aAns
          by_cases w0 : w = 0
          · rw [if_pos (by rw [w0]; rfl), if_pos w0, zl_i, bd_v, sm_l]
            exact hl_v rfl
          · rw [if_neg (zi_nk ((show (0 : Int32) = zi 0 from zi_lit 0)) w0 hw1 hw2), if_neg w0]
            by_cases w1 : w = 1
            · rw [if_pos (by rw [w1]; rfl), if_pos w1, x.t8, bd_v, if_pos x.tl.l0, c_ofE x.wf x.tl x.ch ea (w := 1) ((show (1 : Int32) = zi 1 from zi_lit 1)) he (by decide), bd_v, c_floor bP.1 bP.2 (by rw [zi_sub, zi_l (by omega) (by omega), zl_mul]) rfl, bd_v, zl_i, bd_v, sm_l]
              exact hl_v rfl
            · rw [if_neg (zi_nk ((show (1 : Int32) = zi 1 from zi_lit 1)) w1 hw1 hw2), if_neg w1]
              by_cases w2 : w = 2
              · rw [if_pos (by rw [w2]; rfl), if_pos w2, zl_i, bd_v, sm_l]
                exact hl_v rfl
              · rw [if_neg (zi_nk ((show (2 : Int32) = zi 2 from zi_lit 2)) w2 hw1 hw2), if_neg w2, zl_i, bd_v, sm_l]
                exact hl_v rfl
        · have y := x.o (zi (aAns D a.toNat b w)).toInt64
          refine zw_e (z := (zi (aAns D a.toNat b w), _)) ?_ ⟨rfl, g0_z, frz _⟩
          generalize sL h 277 0 (zi (aAns D a.toNat b w)).toInt64 = H at *
          -- from the three numbers on
          have tail : zw (j_X10_again_244 (zi a) (zi b) (zi w) (zl (aTurn D a.toNat)) (zl (aEmpty D a.toNat)) (zl (aSold D a.toNat)) (sI H 240 0 0)) (fun r => r = (zi (aAns D a.toNat b w), sI H 240 0 0)) := by
            unfold j_X10_again_244 aAns
            by_cases w1 : w = 1
            · refine zw_t (by rw [w1]; rfl) ?_
              refine zw_bd1 (r_E y.z.wf y.z.rh a.toNat 1 (by rw [ea]; exact (by first | (simp only [zi_lit, zi_neg, zi_add, zi_sub, zi_mul, zl_lit, zl_neg, zl_add, zl_sub, zl_mul, zl_i]; exact congrArg zi (by omega)) | (simp only [zi_lit, zi_neg, zi_add, zi_sub, zi_mul, zl_lit, zl_neg, zl_add, zl_sub, zl_mul, zl_i]; done) | exact congrArg zi (by omega))) he (by decide)) ?_
              refine zw_bd1 (r_floor bP.1 bP.2 (by rw [zi_sub, zi_l (by omega) (by omega), zl_mul]) rfl) ?_
              refine zw_some ?_
              rw [zl_i, if_neg (by omega), if_pos w1]
            · refine zw_f (zi_nk ((show (1 : Int32) = zi 1 from zi_lit 1)) w1 hw1 hw2) ?_
              by_cases w0 : w = 0
              · refine zw_t (by rw [w0]; rfl) (zw_some ?_)
                rw [zl_i, if_pos w0]
              · refine zw_f (zi_nk ((show (0 : Int32) = zi 0 from zi_lit 0)) w0 hw1 hw2) ?_
                by_cases w2 : w = 2
                · refine zw_t (by rw [w2]; rfl) (zw_some ?_)
                  rw [zl_i, if_neg w0, if_neg w1, if_pos w2]
                · refine zw_f (zi_nk ((show (2 : Int32) = zi 2 from zi_lit 2)) w2 hw1 hw2) (zw_some ?_)
                  rw [zl_i, if_neg w0, if_neg w1, if_neg w2]
          have mid : ∀ k0 : Int64, k0 = zl (aTurn D a.toNat) → zw (j_X10_again_216 (zi a) (zi b) (zi w) (zl (aSeat D)) (zl (zs (qFull D a.toNat) D.K)) k0 (sI H 240 0 0)) (fun r => r = (zi (aAns D a.toNat b w), sI H 240 0 0)) := by
            rintro k0 rfl
            have em : zl (aSeat D) * 1000000 - zl (zs (qFull D a.toNat) D.K) = zl (aEmpty D a.toNat) := by
              rw [show zl (aSeat D) * 1000000 = zl (aSeat D * 1000000) from zl_mul _ 1000000, zl_sub]
              rfl
            unfold j_X10_again_216
            rw [em]
            by_cases q : aEmpty D a.toNat ≤ aTurn D a.toNat
            · refine zw_t (by rw [zl_le (by omega) (by omega) (by omega) (by omega)]; exact q) ?_
              have e1 : aSold D a.toNat = aEmpty D a.toNat := by unfold aSold; split <;> omega
              rw [e1] at tail
              exact tail
            · refine zw_f (by rw [zl_le (by omega) (by omega) (by omega) (by omega)]; exact q) ?_
              have e1 : aSold D a.toNat = aTurn D a.toNat := by unfold aSold; split <;> omega
              rw [e1] at tail
              exact tail
          have top : ∀ k0 : Int64, k0 = zl (aFree D) → zw (j_X10_again_197 (zi a) (zi b) (zi w) (zl (aSeat D)) (zl (zs (qFull D a.toNat) D.K)) (zl (zs (qDoor D a.toNat) D.K)) k0 (sI H 240 0 0)) (fun r => r = (zi (aAns D a.toNat b w), sI H 240 0 0)) := by
            rintro k0 rfl
            have bfree : 0 ≤ aFree D ∧ aFree D ≤ 400000000 := by unfold aFree mz; split <;> omega
            unfold j_X10_again_197
            by_cases q : zs (qDoor D a.toNat) D.K ≤ aFree D
            · refine zw_t (by rw [zl_le (by omega) (by omega) (by omega) (by omega)]; exact q) (mid _ ?_)
              unfold aTurn mz
              rw [if_neg (by omega)]
              rfl
            · refine zw_f (by rw [zl_le (by omega) (by omega) (by omega) (by omega)]; exact q) (mid _ ?_)
              unfold aTurn mz
              rw [if_pos (by omega), zl_sub]
          unfold s_X10_again
          refine zw_bd1 (r_isE y.z.rh hN rfl ha1 ha2 g0_z) ?_
          rw [if_pos q1]
          refine zw_f one_ne ?_
          refine zw_bd1 (r_within rfl ((show (0 : Int32) = zi 0 from zi_lit 0)) ((show (3 : Int32) = zi 3 from zi_lit 3)) hw1 hw2 (by decide) (by decide) (by decide) (by decide)) ?_
          refine zw_bd1 (r_right rfl g0_z (by decide)) ?_
          rw [if_pos (decide_eq_true q2)]
          refine zw_f one_ne ?_
          refine zw_bd1 (r_within rfl ((show (0 : Int32) = zi 0 from zi_lit 0)) ((show (999 : Int32) = zi 999 from zi_lit 999)) hb1 hb2 (by decide) (by decide) (by decide) (by decide)) ?_
          refine zw_bd1 (r_right rfl g0_z (by decide)) ?_
          rw [if_pos (decide_eq_true q3)]
          refine zw_f one_ne ?_
          refine zw_bd1 (r_againL y.z ea he) ?_
          dsimp only
          rw [y.z.rh.1.1, zi_l (by omega) (by omega)]
          by_cases q : aSeat D ≤ D.ch
          · refine zw_t (by rw [zl_le (by omega) (by omega) (by omega) (by omega)]; exact q) (top _ ?_)
            rw [zl_sub, show zl (D.ch - aSeat D) * 1000000 = zl ((D.ch - aSeat D) * 1000000) from zl_mul _ 1000000]
            unfold aFree mz
            refine congrArg zl ?_
            split <;> omega
          · refine zw_f (by rw [zl_le (by omega) (by omega) (by omega) (by omega)]; exact q) (top _ ?_)
            unfold aFree mz
            rw [if_neg (by omega)]
            rfl
      · refine ag_t (k := 2) (b := 0) x ?_ (by decide) ?_
        · unfold s_L_again s_X9_again j_X9_again_22
          rw [if_pos rfl, c_needE x rfl ha1 ha2, if_pos q1, bd_v, sm_l, c_needW rfl ((show (3 : Int32) = zi 3 from zi_lit 3)) hw1 hw2 (by decide) (by decide), if_pos q2, bd_v, sm_l]
          by_cases q4 : b < 0
          · rw [if_pos (by rw [(show (0 : Int32) = zi 0 from zi_lit 0), zi_lt (by omega) (by omega) (by omega) (by omega)]; exact q4)]
            rfl
          · rw [if_neg (by rw [(show (0 : Int32) = zi 0 from zi_lit 0), zi_lt (by omega) (by omega) (by omega) (by omega)]; exact q4), if_neg (by rw [(show (999 : Int32) = zi 999 from zi_lit 999), zi_le (by omega) (by omega) (by omega) (by omega)]; omega)]
            rfl
        · refine zw_o ?_
          unfold s_X10_again
          refine zw_bd1 (r_isE x.z.rh hN rfl ha1 ha2 g0_z) ?_
          rw [if_pos q1]
          refine zw_f one_ne ?_
          refine zw_bd1 (r_within rfl ((show (0 : Int32) = zi 0 from zi_lit 0)) ((show (3 : Int32) = zi 3 from zi_lit 3)) hw1 hw2 (by decide) (by decide) (by decide) (by decide)) ?_
          refine zw_bd1 (r_right rfl g0_z (by decide)) ?_
          rw [if_pos (decide_eq_true q2)]
          refine zw_f one_ne ?_
          refine zw_bd1 (r_within rfl ((show (0 : Int32) = zi 0 from zi_lit 0)) ((show (999 : Int32) = zi 999 from zi_lit 999)) hb1 hb2 (by decide) (by decide) (by decide) (by decide)) ?_
          refine zw_bd1 (r_right rfl g0_z (by decide)) ?_
          rw [if_neg (fun z => q3 (of_decide_eq_true z))]
          exact zw_t rfl (zw_some rfl)
    · refine ag_t (k := 1) (b := 0) x ?_ (by decide) ?_
      · unfold s_L_again s_X9_again
        rw [if_pos rfl, c_needE x rfl ha1 ha2, if_pos q1, bd_v, sm_l, c_needW rfl ((show (3 : Int32) = zi 3 from zi_lit 3)) hw1 hw2 (by decide) (by decide), if_neg q2]
        rfl
      · refine zw_o ?_
        unfold s_X10_again
        refine zw_bd1 (r_isE x.z.rh hN rfl ha1 ha2 g0_z) ?_
        rw [if_pos q1]
        refine zw_f one_ne ?_
        refine zw_bd1 (r_within rfl ((show (0 : Int32) = zi 0 from zi_lit 0)) ((show (3 : Int32) = zi 3 from zi_lit 3)) hw1 hw2 (by decide) (by decide) (by decide) (by decide)) ?_
        refine zw_bd1 (r_right rfl g0_z (by decide)) ?_
        rw [if_neg (fun z => q2 (of_decide_eq_true z))]
        exact zw_t rfl (zw_some rfl)
  · refine ag_t (k := 1) (b := 0) x ?_ (by decide) ?_
    · unfold s_L_again s_X9_again
      rw [if_pos rfl, c_needE x rfl ha1 ha2, if_neg q1]
      rfl
    · refine zw_o ?_
      unfold s_X10_again
      refine zw_bd1 (r_isE x.z.rh hN rfl ha1 ha2 g0_z) ?_
      rw [if_neg q1]
      exact zw_t rfl (zw_some rfl)
end
