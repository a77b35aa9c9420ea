/-! 84.seat: a kind takes its seats -/
/-- how many are left to seat, the row's number by rank, its seats that are free -/
abbrev SS : Type := Int × Nat × Int
def tkn (s : SS) : Int := if s.2.2 < s.1 then s.2.2 else s.1
abbrev sGo (R : Nat) (s : SS) : Prop := 0 < s.1 ∧ s.2.1 < R
def sNx (S : Nat → Int) (s : SS) : SS := if s.2.2 - tkn s = 0 then (s.1 - tkn s, s.2.1 + 1, S (s.2.1 + 1)) else (s.1 - tkn s, s.2.1, s.2.2 - tkn s)
def sSt (R : Nat) (S : Nat → Int) (s : SS) : SS := if 0 < s.1 ∧ s.2.1 < R then sNx S s else s
def sGn (R : Nat) (G : Nat → Int) (s : SS) : Int := if 0 < s.1 ∧ s.2.1 < R then tkn s * G s.2.1 else 0
def itS (R : Nat) (S : Nat → Int) (s : SS) : Nat → SS
  | 0 => s
  | n + 1 => sSt R S (itS R S s n)
theorem itS_s (R : Nat) (S : Nat → Int) (s : SS) (n : Nat) : itS R S s (n + 1) = sSt R S (itS R S s n) := rfl
/-- what n turns gain -/
def gnS (R : Nat) (S G : Nat → Int) (s : SS) (n : Nat) : Int := zs (fun i => sGn R G (itS R S s i)) n
theorem gnS_s (R : Nat) (S G : Nat → Int) (s : SS) (n : Nat) : gnS R S G s (n + 1) = gnS R S G s n + sGn R G (itS R S s n) := rfl
/-- numbers as they should be -/
def sB (R : Nat) (s : SS) : Prop := (0 ≤ s.1 ∧ s.1 ≤ 400) ∧ s.2.1 ≤ R ∧ (s.2.1 < R → 1 ≤ s.2.2 ∧ s.2.2 ≤ 400)
theorem sNx_1 {S : Nat → Int} {s : SS} : (sNx S s).1 = s.1 - tkn s := by
  unfold sNx
  split <;> rfl
theorem sSt_b {R : Nat} {S : Nat → Int} {s : SS} (hS : ∀ r, r < R → 1 ≤ S r ∧ S r ≤ 400) (b : sB R s) : sB R (sSt R S s) := by
  unfold sSt
  by_cases q : 0 < s.1 ∧ s.2.1 < R
  · rw [if_pos q]
    obtain ⟨⟨b1, b2⟩, b3, b4⟩ := b
    have b5 := b4 q.2
    have t1 : 1 ≤ tkn s ∧ tkn s ≤ s.1 ∧ tkn s ≤ s.2.2 := by unfold tkn; split <;> omega
    unfold sNx
    by_cases q2 : s.2.2 - tkn s = 0
    · rw [if_pos q2]
      exact ⟨⟨by show 0 ≤ s.1 - tkn s; omega, by show s.1 - tkn s ≤ 400; omega⟩, by show s.2.1 + 1 ≤ R; omega, fun z => hS _ z⟩
    · rw [if_neg q2]
      exact ⟨⟨by show 0 ≤ s.1 - tkn s; omega, by show s.1 - tkn s ≤ 400; omega⟩, b3, fun _ => ⟨by show 1 ≤ s.2.2 - tkn s; omega, by show s.2.2 - tkn s ≤ 400; omega⟩⟩
  · rw [if_neg q]; exact b
theorem itS_b {R : Nat} {S : Nat → Int} {s : SS} (hS : ∀ r, r < R → 1 ≤ S r ∧ S r ≤ 400) (b : sB R s) : ∀ n, sB R (itS R S s n) := by
  intro n
  induction n with
  | zero => exact b
  | succ n ih => exact sSt_b hS ih
/-- each turn seats all or fills a row -/
theorem itS_go {R : Nat} {S : Nat → Int} {s : SS} : ∀ n, ¬ sGo R (itS R S s n) ∨ (itS R S s n).2.1 = s.2.1 + n := by
  intro n
  induction n with
  | zero => exact Or.inr rfl
  | succ n ih =>
    rw [itS_s]
    unfold sSt
    by_cases q : 0 < (itS R S s n).1 ∧ (itS R S s n).2.1 < R
    · rw [if_pos q]
      rcases ih with ih | ih
      · exact absurd q ih
      · unfold sNx tkn
        by_cases q2 : (itS R S s n).2.2 < (itS R S s n).1
        · rw [if_pos q2, if_pos (by omega)]
          right
          show (itS R S s n).2.1 + 1 = _
          omega
        · rw [if_neg q2]
          left
          split
          · rintro ⟨z, -⟩
            have z' : 0 < (itS R S s n).1 - (itS R S s n).1 := z
            omega
          · rintro ⟨z, -⟩
            have z' : 0 < (itS R S s n).1 - (itS R S s n).1 := z
            omega
    · rw [if_neg q]
      exact Or.inl q
theorem itS_stop {R : Nat} {S : Nat → Int} {s : SS} (hR : R ≤ 4) : ¬ sGo R (itS R S s 4) := by
  rcases itS_go (R := R) (S := S) (s := s) 4 with q | q
  · exact q
  · rintro ⟨-, z⟩
    omega
theorem itS_fix {R : Nat} {S : Nat → Int} {s : SS} {n : Nat} (h : ¬ sGo R (itS R S s n)) : ∀ d, itS R S s (n + d) = itS R S s n := by
  intro d
  induction d with
  | zero => rfl
  | succ d ih =>
    rw [← Nat.add_assoc, itS_s, ih]
    unfold sSt
    exact if_neg h
theorem gnS_fix {R : Nat} {S G : Nat → Int} {s : SS} {n : Nat} (h : ¬ sGo R (itS R S s n)) : ∀ d, gnS R S G s (n + d) = gnS R S G s n := by
  intro d
  induction d with
  | zero => rfl
  | succ d ih =>
    rw [← Nat.add_assoc, gnS_s, ih, itS_fix h d]
    unfold sGn
    rw [if_neg h, Int.add_zero]
theorem sGn_b {R : Nat} {G : Nat → Int} {s : SS} (hG : ∀ r, r < R → 0 ≤ G r ∧ G r ≤ 1584000) (b : sB R s) : 0 ≤ sGn R G s ∧ sGn R G s ≤ 633600000 := by
  unfold sGn
  by_cases q : 0 < s.1 ∧ s.2.1 < R
  · rw [if_pos q]
    have b5 := b.2.2 q.2
    have t1 : 0 ≤ tkn s ∧ tkn s ≤ 400 := by unfold tkn; have := b.1; split <;> omega
    have g := hG _ q.2
    exact mul_b t1.1 t1.2 g.1 g.2
  · rw [if_neg q]; decide
theorem gnS_b {R : Nat} {S G : Nat → Int} {s : SS} (hS : ∀ r, r < R → 1 ≤ S r ∧ S r ≤ 400) (hG : ∀ r, r < R → 0 ≤ G r ∧ G r ≤ 1584000) (b : sB R s) : 0 ≤ gnS R S G s 4 ∧ gnS R S G s 4 ≤ 2534400000 := by
  refine ⟨zs_nn (fun i _ => (sGn_b hG (itS_b hS b i)).1), ?_⟩
  have := zs_le (f := fun i => sGn R G (itS R S s i)) (n := 4) (fun i _ => (sGn_b hG (itS_b hS b i)).2)
  unfold gnS
  omega
/-- the seats by rank, what a seat gains whom g come -/
abbrev dSr (D : HD) : Nat → Int := fun r => D.S (dO D r) 0
abbrev dGr (D : HD) (g : Int) : Nat → Int := fun r => D.S (dO D r) 1 * g / 1000000
theorem dO_lt {D : HD} (hD : WFD D) {r : Nat} (hr : r < D.R) : dO D r < D.R := (srt_ok (dA D) hD.R4 hr).1
theorem dO_in {D : HD} (hD : WFD D) {r u : Nat} (hr : r < D.R) (hu : u < D.R) (h : dO D r = dO D u) : r = u := by
  have h1 := (srt_ok (dA D) hD.R4 hr).2.2.1
  have h2 := (srt_ok (dA D) hD.R4 hu).2.2.1
  rw [← h1, ← h2]
  show plc (ltA (dA D)) (dO D r) D.R = plc (ltA (dA D)) (dO D u) D.R
  rw [h]
theorem dSr_b {D : HD} (hD : WFD D) : ∀ r, r < D.R → 1 ≤ dSr D r ∧ dSr D r ≤ 400 := fun _ hr => (hD.s _ (dO_lt hD hr)).1
theorem dGr_m {D : HD} (hD : WFD D) {g : Int} (hg : 0 ≤ g ∧ g ≤ 16000000000) {r : Nat} (hr : r < D.R) : 0 ≤ D.S (dO D r) 1 * g ∧ D.S (dO D r) 1 * g ≤ 1584000000000 := by
  have a := (hD.s _ (dO_lt hD hr)).2
  exact mul_b (A := 99) (B := 16000000000) a.1 a.2 hg.1 hg.2
theorem dGr_b {D : HD} (hD : WFD D) {g : Int} (hg : 0 ≤ g ∧ g ≤ 16000000000) : ∀ r, r < D.R → 0 ≤ dGr D g r ∧ dGr D g r ≤ 1584000 := fun r hr => by
  have m := dGr_m hD hg hr
  exact div_b (b := 1000000) (by decide) m.1 (by omega)
section
variable {D : HD} {T : Nat} {h : AH} {g : Int}
/-- where the class stands in the rows -/
def CSe (R : Nat) (r : Nat) (f : Int) (h : AH) : Prop := gI h 220 5 = zi r ∧ (r < R → gI h 220 6 = zi f)
theorem c_seatT (hD : WFD D) (hT : TL T) (x : CH D T h) (k : CRk D h) (hg : 0 ≤ g ∧ g ≤ 16000000000) {s : SS} {v : Int} {i : Nat} (b : sB D.R s) (hq : sGo D.R s) (c : CSe D.R s.2.1 s.2.2 h) (hi : i ≤ 4) : zw (l_X6_seat_9 T (zl g) (zl v, zi s.1, zi i) h) (fun y => y.1 = .inl (zl (v + sGn D.R (dGr D g) s), zi (sSt D.R (dSr D) s).1, zi ((i + 1 : Nat) : Int)) ∧ Fr (fun a k => a = 220 ∧ (k = 5 ∨ k = 6)) h y.2 ∧ CSe D.R (sSt D.R (dSr D) s).2.1 (sSt D.R (dSr D) s).2.2 y.2) := by
  have hR := hD.R4
  obtain ⟨⟨b1, b2⟩, b3, b4⟩ := id b
  obtain ⟨q1, q2⟩ := id hq
  have b5 := b4 q2
  have t1 : 1 ≤ tkn s ∧ tkn s ≤ s.1 ∧ tkn s ≤ s.2.2 := by unfold tkn; split <;> omega
  have ol := dO_lt hD q2
  have sa := (hD.s _ ol).2
  have m := dGr_m hD hg q2
  have gb := dGr_b hD hg _ q2
  have c5 := c.1
  have c6 := c.2 q2
  have et : (if zi s.2.2 < zi s.1 then zi s.2.2 else zi s.1) = zi (tkn s) := by
    unfold tkn
    by_cases q3 : s.2.2 < s.1
    · rw [if_pos (by rw [zi_lt (by omega) (by omega) (by omega) (by omega)]; exact q3), if_pos q3]
    · rw [if_neg (by rw [zi_lt (by omega) (by omega) (by omega) (by omega)]; exact q3), if_neg q3]
  unfold l_X6_seat_9
  dsimp only
  refine zw_f (by rw [(show (4 : Int32) = zi 4 from zi_lit 4), zi_lt (by omega) (by omega) (by omega) (by omega)]; omega) ?_
  refine zw_f (by rw [(show (0 : Int32) = zi 0 from zi_lit 0), zi_le (by omega) (by omega) (by omega) (by omega)]; omega) ?_
  refine zw_f (by rw [x.1.2.2.2.2.1, c5, zi_le (by omega) (by omega) (by omega) (by omega)]; omega) ?_
  rw [c5, c6, et]
  refine zw_bd1 (at_ok s.2.1 (n := 4) rfl rfl (by omega)) ?_
  rw [k _ q2]
  refine zw_bd1 (c_adds hD hT x rfl ol) ?_
  refine zw_bd1 (ldivF_ok (a := D.S (dO D s.2.1) 1 * g) (b := 1000000) (by rw [zi_l (by omega) (by omega), zl_mul]) (zl_lit _) m.1 (by omega) (by decide) (by decide)) ?_
  have ev : zl v + (zi (tkn s)).toInt64 * zl (D.S (dO D s.2.1) 1 * g / 1000000) = zl (v + sGn D.R (dGr D g) s) := by
    rw [zi_l (by omega) (by omega), zl_mul, zl_add]
    unfold sGn
    rw [if_pos hq]
  have e1 : zi s.1 - zi (tkn s) = zi (s.1 - tkn s) := zi_sub _ _
  have e6 : zi s.2.2 - zi (tkn s) = zi (s.2.2 - tkn s) := zi_sub _ _
  have ei : zi (i : Int) + 1 = zi ((i + 1 : Nat) : Int) := (by first | (simp only [zi_lit, zi_neg, zi_add, zi_sub, zi_mul, zl_lit, zl_neg, zl_add, zl_sub, zl_mul, zl_i]; exact congrArg zi (by omega)) | (simp only [zi_lit, zi_neg, zi_add, zi_sub, zi_mul, zl_lit, zl_neg, zl_add, zl_sub, zl_mul, zl_i]; done) | exact congrArg zi (by omega))
  rw [ev, e1, e6]
  have es : sSt D.R (dSr D) s = sNx (dSr D) s := by unfold sSt; rw [if_pos hq]
  rw [es]
  have f6 : Fr (fun a k => a = 220 ∧ (k = 5 ∨ k = 6)) h (sI h 220 6 (zi (s.2.2 - tkn s))) := (Fr.refl _ h).sI ⟨rfl, Or.inr rfl⟩
  have r6 : gI (sI h 220 6 (zi (s.2.2 - tkn s))) 220 6 = zi (s.2.2 - tkn s) := by rw [gI_sI, if_pos ⟨rfl, rfl⟩]
  have r5 : gI (sI h 220 6 (zi (s.2.2 - tkn s))) 220 5 = zi s.2.1 := by rw [gI_sI, if_neg (by omega)]; exact c5
  rw [r6, r5]
  generalize sI h 220 6 (zi (s.2.2 - tkn s)) = H at f6 r6 r5 ⊢
  unfold j_X6_seat_133_9
  rw [ei]
  by_cases q3 : s.2.2 - tkn s = 0
  · have en : sNx (dSr D) s = (s.1 - tkn s, s.2.1 + 1, dSr D (s.2.1 + 1)) := by unfold sNx; rw [if_pos q3]
    refine zw_t (by rw [q3]; rfl) ?_
    rw [en]
    have e5 : zi (s.2.1 : Int) + 1 = zi ((s.2.1 + 1 : Nat) : Int) := (by first | (simp only [zi_lit, zi_neg, zi_add, zi_sub, zi_mul, zl_lit, zl_neg, zl_add, zl_sub, zl_mul, zl_i]; exact congrArg zi (by omega)) | (simp only [zi_lit, zi_neg, zi_add, zi_sub, zi_mul, zl_lit, zl_neg, zl_add, zl_sub, zl_mul, zl_i]; done) | exact congrArg zi (by omega))
    rw [e5]
    have f5 : Fr (fun a k => a = 220 ∧ (k = 5 ∨ k = 6)) h (sI H 220 5 (zi ((s.2.1 + 1 : Nat) : Int))) := f6.sI ⟨rfl, Or.inl rfl⟩
    have r5' : gI (sI H 220 5 (zi ((s.2.1 + 1 : Nat) : Int))) 220 5 = zi ((s.2.1 + 1 : Nat) : Int) := by rw [gI_sI, if_pos ⟨rfl, rfl⟩]
    rw [r5']
    generalize sI H 220 5 (zi ((s.2.1 + 1 : Nat) : Int)) = G at f5 r5' ⊢
    have bT := hT.b
    by_cases q4 : s.2.1 + 1 < D.R
    · have x' : CH D T G := x.fr f5 (fun a k h1 h2 => by omega)
      refine zw_bd1 (at_ok (s.2.1 + 1) (n := 4) rfl rfl (by omega)) ?_
      rw [f5.i (by omega), k _ q4]
      refine zw_bd1 (c_seats hD hT x' rfl (dO_lt hD q4)) ?_
      refine zw_some ⟨rfl, f5.sI ⟨rfl, Or.inr rfl⟩, ?_, fun _ => ?_⟩
      · show gI (sI G 220 6 _) 220 5 = _
        rw [gI_sI, if_neg (by omega)]; exact r5'
      · show gI (sI G 220 6 _) 220 6 = _
        rw [gI_sI, if_pos ⟨rfl, rfl⟩]
    · obtain ⟨w1, e7⟩ := at_any (h := G) (a := 223) (n := 4) rfl (zi ((s.2.1 + 1 : Nat) : Int))
      obtain ⟨w2, e8⟩ := at_any (h := G) hT.l5 w1
      refine zw_bd1 e7 (zw_bd1 e8 ?_)
      refine zw_some ⟨rfl, f5.sI ⟨rfl, Or.inr rfl⟩, ?_, fun z => absurd z q4⟩
      show gI (sI G 220 6 _) 220 5 = _
      rw [gI_sI, if_neg (by omega)]; exact r5'
  · have en : sNx (dSr D) s = (s.1 - tkn s, s.2.1, s.2.2 - tkn s) := by unfold sNx; rw [if_neg q3]
    refine zw_f (by rw [(show (0 : Int32) = zi 0 from zi_lit 0), zi_eq (by omega) (by omega) (by omega) (by omega)]; exact q3) ?_
    rw [en]
    exact zw_some ⟨rfl, f6, r5, fun _ => r6⟩
theorem c_seat (hD : WFD D) (hT : TL T) (x : CH D T h) (k : CRk D h) (hg : 0 ≤ g ∧ g ≤ 16000000000) {s : SS} (b : sB D.R s) (c : CSe D.R s.2.1 s.2.2 h) : zw (s_X6_seat (some T) (zi s.1) (zl g) h) (fun y => y.1 = zl (gnS D.R (dSr D) (dGr D g) s 4) ∧ Fr (fun a k => a = 220 ∧ (k = 5 ∨ k = 6)) h y.2 ∧ CSe D.R (itS D.R (dSr D) s 4).2.1 (itS D.R (dSr D) s 4).2.2 y.2) := by
  have hR := hD.R4
  unfold s_X6_seat
  rw [bd_v, if_pos hT.l0]
  refine zw_bd (P := fun y => y.1 = zl (gnS D.R (dSr D) (dGr D g) s 4) ∧ Fr (fun a k => a = 220 ∧ (k = 5 ∨ k = 6)) h y.2 ∧ CSe D.R (itS D.R (dSr D) s 4).2.1 (itS D.R (dSr D) s 4).2.2 y.2) ?_ (fun y hy => zw_some hy)
  refine zw_lp 4 (fun i z h' => i ≤ 4 ∧ z = (zl (gnS D.R (dSr D) (dGr D g) s i), zi (itS D.R (dSr D) s i).1, zi (i : Int)) ∧ Fr (fun a k => a = 220 ∧ (k = 5 ∨ k = 6)) h h' ∧ CSe D.R (itS D.R (dSr D) s i).2.1 (itS D.R (dSr D) s i).2.2 h') (by decide) ⟨by decide, rfl, Fr.refl _ h, c⟩ ?_
  rintro i z h' hi ⟨-, rfl, hf, hc⟩
  have bT := hT.b
  have x' : CH D T h' := x.fr hf (fun a k h1 h2 => by omega)
  have k' : CRk D h' := fun j hj => (hf.i (by omega)).trans (k j hj)
  have bi := itS_b (dSr_b hD) b i
  by_cases q : 0 < (itS D.R (dSr D) s i).1 ∧ (itS D.R (dSr D) s i).2.1 < D.R
  · have hlt : i < 4 := by
      rcases Nat.lt_or_ge i 4 with z | z
      · exact z
      · have : i = 4 := by omega
        subst this
        exact absurd q (itS_stop hR)
    refine zw_mono (c_seatT hD hT x' k' hg bi q hc (by omega)) ?_
    rintro y ⟨e, f2, c2⟩
    exact Or.inl ⟨_, e, hlt, by omega, rfl, hf.trans f2, c2⟩
  · have e4 : itS D.R (dSr D) s 4 = itS D.R (dSr D) s i := by
      have := itS_fix q (4 - i)
      rwa [show i + (4 - i) = 4 by omega] at this
    have g4 : gnS D.R (dSr D) (dGr D g) s 4 = gnS D.R (dSr D) (dGr D g) s i := by
      have := gnS_fix (G := dGr D g) q (4 - i)
      rwa [show i + (4 - i) = 4 by omega] at this
    have fin : ∀ e, e = zl (gnS D.R (dSr D) (dGr D g) s i) → zw (some (Sum.inr e, h')) (fun r : ((Int64 × Int32 × Int32) ⊕ Int64) × AH => (∃ s', r.1 = .inl s' ∧ i < 4 ∧ (i + 1 ≤ 4 ∧ s' = (zl (gnS D.R (dSr D) (dGr D g) s (i + 1)), zi (itS D.R (dSr D) s (i + 1)).1, zi ((i + 1 : Nat) : Int)) ∧ Fr (fun a k => a = 220 ∧ (k = 5 ∨ k = 6)) h r.2 ∧ CSe D.R (itS D.R (dSr D) s (i + 1)).2.1 (itS D.R (dSr D) s (i + 1)).2.2 r.2)) ∨ (∃ e, r.1 = .inr e ∧ (e = zl (gnS D.R (dSr D) (dGr D g) s 4) ∧ Fr (fun a k => a = 220 ∧ (k = 5 ∨ k = 6)) h r.2 ∧ CSe D.R (itS D.R (dSr D) s 4).2.1 (itS D.R (dSr D) s 4).2.2 r.2))) := by
      rintro e rfl
      exact zw_some (Or.inr ⟨_, rfl, by rw [g4], hf, by rw [e4]; exact hc⟩)
    obtain ⟨⟨b1, b2⟩, b3, b4⟩ := id bi
    unfold l_X6_seat_9
    dsimp only
    refine zw_f (by rw [(show (4 : Int32) = zi 4 from zi_lit 4), zi_lt (by omega) (by omega) (by omega) (by omega)]; omega) ?_
    by_cases q2 : (itS D.R (dSr D) s i).1 ≤ 0
    · exact zw_t (by rw [(show (0 : Int32) = zi 0 from zi_lit 0), zi_le (by omega) (by omega) (by omega) (by omega)]; exact q2) (fin _ rfl)
    · refine zw_f (by rw [(show (0 : Int32) = zi 0 from zi_lit 0), zi_le (by omega) (by omega) (by omega) (by omega)]; exact q2) ?_
      exact zw_t (by rw [x'.1.2.2.2.2.1, hc.1, zi_le (by omega) (by omega) (by omega) (by omega)]; omega) (fin _ rfl)
/-- where the reference stands in the rows -/
def RSe (D : HD) (r : Nat) (f : Int) (h : AH) : Prop := (r < D.R → gI h 268 (dO D r) = zi f) ∧ ∀ u, r < u → u < D.R → gI h 268 (dO D u) = zi (dSr D u)
theorem r_seatT (hD : WFD D) (x : RH D h) (k : RRk D h) (hg : 0 ≤ g ∧ g ≤ 16000000000) {s : SS} {v : Int} {kd t : Nat} {p1 p5 : Int32} (b : sB D.R s) (hq : sGo D.R s) (c : RSe D s.2.1 s.2.2 h) (hkt : 5 * kd + t < 30) (h257 : gL h 257 (5 * kd + t) = zl g) : zw (l_X10_gained_88 p1 p5 (zi kd) (zi t) (zl v, zi s.2.1, zi s.1) h) (fun y => y.1 = .inl (zl (v + sGn D.R (dGr D g) s), zi (sSt D.R (dSr D) s).2.1, zi (sSt D.R (dSr D) s).1) ∧ Fr (fun a _ => a = 268) h y.2 ∧ RSe D (sSt D.R (dSr D) s).2.1 (sSt D.R (dSr D) s).2.2 y.2) := by
  have hR := hD.R4
  obtain ⟨⟨b1, b2⟩, b3, b4⟩ := id b
  obtain ⟨q1, q2⟩ := id hq
  have b5 := b4 q2
  have t1 : 1 ≤ tkn s ∧ tkn s ≤ s.1 ∧ tkn s ≤ s.2.2 := by unfold tkn; split <;> omega
  have ol := dO_lt hD q2
  have sa := (hD.s _ ol).2
  have m := dGr_m hD hg q2
  have gb := dGr_b hD hg _ q2
  have c1 := c.1 q2
  have o4 : ∀ {α : Type} {Q : α → Prop} (F : Int32 → Option α), zw (F (zi (dO D s.2.1))) Q → zw (bd (ldI h 267 (zi s.2.1)) F) Q := fun F hF => by
    refine zw_bd1 (ldI_ok s.2.1 (n := 4) rfl rfl (by omega)) ?_
    rw [k _ q2]; exact hF
  have l4 : ∀ {α : Type} {Q : α → Prop} (F : Int32 → Option α), zw (F (zi s.2.2)) Q → zw (bd (ldI h 268 (zi (dO D s.2.1))) F) Q := fun F hF => by
    refine zw_bd1 (ldI_ok (dO D s.2.1) (n := 4) rfl rfl (by omega)) ?_
    rw [c1]; exact hF
  have es : sSt D.R (dSr D) s = sNx (dSr D) s := by unfold sSt; rw [if_pos hq]
  rw [es]
  have take : zw (j_X10_gained_136_88 p1 (zl v) (zi s.2.1) p5 (zi kd) (zi t) (zi s.1) (zi (tkn s)) h) (fun y => y.1 = .inl (zl (v + sGn D.R (dGr D g) s), zi (sNx (dSr D) s).2.1, zi (sNx (dSr D) s).1) ∧ Fr (fun a _ => a = 268) h y.2 ∧ RSe D (sNx (dSr D) s).2.1 (sNx (dSr D) s).2.2 y.2) := by
    unfold j_X10_gained_136_88
    refine o4 _ ?_
    refine zw_bd1 (r_rowS hD x (dO D s.2.1) 1 (by first | (simp only [zi_lit, zi_neg, zi_add, zi_sub, zi_mul, zl_lit, zl_neg, zl_add, zl_sub, zl_mul, zl_i]; exact congrArg zi (by omega)) | (simp only [zi_lit, zi_neg, zi_add, zi_sub, zi_mul, zl_lit, zl_neg, zl_add, zl_sub, zl_mul, zl_i]; done) | exact congrArg zi (by omega)) ol (by decide)) ?_
    refine zw_bd1 (ldL_ok (5 * kd + t) (n := 30) rfl (by first | (simp only [zi_lit, zi_neg, zi_add, zi_sub, zi_mul, zl_lit, zl_neg, zl_add, zl_sub, zl_mul, zl_i]; exact congrArg zi (by omega)) | (simp only [zi_lit, zi_neg, zi_add, zi_sub, zi_mul, zl_lit, zl_neg, zl_add, zl_sub, zl_mul, zl_i]; done) | exact congrArg zi (by omega)) hkt) ?_
    rw [h257]
    refine zw_bd1 (ldivF_ok (a := D.S (dO D s.2.1) 1 * g) (b := 1000000) (by rw [zi_l (by omega) (by omega), zl_mul]) (zl_lit _) m.1 (by omega) (by decide) (by decide)) ?_
    refine o4 _ (l4 _ ?_)
    refine zw_bd1 (stI_ok (dO D s.2.1) (n := 4) rfl rfl (by omega)) ?_
    have ev : zl v + (zi (tkn s)).toInt64 * zl (D.S (dO D s.2.1) 1 * g / 1000000) = zl (v + sGn D.R (dGr D g) s) := by
      rw [zi_l (by omega) (by omega), zl_mul, zl_add]
      unfold sGn
      rw [if_pos hq]
    rw [ev, zi_sub, zi_sub]
    have f1 : Fr (fun a _ => a = 268) h (sI h 268 (dO D s.2.1) (zi (s.2.2 - tkn s))) := (Fr.refl _ h).sI rfl
    have r1 : gI (sI h 268 (dO D s.2.1) (zi (s.2.2 - tkn s))) 268 (dO D s.2.1) = zi (s.2.2 - tkn s) := by rw [gI_sI, if_pos ⟨rfl, rfl⟩]
    have r2 : ∀ u, s.2.1 < u → u < D.R → gI (sI h 268 (dO D s.2.1) (zi (s.2.2 - tkn s))) 268 (dO D u) = zi (dSr D u) := fun u hu1 hu2 => by
      rw [gI_sI, if_neg (fun z => by have := dO_in hD hu2 q2 z.2; omega)]
      exact c.2 u hu1 hu2
    generalize sI h 268 (dO D s.2.1) (zi (s.2.2 - tkn s)) = H at f1 r1 r2 ⊢
    refine zw_bd1 (ldI_ok s.2.1 (n := 4) rfl rfl (by omega)) ?_
    rw [f1.i (by decide), k _ q2]
    refine zw_bd1 (ldI_ok (dO D s.2.1) (n := 4) rfl rfl (by omega)) ?_
    rw [r1]
    unfold j_X10_gained_221_88
    by_cases q3 : s.2.2 - tkn s = 0
    · have en : sNx (dSr D) s = (s.1 - tkn s, s.2.1 + 1, dSr D (s.2.1 + 1)) := by unfold sNx; rw [if_pos q3]
      rw [en]
      refine zw_t (by rw [q3]; rfl) (zw_some ⟨?_, f1, fun z => r2 _ (by show s.2.1 < s.2.1 + 1; omega) z, fun u hu1 hu2 => r2 u (by have : s.2.1 + 1 < u := hu1; omega) hu2⟩)
      rw [show zi (s.2.1 : Int) + 1 = zi ((s.2.1 + 1 : Nat) : Int) from (by first | (simp only [zi_lit, zi_neg, zi_add, zi_sub, zi_mul, zl_lit, zl_neg, zl_add, zl_sub, zl_mul, zl_i]; exact congrArg zi (by omega)) | (simp only [zi_lit, zi_neg, zi_add, zi_sub, zi_mul, zl_lit, zl_neg, zl_add, zl_sub, zl_mul, zl_i]; done) | exact congrArg zi (by omega))]
    · have en : sNx (dSr D) s = (s.1 - tkn s, s.2.1, s.2.2 - tkn s) := by unfold sNx; rw [if_neg q3]
      rw [en]
      exact zw_f (by rw [(show (0 : Int32) = zi 0 from zi_lit 0), zi_eq (by omega) (by omega) (by omega) (by omega)]; exact q3) (zw_some ⟨rfl, f1, fun _ => r1, r2⟩)
  unfold l_X10_gained_88
  dsimp only
  refine zw_f (by rw [(show (0 : Int32) = zi 0 from zi_lit 0), zi_le (by omega) (by omega) (by omega) (by omega)]; omega) ?_
  refine zw_f (by rw [x.1.2.2.2.2.1, zi_le (by omega) (by omega) (by omega) (by omega)]; omega) ?_
  refine o4 _ (l4 _ ?_)
  by_cases q3 : s.2.2 ≤ s.1
  · refine zw_t (by rw [zi_le (by omega) (by omega) (by omega) (by omega)]; exact q3) ?_
    refine o4 _ (l4 _ ?_)
    have : s.2.2 = tkn s := by unfold tkn; split <;> omega
    rw [show zi s.2.2 = zi (tkn s) from congrArg zi this]
    exact take
  · refine zw_f (by rw [zi_le (by omega) (by omega) (by omega) (by omega)]; exact q3) ?_
    have : s.1 = tkn s := by unfold tkn; rw [if_neg (by omega)]
    have e := take
    rw [show zi (tkn s) = zi s.1 from congrArg zi this.symm] at e
    exact e
theorem r_seat (hD : WFD D) (x : RH D h) (k : RRk D h) (hg : 0 ≤ g ∧ g ≤ 16000000000) {s : SS} {v : Int} {kd t : Nat} {p1 p5 : Int32} (b : sB D.R s) (c : RSe D s.2.1 s.2.2 h) (hkt : 5 * kd + t < 30) (h257 : gL h 257 (5 * kd + t) = zl g) : zw (lpH (l_X10_gained_88 p1 p5 (zi kd) (zi t)) FU (zl v, zi s.2.1, zi s.1) h) (fun y => y.1 = (zl (v + gnS D.R (dSr D) (dGr D g) s 4), zi (itS D.R (dSr D) s 4).2.1) ∧ Fr (fun a _ => a = 268) h y.2 ∧ RSe D (itS D.R (dSr D) s 4).2.1 (itS D.R (dSr D) s 4).2.2 y.2) := by
  have hR := hD.R4
  refine zw_lp 4 (fun i z h' => i ≤ 4 ∧ z = (zl (v + gnS D.R (dSr D) (dGr D g) s i), zi (itS D.R (dSr D) s i).2.1, zi (itS D.R (dSr D) s i).1) ∧ Fr (fun a _ => a = 268) h h' ∧ RSe D (itS D.R (dSr D) s i).2.1 (itS D.R (dSr D) s i).2.2 h') (by decide) ⟨by decide, Prod.ext (congrArg zl (Int.add_zero v).symm) rfl, Fr.refl _ h, c⟩ ?_
  rintro i z h' hi ⟨-, rfl, hf, hc⟩
  have x' : RH D h' := x.fr hf (fun a k q => by omega)
  have k' : RRk D h' := fun j hj => (hf.i (by decide)).trans (k j hj)
  have bi := itS_b (dSr_b hD) b i
  by_cases q : 0 < (itS D.R (dSr D) s i).1 ∧ (itS D.R (dSr D) s i).2.1 < D.R
  · have hlt : i < 4 := by
      rcases Nat.lt_or_ge i 4 with z | z
      · exact z
      · have : i = 4 := by omega
        subst this
        exact absurd q (itS_stop hR)
    refine zw_mono (r_seatT hD x' k' hg (v := v + gnS D.R (dSr D) (dGr D g) s i) (kd := kd) (t := t) bi q hc hkt ((hf.l (by decide)).trans h257)) ?_
    rintro y ⟨e, f2, c2⟩
    exact Or.inl ⟨_, e, hlt, by omega, Prod.ext (congrArg zl (Int.add_assoc _ _ _)) rfl, hf.trans f2, c2⟩
  · have e4 : itS D.R (dSr D) s 4 = itS D.R (dSr D) s i := by
      have := itS_fix q (4 - i)
      rwa [show i + (4 - i) = 4 by omega] at this
    have g4 : gnS D.R (dSr D) (dGr D g) s 4 = gnS D.R (dSr D) (dGr D g) s i := by
      have := gnS_fix (G := dGr D g) q (4 - i)
      rwa [show i + (4 - i) = 4 by omega] at this
    obtain ⟨⟨b1, b2⟩, b3, b4⟩ := id bi
    unfold l_X10_gained_88
    dsimp only
    by_cases q2 : (itS D.R (dSr D) s i).1 ≤ 0
    · refine zw_t (by rw [(show (0 : Int32) = zi 0 from zi_lit 0), zi_le (by omega) (by omega) (by omega) (by omega)]; exact q2) (zw_some (Or.inr ⟨_, rfl, by rw [g4, e4], hf, by rw [e4]; exact hc⟩))
    · refine zw_f (by rw [(show (0 : Int32) = zi 0 from zi_lit 0), zi_le (by omega) (by omega) (by omega) (by omega)]; exact q2) ?_
      refine zw_t (by rw [x'.1.2.2.2.2.1, zi_le (by omega) (by omega) (by omega) (by omega)]; omega) (zw_some (Or.inr ⟨_, rfl, by rw [g4, e4], hf, by rw [e4]; exact hc⟩))
end
