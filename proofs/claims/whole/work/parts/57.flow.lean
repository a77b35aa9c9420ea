/-! 57.flow: the class's plan used: how its kind comes -/
def dgo (D : HD) (set : Nat → Int) (k t e n : Nat) : Bool := if t = 2 then (if n ≤ c0 D t then pGo D set k t 2 (D.N - 1 - e) (c0 D t - n) n else false) else pGo D set k t 2 (D.N - 1 - e) 0 n
def dHb (D : HD) (k t th : Nat) : Int := if (t = 1 ∨ t = 4) ∧ th = 1 then D.Q k 4 else 0
abbrev dF (D : HD) (set : Nat → Int) (k t th : Nat) : Nat → Nat → Int := fS (fun e => dC D k e th) (dgo D set k t) (dHb D k t th)
abbrev dCc (D : HD) (set : Nat → Int) (k t th : Nat) : Nat → Nat → Int := fC (fun e => dC D k e th) (dgo D set k t) (dHb D k t th)
abbrev dCome (D : HD) (set : Nat → Int) (k t th : Nat) : Nat → Int := fCome (fun e => dC D k e th) (dgo D set k t) (dHb D k t th)
abbrev dSunk (D : HD) (set : Nat → Int) (k t th : Nat) : Nat → Int := fSunk (fun e => dC D k e th) (dgo D set k t) (dHb D k t th)
theorem dHb_b {D : HD} (hD : WFD D) {k : Nat} (hk : k < D.K) (t th : Nat) : 0 ≤ dHb D k t th ∧ dHb D k t th ≤ 1000 := by
  have := (hD.q k hk).2.2.2.2.1
  unfold dHb
  split <;> omega
theorem d_ok {D : HD} (hD : WFD D) {k t th : Nat} (hk : k < D.K) (hth : th = 1 ∨ th = 2) : fOk D.N (fun e => dC D k e th) (dHb D k t th) := ⟨fun e he => (dC_b hD hk he hth).2.2, dHb_b hD hk t th⟩
theorem dF_b {D : HD} (hD : WFD D) (set : Nat → Int) {k t th : Nat} (hk : k < D.K) (hth : th = 1 ∨ th = 2) {e : Nat} (he : e ≤ D.N) (n : Nat) : 0 ≤ dF D set k t th e n ∧ dF D set k t th e n ≤ 1000000000 := fS_b (go := dgo D set k t) (d_ok hD hk hth) e he n
theorem dCc_b {D : HD} (hD : WFD D) (set : Nat → Int) {k t th : Nat} (hk : k < D.K) (hth : th = 1 ∨ th = 2) {e : Nat} (he : e < D.N) (n : Nat) : (0 ≤ dF D set k t th e n * dC D k e th ∧ dF D set k t th e n * dC D k e th ≤ 1000000000000000) ∧ (0 ≤ dF D set k t th e n * dC D k e th / 1000000 ∧ dF D set k t th e n * dC D k e th / 1000000 ≤ dF D set k t th e n) ∧ (0 ≤ dF D set k t th e n * dC D k e th / 1000000 * dHb D k t th ∧ dF D set k t th e n * dC D k e th / 1000000 * dHb D k t th ≤ 1000000000000) ∧ 0 ≤ dCc D set k t th e n ∧ dCc D set k t th e n ≤ dF D set k t th e n := fC_b (go := dgo D set k t) (d_ok hD hk hth) he (dF_b hD set hk hth (Nat.le_of_lt he) n)
theorem dCome_b {D : HD} (hD : WFD D) (set : Nat → Int) {k t th : Nat} (hk : k < D.K) (hth : th = 1 ∨ th = 2) {e : Nat} (he : e < D.N) : 0 ≤ dCome D set k t th e ∧ dCome D set k t th e ≤ 1000000000 := fCome_b (go := dgo D set k t) (d_ok hD hk hth) he
theorem dSunk_b {D : HD} (hD : WFD D) (set : Nat → Int) {k t th : Nat} (hk : k < D.K) (hth : th = 1 ∨ th = 2) {e : Nat} (he : e < D.N) : 0 ≤ dSunk D set k t th e ∧ dSunk D set k t th e ≤ 1000000000 := fSunk_b (go := dgo D set k t) (d_ok hD hk hth) he
/-- a ten has no more than it lasts -/
theorem dF_ten {D : HD} {set : Nat → Int} {k th : Nat} : ∀ e n, c0 D 2 < n → dF D set k 2 th e n = 0 := by
  intro e
  induction e with
  | zero => intro n hn; show (if n = 0 then (1000000000 : Int) else 0) = 0; rw [if_neg (by omega)]
  | succ e ih =>
    intro n hn
    have hz : ∀ m, c0 D 2 ≤ m → dCc D set k 2 th e m = 0 := by
      intro m hm
      have hg : dgo D set k 2 e m = false := by
        unfold dgo
        rw [if_pos rfl]
        by_cases q : m ≤ c0 D 2
        · rw [if_pos q, show c0 D 2 - m = 0 by omega]
          unfold pGo dM
          simp
        · rw [if_neg q]
      have hh : dHb D k 2 th = 0 := by unfold dHb; rw [if_neg (by omega)]
      show (if dgo D set k 2 e m = true then _ else _) = _
      rw [hg, if_neg (by decide), hh]
      simp
    show fS _ _ _ (e + 1) n = 0
    rw [fS_s]
    have h1 := hz n (by omega)
    have h2 := hz (n - 1) (by omega)
    have h3 := ih n hn
    rw [if_neg (by omega)]
    show dF D set k 2 th e n - dCc D set k 2 th e n + dCc D set k 2 th e (n - 1) = 0
    omega
def PUsed (D : HD) (set : Nat → Int) (k t th p : Nat) (h : AH) : Prop := (∀ e, e < D.N → gI h (p + 1) e = zi (dCome D set k t th e)) ∧ gL h p 9 = zl (zs (dCome D set k t th) D.N) ∧ gL h p 10 = zl (zs (dSunk D set k t th) D.N) ∧ (t = 2 → ∀ e, e < D.N → gL h (p + 2) e = zl (zs (fun n => (D.ten - n) * dF D set k t th (e + 1) n) 17 / 1000))
section
variable {D : HD} {T : Nat} {h : AH} {set : Nat → Int} {t p k th : Nat}
theorem c_takes2 (hD : WFD D) (hp : PL t p) (pk : PK t p h) (m : PMade D set k t 2 p h) {e n : Nat} {a0 a1 a2 : Int32} (h0 : a0 = zi e) (h1 : a1 = zi (if t = 2 then D.ten - n else 0)) (h2 : a2 = zi n) (he : e < D.N) (hn : n ≤ 16 + e) : s_X2_takes p a0 a1 a2 h = some (if dgo D set k t e n = true then 1 else 0) := by
  have hN := hD.N16
  have btn := hD.tb
  have ht5 := hp.t
  have hc0 := c0_lt hD t
  unfold dgo
  by_cases ht2 : t = 2
  · rw [if_pos ht2] at h1 ⊢
    have hcc : c0 D t = D.ten.toNat := by unfold c0; rw [if_pos ht2]
    by_cases q : n ≤ c0 D t
    · rw [if_pos q]
      exact c_takes hD hp pk m h0 (fun _ => by rw [h1]; exact congrArg zi (by omega)) (fun z => absurd ht2 z) h2 he (by omega) hn
    · rw [if_neg q, if_neg (by decide)]
      unfold s_X2_takes
      rw [if_pos hp.l0, pk.1, if_pos (by rw [ht2]; rfl)]
      unfold j_X2_takes_13
      rw [if_pos]
      rw [h1, (show (0 : Int32) = zi 0 from zi_lit 0), zi_lt (by omega) (by omega) (by omega) (by omega)]
      show D.ten - n < 0
      omega
  · rw [if_neg ht2]
    exact c_takes hD hp pk m h0 (fun z => absurd z ht2) (fun _ => rfl) h2 he (by have := cs_le t; omega) hn
theorem c_habit (hp : PL t p) (pk : PK t p h) : s_X2_isOfHabit p h = some (if t = 1 ∨ t = 4 then 1 else 0) := by
  have ht5 := hp.t
  unfold s_X2_isOfHabit j_X2_isOfHabit_16
  rw [if_pos hp.l0, pk.1]
  by_cases h1 : t = 1
  · rw [if_pos (by rw [h1]; rfl), if_pos (Or.inl h1)]
  · rw [if_neg (by rw [(show (1 : Int32) = zi 1 from zi_lit 1), zi_eq (by omega) (by omega) (by omega) (by omega)]; show ¬ (t : Int) = 1; omega)]
    by_cases h4 : t = 4
    · rw [if_pos (by rw [h4]; rfl), if_pos (Or.inr h4)]
    · rw [if_neg (by rw [(show (4 : Int32) = zi 4 from zi_lit 4), zi_eq (by omega) (by omega) (by omega) (by omega)]; show ¬ (t : Int) = 4; omega), if_neg (by omega)]
theorem c_move (hD : WFD D) (hp : PL t p) (pk : PK t p h) (m : PMade D set k t 2 p h) (hk : k < D.K) (hth : th = 1 ∨ th = 2) {e n : Nat} {a0 a1 a2 a3 : Int32} {s10 : Int} (h0 : a0 = zi e) (h1 : a1 = zi n) (h2 : a2 = zi (dC D k e th)) (h3 : a3 = zi (dHb D k t th)) (he : e < D.N) (hn : n ≤ e) (hs : gL h (p + 3) n = zl (dF D set k t th e n)) (h10 : gL h p 10 = zl s10) :
    zw (s_X2_move p a0 a1 a2 a3 h) (fun r => r.1 = zl (dCc D set k t th e n) ∧ Fr (fun a j => (a = p + 3 ∧ (j = n ∨ j = n + 1)) ∨ (a = p ∧ j = 10)) h r.2 ∧ gL r.2 (p + 3) n = zl (dF D set k t th e n - dCc D set k t th e n) ∧ gL r.2 (p + 3) (n + 1) = gL h (p + 3) (n + 1) + zl (dCc D set k t th e n) ∧ gL r.2 p 10 = zl (s10 + if dgo D set k t e n = true then 0 else dCc D set k t th e n)) := by
  have hN := hD.N16
  have bp := hp.b
  have hok := d_ok (t := t) hD hk hth
  have bS := dF_b hD set (t := t) hk hth (e := e) (by omega) n
  have bC := dCc_b hD set (t := t) hk hth he n
  have bCh := (dC_b hD hk he hth).2.2
  have bHb := dHb_b hD hk t th
  unfold s_X2_move
  rw [if_pos hp.l0]
  refine zw_bd1 (atW_ok n hp.l3 h1 (by omega)) ?_
  rw [hs]
  refine zw_bd1 (ldivF_ok (a := dF D set k t th e n * dC D k e th) (b := 1000000) (by rw [h2, zi_l (by omega) (by omega), zl_mul]) (zl_lit _) bC.1.1 (by omega) (by omega) (by omega)) ?_
  refine zw_bd1 (c_left hp pk m.1 (n := n) h1) ?_
  refine zw_bd1 (c_takes2 hD hp pk m h0 rfl h1 he (by omega)) ?_
  have fin : ∀ (w : Int64) (h' : AH), w = zl (dCc D set k t th e n) → (∀ j, gL h' (p + 3) j = gL h (p + 3) j) → Fr (fun a j => (a = p + 3 ∧ (j = n ∨ j = n + 1)) ∨ (a = p ∧ j = 10)) h h' → zw (j_X2_move_58 p a1 (zl (dF D set k t th e n)) w h') (fun r => r.1 = zl (dCc D set k t th e n) ∧ Fr (fun a j => (a = p + 3 ∧ (j = n ∨ j = n + 1)) ∨ (a = p ∧ j = 10)) h r.2 ∧ gL r.2 (p + 3) n = zl (dF D set k t th e n - dCc D set k t th e n) ∧ gL r.2 (p + 3) (n + 1) = gL h (p + 3) (n + 1) + zl (dCc D set k t th e n) ∧ gL r.2 p 10 = gL h' p 10) := by
    intro w h' hw hh hf
    subst hw
    unfold j_X2_move_58
    refine zw_bd1 (putW_ok n hp.l3 h1 (by omega)) ?_
    refine zw_bd1 (atW_ok (n + 1) hp.l3 (by rw [h1]; exact (by first | (simp only [zi_lit, zi_neg, zi_add, zi_sub, zi_mul, zl_lit, zl_neg, zl_add, zl_sub, zl_mul, zl_i]; exact congrArg zi (by omega)) | (simp only [zi_lit, zi_neg, zi_add, zi_sub, zi_mul, zl_lit, zl_neg, zl_add, zl_sub, zl_mul, zl_i]; done) | exact congrArg zi (by omega))) (by omega)) ?_
    refine zw_bd1 (putW_ok (n + 1) hp.l3 (by rw [h1]; exact (by first | (simp only [zi_lit, zi_neg, zi_add, zi_sub, zi_mul, zl_lit, zl_neg, zl_add, zl_sub, zl_mul, zl_i]; exact congrArg zi (by omega)) | (simp only [zi_lit, zi_neg, zi_add, zi_sub, zi_mul, zl_lit, zl_neg, zl_add, zl_sub, zl_mul, zl_i]; done) | exact congrArg zi (by omega))) (by omega)) ?_
    refine zw_some ⟨rfl, (hf.sL (by omega)).sL (by omega), ?_, ?_, ?_⟩
    · show gL (sL (sL h' _ _ _) _ _ _) _ _ = _
      rw [gL_sL, if_neg (by omega), gL_sL, if_pos ⟨rfl, rfl⟩, zl_sub]
    · show gL (sL (sL h' _ _ _) _ _ _) _ _ = _
      rw [gL_sL, if_pos ⟨rfl, rfl⟩]
      show gL (sL h' _ _ _) _ _ + _ = _
      rw [gL_sL, if_neg (by omega), hh]
    · show gL (sL (sL h' _ _ _) _ _ _) _ _ = _
      rw [gL_sL, if_neg (by omega), gL_sL, if_neg (by omega)]
  cases hg : dgo D set k t e n
  · refine zw_t (by rw [if_neg (by decide)]) ?_
    have hcc : dCc D set k t th e n = dF D set k t th e n * dC D k e th / 1000000 * dHb D k t th / 1000 := by
      show (if dgo D set k t e n = true then _ else _) = _
      rw [hg, if_neg (by decide)]
    refine zw_bd1 (ldivF_ok (a := dF D set k t th e n * dC D k e th / 1000000 * dHb D k t th) (b := 1000) (by rw [h3, zi_l (by omega) (by omega), zl_mul]) (zl_lit _) bC.2.2.1.1 (by have := bC.2.2.1.2; omega) (by omega) (by omega)) ?_
    rw [← hcc]
    refine zw_mono (fin _ _ rfl (fun j => by rw [gL_sL, if_neg (by omega)]) ((Fr.refl _ h).sL (by omega))) ?_
    rintro r ⟨e1, e2, e3, e4, e5⟩
    refine ⟨e1, e2, e3, e4, ?_⟩
    rw [e5, gL_sL, if_pos ⟨rfl, rfl⟩, h10, zl_add, if_neg (by decide)]
  · refine zw_f (by rw [if_pos rfl]; decide) ?_
    have hcc : dCc D set k t th e n = dF D set k t th e n * dC D k e th / 1000000 := by
      show (if dgo D set k t e n = true then _ else _) = _
      rw [hg, if_pos rfl]
    rw [← hcc]
    refine zw_mono (fin _ _ rfl (fun j => rfl) (Fr.refl _ h)) ?_
    rintro r ⟨e1, e2, e3, e4, e5⟩
    refine ⟨e1, e2, e3, e4, ?_⟩
    rw [e5, h10, if_pos rfl, Int.add_zero]
theorem c_flow81 (hD : WFD D) (hp : PL t p) (pk : PK t p h) (m : PMade D set k t 2 p h) (hk : k < D.K) (hth : th = 1 ∨ th = 2) {e : Nat} {p1 : Nat} {p2 p3 p4 p5 p6 : Int32} {s10 : Int} (h5 : p5 = zi e) (h6 : p6 = zi (dC D k e th)) (h4 : p4 = zi (dHb D k t th)) (he : e < D.N) (hs : ∀ n, n ≤ 16 → gL h (p + 3) n = zl (dF D set k t th e n)) (h10 : gL h p 10 = zl s10) :
    zw (lpH (l_X2_flow_81 p p1 p2 p3 p4 p5 p6) FU (0, p5) h) (fun r => r.1 = zl (dCome D set k t th e) ∧ Fr (fun a j => a = p + 3 ∨ (a = p ∧ j = 10)) h r.2 ∧ (∀ n, n ≤ 16 → gL r.2 (p + 3) n = zl (dF D set k t th (e + 1) n)) ∧ gL r.2 p 10 = zl (s10 + dSunk D set k t th e)) := by
  have hN := hD.N16
  have bp := hp.b
  subst h5
  refine zw_for (e + 1) (fun j => (zl (zs (dCc D set k t th e) (e + 1) - zs (dCc D set k t th e) (e + 1 - j)), zi ((e : Int) - j))) (zl (dCome D set k t th e)) (fun j h' => Fr (fun a j => a = p + 3 ∨ (a = p ∧ j = 10)) h h' ∧ (∀ n, n ≤ 16 → gL h' (p + 3) n = zl (dF D set k t th e n - (if e < n + j then dCc D set k t th e n else 0) + (if n ≠ 0 ∧ e < n - 1 + j then dCc D set k t th e (n - 1) else 0))) ∧ gL h' p 10 = zl (s10 + (zs (fun n => if dgo D set k t e n = true then 0 else dCc D set k t th e n) (e + 1) - zs (fun n => if dgo D set k t e n = true then 0 else dCc D set k t th e n) (e + 1 - j)))) (by omega) ?_ ⟨Fr.refl _ _, fun n hn => ?_, ?_⟩ ?_ ?_
  · show ((0 : Int64), zi e) = (zl (zs (dCc D set k t th e) (e + 1) - zs (dCc D set k t th e) (e + 1)), zi ((e : Int) - (0 : Nat)))
    rw [Int.sub_self, show (e : Int) - (0 : Nat) = e by omega]
    rfl
  · rw [hs n hn]
    by_cases q : e < n
    · have z : dF D set k t th e n = 0 := fS_out e n q
      have z2 : dCc D set k t th e n = 0 := fC_out z
      by_cases q2 : n ≠ 0 ∧ e < n - 1 + 0
      · have z3 : dCc D set k t th e (n - 1) = 0 := fC_out (fS_out e (n - 1) (by omega))
        rw [z, z2, z3]; simp
      · rw [if_neg q2, z2]; simp
    · rw [if_neg (by omega), if_neg (by omega)]; simp
  · rw [h10, Nat.sub_zero, Int.sub_self, Int.add_zero]
  · rintro j h' hj ⟨hf, hs', h10'⟩
    unfold l_X2_flow_81
    have hn : e - j ≤ e := Nat.sub_le _ _
    have hns : zi ((e : Int) - j) = zi ((e - j : Nat) : Int) := congrArg zi (by omega)
    dsimp only
    rw [hns]
    refine zw_f (by rw [(show (0 : Int32) = zi 0 from zi_lit 0), zi_lt (by omega) (by omega) (by omega) (by omega)]; show ¬ ((e - j : Nat) : Int) < 0; omega) ?_
    have hr : gL h' (p + 3) (e - j) = zl (dF D set k t th e (e - j)) := by
      rw [hs' (e - j) (by omega), if_neg (by omega), if_neg (by omega)]; simp
    refine zw_bd (c_move hD hp (pk.fr hf (by omega) (by omega)) (m.fr hf (by omega) (by omega) (by intro j; omega)) hk hth rfl rfl h6 h4 he hn hr h10') ?_
    rintro ⟨r1, r2⟩ ⟨e1, hf2, e3, e4, e5⟩
    dsimp only at e1 hf2 e3 e4 e5 ⊢
    subst e1
    have hsp : e + 1 - j = e + 1 - (j + 1) + 1 := by omega
    have hsq : e + 1 - (j + 1) = e - j := by omega
    refine zw_some ⟨?_, hf.trans (hf2.mono (by omega)), fun n hn' => ?_, ?_⟩
    · refine congrArg Sum.inl (Prod.ext ?_ ?_)
      · dsimp only
        rw [zl_add, show e + 1 - j = (e - j) + 1 by omega, hsq, zs_s _ (e - j)]
        exact congrArg zl (by omega)
      · dsimp only
        simp only [zi_lit, zi_neg, zi_add, zi_sub, zi_mul, zl_lit, zl_neg, zl_add, zl_sub, zl_mul, zl_i]
        exact congrArg zi (by omega)
    · by_cases q1 : n = e - j
      · subst q1
        rw [e3, if_pos (by omega), if_neg (by omega)]; simp
      · by_cases q2 : n = e - j + 1
        · subst q2
          rw [e4, hs' _ hn', if_pos (by omega), if_neg (by omega), if_pos (by omega), if_pos (by omega), zl_add, Nat.add_sub_cancel]
          exact congrArg zl (by omega)
        · show gL r2 _ _ = _
          rw [hf2.l (by omega), hs' n hn']
          refine congrArg zl ?_
          by_cases c1 : e < n + j
          · rw [if_pos c1, if_pos (by omega : n ≠ 0 ∧ e < n - 1 + j), if_pos (by omega : e < n + (j + 1)), if_pos (by omega : n ≠ 0 ∧ e < n - 1 + (j + 1))]
          · rw [if_neg c1, if_neg (by omega : ¬ (n ≠ 0 ∧ e < n - 1 + j)), if_neg (by omega : ¬ e < n + (j + 1)), if_neg (by omega : ¬ (n ≠ 0 ∧ e < n - 1 + (j + 1)))]
    · rw [e5]
      refine congrArg zl ?_
      rw [show e + 1 - j = (e - j) + 1 by omega, hsq, zs_s _ (e - j)]
      omega
  · rintro h' ⟨hf, hs', h10'⟩
    unfold l_X2_flow_81
    dsimp only
    refine zw_t (by rw [(show (0 : Int32) = zi 0 from zi_lit 0), zi_lt (by omega) (by omega) (by omega) (by omega)]; show (e : Int) - (e + 1 : Nat) < 0; omega) ?_
    refine zw_some ⟨congrArg Sum.inr (congrArg zl ?_), rfl, hf, fun n hn => ?_, ?_⟩
    · rw [Nat.sub_self, zs_0, Int.sub_zero]
      rfl
    · rw [hs' n hn]
      refine congrArg zl ?_
      rw [if_pos (by omega)]
      show _ = fS _ _ _ (e + 1) n
      rw [fS_s]
      by_cases q : n = 0
      · rw [if_neg (by omega), if_pos q]
      · rw [if_pos (by omega), if_neg q]
    · rw [h10', Nat.sub_self, zs_0, Int.sub_zero]
      rfl
theorem c_leftB (hD : WFD D) (hp : PL t p) (pk : PK t p h) (h7 : gI h p 7 = zi D.ten) (hk : k < D.K) (hth : th = 1 ∨ th = 2) {e : Nat} (he : e ≤ D.N) (hs : ∀ n, n ≤ 16 → gL h (p + 3) n = zl (dF D set k t th e n)) : s_X2_left p h = some (zl (zs (fun n => (if t = 2 then D.ten - n else 0) * dF D set k t th e n) 17 / 1000)) := by
  have hN := hD.N16
  have btn := hD.tb
  have hok := d_ok (t := t) hD hk hth
  have term : ∀ n : Nat, n < 17 → 0 ≤ (if t = 2 then D.ten - n else 0) * dF D set k t th e n ∧ (if t = 2 then D.ten - n else 0) * dF D set k t th e n ≤ 12000000000 := by
    intro n hn
    have bS := dF_b hD set (t := t) hk hth he n
    by_cases ht2 : t = 2
    · rw [if_pos ht2]
      by_cases q : c0 D t < n
      · subst ht2
        rw [dF_ten e n q]; simp
      · have : c0 D t = D.ten.toNat := by unfold c0; rw [if_pos ht2]
        have := mul_b (a := D.ten - n) (A := 12) (B := 1000000000) (by omega) (by omega) bS.1 bS.2
        exact ⟨this.1, by omega⟩
    · rw [if_neg ht2, Int.zero_mul]; decide
  have s1 := zs_nn (fun i hi => (term i hi).1)
  have s2 := zs_le (fun i hi => (term i hi).2)
  unfold s_X2_left
  have L : lpP (l_X2_left_4 p h) FU (0, 0) = some (zl (zs (fun n => (if t = 2 then D.ten - n else 0) * dF D set k t th e n) 17)) := by
    refine lpP_for 17 (fun i => (zl (zs (fun n => (if t = 2 then D.ten - n else 0) * dF D set k t th e n) i), zi i)) (by decide) rfl ?_ ?_
    · intro i hi
      unfold l_X2_left_4
      rw [alen_l hp.l3, bd_v, if_neg (by dsimp only; rw [zi_le (by omega) (by omega) (by omega) (by omega)]; omega), c_left hp pk h7 (n := i) rfl, bd_v, atW_ok i hp.l3 rfl (by omega), bd_v, hs i (by omega), zi_l (by split <;> omega) (by split <;> omega), zl_mul, zl_add]
      refine congrArg (fun q => some (Sum.inl q)) (Prod.ext rfl ?_)
      exact (by first | (simp only [zi_lit, zi_neg, zi_add, zi_sub, zi_mul, zl_lit, zl_neg, zl_add, zl_sub, zl_mul, zl_i]; exact congrArg zi (by omega)) | (simp only [zi_lit, zi_neg, zi_add, zi_sub, zi_mul, zl_lit, zl_neg, zl_add, zl_sub, zl_mul, zl_i]; done) | exact congrArg zi (by omega))
    · unfold l_X2_left_4
      rw [alen_l hp.l3, bd_v, if_pos (by dsimp only; rw [zi_le (by omega) (by omega) (by omega) (by omega)]; omega)]
  rw [if_pos hp.l0, L, bd_v, ldivF_ok rfl ((show (1000 : Int64) = zl 1000 from zl_lit 1000)) s1 (by omega) (by decide) (by decide), bd_v]
theorem c_flow (hD : WFD D) (hT : TL T) (hp : PL t p) (x : CH D T h) (pk : PK t p h) (m : PMade D set k t 2 p h) (hk : k < D.K) {a1 a2 : Int32} (h1 : a1 = zi k) (h2 : (th = 1 ∧ a2 = 0) ∨ (th = 2 ∧ a2 = 1)) :
    zw (s_X2_flow p (some T) a1 a2 h) (fun r => Fr (fun a j => (a = p ∧ (j = 9 ∨ j = 10)) ∨ a = p + 1 ∨ a = p + 2 ∨ a = p + 3) h r.2 ∧ PUsed D set k t th p r.2) := by
  have hN := hD.N16
  have bp := hp.b
  have bT := hT.b
  have hth : th = 1 ∨ th = 2 := by rcases h2 with h2 | h2; exact Or.inl h2.1; exact Or.inr h2.1
  have hok := d_ok (t := t) hD hk hth
  unfold s_X2_flow
  rw [if_pos hp.l0, bd_v, if_pos hT.l0]
  refine zw_bd (fillW_ok hp.l3) ?_
  rintro ⟨u1, g1⟩ ⟨f1, v1⟩
  dsimp only at f1 v1 ⊢
  refine zw_bd1 (putW_ok 0 hp.l3 rfl (by decide)) ?_
  dsimp only
  have f2 : Fr (fun a j => (a = p ∧ (j = 9 ∨ j = 10)) ∨ a = p + 1 ∨ a = p + 2 ∨ a = p + 3) h (sL (sL (sL g1 (p + 3) 0 1000000000) p 9 0) p 10 0) := (((f1.mono (by omega)).sL (by omega)).sL (by omega)).sL (by omega)
  have pk2 := pk.fr f2 (by omega) (by omega)
  have x2 := x.fr f2 (by intro a j; omega)
  have m2 := m.fr f2 (by omega) (by omega) (by intro j; omega)
  have s2 : ∀ n, n ≤ 16 → gL (sL (sL (sL g1 (p + 3) 0 1000000000) p 9 0) p 10 0) (p + 3) n = zl (dF D set k t th 0 n) := by
    intro n hn
    rw [gL_sL, if_neg (by omega), gL_sL, if_neg (by omega), gL_sL]
    show _ = zl (if n = 0 then 1000000000 else 0)
    by_cases q : n = 0
    · rw [if_pos ⟨rfl, q⟩, if_pos q]; rfl
    · rw [if_neg (by omega), if_neg q, v1 n (by omega)]; rfl
  have z9 : gL (sL (sL (sL g1 (p + 3) 0 1000000000) p 9 0) p 10 0) p 9 = zl 0 := by
    rw [gL_sL, if_neg (by omega), gL_sL, if_pos ⟨rfl, rfl⟩]; rfl
  have z10 : gL (sL (sL (sL g1 (p + 3) 0 1000000000) p 9 0) p 10 0) p 10 = zl 0 := by
    rw [gL_sL, if_pos ⟨rfl, rfl⟩]; rfl
  generalize sL (sL (sL g1 (p + 3) 0 1000000000) p 9 0) p 10 0 = g2 at *
  have main : ∀ k0 : Int32, k0 = zi (dHb D k t th) → zw (j_X2_flow_50 p T a1 a2 k0 g2) (fun r => Fr (fun a j => (a = p ∧ (j = 9 ∨ j = 10)) ∨ a = p + 1 ∨ a = p + 2 ∨ a = p + 3) h r.2 ∧ PUsed D set k t th p r.2) := by
    intro k0 hk0
    unfold j_X2_flow_50
    refine zw_bd (P := fun y => Fr (fun a j => (a = p ∧ (j = 9 ∨ j = 10)) ∨ a = p + 1 ∨ a = p + 2 ∨ a = p + 3) h y.2 ∧ PUsed D set k t th p y.2) ?_ (fun y hy => zw_some hy)
    refine zw_for D.N (fun i => zi i) () (fun i h' => Fr (fun a j => (a = p ∧ (j = 9 ∨ j = 10)) ∨ a = p + 1 ∨ a = p + 2 ∨ a = p + 3) h h' ∧ (∀ n, n ≤ 16 → gL h' (p + 3) n = zl (dF D set k t th i n)) ∧ gL h' p 9 = zl (zs (dCome D set k t th) i) ∧ gL h' p 10 = zl (zs (dSunk D set k t th) i) ∧ (∀ e, e < i → gI h' (p + 1) e = zi (dCome D set k t th e)) ∧ (t = 2 → ∀ e, e < i → gL h' (p + 2) e = zl (zs (fun n => (D.ten - n) * dF D set k t th (e + 1) n) 17 / 1000))) (by omega) rfl ⟨f2, s2, z9, z10, fun e he => by omega, fun _ e he => by omega⟩ ?_ ?_
    · rintro i h' hi ⟨hf, hs, h9, h10, hc, hl⟩
      have xs := x.fr hf (by intro a j; omega)
      have pks := pk.fr hf (by omega) (by omega)
      have ms := m.fr hf (by omega) (by omega) (by intro j; omega)
      unfold l_X2_flow_55
      refine zw_f (by rw [xs.1.2.2.1, zi_le (by omega) (by omega) (by omega) (by omega)]; omega) ?_
      refine zw_bd1 (c_likely hD hT xs h1 rfl hk hi h2) ?_
      refine zw_bd (c_flow81 hD hp pks ms hk hth rfl rfl hk0 hi hs h10) ?_
      rintro ⟨r1, g3⟩ ⟨e1, f3, s3, e10⟩
      dsimp only at e1 f3 s3 e10 ⊢
      subst e1
      have bcm := dCome_b hD set (t := t) hk hth hi
      refine zw_bd1 (put_ok i hp.l1 rfl (by omega)) ?_
      dsimp only
      rw [zl_i]
      have g9 : gL g3 p 9 = zl (zs (dCome D set k t th) i) := by rw [f3.l (by omega)]; exact h9
      rw [g9, zl_add]
      have f4 : Fr (fun a j => (a = p ∧ (j = 9 ∨ j = 10)) ∨ a = p + 1 ∨ a = p + 2 ∨ a = p + 3) h (sI (sL g3 p 9 (zl (zs (dCome D set k t th) i + dCome D set k t th i))) (p + 1) i (zi (dCome D set k t th i))) := ((hf.trans (f3.mono (by omega))).sL (by omega)).sI (by omega)
      refine zw_bd1 (c_leftB (set := set) (th := th) (e := i + 1) hD hp (pk.fr f4 (by omega) (by omega)) ?_ hk hth (by omega) (fun n hn => ?_)) ?_
      · rw [f4.i (by omega)]; exact m.1
      · rw [gL_sI, gL_sL, if_neg (by omega)]
        exact s3 n hn
      · refine zw_bd1 (putW_ok i hp.l2 rfl (by omega)) ?_
        refine zw_some ⟨congrArg Sum.inl (by first | (simp only [zi_lit, zi_neg, zi_add, zi_sub, zi_mul, zl_lit, zl_neg, zl_add, zl_sub, zl_mul, zl_i]; exact congrArg zi (by omega)) | (simp only [zi_lit, zi_neg, zi_add, zi_sub, zi_mul, zl_lit, zl_neg, zl_add, zl_sub, zl_mul, zl_i]; done) | exact congrArg zi (by omega)), f4.sL (by omega), fun n hn => ?_, ?_, ?_, fun e he => ?_, fun ht2 e he => ?_⟩
        · show gL (sL (sI (sL g3 _ _ _) _ _ _) _ _ _) _ _ = _
          rw [gL_sL, if_neg (by omega), gL_sI, gL_sL, if_neg (by omega)]
          exact s3 n hn
        · show gL (sL (sI (sL g3 _ _ _) _ _ _) _ _ _) _ _ = _
          rw [gL_sL, if_neg (by omega), gL_sI, gL_sL, if_pos ⟨rfl, rfl⟩]
          rfl
        · show gL (sL (sI (sL g3 _ _ _) _ _ _) _ _ _) _ _ = _
          rw [gL_sL, if_neg (by omega), gL_sI, gL_sL, if_neg (by omega), e10]
          rfl
        · show gI (sL (sI (sL g3 _ _ _) _ _ _) _ _ _) _ _ = _
          rw [gI_sL, gI_sI]
          by_cases q : e = i
          · subst q; rw [if_pos ⟨rfl, rfl⟩]
          · rw [if_neg (by omega), gI_sL, f3.i (by omega)]
            exact hc e (by omega)
        · show gL (sL (sI (sL g3 _ _ _) _ _ _) _ _ _) _ _ = _
          rw [gL_sL]
          by_cases q : e = i
          · subst q
            rw [if_pos ⟨rfl, rfl⟩]
            refine congrArg zl (congrArg (fun z => z / 1000) (zs_congr (fun n _ => ?_)))
            rw [if_pos ht2]
          · rw [if_neg (by omega), gL_sI, gL_sL, if_neg (by omega), f3.l (by omega)]
            exact hl ht2 e (by omega)
    · rintro h' ⟨hf, hs, h9, h10, hc, hl⟩
      have xs := x.fr hf (by intro a j; omega)
      unfold l_X2_flow_55
      refine zw_t (by rw [xs.1.2.2.1, zi_le (by omega) (by omega) (by omega) (by omega)]; omega) ?_
      exact zw_some ⟨rfl, hf, hc, h9, h10, hl⟩
  refine zw_bd1 (c_habit hp pk2) ?_
  have bq := (hD.q k hk).2.2.2.2.1
  by_cases hh : t = 1 ∨ t = 4
  · rw [if_pos hh]
    refine zw_f (by decide) ?_
    rcases h2 with ⟨rfl, rfl⟩ | ⟨rfl, rfl⟩
    · refine zw_t rfl ?_
      refine zw_bd1 (c_ofQ hD hT x2 (w := 4) h1 ((show (4 : Int32) = zi 4 from zi_lit 4)) hk (by decide)) ?_
      refine main _ ?_
      unfold dHb
      rw [if_pos ⟨hh, rfl⟩]
    · refine zw_f (by decide) ?_
      unfold j_X2_flow_49
      refine main _ ?_
      unfold dHb
      rw [if_neg (fun z => absurd z.2 (by decide))]
      rfl
  · rw [if_neg hh]
    refine zw_t rfl ?_
    unfold j_X2_flow_49
    refine main _ ?_
    unfold dHb
    rw [if_neg (fun z => hh z.1)]
    rfl
/-- a plan that is made and used, as open() leaves it -/
def POk (D : HD) (set : Nat → Int) (k t p : Nat) (h : AH) : Prop := PMade D set k t 2 p h ∧ PUsed D set k t 1 p h ∧ gL h p 11 = zl (zs (dCome D set k t 2) D.N)
theorem PUsed.fr {h' : AH} {S : Nat → Nat → Prop} (x : PUsed D set k t th p h) (f : Fr S h h') (n1 : ¬ S p 9) (n2 : ¬ S p 10) (n3 : ∀ j, ¬ S (p + 1) j) (n4 : ∀ j, ¬ S (p + 2) j) : PUsed D set k t th p h' := ⟨fun e he => (f.i (n3 _)).trans (x.1 e he), (f.l n1).trans x.2.1, (f.l n2).trans x.2.2.1, fun ht e he => (f.l (n4 _)).trans (x.2.2.2 ht e he)⟩
theorem c_use (hD : WFD D) (hT : TL T) (hp : PL t p) (x : CH D T h) (pk : PK t p h) (m : PMade D set k t 2 p h) (hk : k < D.K) {a1 : Int32} (h1 : a1 = zi k) :
    zw (s_X2_use p (some T) a1 h) (fun r => Fr (fun a j => (a = p ∧ (j = 9 ∨ j = 10 ∨ j = 11)) ∨ a = p + 1 ∨ a = p + 2 ∨ a = p + 3) h r.2 ∧ POk D set k t p r.2) := by
  have bp := hp.b
  have bT := hT.b
  unfold s_X2_use
  rw [if_pos hp.l0, bd_v, if_pos hT.l0]
  refine zw_bd (c_flow (th := 2) hD hT hp x pk m hk h1 (Or.inr ⟨rfl, rfl⟩)) ?_
  rintro ⟨u1, g1⟩ ⟨f1, u⟩
  dsimp only at f1 u ⊢
  have f2 : Fr (fun a j => (a = p ∧ (j = 9 ∨ j = 10 ∨ j = 11)) ∨ a = p + 1 ∨ a = p + 2 ∨ a = p + 3) h (sL g1 p 11 (gL g1 p 9)) := (f1.mono (by omega)).sL (by omega)
  refine zw_bd (c_flow (th := 1) hD hT hp (x.fr f2 (by intro a j; omega)) (pk.fr f2 (by omega) (by omega)) (m.fr f2 (by omega) (by omega) (by intro j; omega)) hk h1 (Or.inl ⟨rfl, rfl⟩)) ?_
  rintro ⟨u2, g3⟩ ⟨f3, u3⟩
  dsimp only at f3 u3 ⊢
  have f4 := f2.trans (f3.mono (by omega : ∀ a j, _ → ((a = p ∧ (j = 9 ∨ j = 10 ∨ j = 11)) ∨ a = p + 1 ∨ a = p + 2 ∨ a = p + 3)))
  refine zw_some ⟨f4, m.fr f4 (by omega) (by omega) (by intro j; omega), u3, ?_⟩
  show gL g3 p 11 = _
  rw [f3.l (by omega), gL_sL, if_pos ⟨rfl, rfl⟩]
  exact u.2.1
end
