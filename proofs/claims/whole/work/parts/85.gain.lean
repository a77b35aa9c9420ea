/-! 85.gain: all in the order of a line take their seats -/
/-- how often a kind comes with what it buys -/
abbrev dGone (D : HD) (k : Nat) : Int := zs (dCome D (rSet D) k (dB D k) 1) D.N
theorem dGone_b {D : HD} (hD : WFD D) {k : Nat} (hk : k < D.K) : 0 ≤ dGone D k ∧ dGone D k ≤ 16000000000 := by
  have hN := hD.N16
  have b := fun e (he : e < D.N) => dCome_b hD (rSet D) (t := dB D k) (th := 1) hk (Or.inl rfl) he
  refine ⟨zs_nn (fun i hi => (b i hi).1), ?_⟩
  have := zs_le (f := dCome D (rSet D) k (dB D k) 1) (n := D.N) (B := 1000000000) (fun i hi => (b i hi).2)
  show zs (dCome D (rSet D) k (dB D k) 1) D.N ≤ 16000000000
  omega
/-- gained so far, the row by rank, what is free there: behind the kinds below k with the ticket t -/
def gKs (D : HD) (t : Nat) (s : Int × Nat × Int) : Nat → Int × Nat × Int
  | 0 => s
  | k + 1 => if dB D k = t then ((gKs D t s k).1 + gnS D.R (dSr D) (dGr D (dGone D k)) (D.Q k 0, (gKs D t s k).2) 4, (itS D.R (dSr D) (D.Q k 0, (gKs D t s k).2) 4).2) else gKs D t s k
theorem gKs_s (D : HD) (t : Nat) (s : Int × Nat × Int) (k : Nat) : gKs D t s (k + 1) = if dB D k = t then ((gKs D t s k).1 + gnS D.R (dSr D) (dGr D (dGone D k)) (D.Q k 0, (gKs D t s k).2) 4, (itS D.R (dSr D) (D.Q k 0, (gKs D t s k).2) 4).2) else gKs D t s k := rfl
def gLs (D : HD) (l : Nat → Nat) : Nat → Int × Nat × Int
  | 0 => (0, 0, dSr D 0)
  | i + 1 => gKs D (l i) (gLs D l i) D.K
theorem gLs_s (D : HD) (l : Nat → Nat) (i : Nat) : gLs D l (i + 1) = gKs D (l i) (gLs D l i) D.K := rfl
def gsB (D : HD) (n : Nat) (s : Int × Nat × Int) : Prop := (0 ≤ s.1 ∧ s.1 ≤ n * 2534400000) ∧ s.2.1 ≤ D.R ∧ (s.2.1 < D.R → 1 ≤ s.2.2 ∧ s.2.2 ≤ 400)
theorem gsB.s {D : HD} (hD : WFD D) {n k : Nat} {s : Int × Nat × Int} (hk : k < D.K) (b : gsB D n s) : sB D.R (D.Q k 0, s.2) := ⟨(hD.q k hk).1, b.2⟩
theorem gKs_b {D : HD} (hD : WFD D) {t n : Nat} {s : Int × Nat × Int} (b : gsB D n s) : ∀ k, k ≤ D.K → gsB D (n + k) (gKs D t s k) := by
  intro k
  induction k with
  | zero => intro _; exact b
  | succ k ih =>
    intro hk
    have b1 := ih (by omega)
    have b2 := b1.s hD (k := k) (by omega)
    have e : ((n + (k + 1) : Nat) : Int) * 2534400000 = ((n + k : Nat) : Int) * 2534400000 + 2534400000 := by omega
    rw [gKs_s]
    by_cases q : dB D k = t
    · rw [if_pos q]
      have g := gnS_b (dSr_b hD) (dGr_b hD (dGone_b hD (k := k) (by omega))) b2
      have i4 := itS_b (dSr_b hD) b2 4
      refine ⟨⟨?_, ?_⟩, i4.2⟩
      · show 0 ≤ (gKs D t s k).1 + _
        have := b1.1.1
        omega
      · show (gKs D t s k).1 + _ ≤ _
        have := b1.1.2
        omega
    · rw [if_neg q]
      exact ⟨⟨b1.1.1, by have := b1.1.2; omega⟩, b1.2⟩
theorem gLs_b {D : HD} (hD : WFD D) (l : Nat → Nat) : ∀ i, gsB D (i * 6) (gLs D l i) := by
  have hK := hD.K6
  intro i
  induction i with
  | zero => exact ⟨⟨Int.le_refl 0, by show (0 : Int) ≤ ((0 * 6 : Nat) : Int) * 2534400000; decide⟩, Nat.zero_le _, fun z => dSr_b hD 0 z⟩
  | succ i ih =>
    have b := gKs_b hD (t := l i) ih D.K (Nat.le_refl _)
    rw [gLs_s]
    refine ⟨⟨b.1.1, ?_⟩, b.2⟩
    have := b.1.2
    omega
section
variable {D : HD} {T : Nat} {h : AH}
theorem c_gainK (hD : WFD D) (x : YC D T h) (k : CRk D h) {i t n : Nat} {s : Int × Nat × Int} (hi : i < 5) (ht : t < 5) (hl : gI h 222 i = zi t) (b : gsB D n s) (c : CSe D.R s.2.1 s.2.2 h) : zw (lpH (l_X6_gain_41 T (zi i)) FU (zl s.1, 0) h) (fun y => y.1 = zl (gKs D t s D.K).1 ∧ Fr (fun a k => a = 220 ∧ (k = 5 ∨ k = 6)) h y.2 ∧ CSe D.R (gKs D t s D.K).2.1 (gKs D t s D.K).2.2 y.2) := by
  have hK := hD.K6
  refine zw_for D.K (fun j => (zl (gKs D t s j).1, zi (j : Int))) (zl (gKs D t s D.K).1) (fun j h' => Fr (fun a k => a = 220 ∧ (k = 5 ∨ k = 6)) h h' ∧ CSe D.R (gKs D t s j).2.1 (gKs D t s j).2.2 h') (by omega) rfl ⟨Fr.refl _ h, c⟩ ?_ ?_
  · rintro j h' hj ⟨hf, hc⟩
    have x' := x.fr hD hf (fun a k => by unfold YCa; omega)
    have k' : CRk D h' := fun j hj => (hf.i (by omega)).trans (k j hj)
    have bj := gKs_b hD (t := t) b j (by omega)
    have hb := dB_lt D j
    have ej : zi (j : Int) + 1 = zi ((j + 1 : Nat) : Int) := (by first | (simp only [zi_lit, zi_neg, zi_add, zi_sub, zi_mul, zl_lit, zl_neg, zl_add, zl_sub, zl_mul, zl_i]; exact congrArg zi (by omega)) | (simp only [zi_lit, zi_neg, zi_add, zi_sub, zi_mul, zl_lit, zl_neg, zl_add, zl_sub, zl_mul, zl_i]; done) | exact congrArg zi (by omega))
    unfold l_X6_gain_41
    dsimp only
    refine zw_f (by rw [x'.1.2.2.1.1.2.2.2.1, zi_le (by omega) (by omega) (by omega) (by omega)]; omega) ?_
    refine zw_bd1 (at_ok j (n := 6) rfl rfl (by omega)) ?_
    rw [x'.2.2 j hj]
    refine zw_bd1 (at_ok i (n := 5) rfl rfl hi) ?_
    rw [hf.i (by omega), hl, gKs_s]
    unfold j_X6_gain_97_41
    by_cases q : dB D j = t
    · have bq := (hD.q j hj).1
      have hp := PL.of (k := j) (t := dB D j) (by omega) hb
      refine zw_t (congrArg (fun n : Nat => zi n) q) ?_
      refine zw_bd1 (c_many hD x'.1.1 x'.1.2.2.1 rfl hj) ?_
      refine zw_bd1 (c_boughtBy hD x' rfl hj) ?_
      refine zw_bd1 rfl ?_
      refine zw_t hp.l0 ?_
      refine zw_bd1 (z := zl (dGone D j)) ?_ ?_
      · unfold s_X2_gone
        rw [if_pos hp.l0, (x'.2.1 j (dB D j) hj hb).2.1.2.1]
      · refine zw_bd (c_seat (g := dGone D j) (s := (D.Q j 0, (gKs D t s j).2)) hD x'.1.1 x'.1.2.2.1 k' (dGone_b hD hj) (bj.s hD hj) hc) ?_
        rintro ⟨w, g⟩ ⟨rfl, f2, c2⟩
        dsimp only at f2 c2 ⊢
        rw [if_pos q, ej, zl_add]
        exact zw_some ⟨rfl, hf.trans f2, c2⟩
    · refine zw_f (by rw [zi_eq (by omega) (by omega) (by omega) (by omega)]; omega) ?_
      rw [if_neg q, ej]
      exact zw_some ⟨rfl, hf, hc⟩
  · rintro h' ⟨hf, hc⟩
    have x' := x.fr hD hf (fun a k => by unfold YCa; omega)
    unfold l_X6_gain_41
    dsimp only
    exact zw_t (by rw [x'.1.2.2.1.1.2.2.2.1, zi_le (by omega) (by omega) (by omega) (by omega)]; omega) (zw_some ⟨rfl, rfl, hf, hc⟩)
theorem c_gain (hD : WFD D) (x : YC D T h) (k : CRk D h) {m : Nat} {l : Nat → Nat} (hm : m ≤ 5) (hz : gI h 220 1 = zi m) (hl : ∀ i, i < m → gI h 222 i = zi (l i) ∧ l i < 5) : zw (s_X6_gain (some 13) (some T) h) (fun y => y.1 = zl (gLs D l m).1 ∧ Fr (fun a k => a = 220 ∧ (k = 5 ∨ k = 6)) h y.2) := by
  have hR := hD.R4
  unfold s_X6_gain
  rw [if_pos rfl, bd_v, if_pos x.1.1.l0]
  have f5 : Fr (fun a k => a = 220 ∧ (k = 5 ∨ k = 6)) h (sI h 220 5 0) := (Fr.refl _ h).sI ⟨rfl, Or.inl rfl⟩
  have r5 : gI (sI h 220 5 0) 220 5 = zi ((0 : Nat) : Int) := by rw [gI_sI, if_pos ⟨rfl, rfl⟩]; rfl
  generalize sI h 220 5 0 = H at f5 r5 ⊢
  have rest : ∀ w : Int32, (0 < D.R → w = zi (dSr D 0)) → zw (bd (lpH (l_X6_gain_29 T) FU (0, 0) (sI H 220 6 w)) fun y12 => some (y12.1, y12.2)) (fun y => y.1 = zl (gLs D l m).1 ∧ Fr (fun a k => a = 220 ∧ (k = 5 ∨ k = 6)) h y.2) := by
    intro w hw
    refine zw_bd (P := fun y => y.1 = zl (gLs D l m).1 ∧ Fr (fun a k => a = 220 ∧ (k = 5 ∨ k = 6)) h y.2) ?_ (fun y hy => zw_some hy)
    refine zw_for m (fun i => (zl (gLs D l i).1, zi (i : Int))) (zl (gLs D l m).1) (fun i h' => Fr (fun a k => a = 220 ∧ (k = 5 ∨ k = 6)) h h' ∧ CSe D.R (gLs D l i).2.1 (gLs D l i).2.2 h') (by omega) rfl ⟨f5.sI ⟨rfl, Or.inr rfl⟩, ?_, fun z => ?_⟩ ?_ ?_
    · rw [gI_sI, if_neg (by omega)]; exact r5
    · rw [gI_sI, if_pos ⟨rfl, rfl⟩]; exact hw z
    · rintro i h' hi ⟨hf, hc⟩
      have x' := x.fr hD hf (fun a k => by unfold YCa; omega)
      have k' : CRk D h' := fun j hj => (hf.i (by omega)).trans (k j hj)
      unfold l_X6_gain_29
      dsimp only
      refine zw_f (by rw [hf.i (by omega), hz, zi_le (by omega) (by omega) (by omega) (by omega)]; omega) ?_
      refine zw_bd (c_gainK hD x' k' (i := i) (t := l i) (by omega) (hl i hi).2 ((hf.i (by omega)).trans (hl i hi).1) (gLs_b hD l i) hc) ?_
      rintro ⟨v, g⟩ ⟨rfl, f2, c2⟩
      dsimp only at f2 c2 ⊢
      exact zw_some ⟨congrArg Sum.inl (Prod.ext rfl (by first | (simp only [zi_lit, zi_neg, zi_add, zi_sub, zi_mul, zl_lit, zl_neg, zl_add, zl_sub, zl_mul, zl_i]; exact congrArg zi (by omega)) | (simp only [zi_lit, zi_neg, zi_add, zi_sub, zi_mul, zl_lit, zl_neg, zl_add, zl_sub, zl_mul, zl_i]; done) | exact congrArg zi (by omega))), hf.trans f2, c2⟩
    · rintro h' ⟨hf, hc⟩
      unfold l_X6_gain_29
      dsimp only
      exact zw_t (by rw [hf.i (by omega), hz, zi_le (by omega) (by omega) (by omega) (by omega)]; omega) (zw_some ⟨rfl, rfl, hf⟩)
  rcases Nat.eq_zero_or_pos D.R with q | q
  · obtain ⟨w1, e1⟩ := at_any (h := H) (a := 223) (n := 4) rfl 0
    obtain ⟨w2, e2⟩ := at_any (h := H) x.1.1.l5 w1
    exact zw_bd1 e1 (zw_bd1 e2 (rest w2 (fun z => by omega)))
  · have x' := x.fr hD f5 (fun a k => by unfold YCa; omega)
    refine zw_bd1 (at_ok 0 (n := 4) rfl rfl (by decide)) ?_
    rw [f5.i (by omega), k 0 q]
    exact zw_bd1 (c_seats hD x'.1.1 x'.1.2.2.1 rfl (dO_lt hD q)) (rest _ (fun _ => rfl))
theorem r_gainK (hD : WFD D) (x : YR D h) (k : RRk D h) {i t n : Nat} {p1 : Int32} {s : Int × Nat × Int} (hi : i < 5) (ht : t < 5) (hl : gI h 266 i = zi t) (b : gsB D n s) (c : RSe D s.2.1 s.2.2 h) : zw (lpH (l_X10_gained_47 p1 (zi i)) FU (zl s.1, zi s.2.1, 0) h) (fun y => y.1 = (zl (gKs D t s D.K).1, zi (gKs D t s D.K).2.1) ∧ Fr (fun a _ => a = 268) h y.2 ∧ RSe D (gKs D t s D.K).2.1 (gKs D t s D.K).2.2 y.2) := by
  have hK := hD.K6
  refine zw_for D.K (fun j => (zl (gKs D t s j).1, zi (gKs D t s j).2.1, zi (j : Int))) (zl (gKs D t s D.K).1, zi (gKs D t s D.K).2.1) (fun j h' => Fr (fun a _ => a = 268) h h' ∧ RSe D (gKs D t s j).2.1 (gKs D t s j).2.2 h') (by omega) rfl ⟨Fr.refl _ h, c⟩ ?_ ?_
  · rintro j h' hj ⟨hf, hc⟩
    have x' := x.fr hf (fun a k => by unfold YRa; omega)
    have k' : RRk D h' := fun j hj => (hf.i (by decide)).trans (k j hj)
    have bj := gKs_b hD (t := t) b j (by omega)
    have hb := dB_lt D j
    have ej : zi (j : Int) + 1 = zi ((j + 1 : Nat) : Int) := (by first | (simp only [zi_lit, zi_neg, zi_add, zi_sub, zi_mul, zl_lit, zl_neg, zl_add, zl_sub, zl_mul, zl_i]; exact congrArg zi (by omega)) | (simp only [zi_lit, zi_neg, zi_add, zi_sub, zi_mul, zl_lit, zl_neg, zl_add, zl_sub, zl_mul, zl_i]; done) | exact congrArg zi (by omega))
    unfold l_X10_gained_47
    dsimp only
    refine zw_f (by rw [x'.1.1.2.2.2.1, zi_le (by omega) (by omega) (by omega) (by omega)]; omega) ?_
    refine zw_bd1 (r_buysG hD x'.1 x'.g (dG_ok hD) rfl hj) ?_
    refine zw_bd1 (ldI_ok i (n := 5) rfl rfl hi) ?_
    rw [hf.i (by decide), hl, gKs_s]
    unfold j_X10_gained_224_47
    by_cases q : dB D j = t
    · refine zw_t (congrArg (fun n : Nat => zi n) q) ?_
      refine zw_bd1 (r_of hD x'.1 (w := 0) rfl ((show (0 : Int32) = zi 0 from zi_lit 0)) hj (by decide)) ?_
      refine zw_bd (r_seat (g := dGone D j) (s := (D.Q j 0, (gKs D t s j).2)) (v := (gKs D t s j).1) (kd := j) (t := dB D j) hD x'.1 k' (dGone_b hD hj) (bj.s hD hj) hc (by omega) ((x'.2 j (dB D j) hj hb).2.2.1)) ?_
      rintro ⟨w, g⟩ ⟨e, f2, c2⟩
      dsimp only at e f2 c2 ⊢
      subst e
      rw [if_pos q, ej]
      exact zw_some ⟨rfl, hf.trans f2, c2⟩
    · refine zw_f (by show ¬ zi ((dB D j : Nat) : Int) = zi (t : Int); rw [zi_eq (by omega) (by omega) (by omega) (by omega)]; omega) ?_
      rw [if_neg q, ej]
      exact zw_some ⟨rfl, hf, hc⟩
  · rintro h' ⟨hf, hc⟩
    have x' := x.fr hf (fun a k => by unfold YRa; omega)
    unfold l_X10_gained_47
    dsimp only
    exact zw_t (by rw [x'.1.1.2.2.2.1, zi_le (by omega) (by omega) (by omega) (by omega)]; omega) (zw_some ⟨rfl, rfl, hf, hc⟩)
theorem r_gain (hD : WFD D) (x : YR D h) (k : RRk D h) {m : Nat} {l : Nat → Nat} (hm : m ≤ 5) (hl : ∀ i, i < m → gI h 266 i = zi (l i) ∧ l i < 5) : zw (s_X10_gained (zi m) h) (fun y => y.1 = zl (gLs D l m).1 ∧ Fr (fun a _ => a = 268) h y.2) := by
  have hR := hD.R4
  unfold s_X10_gained
  refine zw_bd (P := fun y => Fr (fun a _ => a = 268) h y.2 ∧ ∀ r, r < D.R → gI y.2 268 r = zi (D.S r 0)) ?_ ?_
  · refine zw_for D.R (fun r => zi r) () (fun r h' => Fr (fun a _ => a = 268) h h' ∧ ∀ u, u < r → gI h' 268 u = zi (D.S u 0)) (by omega) rfl ⟨Fr.refl _ h, fun u hu => by omega⟩ ?_ ?_
    · rintro r h' hr ⟨hf, hv⟩
      have x' := x.fr hf (fun a k => by unfold YRa; omega)
      unfold l_X10_gained_2
      refine zw_f (by rw [x'.1.1.2.2.2.2.1, zi_le (by omega) (by omega) (by omega) (by omega)]; omega) ?_
      refine zw_bd1 (r_rowS hD x'.1 r 0 (by first | (simp only [zi_lit, zi_neg, zi_add, zi_sub, zi_mul, zl_lit, zl_neg, zl_add, zl_sub, zl_mul, zl_i]; exact congrArg zi (by omega)) | (simp only [zi_lit, zi_neg, zi_add, zi_sub, zi_mul, zl_lit, zl_neg, zl_add, zl_sub, zl_mul, zl_i]; done) | exact congrArg zi (by omega)) hr (by decide)) ?_
      refine zw_bd1 (stI_ok r (n := 4) rfl rfl (by omega)) ?_
      refine zw_some ⟨congrArg Sum.inl (by first | (simp only [zi_lit, zi_neg, zi_add, zi_sub, zi_mul, zl_lit, zl_neg, zl_add, zl_sub, zl_mul, zl_i]; exact congrArg zi (by omega)) | (simp only [zi_lit, zi_neg, zi_add, zi_sub, zi_mul, zl_lit, zl_neg, zl_add, zl_sub, zl_mul, zl_i]; done) | exact congrArg zi (by omega)), hf.sI rfl, fun u hu => ?_⟩
      show gI (sI h' 268 r _) 268 u = _
      rw [gI_sI]
      by_cases q : u = r
      · rw [if_pos ⟨rfl, q⟩, q]
      · rw [if_neg (fun z => q z.2)]
        exact hv u (by omega)
    · rintro h' ⟨hf, hv⟩
      have x' := x.fr hf (fun a k => by unfold YRa; omega)
      unfold l_X10_gained_2
      exact zw_t (by rw [x'.1.1.2.2.2.2.1, zi_le (by omega) (by omega) (by omega) (by omega)]; omega) (zw_some ⟨rfl, hf, hv⟩)
  · rintro ⟨u0, H⟩ ⟨f0, v0⟩
    dsimp only at f0 v0 ⊢
    refine zw_bd (P := fun y => y.1 = zl (gLs D l m).1 ∧ Fr (fun a _ => a = 268) h y.2) ?_ (fun y hy => zw_some hy)
    refine zw_for m (fun i => (zl (gLs D l i).1, zi (gLs D l i).2.1, zi (i : Int))) (zl (gLs D l m).1) (fun i h' => Fr (fun a _ => a = 268) h h' ∧ RSe D (gLs D l i).2.1 (gLs D l i).2.2 h') (by omega) rfl ⟨f0, fun z => v0 _ (dO_lt hD z), fun u _ hu => v0 _ (dO_lt hD hu)⟩ ?_ ?_
    · rintro i h' hi ⟨hf, hc⟩
      have x' := x.fr hf (fun a k => by unfold YRa; omega)
      have k' : RRk D h' := fun j hj => (hf.i (by decide)).trans (k j hj)
      unfold l_X10_gained_38
      dsimp only
      refine zw_f (by rw [zi_le (by omega) (by omega) (by omega) (by omega)]; omega) ?_
      refine zw_bd (r_gainK hD x' k' (i := i) (t := l i) (by omega) (hl i hi).2 ((hf.i (by decide)).trans (hl i hi).1) (gLs_b hD l i) hc) ?_
      rintro ⟨v, g⟩ ⟨e, f2, c2⟩
      dsimp only at e f2 c2 ⊢
      subst e
      exact zw_some ⟨congrArg Sum.inl (Prod.ext rfl (Prod.ext rfl (by first | (simp only [zi_lit, zi_neg, zi_add, zi_sub, zi_mul, zl_lit, zl_neg, zl_add, zl_sub, zl_mul, zl_i]; exact congrArg zi (by omega)) | (simp only [zi_lit, zi_neg, zi_add, zi_sub, zi_mul, zl_lit, zl_neg, zl_add, zl_sub, zl_mul, zl_i]; done) | exact congrArg zi (by omega)))), hf.trans f2, c2⟩
    · rintro h' ⟨hf, hc⟩
      unfold l_X10_gained_38
      dsimp only
      exact zw_t (by rw [zi_le (by omega) (by omega) (by omega) (by omega)]; omega) (zw_some ⟨rfl, rfl, hf⟩)
end
