/-! 73.yearsr: the reference's years -/
section
variable {D : HD} {T : Nat} {h : AH}
theorem bd_split {α β : Type} {x : Option α} {f : α → Option β} {z : β} (e : bd x f = some z) : ∃ y, x = some y ∧ f y = some z := by
  cases x with
  | none => cases e
  | some y => exact ⟨y, rfl, e⟩
theorem YR.fr' {h' : AH} {S : Nat → Nat → Prop} (x : YR D h) (f : Fr S h h') (n : ∀ a k, 255 ≤ a ∧ a ≤ 258 → ¬ S a k) : ∀ k t, k < D.K → t < 5 → RWorks D (rSet D) k t h' := fun k t hk ht => ⟨(f.i (n _ _ (by omega))).trans (x.2 k t hk ht).1, fun e he => (f.l (n _ _ (by omega))).trans ((x.2 k t hk ht).2.1 e he), (f.l (n _ _ (by omega))).trans (x.2 k t hk ht).2.2.1, (f.l (n _ _ (by omega))).trans (x.2 k t hk ht).2.2.2⟩
/-- what years may change of the reference -/
def ySc (a k : Nat) : Prop := (a = 242 ∧ k % 11 = 0) ∨ a = 263 ∨ a = 264
/-- the reference in the middle of years: people M -/
def YM (D : HD) (T : Nat) (h0 h : AH) (M : Nat → Int) : Prop := IVd D T h0 ∧ Fr ySc h0 h ∧ ∀ k, k < D.K → gI h 242 (11 * k) = zi (M k)
theorem YM.rh {h0 : AH} {M : Nat → Int} (y : YM D T h0 h M) : RH (wM D M) h := by
  obtain ⟨x, f, m⟩ := y
  have r := x.rh
  refine ⟨⟨(f.i (by unfold ySc; omega)).trans r.1.1, (f.i (by unfold ySc; omega)).trans r.1.2.1, (f.i (by unfold ySc; omega)).trans r.1.2.2.1, (f.i (by unfold ySc; omega)).trans r.1.2.2.2.1, (f.i (by unfold ySc; omega)).trans r.1.2.2.2.2.1, (f.i (by unfold ySc; omega)).trans r.1.2.2.2.2.2⟩, fun e w he hw => (f.i (by unfold ySc; omega)).trans (r.2.1 e w he hw), fun k w hk hw => ?_, fun q w hq hw => (f.i (by unfold ySc; omega)).trans (r.2.2.2.1 q w hq hw), fun t ht => (f.i (by unfold ySc; omega)).trans (r.2.2.2.2 t ht)⟩
  show gI h 242 (11 * k + w) = zi (if w = 0 then M k else D.Q k w)
  by_cases q : w = 0
  · rw [if_pos q, q]
    exact m k hk
  · rw [if_neg q, f.i (by unfold ySc; omega)]
    exact r.2.2.1 k w hk hw
theorem YM.g {h0 : AH} {M : Nat → Int} (y : YM D T h0 h M) : RG D.N D.K (dW D) (cf D) h := fun k t hk ht => ⟨(y.2.1.i (by unfold ySc; omega)).trans (y.1.r.g k t hk ht).1, fun e he => (y.2.1.l (by unfold ySc; omega)).trans ((y.1.r.g k t hk ht).2 e he)⟩
theorem YM.k4 {h0 : AH} {M : Nat → Int} (y : YM D T h0 h M) : gI h 240 4 = zi D.K := y.rh.1.2.2.2.1
theorem r_yearE {h0 : AH} {M : Nat → Int} (y : YM D T h0 h M) (b : bM D M) : s_X10_earnsNow h = some (zl (eTake D.N D.K (dB D) D.P M (cf D) (fun e => D.E e 1))) := r_earns (D := wM D M) (W := dW D) (c := cf D) (wM_wf y.1.wf b) y.rh y.g (dG_ok y.1.wf)
theorem r_nx {h0 : AH} {M : Nat → Int} (y : YM D T h0 h M) (b : bM D M) {j : Nat} (hj : j < D.K) {p1 p2 p3 p8 p9 s : Int32} {p4 p6 : Int64} (hs : s = zi (j + 1 : Nat)) : lpH (l_X10_years_210 p1 p2 p3 p4 p6 p8 p9) FU s h = some (zi (nx D (j + 1) : Nat), h) := by
  have hK := y.1.wf.K6
  subst hs
  refine zw_o (zw_lp D.K (fun i s h2 => h2 = h ∧ s = zi ((j + 1 + i : Nat) : Int) ∧ j + 1 + i ≤ D.K ∧ nx D (j + 1) = nx D (j + 1 + i)) (by omega) ⟨rfl, rfl, by omega, rfl⟩ ?_)
  rintro i s h2 hi ⟨rfl, rfl, hle, he⟩
  unfold l_X10_years_210
  rw [y.k4]
  by_cases q1 : D.K ≤ j + 1 + i
  · refine zw_t (by rw [zi_le (by omega) (by omega) (by omega) (by omega)]; omega) (zw_some (Or.inr ⟨_, rfl, ?_⟩))
    rw [he, nx_s, if_neg (by omega)]
  · refine zw_f (by rw [zi_le (by omega) (by omega) (by omega) (by omega)]; omega) ?_
    refine zw_bd1 (r_of (D := wM D M) (wM_wf y.1.wf b) y.rh (k := j + 1 + i) (w := 10) rfl ((show (10 : Int32) = zi 10 from zi_lit 10)) (by show j + 1 + i < D.K; omega) (by decide)) ?_
    have e10 : (wM D M).Q (j + 1 + i) 10 = D.Q (j + 1 + i) 10 := rfl
    rw [e10]
    have q10 := (y.1.wf.q (j + 1 + i) (by omega)).2.2.2.2.2.2.2
    by_cases q2 : D.Q (j + 1 + i) 10 = 1
    · refine zw_t (by rw [q2]; rfl) (zw_some (Or.inl ⟨_, rfl, by omega, rfl, (by first | (simp only [zi_lit, zi_neg, zi_add, zi_sub, zi_mul, zl_lit, zl_neg, zl_add, zl_sub, zl_mul, zl_i]; exact congrArg zi (by omega)) | (simp only [zi_lit, zi_neg, zi_add, zi_sub, zi_mul, zl_lit, zl_neg, zl_add, zl_sub, zl_mul, zl_i]; done) | exact congrArg zi (by omega)), by omega, ?_⟩))
      rw [he, nx_s, if_pos ⟨by omega, q2⟩]
      rfl
    · refine zw_f (zi_nk ((show (1 : Int32) = zi 1 from zi_lit 1)) q2 (by omega) (by omega)) (zw_some (Or.inr ⟨_, rfl, ?_⟩))
      rw [he, nx_s, if_neg (fun z => q2 z.2)]
theorem r_grow {h0 : AH} {M G : Nat → Int} (y : YM D T h0 h G) (b : bM D G) (bm : bM D M) {sh : Int} (hs : 0 ≤ sh ∧ sh ≤ 1000) {j : Nat} (hj : j < D.K) (hyg : D.Q j 10 = 1 → G j = M j) (hmv : gI h 264 j = zi (if D.Q j 10 = 1 then M j * sh / 1000 else 0)) {p1 p2 p3 p8 s : Int32} {p4 p6 : Int64} (h1 : s = zi j) : zw (l_X10_years_195 p1 p2 p3 p4 p6 p8 s h) (fun r => r.1 = .inl (zi ((j + 1 : Nat) : Int)) ∧ Fr (fun a k => a = 242 ∧ k % 11 = 0) h r.2 ∧ YM D T h0 r.2 (if D.Q j 10 = 1 ∧ nx D (j + 1) < D.K then uz (uz G j (G j - M j * sh / 1000)) (nx D (j + 1)) (G (nx D (j + 1)) + M j * sh / 1000) else G)) := by
  have hK := y.1.wf.K6
  have hn := nx_p D _ (j + 1) rfl (by omega)
  subst h1
  unfold l_X10_years_195
  refine zw_f (by rw [y.k4, zi_le (by omega) (by omega) (by omega) (by omega)]; omega) ?_
  refine zw_bd1 (r_nx y b hj (by exact (by first | (simp only [zi_lit, zi_neg, zi_add, zi_sub, zi_mul, zl_lit, zl_neg, zl_add, zl_sub, zl_mul, zl_i]; exact congrArg zi (by omega)) | (simp only [zi_lit, zi_neg, zi_add, zi_sub, zi_mul, zl_lit, zl_neg, zl_add, zl_sub, zl_mul, zl_i]; done) | exact congrArg zi (by omega)))) ?_
  unfold j_X10_years_237_195 j_X10_years_289_195
  dsimp only
  rw [show zi (j : Int) + 1 = zi ((j + 1 : Nat) : Int) from (by first | (simp only [zi_lit, zi_neg, zi_add, zi_sub, zi_mul, zl_lit, zl_neg, zl_add, zl_sub, zl_mul, zl_i]; exact congrArg zi (by omega)) | (simp only [zi_lit, zi_neg, zi_add, zi_sub, zi_mul, zl_lit, zl_neg, zl_add, zl_sub, zl_mul, zl_i]; done) | exact congrArg zi (by omega))]
  by_cases q3 : nx D (j + 1) < D.K
  · refine zw_t (by rw [y.k4, zi_lt (by omega) (by omega) (by omega) (by omega)]; omega) ?_
    refine zw_bd1 (ldI_ok (11 * j) (n := 66) rfl (by first | (simp only [zi_lit, zi_neg, zi_add, zi_sub, zi_mul, zl_lit, zl_neg, zl_add, zl_sub, zl_mul, zl_i]; exact congrArg zi (by omega)) | (simp only [zi_lit, zi_neg, zi_add, zi_sub, zi_mul, zl_lit, zl_neg, zl_add, zl_sub, zl_mul, zl_i]; done) | exact congrArg zi (by omega)) (by omega)) ?_
    refine zw_bd1 (ldI_ok j (n := 6) rfl rfl (by omega)) ?_
    refine zw_bd1 (stI_ok (11 * j) (n := 66) rfl (by first | (simp only [zi_lit, zi_neg, zi_add, zi_sub, zi_mul, zl_lit, zl_neg, zl_add, zl_sub, zl_mul, zl_i]; exact congrArg zi (by omega)) | (simp only [zi_lit, zi_neg, zi_add, zi_sub, zi_mul, zl_lit, zl_neg, zl_add, zl_sub, zl_mul, zl_i]; done) | exact congrArg zi (by omega)) (by omega)) ?_
    refine zw_bd1 (ldI_ok (11 * nx D (j + 1)) (n := 66) rfl (by first | (simp only [zi_lit, zi_neg, zi_add, zi_sub, zi_mul, zl_lit, zl_neg, zl_add, zl_sub, zl_mul, zl_i]; exact congrArg zi (by omega)) | (simp only [zi_lit, zi_neg, zi_add, zi_sub, zi_mul, zl_lit, zl_neg, zl_add, zl_sub, zl_mul, zl_i]; done) | exact congrArg zi (by omega)) (by omega)) ?_
    refine zw_bd1 (ldI_ok j (n := 6) rfl rfl (by omega)) ?_
    refine zw_bd1 (stI_ok (11 * nx D (j + 1)) (n := 66) rfl (by first | (simp only [zi_lit, zi_neg, zi_add, zi_sub, zi_mul, zl_lit, zl_neg, zl_add, zl_sub, zl_mul, zl_i]; exact congrArg zi (by omega)) | (simp only [zi_lit, zi_neg, zi_add, zi_sub, zi_mul, zl_lit, zl_neg, zl_add, zl_sub, zl_mul, zl_i]; done) | exact congrArg zi (by omega)) (by omega)) ?_
    have f2 : ∀ u v : Int32, Fr (fun a k => a = 242 ∧ k % 11 = 0) h (sI (sI h 242 (11 * j) u) 242 (11 * nx D (j + 1)) v) := fun u v => ((Fr.refl _ h).sI (by omega)).sI (by omega)
    refine zw_some ⟨rfl, f2 _ _, y.1, y.2.1.trans ((f2 _ _).mono (by unfold ySc; omega)), fun k hk => ?_⟩
    show gI (sI (sI h 242 (11 * j) _) 242 (11 * nx D (j + 1)) _) 242 (11 * k) = _
    have e264 : ∀ u : Int32, gI (sI h 242 (11 * j) u) 264 j = zi (if D.Q j 10 = 1 then M j * sh / 1000 else 0) := fun u => by rw [gI_sI, if_neg (by omega)]; exact hmv
    rw [gI_sI]
    by_cases k1 : k = nx D (j + 1)
    · rw [if_pos ⟨rfl, by rw [k1]⟩, e264, gI_sI, if_neg (by omega), y.2.2 _ q3, zi_add]
      refine congrArg zi ?_
      by_cases qy : D.Q j 10 = 1
      · rw [if_pos qy, if_pos ⟨qy, q3⟩]
        unfold uz
        rw [if_pos k1]
      · rw [if_neg qy, if_neg (fun z => qy z.1), k1, Int.add_zero]
    · rw [if_neg (by omega), gI_sI]
      by_cases k2 : k = j
      · subst k2
        rw [if_pos ⟨rfl, rfl⟩, y.2.2 k hj, hmv, zi_sub]
        refine congrArg zi ?_
        by_cases qy : D.Q k 10 = 1
        · rw [if_pos qy, if_pos ⟨qy, q3⟩]
          unfold uz
          rw [if_neg k1, if_pos rfl]
        · rw [if_neg qy, if_neg (fun z => qy z.1), Int.sub_zero]
      · rw [if_neg (by omega), y.2.2 k hk]
        refine congrArg zi ?_
        split
        · unfold uz
          rw [if_neg k1, if_neg k2]
        · rfl
  · refine zw_f (by rw [y.k4, zi_lt (by omega) (by omega) (by omega) (by omega)]; omega) (zw_some ⟨rfl, Fr.refl _ _, ?_⟩)
    rw [if_neg (fun z => q3 z.2)]
    exact y
theorem r_year {h0 : AH} {sh : Int} (hs : 0 ≤ sh ∧ sh ≤ 1000) {i : Nat} (y : YM D T h0 h (yM D sh i)) {p1 p2 p3 p8 : Int32} {p4 p6 : Int64} (h2 : p2 = zi sh) : zw (bd (lpH (l_X10_years_141 p1 p2 p3 p4 p6 p8) FU 0 h) fun y14 => lpH (l_X10_years_195 p1 p2 p3 p4 p6 p8) FU 0 y14.2) (fun r => Fr (fun a k => (a = 242 ∧ k % 11 = 0) ∨ a = 264) h r.2 ∧ YM D T h0 r.2 (yM D sh (i + 1))) := by
  have hD := y.1.wf
  have hK := hD.K6
  have yb := yM_b hD y.1.2.1 hs i
  have hw := wM_wf hD yb
  subst h2
  refine zw_bd (P := fun w => Fr (fun a _ => a = 264) h w.2 ∧ ∀ k, k < D.K → gI w.2 264 k = zi (if D.Q k 10 = 1 then yM D sh i k * sh / 1000 else 0)) ?_ ?_
  · refine zw_for D.K (fun j => zi j) () (fun j h' => Fr (fun a _ => a = 264) h h' ∧ ∀ k, k < j → gI h' 264 k = zi (if D.Q k 10 = 1 then yM D sh i k * sh / 1000 else 0)) (by omega) rfl ⟨Fr.refl _ _, fun k hk => by omega⟩ ?_ ?_
    · rintro j h' hj ⟨hf, hm⟩
      have y' : YM D T h0 h' (yM D sh i) := ⟨y.1, y.2.1.trans (hf.mono (by unfold ySc; omega)), fun k hk => by rw [hf.i (by omega)]; exact y.2.2 k hk⟩
      have q10 := (hD.q j hj).2.2.2.2.2.2.2
      unfold l_X10_years_141
      refine zw_f (by rw [y'.k4, zi_le (by omega) (by omega) (by omega) (by omega)]; omega) ?_
      refine zw_bd1 (r_of (D := wM D (yM D sh i)) hw y'.rh (k := j) (w := 10) rfl ((show (10 : Int32) = zi 10 from zi_lit 10)) hj (by decide)) ?_
      have e10 : (wM D (yM D sh i)).Q j 10 = D.Q j 10 := rfl
      have e0 : (wM D (yM D sh i)).Q j 0 = yM D sh i j := rfl
      rw [e10]
      have fin : ∀ v : Int32, v = zi (if D.Q j 10 = 1 then yM D sh i j * sh / 1000 else 0) → zw (j_X10_years_185_141 p1 (zi sh) p3 p4 p6 p8 (zi j) v (zi j) h') (fun r => r.1 = .inl (zi ((j + 1 : Nat) : Int)) ∧ Fr (fun a _ => a = 264) h r.2 ∧ ∀ k, k < j + 1 → gI r.2 264 k = zi (if D.Q k 10 = 1 then yM D sh i k * sh / 1000 else 0)) := by
        rintro v rfl
        unfold j_X10_years_185_141
        refine zw_bd1 (stI_ok j (n := 6) rfl rfl (by omega)) ?_
        refine zw_some ⟨congrArg Sum.inl (by first | (simp only [zi_lit, zi_neg, zi_add, zi_sub, zi_mul, zl_lit, zl_neg, zl_add, zl_sub, zl_mul, zl_i]; exact congrArg zi (by omega)) | (simp only [zi_lit, zi_neg, zi_add, zi_sub, zi_mul, zl_lit, zl_neg, zl_add, zl_sub, zl_mul, zl_i]; done) | exact congrArg zi (by omega)), hf.sI rfl, fun k hk => ?_⟩
        show gI (sI h' 264 j _) 264 k = _
        rw [gI_sI]
        by_cases q : k = j
        · rw [if_pos ⟨rfl, q⟩, q]
        · rw [if_neg (fun z => q z.2)]
          exact hm k (by omega)
      by_cases qy : D.Q j 10 = 1
      · refine zw_t (by rw [qy]; rfl) ?_
        have g := go_b yb hs hj
        refine zw_bd1 (r_of (D := wM D (yM D sh i)) hw y'.rh (k := j) (w := 0) rfl ((show (0 : Int32) = zi 0 from zi_lit 0)) hj (by decide)) ?_
        rw [e0]
        refine zw_bd1 (idivF_ok (a := yM D sh i j * sh) (b := 1000) (zi_mul _ _) ((show (1000 : Int32) = zi 1000 from zi_lit 1000)) g.1.1 (by omega) (by decide) (by decide)) ?_
        refine fin _ ?_
        rw [if_pos qy]
      · refine zw_f (zi_nk ((show (1 : Int32) = zi 1 from zi_lit 1)) qy (by omega) (by omega)) (fin _ ?_)
        rw [if_neg qy]
        rfl
    · rintro h' ⟨hf, hm⟩
      have y' : YM D T h0 h' (yM D sh i) := ⟨y.1, y.2.1.trans (hf.mono (by unfold ySc; omega)), fun k hk => by rw [hf.i (by omega)]; exact y.2.2 k hk⟩
      unfold l_X10_years_141
      exact zw_t (by rw [y'.k4, zi_le (by omega) (by omega) (by omega) (by omega)]; omega) (zw_some ⟨rfl, hf, hm⟩)
  · rintro ⟨u1, g1⟩ ⟨f1, m1⟩
    dsimp only at f1 m1 ⊢
    have y1 : YM D T h0 g1 (yM D sh i) := ⟨y.1, y.2.1.trans (f1.mono (by unfold ySc; omega)), fun k hk => by rw [f1.i (by omega)]; exact y.2.2 k hk⟩
    refine zw_for D.K (fun j => zi j) () (fun j h2 => Fr (fun a k => a = 242 ∧ k % 11 = 0) g1 h2 ∧ YM D T h0 h2 (gU D sh (yM D sh i) j)) (by omega) rfl ⟨Fr.refl _ _, y1⟩ ?_ ?_
    · rintro j h2 hj ⟨hf2, y2⟩
      refine zw_mono (r_grow y2 (gU_b yb hs j (by omega)) yb hs hj (fun q => gU_y D sh (yM D sh i) hj q j (Nat.le_refl _)) ?_ rfl) ?_
      · rw [hf2.i (by omega)]
        exact m1 j hj
      · rintro ⟨r1, r2⟩ ⟨e1, f2, y3⟩
        exact ⟨e1, hf2.trans f2, y3⟩
    · rintro h2 ⟨hf2, y2⟩
      unfold l_X10_years_195
      exact zw_t (by rw [y2.k4, zi_le (by omega) (by omega) (by omega) (by omega)]; omega) (zw_some ⟨rfl, (f1.mono (by omega)).trans (hf2.mono (by omega)), y2⟩)
theorem r_years (x : IVd D T h) {n : Nat} {sh w : Int} (hn : 1 ≤ n ∧ n ≤ 60) (hs : 0 ≤ sh ∧ sh ≤ 1000) (hw : 0 ≤ w ∧ w - 2 < D.K) {a0 a1 a2 : Int32} (h0 : a0 = zi n) (h1 : a1 = zi sh) (h2 : a2 = zi w) : zw (bd (lpH (l_X10_years_81 a0 a1 a2) FU 0 h) fun y7 => bd (lpH (l_X10_years_119 a0 a1 a2) FU (0, 0, 0) y7.2) fun y27 => if a2 = 0 then j_X10_years_329 y27.1.1 y27.2 else if a2 = 1 then j_X10_years_329 y27.1.2 y27.2 else bd (s_X10_of (a2 - 2) 0 y27.2) fun x29 => j_X10_years_329 x29.toInt64 y27.2) (fun r => r.1 = (if w = 0 then zl (yLast D sh n) else if w = 1 then zl (zs (yE D sh) n) else zl (yM D sh n (w - 2).toNat)) ∧ Fr (fun a k => a = 242 ∨ a = 263 ∨ a = 264) h r.2 ∧ IVd D T r.2) := by
  have hD := x.wf
  have hK := hD.K6
  have yb := yM_b hD x.2.1 hs
  subst h0 h1 h2
  refine zw_bd (P := fun y => Fr (fun a _ => a = 263) h y.2 ∧ ∀ k, k < D.K → gI y.2 263 k = zi (D.Q k 0)) ?_ ?_
  · refine zw_for D.K (fun j => zi j) () (fun j h' => Fr (fun a _ => a = 263) h h' ∧ ∀ k, k < j → gI h' 263 k = zi (D.Q k 0)) (by omega) rfl ⟨Fr.refl _ _, fun k hk => by omega⟩ ?_ ?_
    · rintro j h' hj ⟨hf, hm⟩
      have y := x.fr (hf.mono (by unfold SC; omega))
      unfold l_X10_years_81
      refine zw_f (by rw [y.rh.1.2.2.2.1, zi_le (by omega) (by omega) (by omega) (by omega)]; omega) ?_
      refine zw_bd1 (r_of hD y.rh rfl (w := 0) ((show (0 : Int32) = zi 0 from zi_lit 0)) hj (by decide)) ?_
      refine zw_bd1 (stI_ok j (n := 6) rfl rfl (by omega)) ?_
      refine zw_some ⟨congrArg Sum.inl (by first | (simp only [zi_lit, zi_neg, zi_add, zi_sub, zi_mul, zl_lit, zl_neg, zl_add, zl_sub, zl_mul, zl_i]; exact congrArg zi (by omega)) | (simp only [zi_lit, zi_neg, zi_add, zi_sub, zi_mul, zl_lit, zl_neg, zl_add, zl_sub, zl_mul, zl_i]; done) | exact congrArg zi (by omega)), hf.sI rfl, fun k hk => ?_⟩
      show gI (sI h' 263 j _) 263 k = _
      rw [gI_sI]
      by_cases q : k = j
      · rw [if_pos ⟨rfl, q⟩, q]
      · rw [if_neg (fun z => q z.2)]
        exact hm k (by omega)
    · rintro h' ⟨hf, hm⟩
      have y := x.fr (hf.mono (by unfold SC; omega))
      unfold l_X10_years_81
      exact zw_t (by rw [y.rh.1.2.2.2.1, zi_le (by omega) (by omega) (by omega) (by omega)]; omega) (zw_some ⟨rfl, hf, hm⟩)
  · rintro ⟨u1, g1⟩ ⟨f1, w1⟩
    dsimp only at f1 w1 ⊢
    have y1 : YM D T h g1 (yM D sh 0) := ⟨x, f1.mono (by unfold ySc; omega), fun k hk => by rw [f1.i (by omega)]; exact x.rh.2.2.1 k 0 hk (by decide)⟩
    refine zw_bd (P := fun y => y.1 = (zl (yLast D sh n), zl (zs (yE D sh) n)) ∧ YM D T h y.2 (yM D sh n) ∧ ∀ k, k < D.K → gI y.2 263 k = zi (D.Q k 0)) ?_ ?_
    · refine zw_for n (fun i => (zl (yLast D sh i), zl (zs (yE D sh) i), zi i)) (zl (yLast D sh n), zl (zs (yE D sh) n)) (fun i h' => YM D T h h' (yM D sh i) ∧ ∀ k, k < D.K → gI h' 263 k = zi (D.Q k 0)) (by omega) rfl ⟨y1, w1⟩ ?_ ?_
      · rintro i h' hi ⟨hy, hm⟩
        unfold l_X10_years_119
        dsimp only
        refine zw_f (by rw [zi_le (by omega) (by omega) (by omega) (by omega)]; omega) ?_
        refine zw_bd1 (r_yearE hy (yb i)) ?_
        have yy := r_year hs hy (p1 := zi n) (p2 := zi sh) (p3 := zi w) (p4 := zl (eTake D.N D.K (dB D) D.P (yM D sh i) (cf D) (fun e => D.E e 1))) (p6 := zl (zs (yE D sh) i) + zl (eTake D.N D.K (dB D) D.P (yM D sh i) (cf D) (fun e => D.E e 1))) (p8 := zi i) rfl
        obtain ⟨⟨u2, g2⟩, e2, f2, y2⟩ := yy
        dsimp only at f2 y2
        obtain ⟨⟨u3, g3⟩, e3, e4⟩ := bd_split e2
        refine zw_bd1 e3 (zw_bd1 e4 ?_)
        refine zw_some ⟨congrArg Sum.inl ?_, y2, fun k hk => by rw [f2.i (by omega)]; exact hm k hk⟩
        refine Prod.ext rfl (Prod.ext ?_ ?_)
        · exact zl_add _ _
        · exact (by first | (simp only [zi_lit, zi_neg, zi_add, zi_sub, zi_mul, zl_lit, zl_neg, zl_add, zl_sub, zl_mul, zl_i]; exact congrArg zi (by omega)) | (simp only [zi_lit, zi_neg, zi_add, zi_sub, zi_mul, zl_lit, zl_neg, zl_add, zl_sub, zl_mul, zl_i]; done) | exact congrArg zi (by omega))
      · rintro h' ⟨hy, hm⟩
        unfold l_X10_years_119
        dsimp only
        exact zw_t (by rw [zi_le (by omega) (by omega) (by omega) (by omega)]; omega) (zw_some ⟨rfl, rfl, hy, hm⟩)
    · rintro ⟨v2, g2⟩ ⟨e2, y2, w2⟩
      dsimp only at e2 y2 w2 ⊢
      subst e2
      dsimp only
      have hfr : Fr (fun a k => a = 242 ∨ a = 263 ∨ a = 264) h g2 := y2.2.1.mono (by unfold ySc; omega)
      -- as it was
      have back : ∀ v : Int64, zw (j_X10_years_329 v g2) (fun r => r.1 = v ∧ Fr (fun a k => a = 242 ∨ a = 263 ∨ a = 264) h r.2 ∧ IVd D T r.2) := by
        intro v
        unfold j_X10_years_329
        refine zw_bd (P := fun y => Fr (fun a k => a = 242 ∧ k % 11 = 0) g2 y.2 ∧ ∀ k, k < D.K → gI y.2 242 (11 * k) = zi (D.Q k 0)) ?_ ?_
        · refine zw_for D.K (fun j => zi j) () (fun j h' => Fr (fun a k => a = 242 ∧ k % 11 = 0) g2 h' ∧ ∀ k, k < j → gI h' 242 (11 * k) = zi (D.Q k 0)) (by omega) rfl ⟨Fr.refl _ _, fun k hk => by omega⟩ ?_ ?_
          · rintro j h' hj ⟨hf, hm⟩
            have eK : gI h' 240 4 = zi D.K := by rw [hf.i (by omega)]; exact y2.rh.1.2.2.2.1
            unfold l_X10_years_334
            refine zw_f (by rw [eK, zi_le (by omega) (by omega) (by omega) (by omega)]; omega) ?_
            refine zw_bd1 (ldI_ok j (n := 6) rfl rfl (by omega)) ?_
            rw [hf.i (by omega), w2 j hj]
            refine zw_bd1 (stI_ok (11 * j) (n := 66) rfl (by first | (simp only [zi_lit, zi_neg, zi_add, zi_sub, zi_mul, zl_lit, zl_neg, zl_add, zl_sub, zl_mul, zl_i]; exact congrArg zi (by omega)) | (simp only [zi_lit, zi_neg, zi_add, zi_sub, zi_mul, zl_lit, zl_neg, zl_add, zl_sub, zl_mul, zl_i]; done) | exact congrArg zi (by omega)) (by omega)) ?_
            refine zw_some ⟨congrArg Sum.inl (by first | (simp only [zi_lit, zi_neg, zi_add, zi_sub, zi_mul, zl_lit, zl_neg, zl_add, zl_sub, zl_mul, zl_i]; exact congrArg zi (by omega)) | (simp only [zi_lit, zi_neg, zi_add, zi_sub, zi_mul, zl_lit, zl_neg, zl_add, zl_sub, zl_mul, zl_i]; done) | exact congrArg zi (by omega)), hf.sI (by omega), fun k hk => ?_⟩
            show gI (sI h' 242 (11 * j) _) 242 (11 * k) = _
            rw [gI_sI]
            by_cases q : k = j
            · rw [if_pos ⟨rfl, by rw [q]⟩, q]
            · rw [if_neg (by omega)]
              exact hm k (by omega)
          · rintro h' ⟨hf, hm⟩
            have eK : gI h' 240 4 = zi D.K := by rw [hf.i (by omega)]; exact y2.rh.1.2.2.2.1
            unfold l_X10_years_334
            exact zw_t (by rw [eK, zi_le (by omega) (by omega) (by omega) (by omega)]; omega) (zw_some ⟨rfl, hf, hm⟩)
        · rintro ⟨u3, g3⟩ ⟨f3, m3⟩
          dsimp only at f3 m3 ⊢
          have fall : Fr ySc h g3 := y2.2.1.trans (f3.mono (by unfold ySc; omega))
          have y3 : YM D T h g3 (fun k => D.Q k 0) := ⟨x, fall, m3⟩
          have rh3 : RH D g3 := by
            have r := y3.rh
            refine ⟨r.1, r.2.1, fun k w hk hw => ?_, r.2.2.2⟩
            have e := r.2.2.1 k w hk hw
            by_cases q : w = 0
            · subst q
              exact e
            · have e' : (wM D (fun k => D.Q k 0)).Q k w = D.Q k w := if_neg q
              rw [e'] at e
              exact e
          refine zw_some ⟨rfl, fall.mono (by unfold ySc; omega), x.frR (fall.mono (by unfold ySc SC; omega)) ⟨rh3, (x.r.fr' fall (by intro a k; unfold ySc; omega))⟩⟩
      by_cases w0 : w = 0
      · refine zw_t (by rw [w0]; rfl) ?_
        rw [if_pos w0]
        exact back _
      · refine zw_f (zi_nk ((show (0 : Int32) = zi 0 from zi_lit 0)) w0 (by omega) (by omega)) ?_
        rw [if_neg w0]
        by_cases w1' : w = 1
        · refine zw_t (by rw [w1']; rfl) ?_
          rw [if_pos w1']
          exact back _
        · refine zw_f (zi_nk ((show (1 : Int32) = zi 1 from zi_lit 1)) w1' (by omega) (by omega)) ?_
          rw [if_neg w1']
          have by2 := bM_le (yb n) (by omega : (w - 2).toNat < D.K)
          refine zw_bd1 (r_of (D := wM D (yM D sh n)) (wM_wf hD (yb n)) y2.rh (k := (w - 2).toNat) (w := 0) (by first | (simp only [zi_lit, zi_neg, zi_add, zi_sub, zi_mul, zl_lit, zl_neg, zl_add, zl_sub, zl_mul, zl_i]; exact congrArg zi (by omega)) | (simp only [zi_lit, zi_neg, zi_add, zi_sub, zi_mul, zl_lit, zl_neg, zl_add, zl_sub, zl_mul, zl_i]; done) | exact congrArg zi (by omega)) ((show (0 : Int32) = zi 0 from zi_lit 0)) (by show (w - 2).toNat < D.K; omega) (by decide)) ?_
          have e0 : (wM D (yM D sh n)).Q (w - 2).toNat 0 = yM D sh n (w - 2).toNat := rfl
          rw [e0, zi_l (by omega) (by omega)]
          exact back _
end
