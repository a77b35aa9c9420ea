/-! 72.years: the young in years -/
def nxF (D : HD) : Nat → Nat → Nat
  | 0, i => i
  | f + 1, i => if i < D.K ∧ D.Q i 10 = 1 then nxF D f (i + 1) else i
/-- the next kind from i on that isn't young -/
def nx (D : HD) (i : Nat) : Nat := nxF D (D.K - i) i
theorem nx_s (D : HD) (i : Nat) : nx D i = if i < D.K ∧ D.Q i 10 = 1 then nx D (i + 1) else i := by
  unfold nx
  rcases Nat.lt_or_ge i D.K with q | q
  · have e : D.K - i = (D.K - (i + 1)) + 1 := by omega
    rw [e]
    show (if i < D.K ∧ D.Q i 10 = 1 then nxF D (D.K - (i + 1)) (i + 1) else i) = _
    rfl
  · rw [if_neg (by omega), show D.K - i = 0 by omega]
    rfl
theorem nx_p (D : HD) : ∀ d i, D.K - i = d → i ≤ D.K → i ≤ nx D i ∧ nx D i ≤ D.K ∧ (nx D i < D.K → D.Q (nx D i) 10 ≠ 1) := by
  intro d
  induction d with
  | zero =>
    intro i hd hi
    rw [nx_s, if_neg (by omega)]
    omega
  | succ d ih =>
    intro i hd hi
    rw [nx_s]
    by_cases q : i < D.K ∧ D.Q i 10 = 1
    · rw [if_pos q]
      have := ih (i + 1) (by omega) (by omega)
      omega
    · rw [if_neg q]
      refine ⟨Nat.le_refl _, hi, fun h1 h2 => q ⟨h1, h2⟩⟩
def uz (f : Nat → Int) (a : Nat) (v : Int) : Nat → Int := fun i => if i = a then v else f i
/-- people behind the kinds below j have grown up -/
def gU (D : HD) (sh : Int) (M : Nat → Int) : Nat → Nat → Int
  | 0 => M
  | j + 1 => if D.Q j 10 = 1 ∧ nx D (j + 1) < D.K then uz (uz (gU D sh M j) j (gU D sh M j j - M j * sh / 1000)) (nx D (j + 1)) (gU D sh M j (nx D (j + 1)) + M j * sh / 1000) else gU D sh M j
theorem gU_s (D : HD) (sh : Int) (M : Nat → Int) (j : Nat) : gU D sh M (j + 1) = if D.Q j 10 = 1 ∧ nx D (j + 1) < D.K then uz (uz (gU D sh M j) j (gU D sh M j j - M j * sh / 1000)) (nx D (j + 1)) (gU D sh M j (nx D (j + 1)) + M j * sh / 1000) else gU D sh M j := rfl
/-- who hasn't had his turn and is young is as he was -/
theorem gU_y (D : HD) (sh : Int) (M : Nat → Int) {j : Nat} (hj : j < D.K) (hy : D.Q j 10 = 1) : ∀ i, i ≤ j → gU D sh M i j = M j := by
  intro i
  induction i with
  | zero => intro _; rfl
  | succ i ih =>
    intro hi
    rw [gU_s]
    split
    · rename_i q
      have hn := nx_p D _ (i + 1) rfl (by omega)
      have : j ≠ nx D (i + 1) := fun z => hn.2.2 q.2 (z ▸ hy)
      unfold uz
      rw [if_neg this, if_neg (by omega)]
      exact ih (by omega)
    · exact ih (by omega)
theorem zs_uz (f : Nat → Int) (a : Nat) (v : Int) (n : Nat) (ha : a < n) : zs (uz f a v) n = zs f n - f a + v := by
  induction n with
  | zero => omega
  | succ n ih =>
    rw [zs_s, zs_s]
    by_cases q : a = n
    · subst q
      have : zs (uz f a v) a = zs f a := zs_congr (fun i hi => by unfold uz; rw [if_neg (by omega)])
      rw [this]
      unfold uz
      rw [if_pos rfl]
      omega
    · rw [ih (by omega)]
      have : uz f a v n = f n := by unfold uz; rw [if_neg (by omega)]
      rw [this]
      omega
/-- bounds of people -/
def bM (D : HD) (M : Nat → Int) : Prop := (∀ k, k < D.K → 0 ≤ M k) ∧ zs M D.K ≤ 360
theorem bM_le {D : HD} {M : Nat → Int} (b : bM D M) {k : Nat} (hk : k < D.K) : 0 ≤ M k ∧ M k ≤ 360 := by
  have m := zs_mono (f := M) (m := k + 1) (n := D.K) (by omega) (fun i _ hi => b.1 i hi)
  have n0 := zs_nn (f := M) (n := k) (fun i hi => b.1 i (by omega))
  rw [zs_s] at m
  have := b.1 k hk
  have := b.2
  omega
theorem go_b {D : HD} {M : Nat → Int} (b : bM D M) {sh : Int} (hs : 0 ≤ sh ∧ sh ≤ 1000) {k : Nat} (hk : k < D.K) : (0 ≤ M k * sh ∧ M k * sh ≤ 360000) ∧ 0 ≤ M k * sh / 1000 ∧ M k * sh / 1000 ≤ M k := by
  have bk := bM_le b hk
  have m := mul_b bk.1 bk.2 hs.1 hs.2
  have m2 := mul_b (a := M k) (A := M k) (B := 1000) bk.1 (Int.le_refl _) hs.1 hs.2
  have d := div_b (b := 1000) (A := M k) (by decide) m2.1 m2.2
  exact ⟨⟨m.1, by omega⟩, d⟩
theorem gU_b {D : HD} {M : Nat → Int} (b : bM D M) {sh : Int} (hs : 0 ≤ sh ∧ sh ≤ 1000) : ∀ j, j ≤ D.K → bM D (gU D sh M j) := by
  intro j
  induction j with
  | zero => intro _; exact b
  | succ j ih =>
    intro hj
    have bj := ih (by omega)
    rw [gU_s]
    split
    · rename_i q
      have hn := nx_p D _ (j + 1) rfl (by omega)
      have g := go_b b hs (k := j) (by omega)
      have e := gU_y D sh M (j := j) (by omega) q.1 j (Nat.le_refl _)
      have c1 := bj.1 (nx D (j + 1)) q.2
      refine ⟨fun k hk => ?_, ?_⟩
      · unfold uz
        split
        · omega
        · split
          · rw [e]; omega
          · exact bj.1 k hk
      · rw [zs_uz _ _ _ _ q.2, zs_uz _ _ _ _ (by omega : j < D.K)]
        have hne : nx D (j + 1) ≠ j := by omega
        have : uz (gU D sh M j) j (gU D sh M j j - M j * sh / 1000) (nx D (j + 1)) = gU D sh M j (nx D (j + 1)) := by unfold uz; rw [if_neg hne]
        rw [this]
        have := bj.2
        omega
    · exact bj
/-- people after y years -/
def yM (D : HD) (sh : Int) : Nat → Nat → Int
  | 0 => fun k => D.Q k 0
  | y + 1 => gU D sh (yM D sh y) D.K
theorem bM_0 {D : HD} (hD : WFD D) (h6 : W60 D) : bM D (fun k => D.Q k 0) := by
  have hK := hD.K6
  refine ⟨fun k hk => (hD.q k hk).1.1, ?_⟩
  have := zs_le (f := fun k => D.Q k 0) (n := D.K) (B := 60) (fun k hk => h6 k hk)
  omega
theorem yM_b {D : HD} (hD : WFD D) (h6 : W60 D) {sh : Int} (hs : 0 ≤ sh ∧ sh ≤ 1000) : ∀ y, bM D (yM D sh y) := by
  intro y
  induction y with
  | zero => exact bM_0 hD h6
  | succ y ih => exact gU_b ih hs D.K (Nat.le_refl _)
def yE (D : HD) (sh : Int) (y : Nat) : Int := eTake D.N D.K (dB D) D.P (yM D sh y) (cf D) (fun e => D.E e 1)
def yLast (D : HD) (sh : Int) (i : Nat) : Int := if i = 0 then 0 else yE D sh (i - 1)
/-- the hall with other people -/
def wM (D : HD) (M : Nat → Int) : HD := (D.1, D.2.1, D.2.2.1, D.2.2.2.1, D.2.2.2.2.1, D.2.2.2.2.2.1, D.2.2.2.2.2.2.1, (fun k w => if w = 0 then M k else D.Q k w), D.2.2.2.2.2.2.2.2.1, D.2.2.2.2.2.2.2.2.2)
theorem wM_wf {D : HD} (hD : WFD D) {M : Nat → Int} (b : bM D M) : WFD (wM D M) := by
  refine ⟨hD.1, hD.2.1, fun k hk => ?_, hD.2.2.2.1, hD.2.2.2.2⟩
  have q := hD.q k hk
  have m := bM_le b hk
  refine ⟨?_, q.2.1, q.2.2.1, q.2.2.2.1, q.2.2.2.2.1, q.2.2.2.2.2.1, fun w h1 h2 => ?_, q.2.2.2.2.2.2.2⟩
  · show 0 ≤ M k ∧ M k ≤ 400
    omega
  · show 0 ≤ (if w = 0 then M k else D.Q k w) ∧ (if w = 0 then M k else D.Q k w) ≤ 999
    rw [if_neg (by omega)]
    exact q.2.2.2.2.2.2.1 w h1 h2
section
variable {D : HD} {T : Nat} {h : AH}
theorem IVd.frR {h' : AH} (x : IVd D T h) (f : Fr (fun a k => SC a k ∨ (241 ≤ a ∧ a ≤ 244) ∨ (255 ≤ a ∧ a ≤ 258)) h h') (y : YR D h') : IVd D T h' := by
  obtain ⟨h1, h2, h3, h4, h5, h6, h7, h8, h9, h10, h11, h12, h13⟩ := x
  exact ⟨h1, h2, (f.r (by unfold SC; omega)).trans h3, h4.fr h1 f (by intro a k; unfold YCa SC; omega), y, h6.fr f (by intro a k; unfold SC; omega), h7.fr f (by intro a k; unfold SC; omega), h8.fr f (by intro a k; unfold SC; omega), h9.fr f (by intro a k; unfold SC; omega), h10.fr f (by intro a k; unfold SC; omega), h11.fr f (by intro a k; unfold SC; omega), h12.fr f h1.K6 (by intro a k; unfold SC; omega), h13.fr f h1.K6 (by intro a k; unfold SC; omega)⟩
/-- the class's people row -/
def CM (D : HD) (M : Nat → Int) (h : AH) : Prop := ∀ k, k < D.K → gI h 30 k = zi (M k)
theorem c_grow (x : IVd D T h) {M G : Nat → Int} (b : bM D G) (bm : bM D M) {sh : Int} (hs : 0 ≤ sh ∧ sh ≤ 1000) {j : Nat} (hj : j < D.K) (m : CM D G h) (hyg : D.Q j 10 = 1 → G j = M j) {a0 a1 : Int32} (h0 : a0 = zi j) (h1 : a1 = zi sh) : zw (s_X0_growUp a0 a1 h) (fun r => Fr (fun a _ => a = 30) h r.2 ∧ CM D (if D.Q j 10 = 1 ∧ nx D (j + 1) < D.K then uz (uz G j (G j - M j * sh / 1000)) (nx D (j + 1)) (G (nx D (j + 1)) + M j * sh / 1000) else G) r.2) := by
  have hD := x.wf
  have hK := hD.K6
  subst h0 h1
  unfold s_X0_growUp
  rw [x.t13, bd_v, if_pos x.tl.l0, c_young hD x.tl x.ch rfl hj, bd_v]
  by_cases qy : D.Q j 10 = 1
  · rw [if_pos qy, if_neg one_ne]
    have hn := nx_p D _ (j + 1) rfl (by omega)
    have L : zw (lpH (l_X0_growUp_16 (zi j) (zi sh)) FU (zi j + 1) h) (fun r => r = (zi (nx D (j + 1) : Nat), h)) := by
      refine zw_lp D.K (fun i s h2 => h2 = h ∧ s = zi ((j + 1 + i : Nat) : Int) ∧ j + 1 + i ≤ D.K ∧ nx D (j + 1) = nx D (j + 1 + i)) (by omega) ⟨rfl, (by first | (simp only [zi_lit, zi_neg, zi_add, zi_sub, zi_mul, zl_lit, zl_neg, zl_add, zl_sub, zl_mul, zl_i]; exact congrArg zi (by omega)) | (simp only [zi_lit, zi_neg, zi_add, zi_sub, zi_mul, zl_lit, zl_neg, zl_add, zl_sub, zl_mul, zl_i]; done) | exact congrArg zi (by omega)), by omega, rfl⟩ ?_
      rintro i s h2 hi ⟨rfl, rfl, hle, he⟩
      unfold l_X0_growUp_16
      rw [x.t13, bd_v, if_pos x.tl.l0, x.ch.1.2.2.2.1]
      by_cases q1 : D.K ≤ j + 1 + i
      · refine zw_t (by rw [zi_le (by omega) (by omega) (by omega) (by omega)]; omega) (zw_some (Or.inr ⟨_, rfl, ?_⟩))
        rw [he, nx_s, if_neg (by omega)]
      · refine zw_f (by rw [zi_le (by omega) (by omega) (by omega) (by omega)]; omega) ?_
        rw [bd_v, if_pos x.tl.l0, c_young hD x.tl x.ch rfl (by omega), bd_v]
        by_cases q2 : D.Q (j + 1 + i) 10 = 1
        · rw [if_pos q2]
          refine zw_f one_ne (zw_some (Or.inl ⟨_, rfl, by omega, rfl, (by first | (simp only [zi_lit, zi_neg, zi_add, zi_sub, zi_mul, zl_lit, zl_neg, zl_add, zl_sub, zl_mul, zl_i]; exact congrArg zi (by omega)) | (simp only [zi_lit, zi_neg, zi_add, zi_sub, zi_mul, zl_lit, zl_neg, zl_add, zl_sub, zl_mul, zl_i]; done) | exact congrArg zi (by omega)), by omega, ?_⟩))
          rw [he, nx_s, if_pos ⟨by omega, q2⟩]
          rfl
        · rw [if_neg q2]
          refine zw_t rfl (zw_some (Or.inr ⟨_, rfl, ?_⟩))
          rw [he, nx_s, if_neg (fun z => q2 z.2)]
    refine zw_bd1 (zw_o L) ?_
    unfold j_X0_growUp_44
    dsimp only
    rw [x.t13, bd_v, if_pos x.tl.l0, x.ch.1.2.2.2.1]
    by_cases q3 : nx D (j + 1) < D.K
    · refine zw_f (by rw [zi_le (by omega) (by omega) (by omega) (by omega)]; omega) ?_
      have g := go_b bm hs hj
      have gj := bM_le bm hj
      refine zw_bd1 (at_ok j (n := 6) rfl rfl (by omega)) ?_
      rw [m j hj, hyg qy]
      refine zw_bd1 (idivF_ok (a := M j * sh) (b := 1000) (zi_mul _ _) ((show (1000 : Int32) = zi 1000 from zi_lit 1000)) g.1.1 (by omega) (by decide) (by decide)) ?_
      refine zw_bd1 (at_ok j (n := 6) rfl rfl (by omega)) ?_
      rw [m j hj, hyg qy]
      refine zw_bd1 (put_ok j (n := 6) rfl rfl (by omega)) ?_
      refine zw_bd1 (at_ok (nx D (j + 1)) (n := 6) rfl rfl (by omega)) ?_
      refine zw_bd1 (put_ok (nx D (j + 1)) (n := 6) rfl rfl (by omega)) ?_
      refine zw_some ⟨((Fr.refl (fun a _ => a = 30) h).sI rfl).sI rfl, fun k hk => ?_⟩
      rw [if_pos ⟨qy, q3⟩]
      show gI (sI (sI h 30 j _) 30 (nx D (j + 1)) _) 30 k = _
      unfold uz
      rw [gI_sI]
      by_cases k1 : k = nx D (j + 1)
      · rw [if_pos ⟨rfl, k1⟩, if_pos k1]
        show gI (sI h 30 j _) 30 (nx D (j + 1)) + _ = _
        rw [gI_sI, if_neg (by omega), m _ q3, zi_add]
      · rw [if_neg (fun z => k1 z.2), if_neg k1, gI_sI]
        by_cases k2 : k = j
        · rw [if_pos ⟨rfl, k2⟩, if_pos k2, zi_sub]
        · rw [if_neg (fun z => k2 z.2), if_neg k2]
          exact m k hk
    · refine zw_t (by rw [zi_le (by omega) (by omega) (by omega) (by omega)]; omega) (zw_some ⟨Fr.refl _ _, ?_⟩)
      rw [if_neg (fun z => q3 z.2)]
      exact m
  · rw [if_neg qy]
    refine zw_t rfl (zw_some ⟨Fr.refl _ _, ?_⟩)
    rw [if_neg (fun z => qy z.1)]
    exact m
theorem c_years (x : IVd D T h) {n : Nat} {sh w : Int} (hn : 1 ≤ n ∧ n ≤ 60) (hs : 0 ≤ sh ∧ sh ≤ 1000) (hw : 0 ≤ w ∧ w - 2 < D.K) {a0 a1 a2 : Int32} (h0 : a0 = zi n) (h1 : a1 = zi sh) (h2 : a2 = zi w) : zw (s_X0_throughYears a0 a1 a2 h) (fun r => r.1 = (if w = 0 then zl (yLast D sh n) else if w = 1 then zl (zs (yE D sh) n) else zl (yM D sh n (w - 2).toNat)) ∧ Fr (fun a _ => a = 30) h r.2) := by
  have hD := x.wf
  have hK := hD.K6
  have bT := x.tl.b
  have hne := x.c.1.2.1
  have yb := yM_b hD x.2.1 hs
  subst h0 h1 h2
  unfold s_X0_throughYears
  rw [x.t13, bd_v, if_pos x.tl.l0]
  refine zw_bd (copy_ok (a := T + 4) (b := 30) (by omega) x.tl.l4 (n := 6) rfl) ?_
  rintro ⟨u1, g1⟩ ⟨f1, v1⟩
  dsimp only at f1 v1 ⊢
  have m1 : CM D (yM D sh 0) g1 := fun k hk => by rw [v1 k (by omega)]; exact x.ch.2.2.2.2.1 k hk
  refine zw_bd (P := fun y => y.1 = (zl (yLast D sh n), zl (zs (yE D sh) n)) ∧ Fr (fun a _ => a = 30) h y.2 ∧ CM D (yM D sh n) y.2) ?_ ?_
  · refine zw_for n (fun i => (zl (yLast D sh i), zl (zs (yE D sh) i), zi i)) (zl (yLast D sh n), zl (zs (yE D sh) n)) (fun i h' => Fr (fun a _ => a = 30) h h' ∧ CM D (yM D sh i) h') (by omega) rfl ⟨f1, m1⟩ ?_ ?_
    · rintro y h' hy ⟨hf, hm⟩
      have xy := x.fr (hf.mono (by unfold SC; omega))
      unfold l_X0_throughYears_23
      dsimp only
      refine zw_f (by rw [zi_le (by omega) (by omega) (by omega) (by omega)]; omega) ?_
      rw [xy.t13, bd_v, if_pos xy.tl.l0]
      refine zw_bd1 (c_takings hD xy.c (ta := 14) (pa := T + 7) (ma := 30) (b := dB D) (P := D.P) (M := yM D sh y) rfl xy.tl.l7 rfl (fun k hk => ⟨xy.c.2.2 k hk, dB_lt D k⟩) (fun t ht => xy.ch.2.2.2.2.2.2 t ht) (fun k hk => ⟨hm k hk, by have := bM_le (yb y) hk; omega⟩) hD.p.2.1) ?_
      refine zw_bd (P := fun y2 => Fr (fun a _ => a = 30) h y2.2 ∧ CM D (yM D sh (y + 1)) y2.2) ?_ ?_
      · refine zw_for D.K (fun j => zi j) () (fun j h2 => Fr (fun a _ => a = 30) h h2 ∧ CM D (gU D sh (yM D sh y) j) h2) (by omega) rfl ⟨hf, hm⟩ ?_ ?_
        · rintro j h2 hj ⟨hf2, hm2⟩
          have x2 := x.fr (hf2.mono (by unfold SC; omega))
          unfold l_X0_throughYears_60
          rw [x2.t13, bd_v, if_pos x2.tl.l0, x2.ch.1.2.2.2.1]
          refine zw_f (by rw [zi_le (by omega) (by omega) (by omega) (by omega)]; omega) ?_
          refine zw_bd (c_grow x2 (gU_b (yb y) hs j (by omega)) (yb y) hs hj hm2 (fun q => gU_y D sh (yM D sh y) hj q j (Nat.le_refl _)) rfl rfl) ?_
          rintro ⟨u3, g3⟩ ⟨f3, m3⟩
          exact zw_some ⟨congrArg Sum.inl (by first | (simp only [zi_lit, zi_neg, zi_add, zi_sub, zi_mul, zl_lit, zl_neg, zl_add, zl_sub, zl_mul, zl_i]; exact congrArg zi (by omega)) | (simp only [zi_lit, zi_neg, zi_add, zi_sub, zi_mul, zl_lit, zl_neg, zl_add, zl_sub, zl_mul, zl_i]; done) | exact congrArg zi (by omega)), hf2.trans f3, m3⟩
        · rintro h2 ⟨hf2, hm2⟩
          have x2 := x.fr (hf2.mono (by unfold SC; omega))
          unfold l_X0_throughYears_60
          rw [x2.t13, bd_v, if_pos x2.tl.l0, x2.ch.1.2.2.2.1]
          exact zw_t (by rw [zi_le (by omega) (by omega) (by omega) (by omega)]; omega) (zw_some ⟨rfl, hf2, hm2⟩)
      · rintro ⟨u3, g3⟩ ⟨f3, m3⟩
        refine zw_some ⟨congrArg Sum.inl ?_, f3, m3⟩
        refine Prod.ext rfl (Prod.ext ?_ ?_)
        · exact zl_add _ _
        · exact (by first | (simp only [zi_lit, zi_neg, zi_add, zi_sub, zi_mul, zl_lit, zl_neg, zl_add, zl_sub, zl_mul, zl_i]; exact congrArg zi (by omega)) | (simp only [zi_lit, zi_neg, zi_add, zi_sub, zi_mul, zl_lit, zl_neg, zl_add, zl_sub, zl_mul, zl_i]; done) | exact congrArg zi (by omega))
    · rintro h' ⟨hf, hm⟩
      unfold l_X0_throughYears_23
      dsimp only
      exact zw_t (by rw [zi_le (by omega) (by omega) (by omega) (by omega)]; omega) (zw_some ⟨rfl, rfl, hf, hm⟩)
  · rintro ⟨v2, g2⟩ ⟨e2, f2, m2⟩
    dsimp only at e2 f2 m2 ⊢
    subst e2
    dsimp only
    by_cases w0 : w = 0
    · refine zw_t (by rw [w0]; rfl) (zw_some ⟨?_, f2⟩)
      rw [if_pos w0]
    · refine zw_f (zi_nk ((show (0 : Int32) = zi 0 from zi_lit 0)) w0 (by omega) (by omega)) ?_
      by_cases w1 : w = 1
      · refine zw_t (by rw [w1]; rfl) (zw_some ⟨?_, f2⟩)
        rw [if_neg w0, if_pos w1]
      · refine zw_f (zi_nk ((show (1 : Int32) = zi 1 from zi_lit 1)) w1 (by omega) (by omega)) ?_
        have by2 := bM_le (yb n) (by omega : (w - 2).toNat < D.K)
        refine zw_bd1 (at_ok (w - 2).toNat (n := 6) rfl (by first | (simp only [zi_lit, zi_neg, zi_add, zi_sub, zi_mul, zl_lit, zl_neg, zl_add, zl_sub, zl_mul, zl_i]; exact congrArg zi (by omega)) | (simp only [zi_lit, zi_neg, zi_add, zi_sub, zi_mul, zl_lit, zl_neg, zl_add, zl_sub, zl_mul, zl_i]; done) | exact congrArg zi (by omega)) (by omega)) (zw_some ⟨?_, f2⟩)
        show (gI g2 30 _).toInt64 = _
        rw [m2 _ (by omega), zi_l (by omega) (by omega), if_neg w0, if_neg w1]
end
