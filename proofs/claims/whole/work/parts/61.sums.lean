/-! 61.sums: what both halves hold of a hall's people, and the sums over them -/
abbrev dW (D : HD) (k t : Nat) : Int := pV D (rSet D) k t 2 D.N (c0 D t) 0
abbrev dB (D : HD) (k : Nat) : Nat := bst (dW D k) D.P (D.Q k 10) 4
abbrev cf (D : HD) (k t e : Nat) : Int := dCome D (rSet D) k t 1 e
theorem dW_b {D : HD} (hD : WFD D) {k : Nat} (hk : k < D.K) : bW (dW D k) D.P := by
  have hN := hD.N16
  have hc := fun t => c0_lt hD t
  refine ⟨fun t ht => ?_, hD.p.2.1⟩
  have := pV_b hD (rSet D) (t := t) (th := 2) hk (Or.inr rfl) D.N (c0 D t) 0 (Nat.le_refl _) (by omega)
  have e : (D.N : Int) ≤ 16 := by omega
  refine ⟨this.1, Int.le_trans this.2 ?_⟩
  omega
theorem dB_lt (D : HD) (k : Nat) : dB D k < 5 := by
  have := bst_le (dW D k) D.P (D.Q k 10) 4
  show bst _ _ _ 4 < 5
  omega
theorem cf_b {D : HD} (hD : WFD D) {k t e : Nat} (hk : k < D.K) (he : e < D.N) : 0 ≤ cf D k t e ∧ cf D k t e ≤ 1000000000 := dCome_b hD _ hk (Or.inl rfl) he
/-- the cells that YC speaks of -/
def YCa (a k : Nat) : Prop := (a = 0 ∧ k = 8) ∨ (13 ≤ a ∧ a ≤ 22) ∨ (a = 23 ∧ k ≤ 1) ∨ a = 29 ∨ (31 ≤ a ∧ a ≤ 210) ∨ (232 ≤ a ∧ a ≤ 239)
def YC1 (D : HD) (T : Nat) (h : AH) : Prop := TL T ∧ T ≠ 5 ∧ CH D T h ∧ CB h ∧ gR h 13 1 = some T ∧ gR h 0 8 = some T ∧ ∀ t p, PL t p → PK t p h
def YC2 (D : HD) (h : AH) : Prop := (∀ k t, k < D.K → t < 5 → POk D (rSet D) k t (31 + 6 * (5 * k + t)) h) ∧ ∀ k, k < D.K → gI h 14 k = zi (dB D k)
/-- the class's half of a hall that is read -/
def YC (D : HD) (T : Nat) (h : AH) : Prop := YC1 D T h ∧ YC2 D h
theorem POk.fr {D : HD} {set : Nat → Int} {k t p : Nat} {h h' : AH} {S : Nat → Nat → Prop} (x : POk D set k t p h) (f : Fr S h h') (n : ∀ a j, p ≤ a → a ≤ p + 5 → ¬ S a j) : POk D set k t p h' := ⟨x.1.fr f (n _ _ (by omega) (by omega)) (n _ _ (by omega) (by omega)) (fun j => n _ _ (by omega) (by omega)), x.2.1.fr f (n _ _ (by omega) (by omega)) (n _ _ (by omega) (by omega)) (fun j => n _ _ (by omega) (by omega)) (fun j => n _ _ (by omega) (by omega)), (f.l (n _ _ (by omega) (by omega))).trans x.2.2⟩
theorem YC1.fr {D : HD} {T : Nat} {h h' : AH} {S : Nat → Nat → Prop} (x : YC1 D T h) (f : Fr S h h') (n : ∀ a k, YCa a k → ¬ S a k) : YC1 D T h' := by
  have bT := x.1.b
  have hne := x.2.1
  refine ⟨x.1, x.2.1, x.2.2.1.fr f (fun a k h1 h2 => n a k (by unfold YCa; omega)), x.2.2.2.1.fr f (fun j => n _ _ (by unfold YCa; omega)), (f.r (n _ _ (by unfold YCa; omega))).trans x.2.2.2.2.1, (f.r (n _ _ (by unfold YCa; omega))).trans x.2.2.2.2.2.1, fun t p hp => ?_⟩
  have bp := hp.b
  exact (x.2.2.2.2.2.2 t p hp).fr f (n _ _ (by unfold YCa; omega)) (n _ _ (by unfold YCa; omega))
theorem YC2.fr {D : HD} {h h' : AH} {S : Nat → Nat → Prop} (hD : WFD D) (x : YC2 D h) (f : Fr S h h') (n : ∀ a k, YCa a k → ¬ S a k) : YC2 D h' := by
  have := hD.K6
  exact ⟨fun k t hk ht => (x.1 k t hk ht).fr f (fun a j h1 h2 => n a j (by unfold YCa; omega)), fun k hk => (f.i (n _ _ (by unfold YCa; omega))).trans (x.2 k hk)⟩
theorem YC.fr {D : HD} {T : Nat} {h h' : AH} {S : Nat → Nat → Prop} (hD : WFD D) (x : YC D T h) (f : Fr S h h') (n : ∀ a k, YCa a k → ¬ S a k) : YC D T h' := ⟨x.1.fr f n, x.2.fr hD f n⟩
def YRa (a k : Nat) : Prop := (a = 240 ∧ 1 ≤ k ∧ k ≤ 6) ∨ (241 ≤ a ∧ a ≤ 244) ∨ (255 ≤ a ∧ a ≤ 258)
/-- worths and comings as the reference keeps them -/
def RG (N K : Nat) (W : Nat → Nat → Int) (c : Nat → Nat → Nat → Int) (h : AH) : Prop := ∀ k t, k < K → t < 5 → gI h 255 (5 * k + t) = zi (W k t) ∧ ∀ e, e < N → gL h 256 (16 * (5 * k + t) + e) = zl (c k t e)
theorem RG.fr {N K : Nat} {W : Nat → Nat → Int} {c : Nat → Nat → Nat → Int} {h h' : AH} {S : Nat → Nat → Prop} (x : RG N K W c h) (f : Fr S h h') (n : ∀ a k, YRa a k → ¬ S a k) : RG N K W c h' := fun k t hk ht => ⟨(f.i (n _ _ (by unfold YRa; omega))).trans (x k t hk ht).1, fun e he => (f.l (n _ _ (by unfold YRa; omega))).trans ((x k t hk ht).2 e he)⟩
def YR (D : HD) (h : AH) : Prop := RH D h ∧ ∀ k t, k < D.K → t < 5 → RWorks D (rSet D) k t h
theorem YR.fr {D : HD} {h h' : AH} {S : Nat → Nat → Prop} (x : YR D h) (f : Fr S h h') (n : ∀ a k, YRa a k → ¬ S a k) : YR D h' := ⟨x.1.fr f (fun a k q => n a k (by unfold YRa; omega)), fun k t hk ht => ⟨(f.i (n _ _ (by unfold YRa; omega))).trans (x.2 k t hk ht).1, fun e he => (f.l (n _ _ (by unfold YRa; omega))).trans ((x.2 k t hk ht).2.1 e he), (f.l (n _ _ (by unfold YRa; omega))).trans (x.2 k t hk ht).2.2.1, (f.l (n _ _ (by unfold YRa; omega))).trans (x.2 k t hk ht).2.2.2⟩⟩
theorem YR.g {D : HD} {h : AH} (x : YR D h) : RG D.N D.K (dW D) (cf D) h := fun k t hk ht => ⟨(x.2 k t hk ht).1, (x.2 k t hk ht).2.1⟩
/-- bounds of worths and comings -/
def bG (D : HD) (W : Nat → Nat → Int) (c : Nat → Nat → Nat → Int) : Prop := (∀ k, k < D.K → bW (W k) D.P) ∧ ∀ k t e, k < D.K → t < 5 → e < D.N → 0 ≤ c k t e ∧ c k t e ≤ 1000000000
theorem dG_ok {D : HD} (hD : WFD D) : bG D (dW D) (cf D) := ⟨fun k hk => dW_b hD hk, fun k t e hk _ he => cf_b hD hk he⟩
def eTake (N K : Nat) (b : Nat → Nat) (P M : Nat → Int) (c : Nat → Nat → Nat → Int) (pe : Nat → Int) : Int := zs (fun k => if b k = 0 then zs (fun e => M k * c k 0 e * pe e / 1000000) N else 1000 * M k * P (b k)) K
def eFull (K : Nat) (b : Nat → Nat) (M : Nat → Int) (c : Nat → Nat → Nat → Int) (e : Nat) : Int := zs (fun k => M k * c k (b k) e / 1000) K
section
variable {D : HD} {T : Nat} {h : AH} {W : Nat → Nat → Int} {c : Nat → Nat → Nat → Int}
theorem r_buysG (hD : WFD D) (x : RH D h) (g : RG D.N D.K W c h) (b : bG D W c) {k : Nat} {a0 : Int32} (h0 : a0 = zi k) (hk : k < D.K) : s_X10_buysOf a0 h = some (zi (bst (W k) D.P (D.Q k 10) 4)) := r_buys hD x hk (fun t ht => x.2.2.2.2 t ht) (fun t ht => (g k t hk ht).1) (b.1 k hk) h0
theorem r_comingG (hD : WFD D) (x : RH D h) (g : RG D.N D.K W c h) (b : bG D W c) {k e : Nat} {a0 a1 : Int32} (h0 : a0 = zi k) (h1 : a1 = zi e) (hk : k < D.K) (he : e < D.N) : s_X10_comingOf a0 a1 h = some (zl (c k (bst (W k) D.P (D.Q k 10) 4) e)) := by
  have hN := hD.N16
  have hK := hD.K6
  have hl := bst_le (W k) D.P (D.Q k 10) 4
  unfold s_X10_comingOf
  rw [r_buysG hD x g b h0 hk, bd_v, h0, h1, ldL_ok (16 * (5 * k + bst (W k) D.P (D.Q k 10) 4) + e) (n := 480) rfl (by first | (simp only [zi_lit, zi_neg, zi_add, zi_sub, zi_mul, zl_lit, zl_neg, zl_add, zl_sub, zl_mul, zl_i]; exact congrArg zi (by omega)) | (simp only [zi_lit, zi_neg, zi_add, zi_sub, zi_mul, zl_lit, zl_neg, zl_add, zl_sub, zl_mul, zl_i]; done) | exact congrArg zi (by omega)) (by omega), bd_v, (g k _ hk (by omega)).2 e he]
theorem r_fullAll (hD : WFD D) (x : RH D h) (g : RG D.N D.K W c h) (b : bG D W c) {e : Nat} {a0 : Int32} (h0 : a0 = zi e) (he : e < D.N) : s_X10_fullAll a0 h = some (zl (eFull D.K (fun k => bst (W k) D.P (D.Q k 10) 4) (fun k => D.Q k 0) c e)) := by
  have hK := hD.K6
  subst h0
  unfold s_X10_fullAll
  have L : lpP (l_X10_fullAll_5 (zi e) h) FU (0, 0) = some (zl (eFull D.K (fun k => bst (W k) D.P (D.Q k 10) 4) (fun k => D.Q k 0) c e)) := by
    refine lpP_for D.K (fun i => (zl (zs (fun k => D.Q k 0 * c k (bst (W k) D.P (D.Q k 10) 4) e / 1000) i), zi i)) (by omega) rfl ?_ ?_
    · intro i hi
      have hl := bst_le (W i) D.P (D.Q i 10) 4
      have bm := (hD.q i hi).1
      have bc := b.2 i (bst (W i) D.P (D.Q i 10) 4) e hi (by omega) he
      have m := mul_b bm.1 bm.2 bc.1 bc.2
      unfold l_X10_fullAll_5
      dsimp only
      rw [x.1.2.2.2.1, if_neg (by rw [zi_le (by omega) (by omega) (by omega) (by omega)]; omega), r_of hD x rfl (w := 0) ((show (0 : Int32) = zi 0 from zi_lit 0)) hi (by decide), bd_v, r_comingG hD x g b rfl rfl hi he, bd_v, ldivF_ok (a := D.Q i 0 * c i (bst (W i) D.P (D.Q i 10) 4) e) (b := 1000) (by rw [zi_l (by omega) (by omega), zl_mul]) (zl_lit _) m.1 (by omega) (by omega) (by omega), bd_v, zl_add, show zi (i : Int) + 1 = zi ((i + 1 : Nat) : Int) from (by first | (simp only [zi_lit, zi_neg, zi_add, zi_sub, zi_mul, zl_lit, zl_neg, zl_add, zl_sub, zl_mul, zl_i]; exact congrArg zi (by omega)) | (simp only [zi_lit, zi_neg, zi_add, zi_sub, zi_mul, zl_lit, zl_neg, zl_add, zl_sub, zl_mul, zl_i]; done) | exact congrArg zi (by omega))]
      rfl
    · unfold l_X10_fullAll_5
      dsimp only
      rw [x.1.2.2.2.1, if_pos (by rw [zi_le (by omega) (by omega) (by omega) (by omega)]; omega)]
      rfl
  rw [L, bd_v]
theorem r_earns (hD : WFD D) (x : RH D h) (g : RG D.N D.K W c h) (b : bG D W c) : s_X10_earnsNow h = some (zl (eTake D.N D.K (fun k => bst (W k) D.P (D.Q k 10) 4) D.P (fun k => D.Q k 0) c (fun e => D.E e 1))) := by
  have hK := hD.K6
  have hN := hD.N16
  unfold s_X10_earnsNow
  have L : lpP (l_X10_earnsNow_4 h) FU (0, 0) = some (zl (eTake D.N D.K (fun k => bst (W k) D.P (D.Q k 10) 4) D.P (fun k => D.Q k 0) c (fun e => D.E e 1))) := by
    refine lpP_for D.K (fun i => (zl (zs (fun k => if bst (W k) D.P (D.Q k 10) 4 = 0 then zs (fun e => D.Q k 0 * c k 0 e * D.E e 1 / 1000000) D.N else 1000 * D.Q k 0 * D.P (bst (W k) D.P (D.Q k 10) 4)) i), zi i)) (by omega) rfl ?_ ?_
    · intro i hi
      have hl := bst_le (W i) D.P (D.Q i 10) 4
      have bm := (hD.q i hi).1
      unfold l_X10_earnsNow_4
      dsimp only
      rw [x.1.2.2.2.1, if_neg (by rw [zi_le (by omega) (by omega) (by omega) (by omega)]; omega), r_buysG hD x g b rfl hi, bd_v, zs_s]
      by_cases q : bst (W i) D.P (D.Q i 10) 4 = 0
      · rw [if_pos (by rw [q]; rfl), if_pos q]
        unfold j_X10_earnsNow_47_4
        have L2 : ∀ v : Int, lpP (l_X10_earnsNow_50 (zi i) (zi (bst (W i) D.P (D.Q i 10) 4)) h) FU (zl v, 0) = some (zl (v + zs (fun e => D.Q i 0 * c i 0 e * D.E e 1 / 1000000) D.N)) := by
          intro v
          refine lpP_for D.N (fun e => (zl (v + zs (fun e => D.Q i 0 * c i 0 e * D.E e 1 / 1000000) e), zi e)) (by omega) ?_ ?_ ?_
          · rw [zs_0, Int.add_zero]; rfl
          · intro e he
            have bc := b.2 i 0 e hi (by decide) he
            have be := (hD.e e he).2.1
            have m := mul_b bm.1 bm.2 bc.1 bc.2
            have m2 := mul_b (A := 400000000000) m.1 (by omega) be.1 be.2
            have hco : c i (bst (W i) D.P (D.Q i 10) 4) e = c i 0 e := by rw [q]
            unfold l_X10_earnsNow_50
            dsimp only
            rw [x.1.2.2.1, if_neg (by rw [zi_le (by omega) (by omega) (by omega) (by omega)]; omega), if_pos (by rw [q]; rfl), r_of hD x rfl (w := 0) ((show (0 : Int32) = zi 0 from zi_lit 0)) hi (by decide), bd_v, r_comingG hD x g b rfl rfl hi he, bd_v, hco, r_E hD x e 1 (by first | (simp only [zi_lit, zi_neg, zi_add, zi_sub, zi_mul, zl_lit, zl_neg, zl_add, zl_sub, zl_mul, zl_i]; exact congrArg zi (by omega)) | (simp only [zi_lit, zi_neg, zi_add, zi_sub, zi_mul, zl_lit, zl_neg, zl_add, zl_sub, zl_mul, zl_i]; done) | exact congrArg zi (by omega)) he (by decide), bd_v, ldivF_ok (a := D.Q i 0 * c i 0 e * D.E e 1) (b := 1000000) (by rw [zi_l (by omega) (by omega), zi_l (by omega) (by omega), zl_mul, zl_mul]) (zl_lit _) m2.1 (by omega) (by omega) (by omega), bd_v, zl_add, show zi (e : Int) + 1 = zi ((e + 1 : Nat) : Int) from (by first | (simp only [zi_lit, zi_neg, zi_add, zi_sub, zi_mul, zl_lit, zl_neg, zl_add, zl_sub, zl_mul, zl_i]; exact congrArg zi (by omega)) | (simp only [zi_lit, zi_neg, zi_add, zi_sub, zi_mul, zl_lit, zl_neg, zl_add, zl_sub, zl_mul, zl_i]; done) | exact congrArg zi (by omega)), zs_s, Int.add_assoc]
          · unfold l_X10_earnsNow_50
            dsimp only
            rw [x.1.2.2.1, if_pos (by rw [zi_le (by omega) (by omega) (by omega) (by omega)]; omega)]
        rw [L2, bd_v]
        unfold j_X10_earnsNow_105_4
        rw [show zi (i : Int) + 1 = zi ((i + 1 : Nat) : Int) from (by first | (simp only [zi_lit, zi_neg, zi_add, zi_sub, zi_mul, zl_lit, zl_neg, zl_add, zl_sub, zl_mul, zl_i]; exact congrArg zi (by omega)) | (simp only [zi_lit, zi_neg, zi_add, zi_sub, zi_mul, zl_lit, zl_neg, zl_add, zl_sub, zl_mul, zl_i]; done) | exact congrArg zi (by omega))]
      · have bp := hD.p.2.1 (bst (W i) D.P (D.Q i 10) 4) (by omega)
        rw [if_neg (by rw [(show (0 : Int32) = zi 0 from zi_lit 0), zi_eq (by omega) (by omega) (by omega) (by omega)]; omega), if_neg q, r_of hD x rfl (w := 0) ((show (0 : Int32) = zi 0 from zi_lit 0)) hi (by decide), bd_v, r_P x rfl (by omega), bd_v, zi_l (by omega) (by omega), zi_l (by omega) (by omega)]
        unfold j_X10_earnsNow_47_4
        have L2 : ∀ v : Int64, lpP (l_X10_earnsNow_50 (zi i) (zi (bst (W i) D.P (D.Q i 10) 4)) h) FU (v, 0) = some v := by
          intro v
          show lpP _ (9999 + 1) _ = _
          unfold lpP l_X10_earnsNow_50
          dsimp only
          by_cases q2 : gI h 240 3 ≤ 0
          · rw [if_pos q2]
          · rw [if_neg q2, if_neg (by rw [(show (0 : Int32) = zi 0 from zi_lit 0), zi_eq (by omega) (by omega) (by omega) (by omega)]; omega)]
        rw [L2, bd_v]
        unfold j_X10_earnsNow_105_4
        rw [show zi (i : Int) + 1 = zi ((i + 1 : Nat) : Int) from (by first | (simp only [zi_lit, zi_neg, zi_add, zi_sub, zi_mul, zl_lit, zl_neg, zl_add, zl_sub, zl_mul, zl_i]; exact congrArg zi (by omega)) | (simp only [zi_lit, zi_neg, zi_add, zi_sub, zi_mul, zl_lit, zl_neg, zl_add, zl_sub, zl_mul, zl_i]; done) | exact congrArg zi (by omega))]
        refine congrArg (fun z => some (Sum.inl (z, _))) ?_
        simp only [zi_lit, zi_neg, zi_add, zi_sub, zi_mul, zl_lit, zl_neg, zl_add, zl_sub, zl_mul, zl_i]
    · unfold l_X10_earnsNow_4
      dsimp only
      rw [x.1.2.2.2.1, if_pos (by rw [zi_le (by omega) (by omega) (by omega) (by omega)]; omega)]
      rfl
  rw [L, bd_v]
theorem c_coming (hD : WFD D) (x : YC D T h) {k t e : Nat} {a : Int32} (ha : a = zi e) (hk : k < D.K) (ht : t < 5) (he : e < D.N) : s_X2_comingOn (31 + 6 * (5 * k + t)) a h = some (zi (cf D k t e)) := by
  have hN := hD.N16
  have hK := hD.K6
  have hp := PL.of (k := k) (t := t) (by omega) ht
  unfold s_X2_comingOn
  rw [if_pos hp.l0, at_ok e hp.l1 ha (by omega), bd_v, (x.2.1 k t hk ht).2.1.1 e he]
theorem c_boughtBy (hD : WFD D) (x : YC D T h) {k : Nat} {a : Int32} (ha : a = zi k) (hk : k < D.K) : s_X0_planBoughtBy a h = some (some (31 + 6 * (5 * k + dB D k))) := by
  have hK := hD.K6
  unfold s_X0_planBoughtBy
  rw [at_ok k (n := 6) rfl ha (by omega), bd_v, x.2.2 k hk, c_planOf x.1.2.2.2.1 ha rfl (by omega) (dB_lt D k), bd_v]
theorem c_fullOf (hD : WFD D) (x : YC D T h) {k t e : Nat} {a0 a1 a2 : Int32} (h0 : a0 = zi k) (h1 : a1 = zi t) (h2 : a2 = zi e) (hk : k < D.K) (ht : t < 5) (he : e < D.N) : s_X0_fullOf a0 a1 a2 h = some (zl (D.Q k 0 * cf D k t e / 1000)) := by
  have hK := hD.K6
  have bm := (hD.q k hk).1
  have bc := cf_b hD (t := t) hk he
  have m := mul_b bm.1 bm.2 bc.1 bc.2
  unfold s_X0_fullOf
  rw [x.1.2.2.2.2.1, bd_v, if_pos x.1.1.l0, c_many hD x.1.1 x.1.2.2.1 h0 hk, bd_v, c_planOf x.1.2.2.2.1 h0 h1 (by omega) ht, bd_v, bd_v, if_pos (PL.of (by omega : k < 6) ht).l0, c_coming hD x h2 hk ht he, bd_v, zi_l (by omega) (by omega), zi_l (by omega) (by omega), ldivF_ok (zl_mul _ _) ((show (1000 : Int64) = zl 1000 from zl_lit 1000)) m.1 (by omega) (by omega) (by omega), bd_v]
theorem c_fullOn (hD : WFD D) (x : YC D T h) {e ta : Nat} {b : Nat → Nat} {a0 : Int32} (h0 : a0 = zi e) (he : e < D.N) (hta : LAY ta = (1, 6)) (hb : ∀ k, k < D.K → gI h ta k = zi (b k) ∧ b k < 5) : s_X0_fullOn a0 (some ta) h = some (zl (eFull D.K b (fun k => D.Q k 0) (cf D) e)) := by
  have hK := hD.K6
  unfold s_X0_fullOn
  have L : lpP (l_X0_fullOn_5 a0 (some ta) h) FU (0, 0) = some (zl (eFull D.K b (fun k => D.Q k 0) (cf D) e)) := by
    refine lpP_for D.K (fun i => (zl (zs (fun k => D.Q k 0 * cf D k (b k) e / 1000) i), zi i)) (by omega) rfl ?_ ?_
    · intro i hi
      unfold l_X0_fullOn_5
      dsimp only
      rw [x.1.2.2.2.2.1, bd_v, if_pos x.1.1.l0, x.1.2.2.1.1.2.2.2.1, if_neg (by rw [zi_le (by omega) (by omega) (by omega) (by omega)]; omega), at_ok i hta rfl (by omega), bd_v, (hb i hi).1, c_fullOf hD x rfl rfl h0 hi (hb i hi).2 he, bd_v, zl_add, show zi (i : Int) + 1 = zi ((i + 1 : Nat) : Int) from (by first | (simp only [zi_lit, zi_neg, zi_add, zi_sub, zi_mul, zl_lit, zl_neg, zl_add, zl_sub, zl_mul, zl_i]; exact congrArg zi (by omega)) | (simp only [zi_lit, zi_neg, zi_add, zi_sub, zi_mul, zl_lit, zl_neg, zl_add, zl_sub, zl_mul, zl_i]; done) | exact congrArg zi (by omega))]
      rfl
    · unfold l_X0_fullOn_5
      dsimp only
      rw [x.1.2.2.2.2.1, bd_v, if_pos x.1.1.l0, x.1.2.2.1.1.2.2.2.1, if_pos (by rw [zi_le (by omega) (by omega) (by omega) (by omega)]; omega)]
      rfl
  rw [L, bd_v]
theorem c_fullOfAll (hD : WFD D) (x : YC D T h) {ta : Nat} {b : Nat → Nat} (hta : LAY ta = (1, 6)) (hb : ∀ k, k < D.K → gI h ta k = zi (b k) ∧ b k < 5) : s_X0_fullOfAll (some ta) h = some (zl (zs (fun e => eFull D.K b (fun k => D.Q k 0) (cf D) e) D.N)) := by
  have hK := hD.K6
  have hN := hD.N16
  unfold s_X0_fullOfAll
  have L : lpP (l_X0_fullOfAll_5 (some ta) h) FU (0, 0) = some (zl (zs (fun e => eFull D.K b (fun k => D.Q k 0) (cf D) e) D.N)) := by
    refine lpP_for D.N (fun i => (zl (zs (fun e => eFull D.K b (fun k => D.Q k 0) (cf D) e) i), zi i)) (by omega) rfl ?_ ?_
    · intro e he
      unfold l_X0_fullOfAll_5
      dsimp only
      have L2 : ∀ v : Int, lpP (l_X0_fullOfAll_20 (some ta) (zi e) h) FU (zl v, 0) = some (zl (v + eFull D.K b (fun k => D.Q k 0) (cf D) e)) := by
        intro v
        refine lpP_for D.K (fun i => (zl (v + zs (fun k => D.Q k 0 * cf D k (b k) e / 1000) i), zi i)) (by omega) ?_ ?_ ?_
        · rw [zs_0, Int.add_zero]; rfl
        · intro i hi
          unfold l_X0_fullOfAll_20
          dsimp only
          rw [x.1.2.2.2.2.1, bd_v, if_pos x.1.1.l0, x.1.2.2.1.1.2.2.2.1, if_neg (by rw [zi_le (by omega) (by omega) (by omega) (by omega)]; omega), at_ok i hta rfl (by omega), bd_v, (hb i hi).1, c_fullOf hD x rfl rfl rfl hi (hb i hi).2 he, bd_v, zl_add, show zi (i : Int) + 1 = zi ((i + 1 : Nat) : Int) from (by first | (simp only [zi_lit, zi_neg, zi_add, zi_sub, zi_mul, zl_lit, zl_neg, zl_add, zl_sub, zl_mul, zl_i]; exact congrArg zi (by omega)) | (simp only [zi_lit, zi_neg, zi_add, zi_sub, zi_mul, zl_lit, zl_neg, zl_add, zl_sub, zl_mul, zl_i]; done) | exact congrArg zi (by omega)), zs_s, Int.add_assoc]
        · unfold l_X0_fullOfAll_20
          dsimp only
          rw [x.1.2.2.2.2.1, bd_v, if_pos x.1.1.l0, x.1.2.2.1.1.2.2.2.1, if_pos (by rw [zi_le (by omega) (by omega) (by omega) (by omega)]; omega)]
          rfl
      rw [x.1.2.2.2.2.1, bd_v, if_pos x.1.1.l0, x.1.2.2.1.1.2.2.1, if_neg (by rw [zi_le (by omega) (by omega) (by omega) (by omega)]; omega), L2, bd_v, show zi (e : Int) + 1 = zi ((e + 1 : Nat) : Int) from (by first | (simp only [zi_lit, zi_neg, zi_add, zi_sub, zi_mul, zl_lit, zl_neg, zl_add, zl_sub, zl_mul, zl_i]; exact congrArg zi (by omega)) | (simp only [zi_lit, zi_neg, zi_add, zi_sub, zi_mul, zl_lit, zl_neg, zl_add, zl_sub, zl_mul, zl_i]; done) | exact congrArg zi (by omega))]
      rfl
    · unfold l_X0_fullOfAll_5
      dsimp only
      rw [x.1.2.2.2.2.1, bd_v, if_pos x.1.1.l0, x.1.2.2.1.1.2.2.1, if_pos (by rw [zi_le (by omega) (by omega) (by omega) (by omega)]; omega)]
  rw [L, bd_v]
theorem c_door (hD : WFD D) (x : YC D T h) {k : Nat} {M : Int} {a0 : Int32} {a1 : Int64} (h0 : a0 = zi k) (h1 : a1 = zl M) (hk : k < D.K) (hM : 0 ≤ M ∧ M ≤ 400) : s_X0_doorTakings a0 a1 h = some (zl (zs (fun e => M * cf D k 0 e * D.E e 1 / 1000000) D.N)) := by
  have hK := hD.K6
  have hN := hD.N16
  have hp := PL.of (k := k) (t := 0) (by omega) (by decide)
  unfold s_X0_doorTakings
  rw [c_planOf x.1.2.2.2.1 (t := 0) (a1 := 0) h0 rfl (by omega) (by decide), bd_v]
  have L : lpP (l_X0_doorTakings_14 a1 (some (31 + 6 * (5 * k + 0))) h) FU (0, 0) = some (zl (zs (fun e => M * cf D k 0 e * D.E e 1 / 1000000) D.N)) := by
    refine lpP_for D.N (fun i => (zl (zs (fun e => M * cf D k 0 e * D.E e 1 / 1000000) i), zi i)) (by omega) rfl ?_ ?_
    · intro e he
      have bc := cf_b hD (t := 0) hk he
      have be := (hD.e e he).2.1
      have m := mul_b hM.1 hM.2 bc.1 bc.2
      have m2 := mul_b (A := 400000000000) m.1 (by omega) be.1 be.2
      unfold l_X0_doorTakings_14
      dsimp only
      rw [x.1.2.2.2.2.1, bd_v, if_pos x.1.1.l0, x.1.2.2.1.1.2.2.1, if_neg (by rw [zi_le (by omega) (by omega) (by omega) (by omega)]; omega), bd_v, if_pos hp.l0, c_coming hD x rfl hk (by decide) he, bd_v, bd_v, if_pos x.1.1.l0, c_ofE hD x.1.1 x.1.2.2.1 (w := 1) rfl ((show (1 : Int32) = zi 1 from zi_lit 1)) he (by decide), bd_v, h1, zi_l (by omega) (by omega), zi_l (by omega) (by omega), ldivF_ok (a := M * cf D k 0 e * D.E e 1) (b := 1000000) (by rw [zl_mul, zl_mul]) (zl_lit _) m2.1 (by omega) (by omega) (by omega), bd_v, zl_add, show zi (e : Int) + 1 = zi ((e + 1 : Nat) : Int) from (by first | (simp only [zi_lit, zi_neg, zi_add, zi_sub, zi_mul, zl_lit, zl_neg, zl_add, zl_sub, zl_mul, zl_i]; exact congrArg zi (by omega)) | (simp only [zi_lit, zi_neg, zi_add, zi_sub, zi_mul, zl_lit, zl_neg, zl_add, zl_sub, zl_mul, zl_i]; done) | exact congrArg zi (by omega))]
      rfl
    · unfold l_X0_doorTakings_14
      dsimp only
      rw [x.1.2.2.2.2.1, bd_v, if_pos x.1.1.l0, x.1.2.2.1.1.2.2.1, if_pos (by rw [zi_le (by omega) (by omega) (by omega) (by omega)]; omega)]
  rw [L, bd_v]
theorem c_takings (hD : WFD D) (x : YC D T h) {ta pa ma : Nat} {b : Nat → Nat} {P M : Nat → Int} (hta : LAY ta = (1, 6)) (hpa : LAY pa = (1, 5)) (hma : LAY ma = (1, 6)) (hb : ∀ k, k < D.K → gI h ta k = zi (b k) ∧ b k < 5) (hP : ∀ t, t < 5 → gI h pa t = zi (P t)) (hM : ∀ k, k < D.K → gI h ma k = zi (M k) ∧ 0 ≤ M k ∧ M k ≤ 400) (hPb : ∀ t, t < 5 → -1 ≤ P t ∧ P t ≤ 9999) : s_X0_takings (some ta) (some pa) (some ma) h = some (zl (eTake D.N D.K b P M (cf D) (fun e => D.E e 1))) := by
  have hK := hD.K6
  unfold s_X0_takings
  have L : lpP (l_X0_takings_6 (some ta) (some pa) (some ma) h) FU (0, 0) = some (zl (eTake D.N D.K b P M (cf D) (fun e => D.E e 1))) := by
    refine lpP_for D.K (fun i => (zl (zs (fun k => if b k = 0 then zs (fun e => M k * cf D k 0 e * D.E e 1 / 1000000) D.N else 1000 * M k * P (b k)) i), zi i)) (by omega) rfl ?_ ?_
    · intro i hi
      have bi := hb i hi
      have mi := hM i hi
      unfold l_X0_takings_6
      dsimp only
      rw [x.1.2.2.2.2.1, bd_v, if_pos x.1.1.l0, x.1.2.2.1.1.2.2.2.1, if_neg (by rw [zi_le (by omega) (by omega) (by omega) (by omega)]; omega), at_ok i hma rfl (by omega), bd_v, mi.1, at_ok i hta rfl (by omega), bd_v, bi.1, zi_l (by omega) (by omega), zs_s]
      by_cases q : b i = 0
      · rw [if_pos (by rw [q]; rfl), if_pos q, c_door hD x rfl rfl hi mi.2, bd_v]
        unfold j_X0_takings_67_6
        rw [zl_add, show zi (i : Int) + 1 = zi ((i + 1 : Nat) : Int) from (by first | (simp only [zi_lit, zi_neg, zi_add, zi_sub, zi_mul, zl_lit, zl_neg, zl_add, zl_sub, zl_mul, zl_i]; exact congrArg zi (by omega)) | (simp only [zi_lit, zi_neg, zi_add, zi_sub, zi_mul, zl_lit, zl_neg, zl_add, zl_sub, zl_mul, zl_i]; done) | exact congrArg zi (by omega))]
      · have pb := hPb (b i) bi.2
        rw [if_neg (by rw [(show (0 : Int32) = zi 0 from zi_lit 0), zi_eq (by omega) (by omega) (by omega) (by omega)]; omega), if_neg q, at_ok (b i) hpa rfl bi.2, bd_v, hP _ bi.2, zi_l (by omega) (by omega)]
        unfold j_X0_takings_67_6
        rw [show zi (i : Int) + 1 = zi ((i + 1 : Nat) : Int) from (by first | (simp only [zi_lit, zi_neg, zi_add, zi_sub, zi_mul, zl_lit, zl_neg, zl_add, zl_sub, zl_mul, zl_i]; exact congrArg zi (by omega)) | (simp only [zi_lit, zi_neg, zi_add, zi_sub, zi_mul, zl_lit, zl_neg, zl_add, zl_sub, zl_mul, zl_i]; done) | exact congrArg zi (by omega))]
        refine congrArg (fun z => some (Sum.inl (z, _))) ?_
        simp only [zi_lit, zi_neg, zi_add, zi_sub, zi_mul, zl_lit, zl_neg, zl_add, zl_sub, zl_mul, zl_i]
        rw [Int.mul_comm (M i) 1000]
    · unfold l_X0_takings_6
      dsimp only
      rw [x.1.2.2.2.2.1, bd_v, if_pos x.1.1.l0, x.1.2.2.1.1.2.2.2.1, if_pos (by rw [zi_le (by omega) (by omega) (by omega) (by omega)]; omega)]
      rfl
  rw [L, bd_v]
end
