/-! 79.pair: two evenings of the set -/
/-- the hall with the set's evenings u and v, at the price p -/
def wS (D : HD) (u v : Nat) (p : Int) : HD := (D.1, D.2.1, D.2.2.1, D.2.2.2.1, D.2.2.2.2.1, D.2.2.2.2.2.1, (fun e w => if w = 3 then (if e = u ∨ e = v then 1 else 0) else D.E e w), D.2.2.2.2.2.2.2.1, D.2.2.2.2.2.2.2.2.1, uz D.P 3 p)
theorem wS_wf {D : HD} (hD : WFD D) {u v : Nat} {p : Int} (hp : 0 ≤ p ∧ p ≤ 9999) (hu : u < D.N) : WFD (wS D u v p) := by
  refine ⟨hD.1, fun e he => ⟨(hD.e e he).1, (hD.e e he).2.1, (hD.e e he).2.2.1, ?_⟩, hD.2.2.1, hD.2.2.2.1, ?_, pP_b hD hp, fun h2 => ?_, fun _ => ⟨u, hu, ?_⟩⟩
  · show (if e = u ∨ e = v then (1 : Int) else 0) = 0 ∨ (if e = u ∨ e = v then (1 : Int) else 0) = 1
    split
    · exact Or.inr rfl
    · exact Or.inl rfl
  · show uz D.P 3 p 0 = -1
    unfold uz
    rw [if_neg (by decide)]
    exact hD.p.1
  · refine hD.p.2.2.1 (fun z => h2 ?_)
    show uz D.P 3 p 2 = -1
    unfold uz
    rw [if_neg (by decide)]
    exact z
  · show (if u = u ∨ u = v then (1 : Int) else 0) = 1
    rw [if_pos (Or.inl rfl)]
theorem pV_wS (D : HD) (u v : Nat) (p : Int) (set : Nat → Int) (k t th : Nat) : ∀ r c n, pV (wS D u v p) set k t th r c n = pV D set k t th r c n := by
  have hg : ∀ e n, dG (wS D u v p) k t e n = dG D k t e n := fun _ _ => rfl
  have hc : ∀ e, dC (wS D u v p) k e th = dC D k e th := fun _ => rfl
  have hN : (wS D u v p).N = D.N := rfl
  intro r
  induction r with
  | zero => intro c n; rfl
  | succ r ih =>
    intro c n
    rw [pV_s, pV_s]
    unfold pGo pX
    simp only [hN, ih, hg, hc]
/-- worths and comings with that set -/
def wW (D : HD) (u v : Nat) (p : Int) (k t : Nat) : Int := if t = 3 then dW (wS D u v p) k 3 else dW D k t
def wC (D : HD) (u v : Nat) (p : Int) (k t e : Nat) : Int := if t = 3 then cf (wS D u v p) k 3 e else cf D k t e
theorem wW_b {D : HD} (hD : WFD D) {u v : Nat} {p : Int} (hp : 0 ≤ p ∧ p ≤ 9999) (hu : u < D.N) {k : Nat} (hk : k < D.K) : bW (wW D u v p k) (uz D.P 3 p) := by
  refine ⟨fun t ht => ?_, pP_b hD hp⟩
  unfold wW
  split
  · exact (dW_b (wS_wf hD hp hu (v := v)) hk).1 3 (by decide)
  · exact (dW_b hD hk).1 t ht
def qB (D : HD) (u v : Nat) (p : Int) (k : Nat) : Nat := bst (wW D u v p k) (uz D.P 3 p) (D.Q k 10) 4
theorem qB_lt (D : HD) (u v : Nat) (p : Int) (k : Nat) : qB D u v p k < 5 := by
  have := bst_le (wW D u v p k) (uz D.P 3 p) (D.Q k 10) 4
  show bst _ _ _ 4 < 5
  omega
def pT (D : HD) (p : Int) (u v : Nat) : Int := eTake D.N D.K (qB D u v p) (uz D.P 3 p) (fun k => D.Q k 0) (cf D) (fun e => D.E e 1)
theorem pT_b {D : HD} (hD : WFD D) {u v : Nat} {p : Int} (hp : 0 ≤ p ∧ p ≤ 9999) : 0 ≤ pT D p u v ∧ pT D p u v ≤ 42000000000 := by
  refine eTake_b hD (fun k hk h0 => ?_)
  have h1 := pP_b hD (t := 3) hp (qB D u v p k) (qB_lt D u v p k)
  have h2 := bst_told (wW D u v p k) (uz D.P 3 p) (D.Q k 10) 4
  have h3 : uz D.P 3 p (qB D u v p k) ≠ -1 := by
    rcases h2 with q | q
    · exact absurd q h0
    · exact q
  omega
/-- the best so far: behind the j evenings after u, and behind the first i evenings -/
def qI (D : HD) (p : Int) (u : Nat) (s : Int × Nat × Nat) : Nat → Int × Nat × Nat
  | 0 => s
  | j + 1 => if (qI D p u s j).1 < pT D p u (u + 1 + j) then (pT D p u (u + 1 + j), u, u + 1 + j) else qI D p u s j
def qO (D : HD) (p : Int) : Nat → Int × Nat × Nat
  | 0 => (-1, 0, 0)
  | i + 1 => qI D p i (qO D p i) (D.N - 1 - i)
theorem qI_s (D : HD) (p : Int) (u : Nat) (s : Int × Nat × Nat) (j : Nat) : qI D p u s (j + 1) = if (qI D p u s j).1 < pT D p u (u + 1 + j) then (pT D p u (u + 1 + j), u, u + 1 + j) else qI D p u s j := rfl
def q16 (s : Int × Nat × Nat) : Prop := -1 ≤ s.1 ∧ s.1 ≤ 42000000000 ∧ s.2.1 < 16 ∧ s.2.2 < 16
theorem qI_b {D : HD} (hD : WFD D) {p : Int} (hp : 0 ≤ p ∧ p ≤ 9999) {u : Nat} {s : Int × Nat × Nat} (b : q16 s) (hu : u < D.N) : ∀ j, u + 1 + j ≤ D.N → q16 (qI D p u s j) := by
  have hN := hD.N16
  intro j
  induction j with
  | zero => intro _; exact b
  | succ j ih =>
    intro hj
    have i1 := ih (by omega)
    have bt := pT_b hD (u := u) (v := u + 1 + j) hp
    rw [qI_s]
    split
    · exact ⟨by show -1 ≤ pT D p u (u + 1 + j); omega, bt.2, by show u < 16; omega, by show u + 1 + j < 16; omega⟩
    · exact i1
theorem qO_b {D : HD} (hD : WFD D) {p : Int} (hp : 0 ≤ p ∧ p ≤ 9999) : ∀ i, i ≤ D.N → q16 (qO D p i) := by
  intro i
  induction i with
  | zero => intro _; exact ⟨Int.le_refl _, by show (-1 : Int) ≤ _; decide, by show (0 : Nat) < 16; decide, by show (0 : Nat) < 16; decide⟩
  | succ i ih => intro hi; exact qI_b hD hp (ih (by omega)) (by omega) _ (by omega)
theorem qI_ge {D : HD} {p : Int} {u : Nat} {s : Int × Nat × Nat} : ∀ j, s.1 ≤ (qI D p u s j).1 := by
  intro j
  induction j with
  | zero => exact Int.le_refl _
  | succ j ih =>
    rw [qI_s]
    split
    · show s.1 ≤ pT D p u (u + 1 + j)
      omega
    · exact ih
theorem qO_nn {D : HD} (hD : WFD D) {p : Int} (hp : 0 ≤ p ∧ p ≤ 9999) (h2 : 2 ≤ D.N) : ∀ i, 0 ≤ (qO D p (i + 1)).1 := by
  intro i
  induction i with
  | zero =>
    show 0 ≤ (qI D p 0 (-1, 0, 0) (D.N - 1 - 0)).1
    obtain ⟨m, hm⟩ : ∃ m, D.N - 1 - 0 = m + 1 := ⟨D.N - 2, by omega⟩
    rw [hm]
    have bt := pT_b hD (u := 0) (v := 0 + 1 + m) hp
    rw [qI_s]
    split
    · exact bt.1
    · omega
  | succ i ih => exact Int.le_trans ih (qI_ge (s := qO D p (i + 1)) _)
section
variable {D : HD} {T : Nat} {h : AH}
def fP (a k : Nat) : Prop := (216 ≤ a ∧ a ≤ 218) ∨ (a = 23 ∧ (k = 7 ∨ k = 8)) ∨ a = 27 ∨ a = 28 ∨ (a = 215 ∧ 5 ≤ k)
theorem YC.frp {h' : AH} (hD : WFD D) (x : YC D T h) (f : Fr fP h h') : YC D T h' := x.fr hD f (by intro a k; unfold YCa fP; omega)
theorem c_bySet (hD : WFD D) (x : YC D T h) {u v : Nat} {p : Int} (hp : 0 ≤ p ∧ p ≤ 9999) (hu : u < D.N) (hr : ∀ j, j < 5 → gI h 216 j = zi (uz D.P 3 p j)) (hs : ∀ e, e < D.N → gI h 218 e = zi (if e = u ∨ e = v then 1 else 0)) : zw (s_X5_earnedBySet (some 13) h) (fun r => r.1 = zl (pT D p u v) ∧ Fr (fun a k => a = 217 ∨ (a = 23 ∧ (k = 7 ∨ k = 8)) ∨ a = 27 ∨ a = 28) h r.2) := by
  have hK := hD.K6
  have bT := x.1.1.b
  have bw : ∀ k, k < D.K → bW (wW D u v p k) (uz D.P 3 p) := fun k hk => wW_b hD hp hu hk
  unfold s_X5_earnedBySet
  rw [if_pos rfl, x.1.2.2.2.2.1, bd_v, if_pos x.1.1.l0]
  refine zw_bd (P := fun y => Fr (fun a k => a = 217 ∨ (a = 23 ∧ (k = 7 ∨ k = 8)) ∨ a = 27 ∨ a = 28) h y.2 ∧ ∀ k, k < D.K → gI y.2 217 k = zi (qB D u v p k)) ?_ ?_
  · refine zw_for D.K (fun j => zi j) () (fun j h' => Fr (fun a k => a = 217 ∨ (a = 23 ∧ (k = 7 ∨ k = 8)) ∨ a = 27 ∨ a = 28) h h' ∧ ∀ k, k < j → gI h' 217 k = zi (qB D u v p k)) (by omega) rfl ⟨Fr.refl (fun a k => a = 217 ∨ (a = 23 ∧ (k = 7 ∨ k = 8)) ∨ a = 27 ∨ a = 28) h, fun k hk => by omega⟩ ?_ ?_
    · rintro j h' hj ⟨hf, hm⟩
      have y := x.frp hD (hf.mono (by unfold fP; omega))
      have pk := y.1.2.2.2.2.2.2 3 23 (Or.inl ⟨rfl, rfl⟩)
      unfold l_X5_earnedBySet_7
      refine zw_f (by rw [y.1.2.2.1.1.2.2.2.1, zi_le (by omega) (by omega) (by omega) (by omega)]; omega) ?_
      refine zw_bd (c_make hD y.1.1 (Or.inl ⟨rfl, rfl⟩) y.1.2.2.1 pk (k := j) (th := 2) (a2 := 1) hj rfl (Or.inr ⟨rfl, rfl⟩) (sa := 218) (set := fun e => if e = u ∨ e = v then 1 else 0) rfl (by omega) (fun e he => by rw [hf.i (by omega)]; exact hs e he) (fun e he => by (try dsimp only); split; exact Or.inr rfl; exact Or.inl rfl)) ?_
      rintro ⟨u1, g1⟩ ⟨f1, m1⟩
      dsimp only at f1 m1
      have fa := hf.trans (f1.mono (by omega) : Fr (fun a k => a = 217 ∨ (a = 23 ∧ (k = 7 ∨ k = 8)) ∨ a = 27 ∨ a = 28) h' g1)
      have y1 := x.frp hD (fa.mono (by unfold fP; omega))
      have ev : s_X2_value 23 g1 = some (zl (wW D u v p j 3)) := by
        unfold s_X2_value
        rw [if_pos (show LAY 23 = (0, 2) from rfl), m1.2.1]
        unfold wW
        rw [if_pos rfl]
        exact congrArg (fun z => some (zl z)) (pV_wS D u v p (fun e => if e = u ∨ e = v then 1 else 0) j 3 2 D.N (c0 D 3) 0).symm
      refine zw_bd1 ev ?_
      refine zw_bd1 (c_choose hD y1.1.1 y1.1.2.2.1 y1.1.2.2.2.1 y1.1.2.2.2.2.1 (k := j) (pa := 216) (W := wW D u v p j) (P := uz D.P 3 p) hj rfl (fun q hq => by rw [fa.i (by omega)]; exact hr q hq) (fun q hq q3 => by unfold wW; rw [if_neg q3]; exact (y1.2.1 j q hj hq).1.2.1) (bw j hj) rfl rfl) ?_
      refine zw_bd1 (put_ok j (n := 6) rfl rfl (by omega)) ?_
      refine zw_some ⟨congrArg Sum.inl (by first | (simp only [zi_lit, zi_neg, zi_add, zi_sub, zi_mul, zl_lit, zl_neg, zl_add, zl_sub, zl_mul, zl_i]; exact congrArg zi (by omega)) | (simp only [zi_lit, zi_neg, zi_add, zi_sub, zi_mul, zl_lit, zl_neg, zl_add, zl_sub, zl_mul, zl_i]; done) | exact congrArg zi (by omega)), fa.sI (Or.inl rfl), fun k hk => ?_⟩
      show gI (sI g1 217 j _) 217 k = _
      rw [gI_sI]
      by_cases q : k = j
      · rw [if_pos ⟨rfl, q⟩, q]; rfl
      · rw [if_neg (fun z => q z.2), f1.i (by omega)]
        exact hm k (by omega)
    · rintro h' ⟨hf, hm⟩
      have y := x.frp hD (hf.mono (by unfold fP; omega))
      unfold l_X5_earnedBySet_7
      exact zw_t (by rw [y.1.2.2.1.1.2.2.2.1, zi_le (by omega) (by omega) (by omega) (by omega)]; omega) (zw_some ⟨rfl, hf, hm⟩)
  · rintro ⟨u1, g1⟩ ⟨f1, m1⟩
    dsimp only at f1 m1 ⊢
    have y := x.frp hD (f1.mono (by unfold fP; omega))
    refine zw_bd1 (c_takings hD y (ta := 217) (pa := 216) (ma := T + 4) (b := qB D u v p) (P := uz D.P 3 p) (M := fun k => D.Q k 0) rfl rfl y.1.1.l4 (fun k hk => ⟨m1 k hk, qB_lt D u v p k⟩) (fun q hq => by rw [f1.i (by omega)]; exact hr q hq) (fun k hk => ⟨y.1.2.2.1.2.2.2.2.1 k hk, (hD.q k hk).1⟩) (pP_b hD hp)) ?_
    exact zw_some ⟨rfl, f1⟩
end
