/-! 81.pairr: the reference through the pairs -/
def fW (a k : Nat) : Prop := (251 ≤ a ∧ a ≤ 254) ∨ (a = 240 ∧ (k = 38 ∨ k = 39)) ∨ ((a = 255 ∨ a = 257 ∨ a = 258) ∧ k % 5 = 3) ∨ (a = 256 ∧ k / 16 % 5 = 3)
def fR (a k : Nat) : Prop := fW a k ∨ (a = 241 ∧ k % 4 = 3) ∨ (a = 244 ∧ k = 3) ∨ a = 262 ∨ (a = 240 ∧ (k = 48 ∨ k = 49))
theorem RWorks.fr2 {D : HD} {set : Nat → Int} {k t : Nat} {h h' : AH} {S : Nat → Nat → Prop} (x : RWorks D set k t h) (f : Fr S h h') (n1 : ¬ S 255 (5 * k + t)) (n2 : ∀ e, e < D.N → ¬ S 256 (16 * (5 * k + t) + e)) (n3 : ¬ S 257 (5 * k + t)) (n4 : ¬ S 258 (5 * k + t)) : RWorks D set k t h' := ⟨(f.i n1).trans x.1, fun e he => (f.l (n2 e he)).trans (x.2.1 e he), (f.l n3).trans x.2.2.1, (f.l n4).trans x.2.2.2⟩
theorem ws_fw {j a k : Nat} (q : WS1 (5 * j + 3) a k) : fW a k := by
  unfold WS1 at q
  unfold fW
  by_cases q2 : a = 256
  · have : k / 16 = 5 * j + 3 := by omega
    exact Or.inr (Or.inr (Or.inr ⟨q2, by omega⟩))
  · omega
section
variable {D : HD} {h : AH}
theorem r_worksL {body : Int32 → AH → Option ((Int32 ⊕ Unit) × AH)} (hD : WFD D) (x : RH D h) (hb : ∀ s h, body s h = if (gI h 240 4) ≤ s then some (.inr (), h) else bd (s_X10_works s 3 h) fun q => some (.inl (s + 1), q.2)) : zw (lpH body FU 0 h) (fun r => Fr fW h r.2 ∧ ∀ k, k < D.K → RWorks D (rSet D) k 3 r.2) := by
  have hN := hD.N16
  have hK := hD.K6
  refine zw_for D.K (fun j => zi j) () (fun j h' => Fr fW h h' ∧ ∀ k, k < j → RWorks D (rSet D) k 3 h') (by omega) rfl ⟨Fr.refl fW h, fun k hk => by omega⟩ ?_ ?_
  · rintro j h' hj ⟨hf, hm⟩
    have y : RH D h' := x.fr hf (by intro a k; unfold fW; omega)
    rw [hb]
    refine zw_f (by rw [y.1.2.2.2.1, zi_le (by omega) (by omega) (by omega) (by omega)]; omega) ?_
    refine zw_bd (r_works hD y hj (t := 3) (by decide) rfl (a1 := 3) rfl) ?_
    rintro ⟨u1, g1⟩ ⟨f1, m1⟩
    dsimp only at f1 m1
    refine zw_some ⟨congrArg Sum.inl (by first | (simp only [zi_lit, zi_neg, zi_add, zi_sub, zi_mul, zl_lit, zl_neg, zl_add, zl_sub, zl_mul, zl_i]; exact congrArg zi (by omega)) | (simp only [zi_lit, zi_neg, zi_add, zi_sub, zi_mul, zl_lit, zl_neg, zl_add, zl_sub, zl_mul, zl_i]; done) | exact congrArg zi (by omega)), hf.trans (f1.mono (fun a k q => ws_fw q)), fun k hk => ?_⟩
    by_cases q : k = j
    · rw [q]; exact m1
    · exact (hm k (by omega)).fr2 f1 (by unfold WS1; omega) (fun e he => by unfold WS1; omega) (by unfold WS1; omega) (by unfold WS1; omega)
  · rintro h' ⟨hf, hm⟩
    have y : RH D h' := x.fr hf (by intro a k; unfold fW; omega)
    rw [hb]
    exact zw_t (by rw [y.1.2.2.2.1, zi_le (by omega) (by omega) (by omega) (by omega)]; omega) (zw_some ⟨rfl, hf, hm⟩)
/-- the reference in the middle of pair -/
def rI (D : HD) (p : Int) (h h' : AH) : Prop := Fr fR h h' ∧ gI h' 244 3 = zi p ∧ ∀ e, e < D.N → gI h' 262 e = zi (D.E e 3)
theorem rI.fr {p : Int} {h1 h2 : AH} {S : Nat → Nat → Prop} (x : rI D p h h1) (f : Fr S h1 h2) (n : ∀ a k, S a k → fR a k) (n1 : ¬ S 244 3) (n2 : ∀ j, ¬ S 262 j) : rI D p h h2 := ⟨x.1.trans (f.mono n), (f.i n1).trans x.2.1, fun e he => (f.i (n2 e)).trans (x.2.2 e he)⟩
theorem rI.n {p : Int} {h1 : AH} (x : YR D h) (y : rI D p h h1) : gI h1 240 3 = zi D.N ∧ gI h1 240 4 = zi D.K := ⟨(y.1.i (by unfold fR fW; omega)).trans x.1.1.2.2.1, (y.1.i (by unfold fR fW; omega)).trans x.1.1.2.2.2.1⟩
theorem r_wS {p : Int} {h1 : AH} {u v : Nat} (x : YR D h) (y : rI D p h h1) (es : ∀ e, e < D.N → gI h1 241 (4 * e + 3) = zi (if e = u ∨ e = v then 1 else 0)) : RH (wS D u v p) h1 := by
  obtain ⟨⟨r1, r2, r3, r4, r5, r6⟩, q1, q2, q3, q4⟩ := x.1
  obtain ⟨f, y1, y2⟩ := y
  refine ⟨⟨(f.i (by unfold fR fW; omega)).trans r1, (f.i (by unfold fR fW; omega)).trans r2, (f.i (by unfold fR fW; omega)).trans r3, (f.i (by unfold fR fW; omega)).trans r4, (f.i (by unfold fR fW; omega)).trans r5, (f.i (by unfold fR fW; omega)).trans r6⟩, fun e w he hw => ?_, fun k w hk hw => (f.i (by unfold fR fW; omega)).trans (q2 k w hk hw), fun r w hr hw => (f.i (by unfold fR fW; omega)).trans (q3 r w hr hw), fun j hj => ?_⟩
  · show gI h1 241 (4 * e + w) = zi (if w = 3 then (if e = u ∨ e = v then 1 else 0) else D.E e w)
    by_cases q : w = 3
    · rw [if_pos q, q]; exact es e he
    · rw [if_neg q]
      exact (f.i (by unfold fR fW; omega)).trans (q1 e w he hw)
  · show gI h1 244 j = zi (uz D.P 3 p j)
    unfold uz
    by_cases q : j = 3
    · rw [if_pos q, q]; exact y1
    · rw [if_neg q]
      exact (f.i (by unfold fR fW; omega)).trans (q4 j hj)
theorem r_setL {p : Int} {h1 : AH} {u v : Nat} {p2 : Int32} {p3 : Int64} (hD : WFD D) (x : YR D h) (y : rI D p h h1) (hu : u < D.N) (hv : v < D.N) : zw (lpH (l_X10_pair_115 p2 p3 (zi u) (zi v)) FU 0 h1) (fun r => Fr (fun a k => a = 241 ∧ k % 4 = 3) h1 r.2 ∧ ∀ e, e < D.N → gI r.2 241 (4 * e + 3) = zi (if e = u ∨ e = v then 1 else 0)) := by
  have hN := hD.N16
  refine zw_for D.N (fun j => zi j) () (fun j h' => Fr (fun a k => a = 241 ∧ k % 4 = 3) h1 h' ∧ ∀ e, e < j → gI h' 241 (4 * e + 3) = zi (if e = u ∨ e = v then 1 else 0)) (by omega) rfl ⟨Fr.refl (fun a k => a = 241 ∧ k % 4 = 3) h1, fun k hk => by omega⟩ ?_ ?_
  · rintro j h' hj ⟨hf, hm⟩
    have hn : gI h' 240 3 = zi D.N := (hf.i (by omega)).trans (rI.n x y).1
    have ei : (4 : Int32) * zi (j : Int) + 3 = zi ((4 * j + 3 : Nat) : Int) := (by first | (simp only [zi_lit, zi_neg, zi_add, zi_sub, zi_mul, zl_lit, zl_neg, zl_add, zl_sub, zl_mul, zl_i]; exact congrArg zi (by omega)) | (simp only [zi_lit, zi_neg, zi_add, zi_sub, zi_mul, zl_lit, zl_neg, zl_add, zl_sub, zl_mul, zl_i]; done) | exact congrArg zi (by omega))
    have st : ∀ w : Int32, w = zi (if j = u ∨ j = v then 1 else 0) → zw (j_X10_pair_153_115 p2 p3 (zi u) (zi v) (zi j) w (4 * zi j + 3) h') (fun r => r.1 = .inl (zi ((j + 1 : Nat) : Int)) ∧ Fr (fun a k => a = 241 ∧ k % 4 = 3) h1 r.2 ∧ ∀ e, e < j + 1 → gI r.2 241 (4 * e + 3) = zi (if e = u ∨ e = v then 1 else 0)) := by
      rintro w rfl
      unfold j_X10_pair_153_115
      rw [ei]
      refine zw_bd1 (stI_ok (4 * j + 3) (n := 64) rfl rfl (by omega)) ?_
      refine zw_some ⟨congrArg Sum.inl (by first | (simp only [zi_lit, zi_neg, zi_add, zi_sub, zi_mul, zl_lit, zl_neg, zl_add, zl_sub, zl_mul, zl_i]; exact congrArg zi (by omega)) | (simp only [zi_lit, zi_neg, zi_add, zi_sub, zi_mul, zl_lit, zl_neg, zl_add, zl_sub, zl_mul, zl_i]; done) | exact congrArg zi (by omega)), hf.sI (by omega), fun e he => ?_⟩
      show gI (sI h' 241 (4 * j + 3) _) 241 (4 * e + 3) = _
      rw [gI_sI]
      by_cases q : e = j
      · rw [if_pos ⟨rfl, by omega⟩, q]
      · rw [if_neg (by omega)]
        exact hm e (by omega)
    unfold l_X10_pair_115 j_X10_pair_148_115
    refine zw_f (by rw [hn, zi_le (by omega) (by omega) (by omega) (by omega)]; omega) ?_
    by_cases q : j = u
    · exact zw_t (by rw [q]) (st 1 (by rw [if_pos (Or.inl q)]; rfl))
    · refine zw_f (by rw [zi_eq (by omega) (by omega) (by omega) (by omega)]; omega) ?_
      by_cases q2 : j = v
      · exact zw_t (by rw [q2]) (st 1 (by rw [if_pos (Or.inr q2)]; rfl))
      · exact zw_f (by rw [zi_eq (by omega) (by omega) (by omega) (by omega)]; omega) (st 0 (by rw [if_neg (by omega)]; rfl))
  · rintro h' ⟨hf, hm⟩
    have hn : gI h' 240 3 = zi D.N := (hf.i (by omega)).trans (rI.n x y).1
    unfold l_X10_pair_115
    exact zw_t (by rw [hn, zi_le (by omega) (by omega) (by omega) (by omega)]; omega) (zw_some ⟨rfl, hf, hm⟩)
def rP (s : Int × Nat × Nat) (h : AH) : Prop := s.1 ≠ -1 → gI h 240 48 = zi s.2.1 ∧ gI h 240 49 = zi s.2.2
theorem r_pairE {p : Int} {h1 : AH} {u v : Nat} (hD : WFD D) (hp : 0 ≤ p ∧ p ≤ 9999) (x : YR D h) (y : rI D p h h1) (hu : u < D.N) (es : ∀ e, e < D.N → gI h1 241 (4 * e + 3) = zi (if e = u ∨ e = v then 1 else 0)) (ws : ∀ k, k < D.K → RWorks (wS D u v p) (rSet (wS D u v p)) k 3 h1) : s_X10_earnsNow h1 = some (zl (pT D p u v)) := by
  have hw := wS_wf hD hp hu (v := v)
  have hN := hD.N16
  have g : RG (wS D u v p).N (wS D u v p).K (wW D u v p) (wC D u v p) h1 := by
    intro k t hk ht
    have hk' : k < D.K := hk
    unfold wW wC
    by_cases q : t = 3
    · rw [if_pos q, q]
      refine ⟨(ws k hk').1, fun e he => ?_⟩
      rw [if_pos rfl]
      exact (ws k hk').2.1 e he
    · rw [if_neg q]
      refine ⟨(y.1.i (by unfold fR fW; omega)).trans (x.g k t hk' ht).1, fun e he => ?_⟩
      have he' : e < D.N := he
      rw [if_neg q]
      exact (y.1.l (by unfold fR fW; omega)).trans ((x.g k t hk' ht).2 e he')
  have bg : bG (wS D u v p) (wW D u v p) (wC D u v p) := by
    refine ⟨fun k hk => wW_b hD hp hu hk, fun k t e hk ht he => ?_⟩
    unfold wC
    split
    · exact cf_b hw hk he
    · exact cf_b hD hk he
  exact r_earns (D := wS D u v p) (W := wW D u v p) (c := wC D u v p) hw (r_wS x y es) g bg
end
